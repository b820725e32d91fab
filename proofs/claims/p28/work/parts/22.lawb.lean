theorem dL_coincides_0 : decode cL_coincides 0 = .ok (.aload_n 0, 1) := by decide +kernel
theorem dL_coincides_1 : decode cL_coincides 1 = .ok (.iload_n 1, 1) := by decide +kernel
theorem dL_coincides_2 : decode cL_coincides 2 = .ok (.iconst 0, 1) := by decide +kernel
theorem dL_coincides_3 : decode cL_coincides 3 = .ok (.invokevirtual 19, 3) := by decide +kernel
theorem dL_coincides_6 : decode cL_coincides 6 = .ok (.istore_n 3, 1) := by decide +kernel
theorem dL_coincides_7 : decode cL_coincides 7 = .ok (.aload_n 0, 1) := by decide +kernel
theorem dL_coincides_8 : decode cL_coincides 8 = .ok (.iload_n 1, 1) := by decide +kernel
theorem dL_coincides_9 : decode cL_coincides 9 = .ok (.iconst 1, 1) := by decide +kernel
theorem dL_coincides_10 : decode cL_coincides 10 = .ok (.invokevirtual 19, 3) := by decide +kernel
theorem dL_coincides_13 : decode cL_coincides 13 = .ok (.istore 4, 2) := by decide +kernel
theorem dL_coincides_15 : decode cL_coincides 15 = .ok (.aload_n 0, 1) := by decide +kernel
theorem dL_coincides_16 : decode cL_coincides 16 = .ok (.iload_n 1, 1) := by decide +kernel
theorem dL_coincides_17 : decode cL_coincides 17 = .ok (.iload_n 2, 1) := by decide +kernel
theorem dL_coincides_18 : decode cL_coincides 18 = .ok (.iconst 0, 1) := by decide +kernel
theorem dL_coincides_19 : decode cL_coincides 19 = .ok (.invokevirtual 47, 3) := by decide +kernel
theorem dL_coincides_22 : decode cL_coincides 22 = .ok (.istore 5, 2) := by decide +kernel
theorem dL_coincides_24 : decode cL_coincides 24 = .ok (.aload_n 0, 1) := by decide +kernel
theorem dL_coincides_25 : decode cL_coincides 25 = .ok (.iload_n 1, 1) := by decide +kernel
theorem dL_coincides_26 : decode cL_coincides 26 = .ok (.iload_n 2, 1) := by decide +kernel
theorem dL_coincides_27 : decode cL_coincides 27 = .ok (.iconst 1, 1) := by decide +kernel
theorem dL_coincides_28 : decode cL_coincides 28 = .ok (.invokevirtual 47, 3) := by decide +kernel
theorem dL_coincides_31 : decode cL_coincides 31 = .ok (.istore 6, 2) := by decide +kernel
theorem dL_coincides_33 : decode cL_coincides 33 = .ok (.aload_n 0, 1) := by decide +kernel
theorem dL_coincides_34 : decode cL_coincides 34 = .ok (.iload_n 1, 1) := by decide +kernel
theorem dL_coincides_35 : decode cL_coincides 35 = .ok (.iload_n 2, 1) := by decide +kernel
theorem dL_coincides_36 : decode cL_coincides 36 = .ok (.iconst 2, 1) := by decide +kernel
theorem dL_coincides_37 : decode cL_coincides 37 = .ok (.invokevirtual 47, 3) := by decide +kernel
theorem dL_coincides_40 : decode cL_coincides 40 = .ok (.istore 7, 2) := by decide +kernel
theorem dL_coincides_42 : decode cL_coincides 42 = .ok (.aload_n 0, 1) := by decide +kernel
theorem dL_coincides_43 : decode cL_coincides 43 = .ok (.iload_n 1, 1) := by decide +kernel
theorem dL_coincides_44 : decode cL_coincides 44 = .ok (.iload_n 2, 1) := by decide +kernel
theorem dL_coincides_45 : decode cL_coincides 45 = .ok (.iconst 3, 1) := by decide +kernel
theorem dL_coincides_46 : decode cL_coincides 46 = .ok (.invokevirtual 47, 3) := by decide +kernel
theorem dL_coincides_49 : decode cL_coincides 49 = .ok (.istore 8, 2) := by decide +kernel
theorem dL_coincides_51 : decode cL_coincides 51 = .ok (.aload_n 0, 1) := by decide +kernel
theorem dL_coincides_52 : decode cL_coincides 52 = .ok (.iload_n 1, 1) := by decide +kernel
theorem dL_coincides_53 : decode cL_coincides 53 = .ok (.iload_n 2, 1) := by decide +kernel
theorem dL_coincides_54 : decode cL_coincides 54 = .ok (.iconst 4, 1) := by decide +kernel
theorem dL_coincides_55 : decode cL_coincides 55 = .ok (.invokevirtual 47, 3) := by decide +kernel
theorem dL_coincides_58 : decode cL_coincides 58 = .ok (.istore 9, 2) := by decide +kernel
theorem dL_coincides_60 : decode cL_coincides 60 = .ok (.iload_n 3, 1) := by decide +kernel
theorem dL_coincides_61 : decode cL_coincides 61 = .ok (.iload 4, 2) := by decide +kernel
theorem dL_coincides_63 : decode cL_coincides 63 = .ok (.imul, 1) := by decide +kernel
theorem dL_coincides_64 : decode cL_coincides 64 = .ok (.istore 10, 2) := by decide +kernel
theorem dL_coincides_66 : decode cL_coincides 66 = .ok (.aload_n 0, 1) := by decide +kernel
theorem dL_coincides_67 : decode cL_coincides 67 = .ok (.iload_n 1, 1) := by decide +kernel
theorem dL_coincides_68 : decode cL_coincides 68 = .ok (.bipush 9, 2) := by decide +kernel
theorem dL_coincides_70 : decode cL_coincides 70 = .ok (.invokevirtual 19, 3) := by decide +kernel
theorem dL_coincides_73 : decode cL_coincides 73 = .ok (.istore 11, 2) := by decide +kernel
theorem dL_coincides_75 : decode cL_coincides 75 = .ok (.aload_n 0, 1) := by decide +kernel
theorem dL_coincides_76 : decode cL_coincides 76 = .ok (.iload_n 1, 1) := by decide +kernel
theorem dL_coincides_77 : decode cL_coincides 77 = .ok (.iconst 3, 1) := by decide +kernel
theorem dL_coincides_78 : decode cL_coincides 78 = .ok (.invokevirtual 19, 3) := by decide +kernel
theorem dL_coincides_81 : decode cL_coincides 81 = .ok (.iconst 1, 1) := by decide +kernel
theorem dL_coincides_82 : decode cL_coincides 82 = .ok (.if_icmp .ne 7, 3) := by decide +kernel
theorem dL_coincides_85 : decode cL_coincides 85 = .ok (.iconst 1, 1) := by decide +kernel
theorem dL_coincides_86 : decode cL_coincides 86 = .ok (.goto 4, 3) := by decide +kernel
theorem dL_coincides_89 : decode cL_coincides 89 = .ok (.iconst 0, 1) := by decide +kernel
theorem dL_coincides_90 : decode cL_coincides 90 = .ok (.istore 12, 2) := by decide +kernel
theorem dL_coincides_92 : decode cL_coincides 92 = .ok (.iconst 0, 1) := by decide +kernel
theorem dL_coincides_93 : decode cL_coincides 93 = .ok (.istore 13, 2) := by decide +kernel
theorem dL_coincides_95 : decode cL_coincides 95 = .ok (.iload 5, 2) := by decide +kernel
theorem dL_coincides_97 : decode cL_coincides 97 = .ok (.iload 10, 2) := by decide +kernel
theorem dL_coincides_99 : decode cL_coincides 99 = .ok (.imul, 1) := by decide +kernel
theorem dL_coincides_100 : decode cL_coincides 100 = .ok (.iload 6, 2) := by decide +kernel
theorem dL_coincides_102 : decode cL_coincides 102 = .ok (.iadd, 1) := by decide +kernel
theorem dL_coincides_103 : decode cL_coincides 103 = .ok (.iload_n 2, 1) := by decide +kernel
theorem dL_coincides_104 : decode cL_coincides 104 = .ok (.if_icmp .ne 56, 3) := by decide +kernel
theorem dL_coincides_107 : decode cL_coincides 107 = .ok (.iload 6, 2) := by decide +kernel
theorem dL_coincides_109 : decode cL_coincides 109 = .ok (.ifCond .lt 51, 3) := by decide +kernel
theorem dL_coincides_112 : decode cL_coincides 112 = .ok (.iload 6, 2) := by decide +kernel
theorem dL_coincides_114 : decode cL_coincides 114 = .ok (.iload 10, 2) := by decide +kernel
theorem dL_coincides_116 : decode cL_coincides 116 = .ok (.if_icmp .ge 44, 3) := by decide +kernel
theorem dL_coincides_119 : decode cL_coincides 119 = .ok (.iload 9, 2) := by decide +kernel
theorem dL_coincides_121 : decode cL_coincides 121 = .ok (.iload 12, 2) := by decide +kernel
theorem dL_coincides_123 : decode cL_coincides 123 = .ok (.ifCond .eq 10, 3) := by decide +kernel
theorem dL_coincides_126 : decode cL_coincides 126 = .ok (.iload_n 3, 1) := by decide +kernel
theorem dL_coincides_127 : decode cL_coincides 127 = .ok (.iload 7, 2) := by decide +kernel
theorem dL_coincides_129 : decode cL_coincides 129 = .ok (.isub, 1) := by decide +kernel
theorem dL_coincides_130 : decode cL_coincides 130 = .ok (.goto 5, 3) := by decide +kernel
theorem dL_coincides_133 : decode cL_coincides 133 = .ok (.iload 7, 2) := by decide +kernel
theorem dL_coincides_135 : decode cL_coincides 135 = .ok (.if_icmp .ne 25, 3) := by decide +kernel
theorem dL_coincides_138 : decode cL_coincides 138 = .ok (.iload 11, 2) := by decide +kernel
theorem dL_coincides_140 : decode cL_coincides 140 = .ok (.iload 12, 2) := by decide +kernel
theorem dL_coincides_142 : decode cL_coincides 142 = .ok (.ifCond .eq 9, 3) := by decide +kernel
theorem dL_coincides_145 : decode cL_coincides 145 = .ok (.iload_n 3, 1) := by decide +kernel
theorem dL_coincides_146 : decode cL_coincides 146 = .ok (.iconst 1, 1) := by decide +kernel
theorem dL_coincides_147 : decode cL_coincides 147 = .ok (.iadd, 1) := by decide +kernel
theorem dL_coincides_148 : decode cL_coincides 148 = .ok (.goto 6, 3) := by decide +kernel
theorem dL_coincides_151 : decode cL_coincides 151 = .ok (.iload_n 3, 1) := by decide +kernel
theorem dL_coincides_152 : decode cL_coincides 152 = .ok (.iconst 1, 1) := by decide +kernel
theorem dL_coincides_153 : decode cL_coincides 153 = .ok (.isub, 1) := by decide +kernel
theorem dL_coincides_154 : decode cL_coincides 154 = .ok (.iload 4, 2) := by decide +kernel
theorem dL_coincides_156 : decode cL_coincides 156 = .ok (.imul, 1) := by decide +kernel
theorem dL_coincides_157 : decode cL_coincides 157 = .ok (.if_icmp .eq 5, 3) := by decide +kernel
theorem dL_coincides_160 : decode cL_coincides 160 = .ok (.iconst 0, 1) := by decide +kernel
theorem dL_coincides_161 : decode cL_coincides 161 = .ok (.ireturn, 1) := by decide +kernel
theorem dL_coincides_162 : decode cL_coincides 162 = .ok (.iconst 0, 1) := by decide +kernel
theorem dL_coincides_163 : decode cL_coincides 163 = .ok (.istore 14, 2) := by decide +kernel
theorem dL_coincides_165 : decode cL_coincides 165 = .ok (.iload 14, 2) := by decide +kernel
theorem dL_coincides_167 : decode cL_coincides 167 = .ok (.iload_n 3, 1) := by decide +kernel
theorem dL_coincides_168 : decode cL_coincides 168 = .ok (.if_icmp .gt 115, 3) := by decide +kernel
theorem dL_coincides_171 : decode cL_coincides 171 = .ok (.iload_n 2, 1) := by decide +kernel
theorem dL_coincides_172 : decode cL_coincides 172 = .ok (.iload 14, 2) := by decide +kernel
theorem dL_coincides_174 : decode cL_coincides 174 = .ok (.iload 11, 2) := by decide +kernel
theorem dL_coincides_176 : decode cL_coincides 176 = .ok (.imul, 1) := by decide +kernel
theorem dL_coincides_177 : decode cL_coincides 177 = .ok (.iadd, 1) := by decide +kernel
theorem dL_coincides_178 : decode cL_coincides 178 = .ok (.iload 12, 2) := by decide +kernel
theorem dL_coincides_180 : decode cL_coincides 180 = .ok (.ifCond .eq 13, 3) := by decide +kernel
theorem dL_coincides_183 : decode cL_coincides 183 = .ok (.iload 5, 2) := by decide +kernel
theorem dL_coincides_185 : decode cL_coincides 185 = .ok (.iload 14, 2) := by decide +kernel
theorem dL_coincides_187 : decode cL_coincides 187 = .ok (.iadd, 1) := by decide +kernel
theorem dL_coincides_188 : decode cL_coincides 188 = .ok (.iconst 1, 1) := by decide +kernel
theorem dL_coincides_189 : decode cL_coincides 189 = .ok (.iadd, 1) := by decide +kernel
theorem dL_coincides_190 : decode cL_coincides 190 = .ok (.goto 8, 3) := by decide +kernel
theorem dL_coincides_193 : decode cL_coincides 193 = .ok (.iload 5, 2) := by decide +kernel
theorem dL_coincides_195 : decode cL_coincides 195 = .ok (.iload 14, 2) := by decide +kernel
theorem dL_coincides_197 : decode cL_coincides 197 = .ok (.iadd, 1) := by decide +kernel
theorem dL_coincides_198 : decode cL_coincides 198 = .ok (.iload 10, 2) := by decide +kernel
theorem dL_coincides_200 : decode cL_coincides 200 = .ok (.imul, 1) := by decide +kernel
theorem dL_coincides_201 : decode cL_coincides 201 = .ok (.isub, 1) := by decide +kernel
theorem dL_coincides_202 : decode cL_coincides 202 = .ok (.invokestatic 29, 3) := by decide +kernel
theorem dL_coincides_205 : decode cL_coincides 205 = .ok (.istore 15, 2) := by decide +kernel
theorem dL_coincides_207 : decode cL_coincides 207 = .ok (.iload 12, 2) := by decide +kernel
theorem dL_coincides_209 : decode cL_coincides 209 = .ok (.ifCond .eq 10, 3) := by decide +kernel
theorem dL_coincides_212 : decode cL_coincides 212 = .ok (.iload_n 3, 1) := by decide +kernel
theorem dL_coincides_213 : decode cL_coincides 213 = .ok (.iload 14, 2) := by decide +kernel
theorem dL_coincides_215 : decode cL_coincides 215 = .ok (.isub, 1) := by decide +kernel
theorem dL_coincides_216 : decode cL_coincides 216 = .ok (.goto 5, 3) := by decide +kernel
theorem dL_coincides_219 : decode cL_coincides 219 = .ok (.iload 14, 2) := by decide +kernel
theorem dL_coincides_221 : decode cL_coincides 221 = .ok (.istore 16, 2) := by decide +kernel
theorem dL_coincides_223 : decode cL_coincides 223 = .ok (.iload 13, 2) := by decide +kernel
theorem dL_coincides_225 : decode cL_coincides 225 = .ok (.iload 15, 2) := by decide +kernel
theorem dL_coincides_227 : decode cL_coincides 227 = .ok (.iload 8, 2) := by decide +kernel
theorem dL_coincides_229 : decode cL_coincides 229 = .ok (.if_icmp .ne 7, 3) := by decide +kernel
theorem dL_coincides_232 : decode cL_coincides 232 = .ok (.iconst 1, 1) := by decide +kernel
theorem dL_coincides_233 : decode cL_coincides 233 = .ok (.goto 4, 3) := by decide +kernel
theorem dL_coincides_236 : decode cL_coincides 236 = .ok (.iconst 0, 1) := by decide +kernel
theorem dL_coincides_237 : decode cL_coincides 237 = .ok (.iadd, 1) := by decide +kernel
theorem dL_coincides_238 : decode cL_coincides 238 = .ok (.istore 13, 2) := by decide +kernel
theorem dL_coincides_240 : decode cL_coincides 240 = .ok (.iload 15, 2) := by decide +kernel
theorem dL_coincides_242 : decode cL_coincides 242 = .ok (.iload 8, 2) := by decide +kernel
theorem dL_coincides_244 : decode cL_coincides 244 = .ok (.if_icmp .lt 31, 3) := by decide +kernel
theorem dL_coincides_247 : decode cL_coincides 247 = .ok (.iload 15, 2) := by decide +kernel
theorem dL_coincides_249 : decode cL_coincides 249 = .ok (.iload 8, 2) := by decide +kernel
theorem dL_coincides_251 : decode cL_coincides 251 = .ok (.if_icmp .ne 10, 3) := by decide +kernel
theorem dL_coincides_254 : decode cL_coincides 254 = .ok (.iload 16, 2) := by decide +kernel
theorem dL_coincides_256 : decode cL_coincides 256 = .ok (.iload 9, 2) := by decide +kernel
theorem dL_coincides_258 : decode cL_coincides 258 = .ok (.if_icmp .lt 17, 3) := by decide +kernel
theorem dL_coincides_261 : decode cL_coincides 261 = .ok (.iload 14, 2) := by decide +kernel
theorem dL_coincides_263 : decode cL_coincides 263 = .ok (.iload 7, 2) := by decide +kernel
theorem dL_coincides_265 : decode cL_coincides 265 = .ok (.if_icmp .ne 12, 3) := by decide +kernel
theorem dL_coincides_268 : decode cL_coincides 268 = .ok (.iload 15, 2) := by decide +kernel
theorem dL_coincides_270 : decode cL_coincides 270 = .ok (.iload 8, 2) := by decide +kernel
theorem dL_coincides_272 : decode cL_coincides 272 = .ok (.if_icmp .eq 5, 3) := by decide +kernel
theorem dL_coincides_275 : decode cL_coincides 275 = .ok (.iconst 0, 1) := by decide +kernel
theorem dL_coincides_276 : decode cL_coincides 276 = .ok (.ireturn, 1) := by decide +kernel
theorem dL_coincides_277 : decode cL_coincides 277 = .ok (.iinc 14 1, 3) := by decide +kernel
theorem dL_coincides_280 : decode cL_coincides 280 = .ok (.goto (-115), 3) := by decide +kernel
theorem dL_coincides_283 : decode cL_coincides 283 = .ok (.aload_n 0, 1) := by decide +kernel
theorem dL_coincides_284 : decode cL_coincides 284 = .ok (.iload_n 1, 1) := by decide +kernel
theorem dL_coincides_285 : decode cL_coincides 285 = .ok (.iload_n 2, 1) := by decide +kernel
theorem dL_coincides_286 : decode cL_coincides 286 = .ok (.iconst 5, 1) := by decide +kernel
theorem dL_coincides_287 : decode cL_coincides 287 = .ok (.invokevirtual 47, 3) := by decide +kernel
theorem dL_coincides_290 : decode cL_coincides 290 = .ok (.iload 13, 2) := by decide +kernel
theorem dL_coincides_292 : decode cL_coincides 292 = .ok (.if_icmp .ne 42, 3) := by decide +kernel
theorem dL_coincides_295 : decode cL_coincides 295 = .ok (.aload_n 0, 1) := by decide +kernel
theorem dL_coincides_296 : decode cL_coincides 296 = .ok (.iload_n 1, 1) := by decide +kernel
theorem dL_coincides_297 : decode cL_coincides 297 = .ok (.iload_n 2, 1) := by decide +kernel
theorem dL_coincides_298 : decode cL_coincides 298 = .ok (.bipush 6, 2) := by decide +kernel
theorem dL_coincides_300 : decode cL_coincides 300 = .ok (.invokevirtual 47, 3) := by decide +kernel
theorem dL_coincides_303 : decode cL_coincides 303 = .ok (.iload 5, 2) := by decide +kernel
theorem dL_coincides_305 : decode cL_coincides 305 = .ok (.iload 10, 2) := by decide +kernel
theorem dL_coincides_307 : decode cL_coincides 307 = .ok (.imul, 1) := by decide +kernel
theorem dL_coincides_308 : decode cL_coincides 308 = .ok (.iload 9, 2) := by decide +kernel
theorem dL_coincides_310 : decode cL_coincides 310 = .ok (.iload 4, 2) := by decide +kernel
theorem dL_coincides_312 : decode cL_coincides 312 = .ok (.imul, 1) := by decide +kernel
theorem dL_coincides_313 : decode cL_coincides 313 = .ok (.iadd, 1) := by decide +kernel
theorem dL_coincides_314 : decode cL_coincides 314 = .ok (.if_icmp .ne 20, 3) := by decide +kernel
theorem dL_coincides_317 : decode cL_coincides 317 = .ok (.aload_n 0, 1) := by decide +kernel
theorem dL_coincides_318 : decode cL_coincides 318 = .ok (.iload_n 1, 1) := by decide +kernel
theorem dL_coincides_319 : decode cL_coincides 319 = .ok (.iload_n 2, 1) := by decide +kernel
theorem dL_coincides_320 : decode cL_coincides 320 = .ok (.bipush 7, 2) := by decide +kernel
theorem dL_coincides_322 : decode cL_coincides 322 = .ok (.invokevirtual 47, 3) := by decide +kernel
theorem dL_coincides_325 : decode cL_coincides 325 = .ok (.ldc 38, 2) := by decide +kernel
theorem dL_coincides_327 : decode cL_coincides 327 = .ok (.if_icmp .ne 7, 3) := by decide +kernel
theorem dL_coincides_330 : decode cL_coincides 330 = .ok (.iconst 1, 1) := by decide +kernel
theorem dL_coincides_331 : decode cL_coincides 331 = .ok (.goto 4, 3) := by decide +kernel
theorem dL_coincides_334 : decode cL_coincides 334 = .ok (.iconst 0, 1) := by decide +kernel
theorem dL_coincides_335 : decode cL_coincides 335 = .ok (.ireturn, 1) := by decide +kernel
def f_L_coincides_b277 (σ : Sg)  (K165 : Int32 → Int32 → Int32 → Int32 → Int32 → Int32 → Int32 → Int32 → Int32 → Int32 → Int32 → Int32 → Int32 → Option (Int32))  (v1 : Int32) (v2 : Int32) (v3 : Int32) (v4 : Int32) (v5 : Int32) (v7 : Int32) (v8 : Int32) (v9 : Int32) (v10 : Int32) (v11 : Int32) (v12 : Int32) (v13 : Int32) (v14 : Int32) : Option (Int32) := lt (v14 + (1 : Int32)) fun x34 => K165 v1 v2 v3 v4 v5 v7 v8 v9 v10 v11 v12 v13 x34
def f_L_coincides_b261 (σ : Sg)  (K165 : Int32 → Int32 → Int32 → Int32 → Int32 → Int32 → Int32 → Int32 → Int32 → Int32 → Int32 → Int32 → Int32 → Option (Int32))  (v1 : Int32) (v2 : Int32) (v3 : Int32) (v4 : Int32) (v5 : Int32) (v7 : Int32) (v8 : Int32) (v9 : Int32) (v10 : Int32) (v11 : Int32) (v12 : Int32) (v13 : Int32) (v14 : Int32) (v15 : Int32) : Option (Int32) := if v14 = v7 then (if v15 = v8 then (f_L_coincides_b277 σ K165 v1 v2 v3 v4 v5 v7 v8 v9 v10 v11 v12 v13 v14) else none) else (f_L_coincides_b277 σ K165 v1 v2 v3 v4 v5 v7 v8 v9 v10 v11 v12 v13 v14)
def f_L_coincides_b237 (σ : Sg)  (K165 : Int32 → Int32 → Int32 → Int32 → Int32 → Int32 → Int32 → Int32 → Int32 → Int32 → Int32 → Int32 → Int32 → Option (Int32))  (v1 : Int32) (v2 : Int32) (v3 : Int32) (v4 : Int32) (v5 : Int32) (v7 : Int32) (v8 : Int32) (v9 : Int32) (v10 : Int32) (v11 : Int32) (v12 : Int32) (v14 : Int32) (v15 : Int32) (v16 : Int32) (w0 : Int32) (w1 : Int32) : Option (Int32) := lt (w1 + w0) fun x30 => if v15 < v8 then none else (if v15 = v8 then (if v16 < v9 then none else (f_L_coincides_b261 σ K165 v1 v2 v3 v4 v5 v7 v8 v9 v10 v11 v12 x30 v14 v15)) else (f_L_coincides_b261 σ K165 v1 v2 v3 v4 v5 v7 v8 v9 v10 v11 v12 x30 v14 v15))
def f_L_coincides_b221 (σ : Sg)  (K165 : Int32 → Int32 → Int32 → Int32 → Int32 → Int32 → Int32 → Int32 → Int32 → Int32 → Int32 → Int32 → Int32 → Option (Int32))  (v1 : Int32) (v2 : Int32) (v3 : Int32) (v4 : Int32) (v5 : Int32) (v7 : Int32) (v8 : Int32) (v9 : Int32) (v10 : Int32) (v11 : Int32) (v12 : Int32) (v13 : Int32) (v14 : Int32) (v15 : Int32) (w0 : Int32) : Option (Int32) := if v15 = v8 then (f_L_coincides_b237 σ K165 v1 v2 v3 v4 v5 v7 v8 v9 v10 v11 v12 v14 v15 w0 (1 : Int32) v13) else (f_L_coincides_b237 σ K165 v1 v2 v3 v4 v5 v7 v8 v9 v10 v11 v12 v14 v15 w0 (0 : Int32) v13)
def f_L_coincides_b198 (σ : Sg)  (K165 : Int32 → Int32 → Int32 → Int32 → Int32 → Int32 → Int32 → Int32 → Int32 → Int32 → Int32 → Int32 → Int32 → Option (Int32))  (v1 : Int32) (v2 : Int32) (v3 : Int32) (v4 : Int32) (v5 : Int32) (v7 : Int32) (v8 : Int32) (v9 : Int32) (v10 : Int32) (v11 : Int32) (v12 : Int32) (v13 : Int32) (v14 : Int32) (w0 : Int32) (w1 : Int32) : Option (Int32) := (f_L_size σ (w1 - (w0 * v10))).bind fun r27 => if v12 = 0 then (f_L_coincides_b221 σ K165 v1 v2 v3 v4 v5 v7 v8 v9 v10 v11 v12 v13 v14 r27 v14) else (f_L_coincides_b221 σ K165 v1 v2 v3 v4 v5 v7 v8 v9 v10 v11 v12 v13 v14 r27 (v3 - v14))
def f_L_coincides_b165 (σ : Sg)   : Nat → Int32 → Int32 → Int32 → Int32 → Int32 → Int32 → Int32 → Int32 → Int32 → Int32 → Int32 → Int32 → Int32 → Option (Int32)
  | 0, _, _, _, _, _, _, _, _, _, _, _, _, _ => none
  | n + 1, v1, v2, v3, v4, v5, v7, v8, v9, v10, v11, v12, v13, v14 => if v3 < v14 then ((f_X4_coincidence σ v1 v2 (5 : Int32)).bind fun r20 => if r20 = v13 then ((f_X4_coincidence σ v1 v2 (6 : Int32)).bind fun r22 => if r22 = ((v5 * v10) + (v9 * v4)) then ((f_X4_coincidence σ v1 v2 (7 : Int32)).bind fun r24 => if r24 = (-10000002 : Int32) then (some (1 : Int32)) else none) else none) else none) else (if v12 = 0 then (f_L_coincides_b198 σ (f_L_coincides_b165 σ   n) v1 v2 v3 v4 v5 v7 v8 v9 v10 v11 v12 v13 v14 (v5 + v14) (v2 + (v14 * v11))) else (f_L_coincides_b198 σ (f_L_coincides_b165 σ   n) v1 v2 v3 v4 v5 v7 v8 v9 v10 v11 v12 v13 v14 ((v5 + v14) + (1 : Int32)) (v2 + (v14 * v11))))
def f_L_coincides_b154 (σ : Sg)    (v1 : Int32) (v2 : Int32) (v3 : Int32) (v4 : Int32) (v5 : Int32) (v7 : Int32) (v8 : Int32) (v9 : Int32) (v10 : Int32) (v11 : Int32) (v12 : Int32) (v13 : Int32) (w0 : Int32) (w1 : Int32) : Option (Int32) := if w1 = (w0 * v4) then (f_L_coincides_b165 σ fuel v1 v2 v3 v4 v5 v7 v8 v9 v10 v11 v12 v13 (0 : Int32)) else none
def f_L_coincides_b135 (σ : Sg)    (v1 : Int32) (v2 : Int32) (v3 : Int32) (v4 : Int32) (v5 : Int32) (v7 : Int32) (v8 : Int32) (v9 : Int32) (v10 : Int32) (v11 : Int32) (v12 : Int32) (v13 : Int32) (w0 : Int32) (w1 : Int32) : Option (Int32) := if w1 = w0 then (if v12 = 0 then (f_L_coincides_b154 σ v1 v2 v3 v4 v5 v7 v8 v9 v10 v11 v12 v13 (v3 - (1 : Int32)) v11) else (f_L_coincides_b154 σ v1 v2 v3 v4 v5 v7 v8 v9 v10 v11 v12 v13 (v3 + (1 : Int32)) v11)) else none
def f_L_coincides_b90 (σ : Sg)    (v1 : Int32) (v2 : Int32) (v3 : Int32) (v4 : Int32) (v5 : Int32) (v6 : Int32) (v7 : Int32) (v8 : Int32) (v9 : Int32) (v10 : Int32) (v11 : Int32) (w0 : Int32) : Option (Int32) := if ((v5 * v10) + v6) = v2 then (if v6 < 0 then none else (if v10 ≤ v6 then none else (if w0 = 0 then (f_L_coincides_b135 σ v1 v2 v3 v4 v5 v7 v8 v9 v10 v11 w0 (0 : Int32) v7 v9) else (f_L_coincides_b135 σ v1 v2 v3 v4 v5 v7 v8 v9 v10 v11 w0 (0 : Int32) (v3 - v7) v9)))) else none
def f_L_coincides (σ : Sg)  (p1 p2 : Int32) : Option (Int32) := (f_X4_instrument σ p1 (0 : Int32)).bind fun r1 => (f_X4_instrument σ p1 (1 : Int32)).bind fun r2 => (f_X4_coincidence σ p1 p2 (0 : Int32)).bind fun r3 => (f_X4_coincidence σ p1 p2 (1 : Int32)).bind fun r4 => (f_X4_coincidence σ p1 p2 (2 : Int32)).bind fun r5 => (f_X4_coincidence σ p1 p2 (3 : Int32)).bind fun r6 => (f_X4_coincidence σ p1 p2 (4 : Int32)).bind fun r7 => lt (r1 * r2) fun x8 => (f_X4_instrument σ p1 (9 : Int32)).bind fun r9 => (f_X4_instrument σ p1 (3 : Int32)).bind fun r10 => if r10 = (1 : Int32) then (f_L_coincides_b90 σ p1 p2 r1 r2 r3 r4 r5 r6 r7 x8 r9 (1 : Int32)) else (f_L_coincides_b90 σ p1 p2 r1 r2 r3 r4 r5 r6 r7 x8 r9 (0 : Int32))
set_option maxHeartbeats 4000000 in
set_option maxRecDepth 100000 in
theorem L_L_coincides_b277 {Γ : Cx} (G : va_G) (cls : Cls) (ad : Nat → Nat) (hi : inj 49 ad) (hC : CX Γ (YX G cls ad) cL_coincides RL 17 (some .boolean) 4 94) (hz0 : Γ.2.2.2.2.2.1 = 0) (hz1 : Γ.2.2.2.2.2.2 = 0) (σ : Sg)   (K165 : Int32 → Int32 → Int32 → Int32 → Int32 → Int32 → Int32 → Int32 → Int32 → Int32 → Int32 → Int32 → Int32 → Option (Int32)) (hK165 : ∀ (v1 : Int32) (v2 : Int32) (v3 : Int32) (v4 : Int32) (v5 : Int32) (v7 : Int32) (v8 : Int32) (v9 : Int32) (v10 : Int32) (v11 : Int32) (v12 : Int32) (v13 : Int32) (v14 : Int32), WX Γ (YX G cls ad) (qf Γ (YX G cls ad) (fiP σ)) 17 165 [(0, .ref (ad 25)), (1, .int v1), (2, .int v2), (3, .int v3), (4, .int v4), (5, .int v5), (7, .int v7), (8, .int v8), (9, .int v9), (10, .int v10), (11, .int v11), (12, .int v12), (13, .int v13), (14, .int v14)] [] σ (K165 v1 v2 v3 v4 v5 v7 v8 v9 v10 v11 v12 v13 v14))  (v1 : Int32) (v2 : Int32) (v3 : Int32) (v4 : Int32) (v5 : Int32) (v7 : Int32) (v8 : Int32) (v9 : Int32) (v10 : Int32) (v11 : Int32) (v12 : Int32) (v13 : Int32) (v14 : Int32) : WX Γ (YX G cls ad) (qf Γ (YX G cls ad) (fiP σ)) 17 277 [(0, .ref (ad 25)), (1, .int v1), (2, .int v2), (3, .int v3), (4, .int v4), (5, .int v5), (7, .int v7), (8, .int v8), (9, .int v9), (10, .int v10), (11, .int v11), (12, .int v12), (13, .int v13), (14, .int v14)] [] σ (f_L_coincides_b277 σ  K165 v1 v2 v3 v4 v5 v7 v8 v9 v10 v11 v12 v13 v14) := by
  unfold f_L_coincides_b277
  refine X_iinc (ls' := fun x34 => [(14, .int x34), (0, .ref (ad 25)), (1, .int v1), (2, .int v2), (3, .int v3), (4, .int v4), (5, .int v5), (7, .int v7), (8, .int v8), (9, .int v9), (10, .int v10), (11, .int v11), (12, .int v12), (13, .int v13)]) hC 13 dL_coincides_277 rfl (by decide) (by decide) (fun _ => rfl) (fun x34 => ?_)
  refine X_goto hC 165 dL_coincides_280 (by decide) ?_
  exact X_sub [1, 2, 3, 4, 5, 6, 7, 8, 9, 10, 11, 12, 13, 0] rfl (hK165 v1 v2 v3 v4 v5 v7 v8 v9 v10 v11 v12 v13 x34)
set_option maxHeartbeats 4000000 in
set_option maxRecDepth 100000 in
theorem L_L_coincides_b261 {Γ : Cx} (G : va_G) (cls : Cls) (ad : Nat → Nat) (hi : inj 49 ad) (hC : CX Γ (YX G cls ad) cL_coincides RL 17 (some .boolean) 4 94) (hz0 : Γ.2.2.2.2.2.1 = 0) (hz1 : Γ.2.2.2.2.2.2 = 0) (σ : Sg)   (K165 : Int32 → Int32 → Int32 → Int32 → Int32 → Int32 → Int32 → Int32 → Int32 → Int32 → Int32 → Int32 → Int32 → Option (Int32)) (hK165 : ∀ (v1 : Int32) (v2 : Int32) (v3 : Int32) (v4 : Int32) (v5 : Int32) (v7 : Int32) (v8 : Int32) (v9 : Int32) (v10 : Int32) (v11 : Int32) (v12 : Int32) (v13 : Int32) (v14 : Int32), WX Γ (YX G cls ad) (qf Γ (YX G cls ad) (fiP σ)) 17 165 [(0, .ref (ad 25)), (1, .int v1), (2, .int v2), (3, .int v3), (4, .int v4), (5, .int v5), (7, .int v7), (8, .int v8), (9, .int v9), (10, .int v10), (11, .int v11), (12, .int v12), (13, .int v13), (14, .int v14)] [] σ (K165 v1 v2 v3 v4 v5 v7 v8 v9 v10 v11 v12 v13 v14))  (v1 : Int32) (v2 : Int32) (v3 : Int32) (v4 : Int32) (v5 : Int32) (v7 : Int32) (v8 : Int32) (v9 : Int32) (v10 : Int32) (v11 : Int32) (v12 : Int32) (v13 : Int32) (v14 : Int32) (v15 : Int32) : WX Γ (YX G cls ad) (qf Γ (YX G cls ad) (fiP σ)) 17 261 [(0, .ref (ad 25)), (1, .int v1), (2, .int v2), (3, .int v3), (4, .int v4), (5, .int v5), (7, .int v7), (8, .int v8), (9, .int v9), (10, .int v10), (11, .int v11), (12, .int v12), (13, .int v13), (14, .int v14), (15, .int v15)] [] σ (f_L_coincides_b261 σ  K165 v1 v2 v3 v4 v5 v7 v8 v9 v10 v11 v12 v13 v14 v15) := by
  unfold f_L_coincides_b261
  refine X_iload hC 13 rfl dL_coincides_261 ?_
  refine X_iload hC 6 rfl dL_coincides_263 ?_
  refine X_icmp_ne hC 277 dL_coincides_265 (by decide) (fun h33 => ?_) (fun h33 => ?_)
  · exact X_sub [0, 1, 2, 3, 4, 5, 6, 7, 8, 9, 10, 11, 12, 13] rfl (L_L_coincides_b277 G cls ad hi hC hz0 hz1 σ K165 hK165 v1 v2 v3 v4 v5 v7 v8 v9 v10 v11 v12 v13 v14)
  · refine X_iload hC 14 rfl dL_coincides_268 ?_
    refine X_iload hC 7 rfl dL_coincides_270 ?_
    refine X_icmp_eq hC 277 dL_coincides_272 (by decide) (fun h35 => ?_) (fun h35 => ?_)
    · exact X_sub [0, 1, 2, 3, 4, 5, 6, 7, 8, 9, 10, 11, 12, 13] rfl (L_L_coincides_b277 G cls ad hi hC hz0 hz1 σ K165 hK165 v1 v2 v3 v4 v5 v7 v8 v9 v10 v11 v12 v13 v14)
    · refine X_iconst (v := 0) hC (by decide) dL_coincides_275 ?_
      exact X_none
set_option maxHeartbeats 4000000 in
set_option maxRecDepth 100000 in
theorem L_L_coincides_b237 {Γ : Cx} (G : va_G) (cls : Cls) (ad : Nat → Nat) (hi : inj 49 ad) (hC : CX Γ (YX G cls ad) cL_coincides RL 17 (some .boolean) 4 94) (hz0 : Γ.2.2.2.2.2.1 = 0) (hz1 : Γ.2.2.2.2.2.2 = 0) (σ : Sg)   (K165 : Int32 → Int32 → Int32 → Int32 → Int32 → Int32 → Int32 → Int32 → Int32 → Int32 → Int32 → Int32 → Int32 → Option (Int32)) (hK165 : ∀ (v1 : Int32) (v2 : Int32) (v3 : Int32) (v4 : Int32) (v5 : Int32) (v7 : Int32) (v8 : Int32) (v9 : Int32) (v10 : Int32) (v11 : Int32) (v12 : Int32) (v13 : Int32) (v14 : Int32), WX Γ (YX G cls ad) (qf Γ (YX G cls ad) (fiP σ)) 17 165 [(0, .ref (ad 25)), (1, .int v1), (2, .int v2), (3, .int v3), (4, .int v4), (5, .int v5), (7, .int v7), (8, .int v8), (9, .int v9), (10, .int v10), (11, .int v11), (12, .int v12), (13, .int v13), (14, .int v14)] [] σ (K165 v1 v2 v3 v4 v5 v7 v8 v9 v10 v11 v12 v13 v14))  (v1 : Int32) (v2 : Int32) (v3 : Int32) (v4 : Int32) (v5 : Int32) (v7 : Int32) (v8 : Int32) (v9 : Int32) (v10 : Int32) (v11 : Int32) (v12 : Int32) (v14 : Int32) (v15 : Int32) (v16 : Int32) (w0 : Int32) (w1 : Int32) : WX Γ (YX G cls ad) (qf Γ (YX G cls ad) (fiP σ)) 17 237 [(0, .ref (ad 25)), (1, .int v1), (2, .int v2), (3, .int v3), (4, .int v4), (5, .int v5), (7, .int v7), (8, .int v8), (9, .int v9), (10, .int v10), (11, .int v11), (12, .int v12), (14, .int v14), (15, .int v15), (16, .int v16)] [.int w0, .int w1] σ (f_L_coincides_b237 σ  K165 v1 v2 v3 v4 v5 v7 v8 v9 v10 v11 v12 v14 v15 v16 w0 w1) := by
  unfold f_L_coincides_b237
  refine X_iadd hC dL_coincides_237 ?_
  refine X_lt (fun x30 => ?_)
  refine X_istore (ls' := [(13, .int x30), (0, .ref (ad 25)), (1, .int v1), (2, .int v2), (3, .int v3), (4, .int v4), (5, .int v5), (7, .int v7), (8, .int v8), (9, .int v9), (10, .int v10), (11, .int v11), (12, .int v12), (14, .int v14), (15, .int v15), (16, .int v16)]) hC dL_coincides_238 (by decide) rfl ?_
  refine X_iload hC 14 rfl dL_coincides_240 ?_
  refine X_iload hC 8 rfl dL_coincides_242 ?_
  refine X_icmp_lt hC 275 dL_coincides_244 (by decide) (fun h31 => ?_) (fun h31 => ?_)
  · refine X_iconst (v := 0) hC (by decide) dL_coincides_275 ?_
    exact X_none
  · refine X_iload hC 14 rfl dL_coincides_247 ?_
    refine X_iload hC 8 rfl dL_coincides_249 ?_
    refine X_icmp_ne hC 261 dL_coincides_251 (by decide) (fun h32 => ?_) (fun h32 => ?_)
    · exact X_sub [1, 2, 3, 4, 5, 6, 7, 8, 9, 10, 11, 12, 0, 13, 14] rfl (L_L_coincides_b261 G cls ad hi hC hz0 hz1 σ K165 hK165 v1 v2 v3 v4 v5 v7 v8 v9 v10 v11 v12 x30 v14 v15)
    · refine X_iload hC 15 rfl dL_coincides_254 ?_
      refine X_iload hC 9 rfl dL_coincides_256 ?_
      refine X_icmp_lt hC 275 dL_coincides_258 (by decide) (fun h36 => ?_) (fun h36 => ?_)
      · refine X_iconst (v := 0) hC (by decide) dL_coincides_275 ?_
        exact X_none
      · exact X_sub [1, 2, 3, 4, 5, 6, 7, 8, 9, 10, 11, 12, 0, 13, 14] rfl (L_L_coincides_b261 G cls ad hi hC hz0 hz1 σ K165 hK165 v1 v2 v3 v4 v5 v7 v8 v9 v10 v11 v12 x30 v14 v15)
set_option maxHeartbeats 4000000 in
set_option maxRecDepth 100000 in
theorem L_L_coincides_b221 {Γ : Cx} (G : va_G) (cls : Cls) (ad : Nat → Nat) (hi : inj 49 ad) (hC : CX Γ (YX G cls ad) cL_coincides RL 17 (some .boolean) 4 94) (hz0 : Γ.2.2.2.2.2.1 = 0) (hz1 : Γ.2.2.2.2.2.2 = 0) (σ : Sg)   (K165 : Int32 → Int32 → Int32 → Int32 → Int32 → Int32 → Int32 → Int32 → Int32 → Int32 → Int32 → Int32 → Int32 → Option (Int32)) (hK165 : ∀ (v1 : Int32) (v2 : Int32) (v3 : Int32) (v4 : Int32) (v5 : Int32) (v7 : Int32) (v8 : Int32) (v9 : Int32) (v10 : Int32) (v11 : Int32) (v12 : Int32) (v13 : Int32) (v14 : Int32), WX Γ (YX G cls ad) (qf Γ (YX G cls ad) (fiP σ)) 17 165 [(0, .ref (ad 25)), (1, .int v1), (2, .int v2), (3, .int v3), (4, .int v4), (5, .int v5), (7, .int v7), (8, .int v8), (9, .int v9), (10, .int v10), (11, .int v11), (12, .int v12), (13, .int v13), (14, .int v14)] [] σ (K165 v1 v2 v3 v4 v5 v7 v8 v9 v10 v11 v12 v13 v14))  (v1 : Int32) (v2 : Int32) (v3 : Int32) (v4 : Int32) (v5 : Int32) (v7 : Int32) (v8 : Int32) (v9 : Int32) (v10 : Int32) (v11 : Int32) (v12 : Int32) (v13 : Int32) (v14 : Int32) (v15 : Int32) (w0 : Int32) : WX Γ (YX G cls ad) (qf Γ (YX G cls ad) (fiP σ)) 17 221 [(0, .ref (ad 25)), (1, .int v1), (2, .int v2), (3, .int v3), (4, .int v4), (5, .int v5), (7, .int v7), (8, .int v8), (9, .int v9), (10, .int v10), (11, .int v11), (12, .int v12), (13, .int v13), (14, .int v14), (15, .int v15)] [.int w0] σ (f_L_coincides_b221 σ  K165 v1 v2 v3 v4 v5 v7 v8 v9 v10 v11 v12 v13 v14 v15 w0) := by
  unfold f_L_coincides_b221
  refine X_istore (ls' := [(16, .int w0), (0, .ref (ad 25)), (1, .int v1), (2, .int v2), (3, .int v3), (4, .int v4), (5, .int v5), (7, .int v7), (8, .int v8), (9, .int v9), (10, .int v10), (11, .int v11), (12, .int v12), (13, .int v13), (14, .int v14), (15, .int v15)]) hC dL_coincides_221 (by decide) rfl ?_
  refine X_iload hC 13 rfl dL_coincides_223 ?_
  refine X_iload hC 15 rfl dL_coincides_225 ?_
  refine X_iload hC 8 rfl dL_coincides_227 ?_
  refine X_icmp_ne hC 236 dL_coincides_229 (by decide) (fun h29 => ?_) (fun h29 => ?_)
  · refine X_iconst (v := 0) hC (by decide) dL_coincides_236 ?_
    exact X_sub [1, 2, 3, 4, 5, 6, 7, 8, 9, 10, 11, 12, 14, 15, 0] rfl (L_L_coincides_b237 G cls ad hi hC hz0 hz1 σ K165 hK165 v1 v2 v3 v4 v5 v7 v8 v9 v10 v11 v12 v14 v15 w0 (0 : Int32) v13)
  · refine X_iconst (v := 1) hC (by decide) dL_coincides_232 ?_
    refine X_goto hC 237 dL_coincides_233 (by decide) ?_
    exact X_sub [1, 2, 3, 4, 5, 6, 7, 8, 9, 10, 11, 12, 14, 15, 0] rfl (L_L_coincides_b237 G cls ad hi hC hz0 hz1 σ K165 hK165 v1 v2 v3 v4 v5 v7 v8 v9 v10 v11 v12 v14 v15 w0 (1 : Int32) v13)
set_option maxHeartbeats 4000000 in
set_option maxRecDepth 100000 in
theorem L_L_coincides_b198 {Γ : Cx} (G : va_G) (cls : Cls) (ad : Nat → Nat) (hi : inj 49 ad) (hC : CX Γ (YX G cls ad) cL_coincides RL 17 (some .boolean) 4 94) (hz0 : Γ.2.2.2.2.2.1 = 0) (hz1 : Γ.2.2.2.2.2.2 = 0) (σ : Sg)   (K165 : Int32 → Int32 → Int32 → Int32 → Int32 → Int32 → Int32 → Int32 → Int32 → Int32 → Int32 → Int32 → Int32 → Option (Int32)) (hK165 : ∀ (v1 : Int32) (v2 : Int32) (v3 : Int32) (v4 : Int32) (v5 : Int32) (v7 : Int32) (v8 : Int32) (v9 : Int32) (v10 : Int32) (v11 : Int32) (v12 : Int32) (v13 : Int32) (v14 : Int32), WX Γ (YX G cls ad) (qf Γ (YX G cls ad) (fiP σ)) 17 165 [(0, .ref (ad 25)), (1, .int v1), (2, .int v2), (3, .int v3), (4, .int v4), (5, .int v5), (7, .int v7), (8, .int v8), (9, .int v9), (10, .int v10), (11, .int v11), (12, .int v12), (13, .int v13), (14, .int v14)] [] σ (K165 v1 v2 v3 v4 v5 v7 v8 v9 v10 v11 v12 v13 v14))  (v1 : Int32) (v2 : Int32) (v3 : Int32) (v4 : Int32) (v5 : Int32) (v7 : Int32) (v8 : Int32) (v9 : Int32) (v10 : Int32) (v11 : Int32) (v12 : Int32) (v13 : Int32) (v14 : Int32) (w0 : Int32) (w1 : Int32) : WX Γ (YX G cls ad) (qf Γ (YX G cls ad) (fiP σ)) 17 198 [(0, .ref (ad 25)), (1, .int v1), (2, .int v2), (3, .int v3), (4, .int v4), (5, .int v5), (7, .int v7), (8, .int v8), (9, .int v9), (10, .int v10), (11, .int v11), (12, .int v12), (13, .int v13), (14, .int v14)] [.int w0, .int w1] σ (f_L_coincides_b198 σ  K165 v1 v2 v3 v4 v5 v7 v8 v9 v10 v11 v12 v13 v14 w0 w1) := by
  unfold f_L_coincides_b198
  refine X_iload hC 9 rfl dL_coincides_198 ?_
  refine X_imul hC dL_coincides_200 ?_
  refine X_isub hC dL_coincides_201 ?_
  refine X_statP (rest := []) hC (c_L_size _ G cls ad hi σ (w1 - (w0 * v10))) (gSt tw_402 tw_403 tw_0 tw_404) rfl okm_L_size (by decide) dL_coincides_202 rfl (Nat.le_of_ble_eq_true rfl) (fun r27 => ?_)
  refine X_istore (ls' := [(15, .int r27), (0, .ref (ad 25)), (1, .int v1), (2, .int v2), (3, .int v3), (4, .int v4), (5, .int v5), (7, .int v7), (8, .int v8), (9, .int v9), (10, .int v10), (11, .int v11), (12, .int v12), (13, .int v13), (14, .int v14)]) hC dL_coincides_205 (by decide) rfl ?_
  refine X_iload hC 12 rfl dL_coincides_207 ?_
  refine X_if_eq hC 219 dL_coincides_209 (by decide) (fun h28 => ?_) (fun h28 => ?_)
  · refine X_iload hC 14 rfl dL_coincides_219 ?_
    exact X_sub [1, 2, 3, 4, 5, 6, 7, 8, 9, 10, 11, 12, 13, 14, 0] rfl (L_L_coincides_b221 G cls ad hi hC hz0 hz1 σ K165 hK165 v1 v2 v3 v4 v5 v7 v8 v9 v10 v11 v12 v13 v14 r27 v14)
  · refine X_iload_n hC 4 rfl dL_coincides_212 ?_
    refine X_iload hC 14 rfl dL_coincides_213 ?_
    refine X_isub hC dL_coincides_215 ?_
    refine X_goto hC 221 dL_coincides_216 (by decide) ?_
    exact X_sub [1, 2, 3, 4, 5, 6, 7, 8, 9, 10, 11, 12, 13, 14, 0] rfl (L_L_coincides_b221 G cls ad hi hC hz0 hz1 σ K165 hK165 v1 v2 v3 v4 v5 v7 v8 v9 v10 v11 v12 v13 v14 r27 (v3 - v14))
set_option maxHeartbeats 4000000 in
set_option maxRecDepth 100000 in
theorem L_L_coincides_b165 {Γ : Cx} (G : va_G) (cls : Cls) (ad : Nat → Nat) (hi : inj 49 ad) (hC : CX Γ (YX G cls ad) cL_coincides RL 17 (some .boolean) 4 94) (hz0 : Γ.2.2.2.2.2.1 = 0) (hz1 : Γ.2.2.2.2.2.2 = 0) (σ : Sg)    : ∀ (n : Nat) (v1 : Int32) (v2 : Int32) (v3 : Int32) (v4 : Int32) (v5 : Int32) (v7 : Int32) (v8 : Int32) (v9 : Int32) (v10 : Int32) (v11 : Int32) (v12 : Int32) (v13 : Int32) (v14 : Int32), WX Γ (YX G cls ad) (qf Γ (YX G cls ad) (fiP σ)) 17 165 [(0, .ref (ad 25)), (1, .int v1), (2, .int v2), (3, .int v3), (4, .int v4), (5, .int v5), (7, .int v7), (8, .int v8), (9, .int v9), (10, .int v10), (11, .int v11), (12, .int v12), (13, .int v13), (14, .int v14)] [] σ (f_L_coincides_b165 σ   n v1 v2 v3 v4 v5 v7 v8 v9 v10 v11 v12 v13 v14) := by
  intro n
  induction n with
  | zero => intro v1 v2 v3 v4 v5 v7 v8 v9 v10 v11 v12 v13 v14; exact X_none
  | succ n ih =>
    intro v1 v2 v3 v4 v5 v7 v8 v9 v10 v11 v12 v13 v14
    rw [f_L_coincides_b165.eq_2]
    refine X_iload hC 13 rfl dL_coincides_165 ?_
    refine X_iload_n hC 3 rfl dL_coincides_167 ?_
    refine X_icmp_gt hC 283 dL_coincides_168 (by decide) (fun h19 => ?_) (fun h19 => ?_)
    · refine X_aload_n hC 0 rfl dL_coincides_283 ?_
      refine X_iload_n hC 1 rfl dL_coincides_284 ?_
      refine X_iload_n hC 2 rfl dL_coincides_285 ?_
      refine X_iconst (v := 5) hC (by decide) dL_coincides_286 ?_
      refine X_callP (C := RX4) (T := TX4) (N := 5) (ci := 4) (rest := []) hC (c_X4_coincidence _ G cls ad hi σ v1 v2 (5 : Int32)) (gV tw_314 tw_315 tw_316 tw_1 tw_317) rfl (wX (k := 25) (by omega) cX_vs) rfl rfl okm_X4_coincidence (by decide) dL_coincides_287 rfl (Nat.le_of_ble_eq_true rfl) (fun r20 => ?_)
      refine X_iload hC 12 rfl dL_coincides_290 ?_
      refine X_icmp_ne hC 334 dL_coincides_292 (by decide) (fun h21 => ?_) (fun h21 => ?_)
      · refine X_iconst (v := 0) hC (by decide) dL_coincides_334 ?_
        exact X_none
      · refine X_aload_n hC 0 rfl dL_coincides_295 ?_
        refine X_iload_n hC 1 rfl dL_coincides_296 ?_
        refine X_iload_n hC 2 rfl dL_coincides_297 ?_
        refine X_bipush (v := 6) hC (by decide) dL_coincides_298 ?_
        refine X_callP (C := RX4) (T := TX4) (N := 5) (ci := 4) (rest := []) hC (c_X4_coincidence _ G cls ad hi σ v1 v2 (6 : Int32)) (gV tw_314 tw_315 tw_316 tw_1 tw_317) rfl (wX (k := 25) (by omega) cX_vs) rfl rfl okm_X4_coincidence (by decide) dL_coincides_300 rfl (Nat.le_of_ble_eq_true rfl) (fun r22 => ?_)
        refine X_iload hC 5 rfl dL_coincides_303 ?_
        refine X_iload hC 9 rfl dL_coincides_305 ?_
        refine X_imul hC dL_coincides_307 ?_
        refine X_iload hC 8 rfl dL_coincides_308 ?_
        refine X_iload hC 4 rfl dL_coincides_310 ?_
        refine X_imul hC dL_coincides_312 ?_
        refine X_iadd hC dL_coincides_313 ?_
        refine X_icmp_ne hC 334 dL_coincides_314 (by decide) (fun h23 => ?_) (fun h23 => ?_)
        · refine X_iconst (v := 0) hC (by decide) dL_coincides_334 ?_
          exact X_none
        · refine X_aload_n hC 0 rfl dL_coincides_317 ?_
          refine X_iload_n hC 1 rfl dL_coincides_318 ?_
          refine X_iload_n hC 2 rfl dL_coincides_319 ?_
          refine X_bipush (v := 7) hC (by decide) dL_coincides_320 ?_
          refine X_callP (C := RX4) (T := TX4) (N := 5) (ci := 4) (rest := []) hC (c_X4_coincidence _ G cls ad hi σ v1 v2 (7 : Int32)) (gV tw_314 tw_315 tw_316 tw_1 tw_317) rfl (wX (k := 25) (by omega) cX_vs) rfl rfl okm_X4_coincidence (by decide) dL_coincides_322 rfl (Nat.le_of_ble_eq_true rfl) (fun r24 => ?_)
          refine X_ldc (v := -10000002) hC tw_388 dL_coincides_325 ?_
          refine X_icmp_ne hC 334 dL_coincides_327 (by decide) (fun h25 => ?_) (fun h25 => ?_)
          · refine X_iconst (v := 0) hC (by decide) dL_coincides_334 ?_
            exact X_none
          · refine X_iconst (v := 1) hC (by decide) dL_coincides_330 ?_
            refine X_goto hC 335 dL_coincides_331 (by decide) ?_
            exact X_zret hC hz0 hz1 rfl dL_coincides_335 rfl
    · refine X_iload_n hC 2 rfl dL_coincides_171 ?_
      refine X_iload hC 13 rfl dL_coincides_172 ?_
      refine X_iload hC 10 rfl dL_coincides_174 ?_
      refine X_imul hC dL_coincides_176 ?_
      refine X_iadd hC dL_coincides_177 ?_
      refine X_iload hC 11 rfl dL_coincides_178 ?_
      refine X_if_eq hC 193 dL_coincides_180 (by decide) (fun h26 => ?_) (fun h26 => ?_)
      · refine X_iload hC 5 rfl dL_coincides_193 ?_
        refine X_iload hC 13 rfl dL_coincides_195 ?_
        refine X_iadd hC dL_coincides_197 ?_
        exact (L_L_coincides_b198 G cls ad hi hC hz0 hz1 σ (f_L_coincides_b165 σ   n) ih v1 v2 v3 v4 v5 v7 v8 v9 v10 v11 v12 v13 v14 (v5 + v14) (v2 + (v14 * v11)))
      · refine X_iload hC 5 rfl dL_coincides_183 ?_
        refine X_iload hC 13 rfl dL_coincides_185 ?_
        refine X_iadd hC dL_coincides_187 ?_
        refine X_iconst (v := 1) hC (by decide) dL_coincides_188 ?_
        refine X_iadd hC dL_coincides_189 ?_
        refine X_goto hC 198 dL_coincides_190 (by decide) ?_
        exact (L_L_coincides_b198 G cls ad hi hC hz0 hz1 σ (f_L_coincides_b165 σ   n) ih v1 v2 v3 v4 v5 v7 v8 v9 v10 v11 v12 v13 v14 ((v5 + v14) + (1 : Int32)) (v2 + (v14 * v11)))
set_option maxHeartbeats 4000000 in
set_option maxRecDepth 100000 in
theorem L_L_coincides_b154 {Γ : Cx} (G : va_G) (cls : Cls) (ad : Nat → Nat) (hi : inj 49 ad) (hC : CX Γ (YX G cls ad) cL_coincides RL 17 (some .boolean) 4 94) (hz0 : Γ.2.2.2.2.2.1 = 0) (hz1 : Γ.2.2.2.2.2.2 = 0) (σ : Sg)     (v1 : Int32) (v2 : Int32) (v3 : Int32) (v4 : Int32) (v5 : Int32) (v7 : Int32) (v8 : Int32) (v9 : Int32) (v10 : Int32) (v11 : Int32) (v12 : Int32) (v13 : Int32) (w0 : Int32) (w1 : Int32) : WX Γ (YX G cls ad) (qf Γ (YX G cls ad) (fiP σ)) 17 154 [(0, .ref (ad 25)), (1, .int v1), (2, .int v2), (3, .int v3), (4, .int v4), (5, .int v5), (7, .int v7), (8, .int v8), (9, .int v9), (10, .int v10), (11, .int v11), (12, .int v12), (13, .int v13)] [.int w0, .int w1] σ (f_L_coincides_b154 σ   v1 v2 v3 v4 v5 v7 v8 v9 v10 v11 v12 v13 w0 w1) := by
  unfold f_L_coincides_b154
  refine X_iload hC 4 rfl dL_coincides_154 ?_
  refine X_imul hC dL_coincides_156 ?_
  refine X_icmp_eq hC 162 dL_coincides_157 (by decide) (fun h18 => ?_) (fun h18 => ?_)
  · refine X_iconst (v := 0) hC (by decide) dL_coincides_162 ?_
    refine X_istore (ls' := [(14, .int (0 : Int32)), (0, .ref (ad 25)), (1, .int v1), (2, .int v2), (3, .int v3), (4, .int v4), (5, .int v5), (7, .int v7), (8, .int v8), (9, .int v9), (10, .int v10), (11, .int v11), (12, .int v12), (13, .int v13)]) hC dL_coincides_163 (by decide) rfl ?_
    exact X_sub [1, 2, 3, 4, 5, 6, 7, 8, 9, 10, 11, 12, 13, 0] rfl (L_L_coincides_b165 G cls ad hi hC hz0 hz1 σ fuel v1 v2 v3 v4 v5 v7 v8 v9 v10 v11 v12 v13 (0 : Int32))
  · refine X_iconst (v := 0) hC (by decide) dL_coincides_160 ?_
    exact X_none
set_option maxHeartbeats 4000000 in
set_option maxRecDepth 100000 in
theorem L_L_coincides_b135 {Γ : Cx} (G : va_G) (cls : Cls) (ad : Nat → Nat) (hi : inj 49 ad) (hC : CX Γ (YX G cls ad) cL_coincides RL 17 (some .boolean) 4 94) (hz0 : Γ.2.2.2.2.2.1 = 0) (hz1 : Γ.2.2.2.2.2.2 = 0) (σ : Sg)     (v1 : Int32) (v2 : Int32) (v3 : Int32) (v4 : Int32) (v5 : Int32) (v7 : Int32) (v8 : Int32) (v9 : Int32) (v10 : Int32) (v11 : Int32) (v12 : Int32) (v13 : Int32) (w0 : Int32) (w1 : Int32) : WX Γ (YX G cls ad) (qf Γ (YX G cls ad) (fiP σ)) 17 135 [(0, .ref (ad 25)), (1, .int v1), (2, .int v2), (3, .int v3), (4, .int v4), (5, .int v5), (7, .int v7), (8, .int v8), (9, .int v9), (10, .int v10), (11, .int v11), (12, .int v12), (13, .int v13)] [.int w0, .int w1] σ (f_L_coincides_b135 σ   v1 v2 v3 v4 v5 v7 v8 v9 v10 v11 v12 v13 w0 w1) := by
  unfold f_L_coincides_b135
  refine X_icmp_ne hC 160 dL_coincides_135 (by decide) (fun h16 => ?_) (fun h16 => ?_)
  · refine X_iconst (v := 0) hC (by decide) dL_coincides_160 ?_
    exact X_none
  · refine X_iload hC 10 rfl dL_coincides_138 ?_
    refine X_iload hC 11 rfl dL_coincides_140 ?_
    refine X_if_eq hC 151 dL_coincides_142 (by decide) (fun h17 => ?_) (fun h17 => ?_)
    · refine X_iload_n hC 3 rfl dL_coincides_151 ?_
      refine X_iconst (v := 1) hC (by decide) dL_coincides_152 ?_
      refine X_isub hC dL_coincides_153 ?_
      exact (L_L_coincides_b154 G cls ad hi hC hz0 hz1 σ v1 v2 v3 v4 v5 v7 v8 v9 v10 v11 v12 v13 (v3 - (1 : Int32)) v11)
    · refine X_iload_n hC 3 rfl dL_coincides_145 ?_
      refine X_iconst (v := 1) hC (by decide) dL_coincides_146 ?_
      refine X_iadd hC dL_coincides_147 ?_
      refine X_goto hC 154 dL_coincides_148 (by decide) ?_
      exact (L_L_coincides_b154 G cls ad hi hC hz0 hz1 σ v1 v2 v3 v4 v5 v7 v8 v9 v10 v11 v12 v13 (v3 + (1 : Int32)) v11)
set_option maxHeartbeats 4000000 in
set_option maxRecDepth 100000 in
theorem L_L_coincides_b90 {Γ : Cx} (G : va_G) (cls : Cls) (ad : Nat → Nat) (hi : inj 49 ad) (hC : CX Γ (YX G cls ad) cL_coincides RL 17 (some .boolean) 4 94) (hz0 : Γ.2.2.2.2.2.1 = 0) (hz1 : Γ.2.2.2.2.2.2 = 0) (σ : Sg)     (v1 : Int32) (v2 : Int32) (v3 : Int32) (v4 : Int32) (v5 : Int32) (v6 : Int32) (v7 : Int32) (v8 : Int32) (v9 : Int32) (v10 : Int32) (v11 : Int32) (w0 : Int32) : WX Γ (YX G cls ad) (qf Γ (YX G cls ad) (fiP σ)) 17 90 [(0, .ref (ad 25)), (1, .int v1), (2, .int v2), (3, .int v3), (4, .int v4), (5, .int v5), (6, .int v6), (7, .int v7), (8, .int v8), (9, .int v9), (10, .int v10), (11, .int v11)] [.int w0] σ (f_L_coincides_b90 σ   v1 v2 v3 v4 v5 v6 v7 v8 v9 v10 v11 w0) := by
  unfold f_L_coincides_b90
  refine X_istore (ls' := [(12, .int w0), (0, .ref (ad 25)), (1, .int v1), (2, .int v2), (3, .int v3), (4, .int v4), (5, .int v5), (6, .int v6), (7, .int v7), (8, .int v8), (9, .int v9), (10, .int v10), (11, .int v11)]) hC dL_coincides_90 (by decide) rfl ?_
  refine X_iconst (v := 0) hC (by decide) dL_coincides_92 ?_
  refine X_istore (ls' := [(13, .int (0 : Int32)), (12, .int w0), (0, .ref (ad 25)), (1, .int v1), (2, .int v2), (3, .int v3), (4, .int v4), (5, .int v5), (6, .int v6), (7, .int v7), (8, .int v8), (9, .int v9), (10, .int v10), (11, .int v11)]) hC dL_coincides_93 (by decide) rfl ?_
  refine X_iload hC 7 rfl dL_coincides_95 ?_
  refine X_iload hC 12 rfl dL_coincides_97 ?_
  refine X_imul hC dL_coincides_99 ?_
  refine X_iload hC 8 rfl dL_coincides_100 ?_
  refine X_iadd hC dL_coincides_102 ?_
  refine X_iload_n hC 4 rfl dL_coincides_103 ?_
  refine X_icmp_ne hC 160 dL_coincides_104 (by decide) (fun h12 => ?_) (fun h12 => ?_)
  · refine X_iconst (v := 0) hC (by decide) dL_coincides_160 ?_
    exact X_none
  · refine X_iload hC 8 rfl dL_coincides_107 ?_
    refine X_if_lt hC 160 dL_coincides_109 (by decide) (fun h13 => ?_) (fun h13 => ?_)
    · refine X_iconst (v := 0) hC (by decide) dL_coincides_160 ?_
      exact X_none
    · refine X_iload hC 8 rfl dL_coincides_112 ?_
      refine X_iload hC 12 rfl dL_coincides_114 ?_
      refine X_icmp_ge hC 160 dL_coincides_116 (by decide) (fun h14 => ?_) (fun h14 => ?_)
      · refine X_iconst (v := 0) hC (by decide) dL_coincides_160 ?_
        exact X_none
      · refine X_iload hC 11 rfl dL_coincides_119 ?_
        refine X_iload hC 1 rfl dL_coincides_121 ?_
        refine X_if_eq hC 133 dL_coincides_123 (by decide) (fun h15 => ?_) (fun h15 => ?_)
        · refine X_iload hC 9 rfl dL_coincides_133 ?_
          exact X_sub [2, 3, 4, 5, 6, 7, 9, 10, 11, 12, 13, 1, 0] rfl (L_L_coincides_b135 G cls ad hi hC hz0 hz1 σ v1 v2 v3 v4 v5 v7 v8 v9 v10 v11 w0 (0 : Int32) v7 v9)
        · refine X_iload_n hC 5 rfl dL_coincides_126 ?_
          refine X_iload hC 9 rfl dL_coincides_127 ?_
          refine X_isub hC dL_coincides_129 ?_
          refine X_goto hC 135 dL_coincides_130 (by decide) ?_
          exact X_sub [2, 3, 4, 5, 6, 7, 9, 10, 11, 12, 13, 1, 0] rfl (L_L_coincides_b135 G cls ad hi hC hz0 hz1 σ v1 v2 v3 v4 v5 v7 v8 v9 v10 v11 w0 (0 : Int32) (v3 - v7) v9)
theorem okm_L_coincides : okm yL_coincides 3 = true := by decide +kernel
set_option maxHeartbeats 4000000 in
set_option maxRecDepth 100000 in
theorem c_L_coincides (l : Launch) (G : va_G) (cls : Cls) (ad : Nat → Nat) (hi : inj 49 ad) (σ : Sg)   (p1 p2 : Int32) : MT l (YX G cls ad) yL_coincides (.code yL_coincides cL_coincides 17 (some .boolean) :: gw) 4 94 [.ref (ad 25), .int p1, .int p2] (fiP σ) σ (f_L_coincides σ  p1 p2) := by
  refine MT.of (own := RL) (by decide) (YX_D hi) rfl (Nat.le_of_ble_eq_true rfl) fun Γ _ hz0 hz1 hC => ?_
  show WX Γ (YX G cls ad) (qf Γ (YX G cls ad) (fiP σ)) 17 0 [(0, .ref (ad 25)), (1, .int p1), (2, .int p2)] [] σ (f_L_coincides σ  p1 p2)
  unfold f_L_coincides
  refine X_aload_n hC 0 rfl dL_coincides_0 ?_
  refine X_iload_n hC 1 rfl dL_coincides_1 ?_
  refine X_iconst (v := 0) hC (by decide) dL_coincides_2 ?_
  refine X_callP (C := RX4) (T := TX4) (N := 5) (ci := 4) (rest := []) hC (c_X4_instrument _ G cls ad hi σ p1 (0 : Int32)) (gV tw_367 tw_368 tw_369 tw_1 tw_370) rfl (wX (k := 25) (by omega) cX_vs) rfl rfl okm_X4_instrument (by decide) dL_coincides_3 rfl (Nat.le_of_ble_eq_true rfl) (fun r1 => ?_)
  refine X_istore_n (ls' := [(3, .int r1), (0, .ref (ad 25)), (1, .int p1), (2, .int p2)]) hC dL_coincides_6 (by decide) rfl ?_
  refine X_aload_n hC 1 rfl dL_coincides_7 ?_
  refine X_iload_n hC 2 rfl dL_coincides_8 ?_
  refine X_iconst (v := 1) hC (by decide) dL_coincides_9 ?_
  refine X_callP (C := RX4) (T := TX4) (N := 5) (ci := 4) (rest := []) hC (c_X4_instrument _ G cls ad hi σ p1 (1 : Int32)) (gV tw_367 tw_368 tw_369 tw_1 tw_370) rfl (wX (k := 25) (by omega) cX_vs) rfl rfl okm_X4_instrument (by decide) dL_coincides_10 rfl (Nat.le_of_ble_eq_true rfl) (fun r2 => ?_)
  refine X_istore (ls' := [(4, .int r2), (3, .int r1), (0, .ref (ad 25)), (1, .int p1), (2, .int p2)]) hC dL_coincides_13 (by decide) rfl ?_
  refine X_aload_n hC 2 rfl dL_coincides_15 ?_
  refine X_iload_n hC 3 rfl dL_coincides_16 ?_
  refine X_iload_n hC 4 rfl dL_coincides_17 ?_
  refine X_iconst (v := 0) hC (by decide) dL_coincides_18 ?_
  refine X_callP (C := RX4) (T := TX4) (N := 5) (ci := 4) (rest := []) hC (c_X4_coincidence _ G cls ad hi σ p1 p2 (0 : Int32)) (gV tw_314 tw_315 tw_316 tw_1 tw_317) rfl (wX (k := 25) (by omega) cX_vs) rfl rfl okm_X4_coincidence (by decide) dL_coincides_19 rfl (Nat.le_of_ble_eq_true rfl) (fun r3 => ?_)
  refine X_istore (ls' := [(5, .int r3), (4, .int r2), (3, .int r1), (0, .ref (ad 25)), (1, .int p1), (2, .int p2)]) hC dL_coincides_22 (by decide) rfl ?_
  refine X_aload_n hC 3 rfl dL_coincides_24 ?_
  refine X_iload_n hC 4 rfl dL_coincides_25 ?_
  refine X_iload_n hC 5 rfl dL_coincides_26 ?_
  refine X_iconst (v := 1) hC (by decide) dL_coincides_27 ?_
  refine X_callP (C := RX4) (T := TX4) (N := 5) (ci := 4) (rest := []) hC (c_X4_coincidence _ G cls ad hi σ p1 p2 (1 : Int32)) (gV tw_314 tw_315 tw_316 tw_1 tw_317) rfl (wX (k := 25) (by omega) cX_vs) rfl rfl okm_X4_coincidence (by decide) dL_coincides_28 rfl (Nat.le_of_ble_eq_true rfl) (fun r4 => ?_)
  refine X_istore (ls' := [(6, .int r4), (5, .int r3), (4, .int r2), (3, .int r1), (0, .ref (ad 25)), (1, .int p1), (2, .int p2)]) hC dL_coincides_31 (by decide) rfl ?_
  refine X_aload_n hC 4 rfl dL_coincides_33 ?_
  refine X_iload_n hC 5 rfl dL_coincides_34 ?_
  refine X_iload_n hC 6 rfl dL_coincides_35 ?_
  refine X_iconst (v := 2) hC (by decide) dL_coincides_36 ?_
  refine X_callP (C := RX4) (T := TX4) (N := 5) (ci := 4) (rest := []) hC (c_X4_coincidence _ G cls ad hi σ p1 p2 (2 : Int32)) (gV tw_314 tw_315 tw_316 tw_1 tw_317) rfl (wX (k := 25) (by omega) cX_vs) rfl rfl okm_X4_coincidence (by decide) dL_coincides_37 rfl (Nat.le_of_ble_eq_true rfl) (fun r5 => ?_)
  refine X_istore (ls' := [(7, .int r5), (6, .int r4), (5, .int r3), (4, .int r2), (3, .int r1), (0, .ref (ad 25)), (1, .int p1), (2, .int p2)]) hC dL_coincides_40 (by decide) rfl ?_
  refine X_aload_n hC 5 rfl dL_coincides_42 ?_
  refine X_iload_n hC 6 rfl dL_coincides_43 ?_
  refine X_iload_n hC 7 rfl dL_coincides_44 ?_
  refine X_iconst (v := 3) hC (by decide) dL_coincides_45 ?_
  refine X_callP (C := RX4) (T := TX4) (N := 5) (ci := 4) (rest := []) hC (c_X4_coincidence _ G cls ad hi σ p1 p2 (3 : Int32)) (gV tw_314 tw_315 tw_316 tw_1 tw_317) rfl (wX (k := 25) (by omega) cX_vs) rfl rfl okm_X4_coincidence (by decide) dL_coincides_46 rfl (Nat.le_of_ble_eq_true rfl) (fun r6 => ?_)
  refine X_istore (ls' := [(8, .int r6), (7, .int r5), (6, .int r4), (5, .int r3), (4, .int r2), (3, .int r1), (0, .ref (ad 25)), (1, .int p1), (2, .int p2)]) hC dL_coincides_49 (by decide) rfl ?_
  refine X_aload_n hC 6 rfl dL_coincides_51 ?_
  refine X_iload_n hC 7 rfl dL_coincides_52 ?_
  refine X_iload_n hC 8 rfl dL_coincides_53 ?_
  refine X_iconst (v := 4) hC (by decide) dL_coincides_54 ?_
  refine X_callP (C := RX4) (T := TX4) (N := 5) (ci := 4) (rest := []) hC (c_X4_coincidence _ G cls ad hi σ p1 p2 (4 : Int32)) (gV tw_314 tw_315 tw_316 tw_1 tw_317) rfl (wX (k := 25) (by omega) cX_vs) rfl rfl okm_X4_coincidence (by decide) dL_coincides_55 rfl (Nat.le_of_ble_eq_true rfl) (fun r7 => ?_)
  refine X_istore (ls' := [(9, .int r7), (8, .int r6), (7, .int r5), (6, .int r4), (5, .int r3), (4, .int r2), (3, .int r1), (0, .ref (ad 25)), (1, .int p1), (2, .int p2)]) hC dL_coincides_58 (by decide) rfl ?_
  refine X_iload_n hC 6 rfl dL_coincides_60 ?_
  refine X_iload hC 5 rfl dL_coincides_61 ?_
  refine X_imul hC dL_coincides_63 ?_
  refine X_lt (fun x8 => ?_)
  refine X_istore (ls' := [(10, .int x8), (9, .int r7), (8, .int r6), (7, .int r5), (6, .int r4), (5, .int r3), (4, .int r2), (3, .int r1), (0, .ref (ad 25)), (1, .int p1), (2, .int p2)]) hC dL_coincides_64 (by decide) rfl ?_
  refine X_aload_n hC 8 rfl dL_coincides_66 ?_
  refine X_iload_n hC 9 rfl dL_coincides_67 ?_
  refine X_bipush (v := 9) hC (by decide) dL_coincides_68 ?_
  refine X_callP (C := RX4) (T := TX4) (N := 5) (ci := 4) (rest := []) hC (c_X4_instrument _ G cls ad hi σ p1 (9 : Int32)) (gV tw_367 tw_368 tw_369 tw_1 tw_370) rfl (wX (k := 25) (by omega) cX_vs) rfl rfl okm_X4_instrument (by decide) dL_coincides_70 rfl (Nat.le_of_ble_eq_true rfl) (fun r9 => ?_)
  refine X_istore (ls' := [(11, .int r9), (10, .int x8), (9, .int r7), (8, .int r6), (7, .int r5), (6, .int r4), (5, .int r3), (4, .int r2), (3, .int r1), (0, .ref (ad 25)), (1, .int p1), (2, .int p2)]) hC dL_coincides_73 (by decide) rfl ?_
  refine X_aload_n hC 9 rfl dL_coincides_75 ?_
  refine X_iload_n hC 10 rfl dL_coincides_76 ?_
  refine X_iconst (v := 3) hC (by decide) dL_coincides_77 ?_
  refine X_callP (C := RX4) (T := TX4) (N := 5) (ci := 4) (rest := []) hC (c_X4_instrument _ G cls ad hi σ p1 (3 : Int32)) (gV tw_367 tw_368 tw_369 tw_1 tw_370) rfl (wX (k := 25) (by omega) cX_vs) rfl rfl okm_X4_instrument (by decide) dL_coincides_78 rfl (Nat.le_of_ble_eq_true rfl) (fun r10 => ?_)
  refine X_iconst (v := 1) hC (by decide) dL_coincides_81 ?_
  refine X_icmp_ne hC 89 dL_coincides_82 (by decide) (fun h11 => ?_) (fun h11 => ?_)
  · refine X_iconst (v := 0) hC (by decide) dL_coincides_89 ?_
    exact X_sub [9, 10, 11, 8, 7, 6, 5, 4, 3, 2, 1, 0] rfl (L_L_coincides_b90 G cls ad hi hC hz0 hz1 σ p1 p2 r1 r2 r3 r4 r5 r6 r7 x8 r9 (0 : Int32))
  · refine X_iconst (v := 1) hC (by decide) dL_coincides_85 ?_
    refine X_goto hC 90 dL_coincides_86 (by decide) ?_
    exact X_sub [9, 10, 11, 8, 7, 6, 5, 4, 3, 2, 1, 0] rfl (L_L_coincides_b90 G cls ad hi hC hz0 hz1 σ p1 p2 r1 r2 r3 r4 r5 r6 r7 x8 r9 (1 : Int32))
theorem dL_tools_0 : decode cL_tools 0 = .ok (.aload_n 0, 1) := by decide +kernel
theorem dL_tools_1 : decode cL_tools 1 = .ok (.iconst 0, 1) := by decide +kernel
theorem dL_tools_2 : decode cL_tools 2 = .ok (.invokevirtual 13, 3) := by decide +kernel
theorem dL_tools_5 : decode cL_tools 5 = .ok (.istore 4, 2) := by decide +kernel
theorem dL_tools_7 : decode cL_tools 7 = .ok (.iload 4, 2) := by decide +kernel
theorem dL_tools_9 : decode cL_tools 9 = .ok (.ifCond .eq 7, 3) := by decide +kernel
theorem dL_tools_12 : decode cL_tools 12 = .ok (.iload_n 1, 1) := by decide +kernel
theorem dL_tools_13 : decode cL_tools 13 = .ok (.ifCond .ne 89, 3) := by decide +kernel
theorem dL_tools_16 : decode cL_tools 16 = .ok (.aload_n 0, 1) := by decide +kernel
theorem dL_tools_17 : decode cL_tools 17 = .ok (.iconst 2, 1) := by decide +kernel
theorem dL_tools_18 : decode cL_tools 18 = .ok (.iload_n 3, 1) := by decide +kernel
theorem dL_tools_19 : decode cL_tools 19 = .ok (.bipush 30, 2) := by decide +kernel
theorem dL_tools_21 : decode cL_tools 21 = .ok (.invokestatic 57, 3) := by decide +kernel
theorem dL_tools_24 : decode cL_tools 24 = .ok (.iadd, 1) := by decide +kernel
theorem dL_tools_25 : decode cL_tools 25 = .ok (.iconst 1, 1) := by decide +kernel
theorem dL_tools_26 : decode cL_tools 26 = .ok (.iload_n 3, 1) := by decide +kernel
theorem dL_tools_27 : decode cL_tools 27 = .ok (.iconst 5, 1) := by decide +kernel
theorem dL_tools_28 : decode cL_tools 28 = .ok (.ishr, 1) := by decide +kernel
theorem dL_tools_29 : decode cL_tools 29 = .ok (.bipush 12, 2) := by decide +kernel
theorem dL_tools_31 : decode cL_tools 31 = .ok (.invokestatic 57, 3) := by decide +kernel
theorem dL_tools_34 : decode cL_tools 34 = .ok (.iadd, 1) := by decide +kernel
theorem dL_tools_35 : decode cL_tools 35 = .ok (.iconst 2, 1) := by decide +kernel
theorem dL_tools_36 : decode cL_tools 36 = .ok (.iload_n 3, 1) := by decide +kernel
theorem dL_tools_37 : decode cL_tools 37 = .ok (.bipush 9, 2) := by decide +kernel
theorem dL_tools_39 : decode cL_tools 39 = .ok (.ishr, 1) := by decide +kernel
theorem dL_tools_40 : decode cL_tools 40 = .ok (.bipush 12, 2) := by decide +kernel
theorem dL_tools_42 : decode cL_tools 42 = .ok (.invokestatic 57, 3) := by decide +kernel
theorem dL_tools_45 : decode cL_tools 45 = .ok (.iadd, 1) := by decide +kernel
theorem dL_tools_46 : decode cL_tools 46 = .ok (.iload_n 3, 1) := by decide +kernel
theorem dL_tools_47 : decode cL_tools 47 = .ok (.iconst 1, 1) := by decide +kernel
theorem dL_tools_48 : decode cL_tools 48 = .ok (.iand, 1) := by decide +kernel
theorem dL_tools_49 : decode cL_tools 49 = .ok (.iconst 1, 1) := by decide +kernel
theorem dL_tools_50 : decode cL_tools 50 = .ok (.if_icmp .ne 7, 3) := by decide +kernel
theorem dL_tools_53 : decode cL_tools 53 = .ok (.iconst 1, 1) := by decide +kernel
theorem dL_tools_54 : decode cL_tools 54 = .ok (.goto 4, 3) := by decide +kernel
theorem dL_tools_57 : decode cL_tools 57 = .ok (.iconst 0, 1) := by decide +kernel
theorem dL_tools_58 : decode cL_tools 58 = .ok (.invokevirtual 60, 3) := by decide +kernel
theorem dL_tools_61 : decode cL_tools 61 = .ok (.istore 5, 2) := by decide +kernel
theorem dL_tools_63 : decode cL_tools 63 = .ok (.iload 5, 2) := by decide +kernel
theorem dL_tools_65 : decode cL_tools 65 = .ok (.iload 4, 2) := by decide +kernel
theorem dL_tools_67 : decode cL_tools 67 = .ok (.bipush 10, 2) := by decide +kernel
theorem dL_tools_69 : decode cL_tools 69 = .ok (.if_icmp .ne 8, 3) := by decide +kernel
theorem dL_tools_72 : decode cL_tools 72 = .ok (.ldc 64, 2) := by decide +kernel
theorem dL_tools_74 : decode cL_tools 74 = .ok (.goto 5, 3) := by decide +kernel
theorem dL_tools_77 : decode cL_tools 77 = .ok (.iload 4, 2) := by decide +kernel
theorem dL_tools_79 : decode cL_tools 79 = .ok (.if_icmp .ne 21, 3) := by decide +kernel
theorem dL_tools_82 : decode cL_tools 82 = .ok (.aload_n 0, 1) := by decide +kernel
theorem dL_tools_83 : decode cL_tools 83 = .ok (.bipush 51, 2) := by decide +kernel
theorem dL_tools_85 : decode cL_tools 85 = .ok (.iconst 1, 1) := by decide +kernel
theorem dL_tools_86 : decode cL_tools 86 = .ok (.iconst 2, 1) := by decide +kernel
theorem dL_tools_87 : decode cL_tools 87 = .ok (.iconst 0, 1) := by decide +kernel
theorem dL_tools_88 : decode cL_tools 88 = .ok (.invokevirtual 60, 3) := by decide +kernel
theorem dL_tools_91 : decode cL_tools 91 = .ok (.ldc 38, 2) := by decide +kernel
theorem dL_tools_93 : decode cL_tools 93 = .ok (.if_icmp .ne 7, 3) := by decide +kernel
theorem dL_tools_96 : decode cL_tools 96 = .ok (.iconst 1, 1) := by decide +kernel
theorem dL_tools_97 : decode cL_tools 97 = .ok (.goto 4, 3) := by decide +kernel
theorem dL_tools_100 : decode cL_tools 100 = .ok (.iconst 0, 1) := by decide +kernel
theorem dL_tools_101 : decode cL_tools 101 = .ok (.ireturn, 1) := by decide +kernel
theorem dL_tools_102 : decode cL_tools 102 = .ok (.iload_n 2, 1) := by decide +kernel
theorem dL_tools_103 : decode cL_tools 103 = .ok (.iload 4, 2) := by decide +kernel
theorem dL_tools_105 : decode cL_tools 105 = .ok (.invokestatic 57, 3) := by decide +kernel
theorem dL_tools_108 : decode cL_tools 108 = .ok (.istore 5, 2) := by decide +kernel
theorem dL_tools_110 : decode cL_tools 110 = .ok (.iload_n 1, 1) := by decide +kernel
theorem dL_tools_111 : decode cL_tools 111 = .ok (.iconst 1, 1) := by decide +kernel
theorem dL_tools_112 : decode cL_tools 112 = .ok (.if_icmp .ne 152, 3) := by decide +kernel
theorem dL_tools_115 : decode cL_tools 115 = .ok (.aload_n 0, 1) := by decide +kernel
theorem dL_tools_116 : decode cL_tools 116 = .ok (.iload 5, 2) := by decide +kernel
theorem dL_tools_118 : decode cL_tools 118 = .ok (.iconst 0, 1) := by decide +kernel
theorem dL_tools_119 : decode cL_tools 119 = .ok (.invokevirtual 19, 3) := by decide +kernel
theorem dL_tools_122 : decode cL_tools 122 = .ok (.aload_n 0, 1) := by decide +kernel
theorem dL_tools_123 : decode cL_tools 123 = .ok (.iload 5, 2) := by decide +kernel
theorem dL_tools_125 : decode cL_tools 125 = .ok (.iconst 1, 1) := by decide +kernel
theorem dL_tools_126 : decode cL_tools 126 = .ok (.invokevirtual 19, 3) := by decide +kernel
theorem dL_tools_129 : decode cL_tools 129 = .ok (.imul, 1) := by decide +kernel
theorem dL_tools_130 : decode cL_tools 130 = .ok (.istore 6, 2) := by decide +kernel
theorem dL_tools_132 : decode cL_tools 132 = .ok (.iload_n 3, 1) := by decide +kernel
theorem dL_tools_133 : decode cL_tools 133 = .ok (.iconst 2, 1) := by decide +kernel
theorem dL_tools_134 : decode cL_tools 134 = .ok (.iload 6, 2) := by decide +kernel
theorem dL_tools_136 : decode cL_tools 136 = .ok (.imul, 1) := by decide +kernel
theorem dL_tools_137 : decode cL_tools 137 = .ok (.iconst 1, 1) := by decide +kernel
theorem dL_tools_138 : decode cL_tools 138 = .ok (.iadd, 1) := by decide +kernel
theorem dL_tools_139 : decode cL_tools 139 = .ok (.invokestatic 57, 3) := by decide +kernel
theorem dL_tools_142 : decode cL_tools 142 = .ok (.iload 6, 2) := by decide +kernel
theorem dL_tools_144 : decode cL_tools 144 = .ok (.isub, 1) := by decide +kernel
theorem dL_tools_145 : decode cL_tools 145 = .ok (.istore 7, 2) := by decide +kernel
theorem dL_tools_147 : decode cL_tools 147 = .ok (.iload_n 3, 1) := by decide +kernel
theorem dL_tools_148 : decode cL_tools 148 = .ok (.bipush 7, 2) := by decide +kernel
theorem dL_tools_150 : decode cL_tools 150 = .ok (.ishr, 1) := by decide +kernel
theorem dL_tools_151 : decode cL_tools 151 = .ok (.bipush 21, 2) := by decide +kernel
theorem dL_tools_153 : decode cL_tools 153 = .ok (.invokestatic 57, 3) := by decide +kernel
theorem dL_tools_156 : decode cL_tools 156 = .ok (.istore 8, 2) := by decide +kernel
theorem dL_tools_158 : decode cL_tools 158 = .ok (.aload_n 0, 1) := by decide +kernel
theorem dL_tools_159 : decode cL_tools 159 = .ok (.iload 5, 2) := by decide +kernel
theorem dL_tools_161 : decode cL_tools 161 = .ok (.iconst 4, 1) := by decide +kernel
theorem dL_tools_162 : decode cL_tools 162 = .ok (.invokevirtual 19, 3) := by decide +kernel
theorem dL_tools_165 : decode cL_tools 165 = .ok (.istore 9, 2) := by decide +kernel
theorem dL_tools_167 : decode cL_tools 167 = .ok (.iload 9, 2) := by decide +kernel
theorem dL_tools_169 : decode cL_tools 169 = .ok (.iload 7, 2) := by decide +kernel
theorem dL_tools_171 : decode cL_tools 171 = .ok (.if_icmp .ne 19, 3) := by decide +kernel
theorem dL_tools_174 : decode cL_tools 174 = .ok (.aload_n 0, 1) := by decide +kernel
theorem dL_tools_175 : decode cL_tools 175 = .ok (.iload 5, 2) := by decide +kernel
theorem dL_tools_177 : decode cL_tools 177 = .ok (.iconst 5, 1) := by decide +kernel
theorem dL_tools_178 : decode cL_tools 178 = .ok (.invokevirtual 19, 3) := by decide +kernel
theorem dL_tools_181 : decode cL_tools 181 = .ok (.iload 8, 2) := by decide +kernel
theorem dL_tools_183 : decode cL_tools 183 = .ok (.if_icmp .ne 7, 3) := by decide +kernel
theorem dL_tools_186 : decode cL_tools 186 = .ok (.iconst 1, 1) := by decide +kernel
theorem dL_tools_187 : decode cL_tools 187 = .ok (.goto 4, 3) := by decide +kernel
theorem dL_tools_190 : decode cL_tools 190 = .ok (.iconst 0, 1) := by decide +kernel
theorem dL_tools_191 : decode cL_tools 191 = .ok (.istore 10, 2) := by decide +kernel
theorem dL_tools_193 : decode cL_tools 193 = .ok (.aload_n 0, 1) := by decide +kernel
theorem dL_tools_194 : decode cL_tools 194 = .ok (.iload 5, 2) := by decide +kernel
theorem dL_tools_196 : decode cL_tools 196 = .ok (.iload 7, 2) := by decide +kernel
theorem dL_tools_198 : decode cL_tools 198 = .ok (.iload 8, 2) := by decide +kernel
theorem dL_tools_200 : decode cL_tools 200 = .ok (.invokevirtual 65, 3) := by decide +kernel
theorem dL_tools_203 : decode cL_tools 203 = .ok (.iload 10, 2) := by decide +kernel
theorem dL_tools_205 : decode cL_tools 205 = .ok (.ifCond .eq 8, 3) := by decide +kernel
theorem dL_tools_208 : decode cL_tools 208 = .ok (.ldc 37, 2) := by decide +kernel
theorem dL_tools_210 : decode cL_tools 210 = .ok (.goto 5, 3) := by decide +kernel
theorem dL_tools_213 : decode cL_tools 213 = .ok (.iload 9, 2) := by decide +kernel
theorem dL_tools_215 : decode cL_tools 215 = .ok (.if_icmp .ne 47, 3) := by decide +kernel
theorem dL_tools_218 : decode cL_tools 218 = .ok (.aload_n 0, 1) := by decide +kernel
theorem dL_tools_219 : decode cL_tools 219 = .ok (.iload 5, 2) := by decide +kernel
theorem dL_tools_221 : decode cL_tools 221 = .ok (.iconst 4, 1) := by decide +kernel
theorem dL_tools_222 : decode cL_tools 222 = .ok (.invokevirtual 19, 3) := by decide +kernel
theorem dL_tools_225 : decode cL_tools 225 = .ok (.iload 7, 2) := by decide +kernel
theorem dL_tools_227 : decode cL_tools 227 = .ok (.if_icmp .ne 35, 3) := by decide +kernel
theorem dL_tools_230 : decode cL_tools 230 = .ok (.aload_n 0, 1) := by decide +kernel
theorem dL_tools_231 : decode cL_tools 231 = .ok (.iload 5, 2) := by decide +kernel
theorem dL_tools_233 : decode cL_tools 233 = .ok (.iconst 5, 1) := by decide +kernel
theorem dL_tools_234 : decode cL_tools 234 = .ok (.invokevirtual 19, 3) := by decide +kernel
theorem dL_tools_237 : decode cL_tools 237 = .ok (.iload 8, 2) := by decide +kernel
theorem dL_tools_239 : decode cL_tools 239 = .ok (.if_icmp .ne 23, 3) := by decide +kernel
theorem dL_tools_242 : decode cL_tools 242 = .ok (.aload_n 0, 1) := by decide +kernel
theorem dL_tools_243 : decode cL_tools 243 = .ok (.iload 5, 2) := by decide +kernel
theorem dL_tools_245 : decode cL_tools 245 = .ok (.iload 6, 2) := by decide +kernel
theorem dL_tools_247 : decode cL_tools 247 = .ok (.iconst 1, 1) := by decide +kernel
theorem dL_tools_248 : decode cL_tools 248 = .ok (.iadd, 1) := by decide +kernel
theorem dL_tools_249 : decode cL_tools 249 = .ok (.iconst 0, 1) := by decide +kernel
theorem dL_tools_250 : decode cL_tools 250 = .ok (.invokevirtual 65, 3) := by decide +kernel
theorem dL_tools_253 : decode cL_tools 253 = .ok (.ldc 38, 2) := by decide +kernel
theorem dL_tools_255 : decode cL_tools 255 = .ok (.if_icmp .ne 7, 3) := by decide +kernel
theorem dL_tools_258 : decode cL_tools 258 = .ok (.iconst 1, 1) := by decide +kernel
theorem dL_tools_259 : decode cL_tools 259 = .ok (.goto 4, 3) := by decide +kernel
theorem dL_tools_262 : decode cL_tools 262 = .ok (.iconst 0, 1) := by decide +kernel
theorem dL_tools_263 : decode cL_tools 263 = .ok (.ireturn, 1) := by decide +kernel
theorem dL_tools_264 : decode cL_tools 264 = .ok (.iload_n 1, 1) := by decide +kernel
theorem dL_tools_265 : decode cL_tools 265 = .ok (.iconst 2, 1) := by decide +kernel
theorem dL_tools_266 : decode cL_tools 266 = .ok (.if_icmp .ne 82, 3) := by decide +kernel
theorem dL_tools_269 : decode cL_tools 269 = .ok (.aload_n 0, 1) := by decide +kernel
theorem dL_tools_270 : decode cL_tools 270 = .ok (.iload 5, 2) := by decide +kernel
theorem dL_tools_272 : decode cL_tools 272 = .ok (.bipush 6, 2) := by decide +kernel
theorem dL_tools_274 : decode cL_tools 274 = .ok (.invokevirtual 19, 3) := by decide +kernel
theorem dL_tools_277 : decode cL_tools 277 = .ok (.istore 6, 2) := by decide +kernel
theorem dL_tools_279 : decode cL_tools 279 = .ok (.iload_n 3, 1) := by decide +kernel
theorem dL_tools_280 : decode cL_tools 280 = .ok (.iconst 4, 1) := by decide +kernel
theorem dL_tools_281 : decode cL_tools 281 = .ok (.invokestatic 57, 3) := by decide +kernel
theorem dL_tools_284 : decode cL_tools 284 = .ok (.istore 7, 2) := by decide +kernel
theorem dL_tools_286 : decode cL_tools 286 = .ok (.aload_n 0, 1) := by decide +kernel
theorem dL_tools_287 : decode cL_tools 287 = .ok (.iload 5, 2) := by decide +kernel
theorem dL_tools_289 : decode cL_tools 289 = .ok (.iload 7, 2) := by decide +kernel
theorem dL_tools_291 : decode cL_tools 291 = .ok (.invokevirtual 68, 3) := by decide +kernel
theorem dL_tools_294 : decode cL_tools 294 = .ok (.iload 6, 2) := by decide +kernel
theorem dL_tools_296 : decode cL_tools 296 = .ok (.iload 7, 2) := by decide +kernel
theorem dL_tools_298 : decode cL_tools 298 = .ok (.if_icmp .ne 8, 3) := by decide +kernel
theorem dL_tools_301 : decode cL_tools 301 = .ok (.ldc 37, 2) := by decide +kernel
theorem dL_tools_303 : decode cL_tools 303 = .ok (.goto 5, 3) := by decide +kernel
theorem dL_tools_306 : decode cL_tools 306 = .ok (.iload 6, 2) := by decide +kernel
theorem dL_tools_308 : decode cL_tools 308 = .ok (.if_icmp .ne 38, 3) := by decide +kernel
theorem dL_tools_311 : decode cL_tools 311 = .ok (.aload_n 0, 1) := by decide +kernel
theorem dL_tools_312 : decode cL_tools 312 = .ok (.iload 5, 2) := by decide +kernel
theorem dL_tools_314 : decode cL_tools 314 = .ok (.bipush 6, 2) := by decide +kernel
theorem dL_tools_316 : decode cL_tools 316 = .ok (.invokevirtual 19, 3) := by decide +kernel
theorem dL_tools_319 : decode cL_tools 319 = .ok (.iload 7, 2) := by decide +kernel
theorem dL_tools_321 : decode cL_tools 321 = .ok (.if_icmp .ne 25, 3) := by decide +kernel
theorem dL_tools_324 : decode cL_tools 324 = .ok (.iload 6, 2) := by decide +kernel
theorem dL_tools_326 : decode cL_tools 326 = .ok (.iload 7, 2) := by decide +kernel
theorem dL_tools_328 : decode cL_tools 328 = .ok (.if_icmp .eq 14, 3) := by decide +kernel
theorem dL_tools_331 : decode cL_tools 331 = .ok (.aload_n 0, 1) := by decide +kernel
theorem dL_tools_332 : decode cL_tools 332 = .ok (.iload 5, 2) := by decide +kernel
theorem dL_tools_334 : decode cL_tools 334 = .ok (.bipush 7, 2) := by decide +kernel
theorem dL_tools_336 : decode cL_tools 336 = .ok (.invokevirtual 19, 3) := by decide +kernel
theorem dL_tools_339 : decode cL_tools 339 = .ok (.ifCond .ne 7, 3) := by decide +kernel
theorem dL_tools_342 : decode cL_tools 342 = .ok (.iconst 1, 1) := by decide +kernel
theorem dL_tools_343 : decode cL_tools 343 = .ok (.goto 4, 3) := by decide +kernel
theorem dL_tools_346 : decode cL_tools 346 = .ok (.iconst 0, 1) := by decide +kernel
theorem dL_tools_347 : decode cL_tools 347 = .ok (.ireturn, 1) := by decide +kernel
theorem dL_tools_348 : decode cL_tools 348 = .ok (.aload_n 0, 1) := by decide +kernel
theorem dL_tools_349 : decode cL_tools 349 = .ok (.iload 5, 2) := by decide +kernel
theorem dL_tools_351 : decode cL_tools 351 = .ok (.bipush 6, 2) := by decide +kernel
theorem dL_tools_353 : decode cL_tools 353 = .ok (.invokevirtual 19, 3) := by decide +kernel
theorem dL_tools_356 : decode cL_tools 356 = .ok (.istore 6, 2) := by decide +kernel
theorem dL_tools_358 : decode cL_tools 358 = .ok (.aload_n 0, 1) := by decide +kernel
theorem dL_tools_359 : decode cL_tools 359 = .ok (.iload 5, 2) := by decide +kernel
theorem dL_tools_361 : decode cL_tools 361 = .ok (.bipush 7, 2) := by decide +kernel
theorem dL_tools_363 : decode cL_tools 363 = .ok (.invokevirtual 19, 3) := by decide +kernel
theorem dL_tools_366 : decode cL_tools 366 = .ok (.iconst 1, 1) := by decide +kernel
theorem dL_tools_367 : decode cL_tools 367 = .ok (.if_icmp .ne 7, 3) := by decide +kernel
theorem dL_tools_370 : decode cL_tools 370 = .ok (.iconst 1, 1) := by decide +kernel
theorem dL_tools_371 : decode cL_tools 371 = .ok (.goto 4, 3) := by decide +kernel
theorem dL_tools_374 : decode cL_tools 374 = .ok (.iconst 0, 1) := by decide +kernel
theorem dL_tools_375 : decode cL_tools 375 = .ok (.istore 7, 2) := by decide +kernel
theorem dL_tools_377 : decode cL_tools 377 = .ok (.iconst 0, 1) := by decide +kernel
theorem dL_tools_378 : decode cL_tools 378 = .ok (.istore 8, 2) := by decide +kernel
theorem dL_tools_380 : decode cL_tools 380 = .ok (.iconst 0, 1) := by decide +kernel
theorem dL_tools_381 : decode cL_tools 381 = .ok (.istore 9, 2) := by decide +kernel
theorem dL_tools_383 : decode cL_tools 383 = .ok (.iload 9, 2) := by decide +kernel
theorem dL_tools_385 : decode cL_tools 385 = .ok (.aload_n 0, 1) := by decide +kernel
theorem dL_tools_386 : decode cL_tools 386 = .ok (.iconst 1, 1) := by decide +kernel
theorem dL_tools_387 : decode cL_tools 387 = .ok (.invokevirtual 13, 3) := by decide +kernel
theorem dL_tools_390 : decode cL_tools 390 = .ok (.if_icmp .ge 41, 3) := by decide +kernel
theorem dL_tools_393 : decode cL_tools 393 = .ok (.iload 6, 2) := by decide +kernel
theorem dL_tools_395 : decode cL_tools 395 = .ok (.ifCond .le 36, 3) := by decide +kernel
theorem dL_tools_398 : decode cL_tools 398 = .ok (.iload 8, 2) := by decide +kernel
theorem dL_tools_400 : decode cL_tools 400 = .ok (.aload_n 0, 1) := by decide +kernel
theorem dL_tools_401 : decode cL_tools 401 = .ok (.iload 9, 2) := by decide +kernel
theorem dL_tools_403 : decode cL_tools 403 = .ok (.iconst 2, 1) := by decide +kernel
theorem dL_tools_404 : decode cL_tools 404 = .ok (.invokevirtual 23, 3) := by decide +kernel
theorem dL_tools_407 : decode cL_tools 407 = .ok (.iload 6, 2) := by decide +kernel
theorem dL_tools_409 : decode cL_tools 409 = .ok (.iconst 1, 1) := by decide +kernel
theorem dL_tools_410 : decode cL_tools 410 = .ok (.isub, 1) := by decide +kernel
theorem dL_tools_411 : decode cL_tools 411 = .ok (.ishr, 1) := by decide +kernel
theorem dL_tools_412 : decode cL_tools 412 = .ok (.iconst 1, 1) := by decide +kernel
theorem dL_tools_413 : decode cL_tools 413 = .ok (.iand, 1) := by decide +kernel
theorem dL_tools_414 : decode cL_tools 414 = .ok (.ifCond .ne 7, 3) := by decide +kernel
theorem dL_tools_417 : decode cL_tools 417 = .ok (.iconst 1, 1) := by decide +kernel
theorem dL_tools_418 : decode cL_tools 418 = .ok (.goto 4, 3) := by decide +kernel
theorem dL_tools_421 : decode cL_tools 421 = .ok (.iconst 0, 1) := by decide +kernel
theorem dL_tools_422 : decode cL_tools 422 = .ok (.iadd, 1) := by decide +kernel
theorem dL_tools_423 : decode cL_tools 423 = .ok (.istore 8, 2) := by decide +kernel
theorem dL_tools_425 : decode cL_tools 425 = .ok (.iinc 9 1, 3) := by decide +kernel
theorem dL_tools_428 : decode cL_tools 428 = .ok (.goto (-45), 3) := by decide +kernel
theorem dL_tools_431 : decode cL_tools 431 = .ok (.aload_n 0, 1) := by decide +kernel
theorem dL_tools_432 : decode cL_tools 432 = .ok (.iload 5, 2) := by decide +kernel
theorem dL_tools_434 : decode cL_tools 434 = .ok (.invokevirtual 71, 3) := by decide +kernel
theorem dL_tools_437 : decode cL_tools 437 = .ok (.iload 6, 2) := by decide +kernel
theorem dL_tools_439 : decode cL_tools 439 = .ok (.ifCond .ne 8, 3) := by decide +kernel
theorem dL_tools_442 : decode cL_tools 442 = .ok (.ldc 74, 2) := by decide +kernel
theorem dL_tools_444 : decode cL_tools 444 = .ok (.goto 15, 3) := by decide +kernel
theorem dL_tools_447 : decode cL_tools 447 = .ok (.iload 7, 2) := by decide +kernel
theorem dL_tools_449 : decode cL_tools 449 = .ok (.ifCond .eq 8, 3) := by decide +kernel
theorem dL_tools_452 : decode cL_tools 452 = .ok (.ldc 37, 2) := by decide +kernel
theorem dL_tools_454 : decode cL_tools 454 = .ok (.goto 5, 3) := by decide +kernel
theorem dL_tools_457 : decode cL_tools 457 = .ok (.iload 8, 2) := by decide +kernel
theorem dL_tools_459 : decode cL_tools 459 = .ok (.if_icmp .ne 24, 3) := by decide +kernel
theorem dL_tools_462 : decode cL_tools 462 = .ok (.iload 6, 2) := by decide +kernel
theorem dL_tools_464 : decode cL_tools 464 = .ok (.ifCond .eq 15, 3) := by decide +kernel
theorem dL_tools_467 : decode cL_tools 467 = .ok (.aload_n 0, 1) := by decide +kernel
theorem dL_tools_468 : decode cL_tools 468 = .ok (.iload 5, 2) := by decide +kernel
theorem dL_tools_470 : decode cL_tools 470 = .ok (.bipush 7, 2) := by decide +kernel
theorem dL_tools_472 : decode cL_tools 472 = .ok (.invokevirtual 19, 3) := by decide +kernel
theorem dL_tools_475 : decode cL_tools 475 = .ok (.iconst 1, 1) := by decide +kernel
theorem dL_tools_476 : decode cL_tools 476 = .ok (.if_icmp .ne 7, 3) := by decide +kernel
theorem dL_tools_479 : decode cL_tools 479 = .ok (.iconst 1, 1) := by decide +kernel
theorem dL_tools_480 : decode cL_tools 480 = .ok (.goto 4, 3) := by decide +kernel
theorem dL_tools_483 : decode cL_tools 483 = .ok (.iconst 0, 1) := by decide +kernel
theorem dL_tools_484 : decode cL_tools 484 = .ok (.ireturn, 1) := by decide +kernel
def f_L_tools_b79    (σ : Sg) (w0 : Int32) (w1 : Int32) : Option (Int32 × Sg) := if w1 = w0 then ((f_X4_addInstrument σ (51 : Int32) (1 : Int32) (2 : Int32) (0 : Int32)).bind fun q14 => lts q14.2 fun σ12 => lt q14.1 fun r11 => if r11 = (-10000002 : Int32) then (some ((1 : Int32), σ12)) else none) else none
def f_L_tools_b58    (σ : Sg) (v4 : Int32) (w0 : Int32) (w1 : Int32) (w2 : Int32) (w3 : Int32) : Option (Int32 × Sg) := (f_X4_addInstrument σ w3 w2 w1 w0).bind fun q15 => lts q15.2 fun σ8 => lt q15.1 fun r7 => if v4 = (10 : Int32) then (f_L_tools_b79 σ8 (-10000003 : Int32) r7) else (f_L_tools_b79 σ8 v4 r7)
def f_L_tools_b16    (σ : Sg) (v3 : Int32) (v4 : Int32) : Option (Int32 × Sg) := (f_L_low σ v3 (30 : Int32)).bind fun r3 => (f_L_low σ (v3 >>> ((5 : Int32) &&& 31)) (12 : Int32)).bind fun r4 => (f_L_low σ (v3 >>> ((9 : Int32) &&& 31)) (12 : Int32)).bind fun r5 => if (v3 &&& (1 : Int32)) = (1 : Int32) then (f_L_tools_b58 σ v4 (1 : Int32) ((2 : Int32) + r5) ((1 : Int32) + r4) ((2 : Int32) + r3)) else (f_L_tools_b58 σ v4 (0 : Int32) ((2 : Int32) + r5) ((1 : Int32) + r4) ((2 : Int32) + r3))
def f_L_tools_b479    (σ : Sg)  : Option (Int32 × Sg) := some ((1 : Int32), σ)
def f_L_tools_b459    (σ : Sg) (v5 : Int32) (v6 : Int32) (w0 : Int32) (w1 : Int32) : Option (Int32 × Sg) := if w1 = w0 then (if v6 = 0 then (f_L_tools_b479 σ) else ((f_X4_instrument σ v5 (7 : Int32)).bind fun r31 => if r31 = (1 : Int32) then (f_L_tools_b479 σ) else none)) else none
def f_L_tools_b431    (σ : Sg) (v5 : Int32) (v6 : Int32) (v7 : Int32) (v8 : Int32) : Option (Int32 × Sg) := (f_X4_announce σ v5).bind fun q33 => lts q33.2 fun σ26 => lt q33.1 fun r25 => if v6 = 0 then (f_L_tools_b459 σ26 v5 v6 (-10000004 : Int32) r25) else (if v7 = 0 then (f_L_tools_b459 σ26 v5 v6 v8 r25) else (f_L_tools_b459 σ26 v5 v6 (-10000005 : Int32) r25))
def f_L_tools_b422   (K383 : Sg → Int32 → Int32 → Int32 → Int32 → Int32 → Option (Int32 × Sg)) (σ : Sg) (v5 : Int32) (v6 : Int32) (v7 : Int32) (v9 : Int32) (w0 : Int32) (w1 : Int32) : Option (Int32 × Sg) := lt (w1 + w0) fun x37 => lt (v9 + (1 : Int32)) fun x38 => K383 σ v5 v6 v7 x37 x38
def f_L_tools_b383    : Nat → Sg → Int32 → Int32 → Int32 → Int32 → Int32 → Option (Int32 × Sg)
  | 0, _, _, _, _, _, _ => none
  | n + 1, σ, v5, v6, v7, v8, v9 => (f_X4_count σ (1 : Int32)).bind fun r23 => if r23 ≤ v9 then (f_L_tools_b431 σ v5 v6 v7 v8) else (if v6 ≤ 0 then (f_L_tools_b431 σ v5 v6 v7 v8) else ((f_X4_pupil σ v9 (2 : Int32)).bind fun r35 => if ((r35 >>> ((v6 - (1 : Int32)) &&& 31)) &&& (1 : Int32)) = 0 then (f_L_tools_b422 (f_L_tools_b383   n) σ v5 v6 v7 v9 (1 : Int32) v8) else (f_L_tools_b422 (f_L_tools_b383   n) σ v5 v6 v7 v9 (0 : Int32) v8)))
def f_L_tools_b375    (σ : Sg) (v5 : Int32) (v6 : Int32) (w0 : Int32) : Option (Int32 × Sg) := f_L_tools_b383 fuel σ v5 v6 w0 (0 : Int32) (0 : Int32)
def f_L_tools_b342    (σ : Sg)  : Option (Int32 × Sg) := some ((1 : Int32), σ)
def f_L_tools_b308    (σ : Sg) (v5 : Int32) (v6 : Int32) (v7 : Int32) (w0 : Int32) (w1 : Int32) : Option (Int32 × Sg) := if w1 = w0 then ((f_X4_instrument σ v5 (6 : Int32)).bind fun r45 => if r45 = v7 then (if v6 = v7 then (f_L_tools_b342 σ) else ((f_X4_instrument σ v5 (7 : Int32)).bind fun r48 => if r48 = 0 then (f_L_tools_b342 σ) else none)) else none) else none
def f_L_tools_b215    (σ : Sg) (v5 : Int32) (v6 : Int32) (v7 : Int32) (v8 : Int32) (w0 : Int32) (w1 : Int32) : Option (Int32 × Sg) := if w1 = w0 then ((f_X4_instrument σ v5 (4 : Int32)).bind fun r63 => if r63 = v7 then ((f_X4_instrument σ v5 (5 : Int32)).bind fun r65 => if r65 = v8 then ((f_X4_adjust σ v5 (v6 + (1 : Int32)) (0 : Int32)).bind fun q70 => lts q70.2 fun σ68 => lt q70.1 fun r67 => if r67 = (-10000002 : Int32) then (some ((1 : Int32), σ68)) else none) else none) else none) else none
def f_L_tools_b191    (σ : Sg) (v5 : Int32) (v6 : Int32) (v7 : Int32) (v8 : Int32) (v9 : Int32) (w0 : Int32) : Option (Int32 × Sg) := (f_X4_adjust σ v5 v7 v8).bind fun q71 => lts q71.2 fun σ60 => lt q71.1 fun r59 => if w0 = 0 then (f_L_tools_b215 σ60 v5 v6 v7 v8 v9 r59) else (f_L_tools_b215 σ60 v5 v6 v7 v8 (-10000005 : Int32) r59)
def f_L_tools_b190    (σ : Sg) (v5 : Int32) (v6 : Int32) (v7 : Int32) (v8 : Int32) (v9 : Int32) : Option (Int32 × Sg) := f_L_tools_b191 σ v5 v6 v7 v8 v9 (0 : Int32)
def f_L_tools (σ : Sg)  (p1 p2 p3 : Int32) : Option (Int32 × Sg) := (f_X4_count σ (0 : Int32)).bind fun r1 => if r1 = 0 then (f_L_tools_b16 σ p3 r1) else (if p1 = 0 then (f_L_tools_b16 σ p3 r1) else ((f_L_low σ p2 r1).bind fun r17 => if p1 = (1 : Int32) then ((f_X4_instrument σ r17 (0 : Int32)).bind fun r51 => (f_X4_instrument σ r17 (1 : Int32)).bind fun r52 => lt (r51 * r52) fun x53 => (f_L_low σ p3 (((2 : Int32) * x53) + (1 : Int32))).bind fun r54 => lt (r54 - x53) fun x55 => (f_L_low σ (p3 >>> ((7 : Int32) &&& 31)) (21 : Int32)).bind fun r56 => (f_X4_instrument σ r17 (4 : Int32)).bind fun r57 => if r57 = x55 then ((f_X4_instrument σ r17 (5 : Int32)).bind fun r72 => if r72 = r56 then (f_L_tools_b191 σ r17 x53 x55 r56 r57 (1 : Int32)) else (f_L_tools_b190 σ r17 x53 x55 r56 r57)) else (f_L_tools_b190 σ r17 x53 x55 r56 r57)) else (if p1 = (2 : Int32) then ((f_X4_instrument σ r17 (6 : Int32)).bind fun r39 => (f_L_low σ p3 (4 : Int32)).bind fun r40 => (f_X4_setTrap σ r17 r40).bind fun q50 => lts q50.2 fun σ42 => lt q50.1 fun r41 => if r39 = r40 then (f_L_tools_b308 σ42 r17 r39 r40 (-10000005 : Int32) r41) else (f_L_tools_b308 σ42 r17 r39 r40 r39 r41)) else ((f_X4_instrument σ r17 (6 : Int32)).bind fun r20 => (f_X4_instrument σ r17 (7 : Int32)).bind fun r21 => if r21 = (1 : Int32) then (f_L_tools_b375 σ r17 r20 (1 : Int32)) else (f_L_tools_b375 σ r17 r20 (0 : Int32))))))
set_option maxHeartbeats 4000000 in
set_option maxRecDepth 100000 in
theorem L_L_tools_b79 {Γ : Cx} (G : va_G) (cls : Cls) (ad : Nat → Nat) (hi : inj 49 ad) (hC : CX Γ (YX G cls ad) cL_tools RL 11 (some .boolean) 5 116) (hz0 : Γ.2.2.2.2.2.1 = 0) (hz1 : Γ.2.2.2.2.2.2 = 0)     (σ : Sg) (w0 : Int32) (w1 : Int32) : WX Γ (YX G cls ad) (qf Γ (YX G cls ad) fiS) 11 79 [(0, .ref (ad 25))] [.int w0, .int w1] σ (f_L_tools_b79   σ w0 w1) := by
  unfold f_L_tools_b79
  refine X_icmp_ne hC 100 dL_tools_79 (by decide) (fun h10 => ?_) (fun h10 => ?_)
  · refine X_iconst (v := 0) hC (by decide) dL_tools_100 ?_
    exact X_none
  · refine X_aload_n hC 0 rfl dL_tools_82 ?_
    refine X_bipush (v := 51) hC (by decide) dL_tools_83 ?_
    refine X_iconst (v := 1) hC (by decide) dL_tools_85 ?_
    refine X_iconst (v := 2) hC (by decide) dL_tools_86 ?_
    refine X_iconst (v := 0) hC (by decide) dL_tools_87 ?_
    refine X_callS (C := RX4) (T := TX4) (N := 5) (ci := 4) (rest := []) hC (c_X4_addInstrument _ G cls ad hi σ (51 : Int32) (1 : Int32) (2 : Int32) (0 : Int32)) (gV tw_433 tw_434 tw_435 tw_1 tw_436) rfl (wX (k := 25) (by omega) cX_vs) rfl rfl okm_X4_addInstrument (by decide) dL_tools_88 rfl (Nat.le_of_ble_eq_true rfl) (fun q14 => X_lts fun σ12 => X_lt fun r11 => ?_)
    refine X_ldc (v := -10000002) hC tw_388 dL_tools_91 ?_
    refine X_icmp_ne hC 100 dL_tools_93 (by decide) (fun h13 => ?_) (fun h13 => ?_)
    · refine X_iconst (v := 0) hC (by decide) dL_tools_100 ?_
      exact X_none
    · refine X_iconst (v := 1) hC (by decide) dL_tools_96 ?_
      refine X_goto hC 101 dL_tools_97 (by decide) ?_
      exact X_zret hC hz0 hz1 rfl dL_tools_101 rfl
set_option maxHeartbeats 4000000 in
set_option maxRecDepth 100000 in
theorem L_L_tools_b58 {Γ : Cx} (G : va_G) (cls : Cls) (ad : Nat → Nat) (hi : inj 49 ad) (hC : CX Γ (YX G cls ad) cL_tools RL 11 (some .boolean) 5 116) (hz0 : Γ.2.2.2.2.2.1 = 0) (hz1 : Γ.2.2.2.2.2.2 = 0)     (σ : Sg) (v4 : Int32) (w0 : Int32) (w1 : Int32) (w2 : Int32) (w3 : Int32) : WX Γ (YX G cls ad) (qf Γ (YX G cls ad) fiS) 11 58 [(0, .ref (ad 25)), (4, .int v4)] [.int w0, .int w1, .int w2, .int w3, .ref (ad 25)] σ (f_L_tools_b58   σ v4 w0 w1 w2 w3) := by
  unfold f_L_tools_b58
  refine X_callS (C := RX4) (T := TX4) (N := 5) (ci := 4) (rest := []) hC (c_X4_addInstrument _ G cls ad hi σ w3 w2 w1 w0) (gV tw_433 tw_434 tw_435 tw_1 tw_436) rfl (wX (k := 25) (by omega) cX_vs) rfl rfl okm_X4_addInstrument (by decide) dL_tools_58 rfl (Nat.le_of_ble_eq_true rfl) (fun q15 => X_lts fun σ8 => X_lt fun r7 => ?_)
  refine X_istore (ls' := [(5, .int r7), (0, .ref (ad 25)), (4, .int v4)]) hC dL_tools_61 (by decide) rfl ?_
  refine X_iload hC 0 rfl dL_tools_63 ?_
  refine X_iload hC 2 rfl dL_tools_65 ?_
  refine X_bipush (v := 10) hC (by decide) dL_tools_67 ?_
  refine X_icmp_ne hC 77 dL_tools_69 (by decide) (fun h9 => ?_) (fun h9 => ?_)
  · refine X_iload hC 2 rfl dL_tools_77 ?_
    exact X_sub [1] rfl (L_L_tools_b79 G cls ad hi hC hz0 hz1 σ8 v4 r7)
  · refine X_ldc (v := -10000003) hC tw_443 dL_tools_72 ?_
    refine X_goto hC 79 dL_tools_74 (by decide) ?_
    exact X_sub [1] rfl (L_L_tools_b79 G cls ad hi hC hz0 hz1 σ8 (-10000003 : Int32) r7)
set_option maxHeartbeats 4000000 in
set_option maxRecDepth 100000 in
theorem L_L_tools_b16 {Γ : Cx} (G : va_G) (cls : Cls) (ad : Nat → Nat) (hi : inj 49 ad) (hC : CX Γ (YX G cls ad) cL_tools RL 11 (some .boolean) 5 116) (hz0 : Γ.2.2.2.2.2.1 = 0) (hz1 : Γ.2.2.2.2.2.2 = 0)     (σ : Sg) (v3 : Int32) (v4 : Int32) : WX Γ (YX G cls ad) (qf Γ (YX G cls ad) fiS) 11 16 [(0, .ref (ad 25)), (3, .int v3), (4, .int v4)] [] σ (f_L_tools_b16   σ v3 v4) := by
  unfold f_L_tools_b16
  refine X_aload_n hC 0 rfl dL_tools_16 ?_
  refine X_iconst (v := 2) hC (by decide) dL_tools_17 ?_
  refine X_iload_n hC 1 rfl dL_tools_18 ?_
  refine X_bipush (v := 30) hC (by decide) dL_tools_19 ?_
  refine X_statP (rest := [.int (2 : Int32), .ref (ad 25)]) hC (c_L_low _ G cls ad hi σ v3 (30 : Int32)) (gSt tw_358 tw_359 tw_0 tw_360) rfl okm_L_low (by decide) dL_tools_21 rfl (Nat.le_of_ble_eq_true rfl) (fun r3 => ?_)
  refine X_iadd hC dL_tools_24 ?_
  refine X_iconst (v := 1) hC (by decide) dL_tools_25 ?_
  refine X_iload_n hC 1 rfl dL_tools_26 ?_
  refine X_iconst (v := 5) hC (by decide) dL_tools_27 ?_
  refine X_ishr hC dL_tools_28 ?_
  refine X_bipush (v := 12) hC (by decide) dL_tools_29 ?_
  refine X_statP (rest := [.int (1 : Int32), .int ((2 : Int32) + r3), .ref (ad 25)]) hC (c_L_low _ G cls ad hi σ (v3 >>> ((5 : Int32) &&& 31)) (12 : Int32)) (gSt tw_358 tw_359 tw_0 tw_360) rfl okm_L_low (by decide) dL_tools_31 rfl (Nat.le_of_ble_eq_true rfl) (fun r4 => ?_)
  refine X_iadd hC dL_tools_34 ?_
  refine X_iconst (v := 2) hC (by decide) dL_tools_35 ?_
  refine X_iload_n hC 1 rfl dL_tools_36 ?_
  refine X_bipush (v := 9) hC (by decide) dL_tools_37 ?_
  refine X_ishr hC dL_tools_39 ?_
  refine X_bipush (v := 12) hC (by decide) dL_tools_40 ?_
  refine X_statP (rest := [.int (2 : Int32), .int ((1 : Int32) + r4), .int ((2 : Int32) + r3), .ref (ad 25)]) hC (c_L_low _ G cls ad hi σ (v3 >>> ((9 : Int32) &&& 31)) (12 : Int32)) (gSt tw_358 tw_359 tw_0 tw_360) rfl okm_L_low (by decide) dL_tools_42 rfl (Nat.le_of_ble_eq_true rfl) (fun r5 => ?_)
  refine X_iadd hC dL_tools_45 ?_
  refine X_iload_n hC 1 rfl dL_tools_46 ?_
  refine X_iconst (v := 1) hC (by decide) dL_tools_47 ?_
  refine X_iand hC dL_tools_48 ?_
  refine X_iconst (v := 1) hC (by decide) dL_tools_49 ?_
  refine X_icmp_ne hC 57 dL_tools_50 (by decide) (fun h6 => ?_) (fun h6 => ?_)
  · refine X_iconst (v := 0) hC (by decide) dL_tools_57 ?_
    exact X_sub [0, 2] rfl (L_L_tools_b58 G cls ad hi hC hz0 hz1 σ v4 (0 : Int32) ((2 : Int32) + r5) ((1 : Int32) + r4) ((2 : Int32) + r3))
  · refine X_iconst (v := 1) hC (by decide) dL_tools_53 ?_
    refine X_goto hC 58 dL_tools_54 (by decide) ?_
    exact X_sub [0, 2] rfl (L_L_tools_b58 G cls ad hi hC hz0 hz1 σ v4 (1 : Int32) ((2 : Int32) + r5) ((1 : Int32) + r4) ((2 : Int32) + r3))
set_option maxHeartbeats 4000000 in
set_option maxRecDepth 100000 in
theorem L_L_tools_b479 {Γ : Cx} (G : va_G) (cls : Cls) (ad : Nat → Nat) (hi : inj 49 ad) (hC : CX Γ (YX G cls ad) cL_tools RL 11 (some .boolean) 5 116) (hz0 : Γ.2.2.2.2.2.1 = 0) (hz1 : Γ.2.2.2.2.2.2 = 0)     (σ : Sg)  : WX Γ (YX G cls ad) (qf Γ (YX G cls ad) fiS) 11 479 [] [] σ (f_L_tools_b479   σ) := by
  unfold f_L_tools_b479
  refine X_iconst (v := 1) hC (by decide) dL_tools_479 ?_
  refine X_goto hC 484 dL_tools_480 (by decide) ?_
  exact X_zret hC hz0 hz1 rfl dL_tools_484 rfl
set_option maxHeartbeats 4000000 in
set_option maxRecDepth 100000 in
theorem L_L_tools_b459 {Γ : Cx} (G : va_G) (cls : Cls) (ad : Nat → Nat) (hi : inj 49 ad) (hC : CX Γ (YX G cls ad) cL_tools RL 11 (some .boolean) 5 116) (hz0 : Γ.2.2.2.2.2.1 = 0) (hz1 : Γ.2.2.2.2.2.2 = 0)     (σ : Sg) (v5 : Int32) (v6 : Int32) (w0 : Int32) (w1 : Int32) : WX Γ (YX G cls ad) (qf Γ (YX G cls ad) fiS) 11 459 [(0, .ref (ad 25)), (5, .int v5), (6, .int v6)] [.int w0, .int w1] σ (f_L_tools_b459   σ v5 v6 w0 w1) := by
  unfold f_L_tools_b459
  refine X_icmp_ne hC 483 dL_tools_459 (by decide) (fun h29 => ?_) (fun h29 => ?_)
  · refine X_iconst (v := 0) hC (by decide) dL_tools_483 ?_
    exact X_none
  · refine X_iload hC 2 rfl dL_tools_462 ?_
    refine X_if_eq hC 479 dL_tools_464 (by decide) (fun h30 => ?_) (fun h30 => ?_)
    · exact X_sub [] rfl (L_L_tools_b479 G cls ad hi hC hz0 hz1 σ)
    · refine X_aload_n hC 0 rfl dL_tools_467 ?_
      refine X_iload hC 1 rfl dL_tools_468 ?_
      refine X_bipush (v := 7) hC (by decide) dL_tools_470 ?_
      refine X_callP (C := RX4) (T := TX4) (N := 5) (ci := 4) (rest := []) hC (c_X4_instrument _ G cls ad hi σ v5 (7 : Int32)) (gV tw_367 tw_368 tw_369 tw_1 tw_370) rfl (wX (k := 25) (by omega) cX_vs) rfl rfl okm_X4_instrument (by decide) dL_tools_472 rfl (Nat.le_of_ble_eq_true rfl) (fun r31 => ?_)
      refine X_iconst (v := 1) hC (by decide) dL_tools_475 ?_
      refine X_icmp_ne hC 483 dL_tools_476 (by decide) (fun h32 => ?_) (fun h32 => ?_)
      · refine X_iconst (v := 0) hC (by decide) dL_tools_483 ?_
        exact X_none
      · exact X_sub [] rfl (L_L_tools_b479 G cls ad hi hC hz0 hz1 σ)
set_option maxHeartbeats 4000000 in
set_option maxRecDepth 100000 in
theorem L_L_tools_b431 {Γ : Cx} (G : va_G) (cls : Cls) (ad : Nat → Nat) (hi : inj 49 ad) (hC : CX Γ (YX G cls ad) cL_tools RL 11 (some .boolean) 5 116) (hz0 : Γ.2.2.2.2.2.1 = 0) (hz1 : Γ.2.2.2.2.2.2 = 0)     (σ : Sg) (v5 : Int32) (v6 : Int32) (v7 : Int32) (v8 : Int32) : WX Γ (YX G cls ad) (qf Γ (YX G cls ad) fiS) 11 431 [(0, .ref (ad 25)), (5, .int v5), (6, .int v6), (7, .int v7), (8, .int v8)] [] σ (f_L_tools_b431   σ v5 v6 v7 v8) := by
  unfold f_L_tools_b431
  refine X_aload_n hC 0 rfl dL_tools_431 ?_
  refine X_iload hC 1 rfl dL_tools_432 ?_
  refine X_callS (C := RX4) (T := TX4) (N := 5) (ci := 4) (rest := []) hC (c_X4_announce _ G cls ad hi σ v5) (gV tw_453 tw_454 tw_455 tw_1 tw_456) rfl (wX (k := 25) (by omega) cX_vs) rfl rfl okm_X4_announce (by decide) dL_tools_434 rfl (Nat.le_of_ble_eq_true rfl) (fun q33 => X_lts fun σ26 => X_lt fun r25 => ?_)
  refine X_iload hC 2 rfl dL_tools_437 ?_
  refine X_if_ne hC 447 dL_tools_439 (by decide) (fun h27 => ?_) (fun h27 => ?_)
  · refine X_iload hC 3 rfl dL_tools_447 ?_
    refine X_if_eq hC 457 dL_tools_449 (by decide) (fun h28 => ?_) (fun h28 => ?_)
    · refine X_iload hC 4 rfl dL_tools_457 ?_
      exact X_sub [0, 1, 2] rfl (L_L_tools_b459 G cls ad hi hC hz0 hz1 σ26 v5 v6 v8 r25)
    · refine X_ldc (v := -10000005) hC tw_387 dL_tools_452 ?_
      refine X_goto hC 459 dL_tools_454 (by decide) ?_
      exact X_sub [0, 1, 2] rfl (L_L_tools_b459 G cls ad hi hC hz0 hz1 σ26 v5 v6 (-10000005 : Int32) r25)
  · refine X_ldc (v := -10000004) hC tw_462 dL_tools_442 ?_
    refine X_goto hC 459 dL_tools_444 (by decide) ?_
    exact X_sub [0, 1, 2] rfl (L_L_tools_b459 G cls ad hi hC hz0 hz1 σ26 v5 v6 (-10000004 : Int32) r25)
set_option maxHeartbeats 4000000 in
set_option maxRecDepth 100000 in
theorem L_L_tools_b422 {Γ : Cx} (G : va_G) (cls : Cls) (ad : Nat → Nat) (hi : inj 49 ad) (hC : CX Γ (YX G cls ad) cL_tools RL 11 (some .boolean) 5 116) (hz0 : Γ.2.2.2.2.2.1 = 0) (hz1 : Γ.2.2.2.2.2.2 = 0)    (K383 : Sg → Int32 → Int32 → Int32 → Int32 → Int32 → Option (Int32 × Sg)) (hK383 : ∀ (σ : Sg) (v5 : Int32) (v6 : Int32) (v7 : Int32) (v8 : Int32) (v9 : Int32), WX Γ (YX G cls ad) (qf Γ (YX G cls ad) fiS) 11 383 [(0, .ref (ad 25)), (5, .int v5), (6, .int v6), (7, .int v7), (8, .int v8), (9, .int v9)] [] σ (K383 σ v5 v6 v7 v8 v9)) (σ : Sg) (v5 : Int32) (v6 : Int32) (v7 : Int32) (v9 : Int32) (w0 : Int32) (w1 : Int32) : WX Γ (YX G cls ad) (qf Γ (YX G cls ad) fiS) 11 422 [(0, .ref (ad 25)), (5, .int v5), (6, .int v6), (7, .int v7), (9, .int v9)] [.int w0, .int w1] σ (f_L_tools_b422  K383 σ v5 v6 v7 v9 w0 w1) := by
  unfold f_L_tools_b422
  refine X_iadd hC dL_tools_422 ?_
  refine X_lt (fun x37 => ?_)
  refine X_istore (ls' := [(8, .int x37), (0, .ref (ad 25)), (5, .int v5), (6, .int v6), (7, .int v7), (9, .int v9)]) hC dL_tools_423 (by decide) rfl ?_
  refine X_iinc (ls' := fun x38 => [(9, .int x38), (8, .int x37), (0, .ref (ad 25)), (5, .int v5), (6, .int v6), (7, .int v7)]) hC 5 dL_tools_425 rfl (by decide) (by decide) (fun _ => rfl) (fun x38 => ?_)
  refine X_goto hC 383 dL_tools_428 (by decide) ?_
  exact X_sub [2, 3, 4, 5, 1, 0] rfl (hK383 σ v5 v6 v7 x37 x38)
set_option maxHeartbeats 4000000 in
set_option maxRecDepth 100000 in
theorem L_L_tools_b383 {Γ : Cx} (G : va_G) (cls : Cls) (ad : Nat → Nat) (hi : inj 49 ad) (hC : CX Γ (YX G cls ad) cL_tools RL 11 (some .boolean) 5 116) (hz0 : Γ.2.2.2.2.2.1 = 0) (hz1 : Γ.2.2.2.2.2.2 = 0)     : ∀ (n : Nat) (σ : Sg) (v5 : Int32) (v6 : Int32) (v7 : Int32) (v8 : Int32) (v9 : Int32), WX Γ (YX G cls ad) (qf Γ (YX G cls ad) fiS) 11 383 [(0, .ref (ad 25)), (5, .int v5), (6, .int v6), (7, .int v7), (8, .int v8), (9, .int v9)] [] σ (f_L_tools_b383   n σ v5 v6 v7 v8 v9) := by
  intro n
  induction n with
  | zero => intro σ v5 v6 v7 v8 v9; exact X_none
  | succ n ih =>
    intro σ v5 v6 v7 v8 v9
    rw [f_L_tools_b383.eq_2]
    refine X_iload hC 5 rfl dL_tools_383 ?_
    refine X_aload_n hC 0 rfl dL_tools_385 ?_
    refine X_iconst (v := 1) hC (by decide) dL_tools_386 ?_
    refine X_callP (C := RX4) (T := TX4) (N := 5) (ci := 4) (rest := [.int v9]) hC (c_X4_count _ G cls ad hi σ (1 : Int32)) (gV tw_338 tw_339 tw_340 tw_1 tw_341) rfl (wX (k := 25) (by omega) cX_vs) rfl rfl okm_X4_count (by decide) dL_tools_387 rfl (Nat.le_of_ble_eq_true rfl) (fun r23 => ?_)
    refine X_icmp_ge hC 431 dL_tools_390 (by decide) (fun h24 => ?_) (fun h24 => ?_)
    · exact X_sub [0, 1, 2, 3, 4] rfl (L_L_tools_b431 G cls ad hi hC hz0 hz1 σ v5 v6 v7 v8)
    · refine X_iload hC 2 rfl dL_tools_393 ?_
      refine X_if_le hC 431 dL_tools_395 (by decide) (fun h34 => ?_) (fun h34 => ?_)
      · exact X_sub [0, 1, 2, 3, 4] rfl (L_L_tools_b431 G cls ad hi hC hz0 hz1 σ v5 v6 v7 v8)
      · refine X_iload hC 4 rfl dL_tools_398 ?_
        refine X_aload_n hC 0 rfl dL_tools_400 ?_
        refine X_iload hC 5 rfl dL_tools_401 ?_
        refine X_iconst (v := 2) hC (by decide) dL_tools_403 ?_
        refine X_callP (C := RX4) (T := TX4) (N := 5) (ci := 4) (rest := [.int v8]) hC (c_X4_pupil _ G cls ad hi σ v9 (2 : Int32)) (gV tw_371 tw_372 tw_373 tw_1 tw_374) rfl (wX (k := 25) (by omega) cX_vs) rfl rfl okm_X4_pupil (by decide) dL_tools_404 rfl (Nat.le_of_ble_eq_true rfl) (fun r35 => ?_)
        refine X_iload hC 2 rfl dL_tools_407 ?_
        refine X_iconst (v := 1) hC (by decide) dL_tools_409 ?_
        refine X_isub hC dL_tools_410 ?_
        refine X_ishr hC dL_tools_411 ?_
        refine X_iconst (v := 1) hC (by decide) dL_tools_412 ?_
        refine X_iand hC dL_tools_413 ?_
        refine X_if_ne hC 421 dL_tools_414 (by decide) (fun h36 => ?_) (fun h36 => ?_)
        · refine X_iconst (v := 0) hC (by decide) dL_tools_421 ?_
          exact X_sub [0, 1, 2, 3, 5] rfl (L_L_tools_b422 G cls ad hi hC hz0 hz1 (f_L_tools_b383   n) ih σ v5 v6 v7 v9 (0 : Int32) v8)
        · refine X_iconst (v := 1) hC (by decide) dL_tools_417 ?_
          refine X_goto hC 422 dL_tools_418 (by decide) ?_
          exact X_sub [0, 1, 2, 3, 5] rfl (L_L_tools_b422 G cls ad hi hC hz0 hz1 (f_L_tools_b383   n) ih σ v5 v6 v7 v9 (1 : Int32) v8)
set_option maxHeartbeats 4000000 in
set_option maxRecDepth 100000 in
theorem L_L_tools_b375 {Γ : Cx} (G : va_G) (cls : Cls) (ad : Nat → Nat) (hi : inj 49 ad) (hC : CX Γ (YX G cls ad) cL_tools RL 11 (some .boolean) 5 116) (hz0 : Γ.2.2.2.2.2.1 = 0) (hz1 : Γ.2.2.2.2.2.2 = 0)     (σ : Sg) (v5 : Int32) (v6 : Int32) (w0 : Int32) : WX Γ (YX G cls ad) (qf Γ (YX G cls ad) fiS) 11 375 [(0, .ref (ad 25)), (5, .int v5), (6, .int v6)] [.int w0] σ (f_L_tools_b375   σ v5 v6 w0) := by
  unfold f_L_tools_b375
  refine X_istore (ls' := [(7, .int w0), (0, .ref (ad 25)), (5, .int v5), (6, .int v6)]) hC dL_tools_375 (by decide) rfl ?_
  refine X_iconst (v := 0) hC (by decide) dL_tools_377 ?_
  refine X_istore (ls' := [(8, .int (0 : Int32)), (7, .int w0), (0, .ref (ad 25)), (5, .int v5), (6, .int v6)]) hC dL_tools_378 (by decide) rfl ?_
  refine X_iconst (v := 0) hC (by decide) dL_tools_380 ?_
  refine X_istore (ls' := [(9, .int (0 : Int32)), (8, .int (0 : Int32)), (7, .int w0), (0, .ref (ad 25)), (5, .int v5), (6, .int v6)]) hC dL_tools_381 (by decide) rfl ?_
  exact X_sub [3, 4, 5, 2, 1, 0] rfl (L_L_tools_b383 G cls ad hi hC hz0 hz1 fuel σ v5 v6 w0 (0 : Int32) (0 : Int32))
set_option maxHeartbeats 4000000 in
set_option maxRecDepth 100000 in
theorem L_L_tools_b342 {Γ : Cx} (G : va_G) (cls : Cls) (ad : Nat → Nat) (hi : inj 49 ad) (hC : CX Γ (YX G cls ad) cL_tools RL 11 (some .boolean) 5 116) (hz0 : Γ.2.2.2.2.2.1 = 0) (hz1 : Γ.2.2.2.2.2.2 = 0)     (σ : Sg)  : WX Γ (YX G cls ad) (qf Γ (YX G cls ad) fiS) 11 342 [] [] σ (f_L_tools_b342   σ) := by
  unfold f_L_tools_b342
  refine X_iconst (v := 1) hC (by decide) dL_tools_342 ?_
  refine X_goto hC 347 dL_tools_343 (by decide) ?_
  exact X_zret hC hz0 hz1 rfl dL_tools_347 rfl
set_option maxHeartbeats 4000000 in
set_option maxRecDepth 100000 in
theorem L_L_tools_b308 {Γ : Cx} (G : va_G) (cls : Cls) (ad : Nat → Nat) (hi : inj 49 ad) (hC : CX Γ (YX G cls ad) cL_tools RL 11 (some .boolean) 5 116) (hz0 : Γ.2.2.2.2.2.1 = 0) (hz1 : Γ.2.2.2.2.2.2 = 0)     (σ : Sg) (v5 : Int32) (v6 : Int32) (v7 : Int32) (w0 : Int32) (w1 : Int32) : WX Γ (YX G cls ad) (qf Γ (YX G cls ad) fiS) 11 308 [(0, .ref (ad 25)), (5, .int v5), (6, .int v6), (7, .int v7)] [.int w0, .int w1] σ (f_L_tools_b308   σ v5 v6 v7 w0 w1) := by
  unfold f_L_tools_b308
  refine X_icmp_ne hC 346 dL_tools_308 (by decide) (fun h44 => ?_) (fun h44 => ?_)
  · refine X_iconst (v := 0) hC (by decide) dL_tools_346 ?_
    exact X_none
  · refine X_aload_n hC 0 rfl dL_tools_311 ?_
    refine X_iload hC 1 rfl dL_tools_312 ?_
    refine X_bipush (v := 6) hC (by decide) dL_tools_314 ?_
    refine X_callP (C := RX4) (T := TX4) (N := 5) (ci := 4) (rest := []) hC (c_X4_instrument _ G cls ad hi σ v5 (6 : Int32)) (gV tw_367 tw_368 tw_369 tw_1 tw_370) rfl (wX (k := 25) (by omega) cX_vs) rfl rfl okm_X4_instrument (by decide) dL_tools_316 rfl (Nat.le_of_ble_eq_true rfl) (fun r45 => ?_)
    refine X_iload hC 3 rfl dL_tools_319 ?_
    refine X_icmp_ne hC 346 dL_tools_321 (by decide) (fun h46 => ?_) (fun h46 => ?_)
    · refine X_iconst (v := 0) hC (by decide) dL_tools_346 ?_
      exact X_none
    · refine X_iload hC 2 rfl dL_tools_324 ?_
      refine X_iload hC 3 rfl dL_tools_326 ?_
      refine X_icmp_eq hC 342 dL_tools_328 (by decide) (fun h47 => ?_) (fun h47 => ?_)
      · exact X_sub [] rfl (L_L_tools_b342 G cls ad hi hC hz0 hz1 σ)
      · refine X_aload_n hC 0 rfl dL_tools_331 ?_
        refine X_iload hC 1 rfl dL_tools_332 ?_
        refine X_bipush (v := 7) hC (by decide) dL_tools_334 ?_
        refine X_callP (C := RX4) (T := TX4) (N := 5) (ci := 4) (rest := []) hC (c_X4_instrument _ G cls ad hi σ v5 (7 : Int32)) (gV tw_367 tw_368 tw_369 tw_1 tw_370) rfl (wX (k := 25) (by omega) cX_vs) rfl rfl okm_X4_instrument (by decide) dL_tools_336 rfl (Nat.le_of_ble_eq_true rfl) (fun r48 => ?_)
        refine X_if_ne hC 346 dL_tools_339 (by decide) (fun h49 => ?_) (fun h49 => ?_)
        · refine X_iconst (v := 0) hC (by decide) dL_tools_346 ?_
          exact X_none
        · exact X_sub [] rfl (L_L_tools_b342 G cls ad hi hC hz0 hz1 σ)
set_option maxHeartbeats 4000000 in
set_option maxRecDepth 100000 in
theorem L_L_tools_b215 {Γ : Cx} (G : va_G) (cls : Cls) (ad : Nat → Nat) (hi : inj 49 ad) (hC : CX Γ (YX G cls ad) cL_tools RL 11 (some .boolean) 5 116) (hz0 : Γ.2.2.2.2.2.1 = 0) (hz1 : Γ.2.2.2.2.2.2 = 0)     (σ : Sg) (v5 : Int32) (v6 : Int32) (v7 : Int32) (v8 : Int32) (w0 : Int32) (w1 : Int32) : WX Γ (YX G cls ad) (qf Γ (YX G cls ad) fiS) 11 215 [(0, .ref (ad 25)), (5, .int v5), (6, .int v6), (7, .int v7), (8, .int v8)] [.int w0, .int w1] σ (f_L_tools_b215   σ v5 v6 v7 v8 w0 w1) := by
  unfold f_L_tools_b215
  refine X_icmp_ne hC 262 dL_tools_215 (by decide) (fun h62 => ?_) (fun h62 => ?_)
  · refine X_iconst (v := 0) hC (by decide) dL_tools_262 ?_
    exact X_none
  · refine X_aload_n hC 0 rfl dL_tools_218 ?_
    refine X_iload hC 1 rfl dL_tools_219 ?_
    refine X_iconst (v := 4) hC (by decide) dL_tools_221 ?_
    refine X_callP (C := RX4) (T := TX4) (N := 5) (ci := 4) (rest := []) hC (c_X4_instrument _ G cls ad hi σ v5 (4 : Int32)) (gV tw_367 tw_368 tw_369 tw_1 tw_370) rfl (wX (k := 25) (by omega) cX_vs) rfl rfl okm_X4_instrument (by decide) dL_tools_222 rfl (Nat.le_of_ble_eq_true rfl) (fun r63 => ?_)
    refine X_iload hC 3 rfl dL_tools_225 ?_
    refine X_icmp_ne hC 262 dL_tools_227 (by decide) (fun h64 => ?_) (fun h64 => ?_)
    · refine X_iconst (v := 0) hC (by decide) dL_tools_262 ?_
      exact X_none
    · refine X_aload_n hC 0 rfl dL_tools_230 ?_
      refine X_iload hC 1 rfl dL_tools_231 ?_
      refine X_iconst (v := 5) hC (by decide) dL_tools_233 ?_
      refine X_callP (C := RX4) (T := TX4) (N := 5) (ci := 4) (rest := []) hC (c_X4_instrument _ G cls ad hi σ v5 (5 : Int32)) (gV tw_367 tw_368 tw_369 tw_1 tw_370) rfl (wX (k := 25) (by omega) cX_vs) rfl rfl okm_X4_instrument (by decide) dL_tools_234 rfl (Nat.le_of_ble_eq_true rfl) (fun r65 => ?_)
      refine X_iload hC 4 rfl dL_tools_237 ?_
      refine X_icmp_ne hC 262 dL_tools_239 (by decide) (fun h66 => ?_) (fun h66 => ?_)
      · refine X_iconst (v := 0) hC (by decide) dL_tools_262 ?_
        exact X_none
      · refine X_aload_n hC 0 rfl dL_tools_242 ?_
        refine X_iload hC 1 rfl dL_tools_243 ?_
        refine X_iload hC 2 rfl dL_tools_245 ?_
        refine X_iconst (v := 1) hC (by decide) dL_tools_247 ?_
        refine X_iadd hC dL_tools_248 ?_
        refine X_iconst (v := 0) hC (by decide) dL_tools_249 ?_
        refine X_callS (C := RX4) (T := TX4) (N := 5) (ci := 4) (rest := []) hC (c_X4_adjust _ G cls ad hi σ v5 (v6 + (1 : Int32)) (0 : Int32)) (gV tw_444 tw_445 tw_446 tw_1 tw_447) rfl (wX (k := 25) (by omega) cX_vs) rfl rfl okm_X4_adjust (by decide) dL_tools_250 rfl (Nat.le_of_ble_eq_true rfl) (fun q70 => X_lts fun σ68 => X_lt fun r67 => ?_)
        refine X_ldc (v := -10000002) hC tw_388 dL_tools_253 ?_
        refine X_icmp_ne hC 262 dL_tools_255 (by decide) (fun h69 => ?_) (fun h69 => ?_)
        · refine X_iconst (v := 0) hC (by decide) dL_tools_262 ?_
          exact X_none
        · refine X_iconst (v := 1) hC (by decide) dL_tools_258 ?_
          refine X_goto hC 263 dL_tools_259 (by decide) ?_
          exact X_zret hC hz0 hz1 rfl dL_tools_263 rfl
set_option maxHeartbeats 4000000 in
set_option maxRecDepth 100000 in
theorem L_L_tools_b191 {Γ : Cx} (G : va_G) (cls : Cls) (ad : Nat → Nat) (hi : inj 49 ad) (hC : CX Γ (YX G cls ad) cL_tools RL 11 (some .boolean) 5 116) (hz0 : Γ.2.2.2.2.2.1 = 0) (hz1 : Γ.2.2.2.2.2.2 = 0)     (σ : Sg) (v5 : Int32) (v6 : Int32) (v7 : Int32) (v8 : Int32) (v9 : Int32) (w0 : Int32) : WX Γ (YX G cls ad) (qf Γ (YX G cls ad) fiS) 11 191 [(0, .ref (ad 25)), (5, .int v5), (6, .int v6), (7, .int v7), (8, .int v8), (9, .int v9)] [.int w0] σ (f_L_tools_b191   σ v5 v6 v7 v8 v9 w0) := by
  unfold f_L_tools_b191
  refine X_istore (ls' := [(10, .int w0), (0, .ref (ad 25)), (5, .int v5), (6, .int v6), (7, .int v7), (8, .int v8), (9, .int v9)]) hC dL_tools_191 (by decide) rfl ?_
  refine X_aload_n hC 1 rfl dL_tools_193 ?_
  refine X_iload hC 2 rfl dL_tools_194 ?_
  refine X_iload hC 4 rfl dL_tools_196 ?_
  refine X_iload hC 5 rfl dL_tools_198 ?_
  refine X_callS (C := RX4) (T := TX4) (N := 5) (ci := 4) (rest := []) hC (c_X4_adjust _ G cls ad hi σ v5 v7 v8) (gV tw_444 tw_445 tw_446 tw_1 tw_447) rfl (wX (k := 25) (by omega) cX_vs) rfl rfl okm_X4_adjust (by decide) dL_tools_200 rfl (Nat.le_of_ble_eq_true rfl) (fun q71 => X_lts fun σ60 => X_lt fun r59 => ?_)
  refine X_iload hC 0 rfl dL_tools_203 ?_
  refine X_if_eq hC 213 dL_tools_205 (by decide) (fun h61 => ?_) (fun h61 => ?_)
  · refine X_iload hC 6 rfl dL_tools_213 ?_
    exact X_sub [1, 2, 3, 4, 5] rfl (L_L_tools_b215 G cls ad hi hC hz0 hz1 σ60 v5 v6 v7 v8 v9 r59)
  · refine X_ldc (v := -10000005) hC tw_387 dL_tools_208 ?_
    refine X_goto hC 215 dL_tools_210 (by decide) ?_
    exact X_sub [1, 2, 3, 4, 5] rfl (L_L_tools_b215 G cls ad hi hC hz0 hz1 σ60 v5 v6 v7 v8 (-10000005 : Int32) r59)
set_option maxHeartbeats 4000000 in
set_option maxRecDepth 100000 in
theorem L_L_tools_b190 {Γ : Cx} (G : va_G) (cls : Cls) (ad : Nat → Nat) (hi : inj 49 ad) (hC : CX Γ (YX G cls ad) cL_tools RL 11 (some .boolean) 5 116) (hz0 : Γ.2.2.2.2.2.1 = 0) (hz1 : Γ.2.2.2.2.2.2 = 0)     (σ : Sg) (v5 : Int32) (v6 : Int32) (v7 : Int32) (v8 : Int32) (v9 : Int32) : WX Γ (YX G cls ad) (qf Γ (YX G cls ad) fiS) 11 190 [(0, .ref (ad 25)), (5, .int v5), (6, .int v6), (7, .int v7), (8, .int v8), (9, .int v9)] [] σ (f_L_tools_b190   σ v5 v6 v7 v8 v9) := by
  unfold f_L_tools_b190
  refine X_iconst (v := 0) hC (by decide) dL_tools_190 ?_
  exact (L_L_tools_b191 G cls ad hi hC hz0 hz1 σ v5 v6 v7 v8 v9 (0 : Int32))
theorem okm_L_tools : okm yL_tools 4 = true := by decide +kernel
set_option maxHeartbeats 4000000 in
set_option maxRecDepth 100000 in
theorem c_L_tools (l : Launch) (G : va_G) (cls : Cls) (ad : Nat → Nat) (hi : inj 49 ad) (σ : Sg)   (p1 p2 p3 : Int32) : MT l (YX G cls ad) yL_tools (.code yL_tools cL_tools 11 (some .boolean) :: gw) 5 116 [.ref (ad 25), .int p1, .int p2, .int p3] fiS σ (f_L_tools σ  p1 p2 p3) := by
  refine MT.of (own := RL) (by decide) (YX_D hi) rfl (Nat.le_of_ble_eq_true rfl) fun Γ _ hz0 hz1 hC => ?_
  show WX Γ (YX G cls ad) (qf Γ (YX G cls ad) fiS) 11 0 [(0, .ref (ad 25)), (1, .int p1), (2, .int p2), (3, .int p3)] [] σ (f_L_tools σ  p1 p2 p3)
  unfold f_L_tools
  refine X_aload_n hC 0 rfl dL_tools_0 ?_
  refine X_iconst (v := 0) hC (by decide) dL_tools_1 ?_
  refine X_callP (C := RX4) (T := TX4) (N := 5) (ci := 4) (rest := []) hC (c_X4_count _ G cls ad hi σ (0 : Int32)) (gV tw_338 tw_339 tw_340 tw_1 tw_341) rfl (wX (k := 25) (by omega) cX_vs) rfl rfl okm_X4_count (by decide) dL_tools_2 rfl (Nat.le_of_ble_eq_true rfl) (fun r1 => ?_)
  refine X_istore (ls' := [(4, .int r1), (0, .ref (ad 25)), (1, .int p1), (2, .int p2), (3, .int p3)]) hC dL_tools_5 (by decide) rfl ?_
  refine X_iload hC 0 rfl dL_tools_7 ?_
  refine X_if_eq hC 16 dL_tools_9 (by decide) (fun h2 => ?_) (fun h2 => ?_)
  · exact X_sub [1, 4, 0] rfl (L_L_tools_b16 G cls ad hi hC hz0 hz1 σ p3 r1)
  · refine X_iload_n hC 2 rfl dL_tools_12 ?_
    refine X_if_ne hC 102 dL_tools_13 (by decide) (fun h16 => ?_) (fun h16 => ?_)
    · refine X_iload_n hC 3 rfl dL_tools_102 ?_
      refine X_iload hC 0 rfl dL_tools_103 ?_
      refine X_statP (rest := []) hC (c_L_low _ G cls ad hi σ p2 r1) (gSt tw_358 tw_359 tw_0 tw_360) rfl okm_L_low (by decide) dL_tools_105 rfl (Nat.le_of_ble_eq_true rfl) (fun r17 => ?_)
      refine X_istore (ls' := [(5, .int r17), (4, .int r1), (0, .ref (ad 25)), (1, .int p1), (2, .int p2), (3, .int p3)]) hC dL_tools_108 (by decide) rfl ?_
      refine X_iload_n hC 3 rfl dL_tools_110 ?_
      refine X_iconst (v := 1) hC (by decide) dL_tools_111 ?_
      refine X_icmp_ne hC 264 dL_tools_112 (by decide) (fun h18 => ?_) (fun h18 => ?_)
      · refine X_iload_n hC 3 rfl dL_tools_264 ?_
        refine X_iconst (v := 2) hC (by decide) dL_tools_265 ?_
        refine X_icmp_ne hC 348 dL_tools_266 (by decide) (fun h19 => ?_) (fun h19 => ?_)
        · refine X_aload_n hC 2 rfl dL_tools_348 ?_
          refine X_iload hC 0 rfl dL_tools_349 ?_
          refine X_bipush (v := 6) hC (by decide) dL_tools_351 ?_
          refine X_callP (C := RX4) (T := TX4) (N := 5) (ci := 4) (rest := []) hC (c_X4_instrument _ G cls ad hi σ r17 (6 : Int32)) (gV tw_367 tw_368 tw_369 tw_1 tw_370) rfl (wX (k := 25) (by omega) cX_vs) rfl rfl okm_X4_instrument (by decide) dL_tools_353 rfl (Nat.le_of_ble_eq_true rfl) (fun r20 => ?_)
          refine X_istore (ls' := [(6, .int r20), (5, .int r17), (4, .int r1), (0, .ref (ad 25)), (1, .int p1), (2, .int p2), (3, .int p3)]) hC dL_tools_356 (by decide) rfl ?_
          refine X_aload_n hC 3 rfl dL_tools_358 ?_
          refine X_iload hC 1 rfl dL_tools_359 ?_
          refine X_bipush (v := 7) hC (by decide) dL_tools_361 ?_
          refine X_callP (C := RX4) (T := TX4) (N := 5) (ci := 4) (rest := []) hC (c_X4_instrument _ G cls ad hi σ r17 (7 : Int32)) (gV tw_367 tw_368 tw_369 tw_1 tw_370) rfl (wX (k := 25) (by omega) cX_vs) rfl rfl okm_X4_instrument (by decide) dL_tools_363 rfl (Nat.le_of_ble_eq_true rfl) (fun r21 => ?_)
          refine X_iconst (v := 1) hC (by decide) dL_tools_366 ?_
          refine X_icmp_ne hC 374 dL_tools_367 (by decide) (fun h22 => ?_) (fun h22 => ?_)
          · refine X_iconst (v := 0) hC (by decide) dL_tools_374 ?_
            exact X_sub [3, 1, 0] rfl (L_L_tools_b375 G cls ad hi hC hz0 hz1 σ r17 r20 (0 : Int32))
          · refine X_iconst (v := 1) hC (by decide) dL_tools_370 ?_
            refine X_goto hC 375 dL_tools_371 (by decide) ?_
            exact X_sub [3, 1, 0] rfl (L_L_tools_b375 G cls ad hi hC hz0 hz1 σ r17 r20 (1 : Int32))
        · refine X_aload_n hC 2 rfl dL_tools_269 ?_
          refine X_iload hC 0 rfl dL_tools_270 ?_
          refine X_bipush (v := 6) hC (by decide) dL_tools_272 ?_
          refine X_callP (C := RX4) (T := TX4) (N := 5) (ci := 4) (rest := []) hC (c_X4_instrument _ G cls ad hi σ r17 (6 : Int32)) (gV tw_367 tw_368 tw_369 tw_1 tw_370) rfl (wX (k := 25) (by omega) cX_vs) rfl rfl okm_X4_instrument (by decide) dL_tools_274 rfl (Nat.le_of_ble_eq_true rfl) (fun r39 => ?_)
          refine X_istore (ls' := [(6, .int r39), (5, .int r17), (4, .int r1), (0, .ref (ad 25)), (1, .int p1), (2, .int p2), (3, .int p3)]) hC dL_tools_277 (by decide) rfl ?_
          refine X_iload_n hC 6 rfl dL_tools_279 ?_
          refine X_iconst (v := 4) hC (by decide) dL_tools_280 ?_
          refine X_statP (rest := []) hC (c_L_low _ G cls ad hi σ p3 (4 : Int32)) (gSt tw_358 tw_359 tw_0 tw_360) rfl okm_L_low (by decide) dL_tools_281 rfl (Nat.le_of_ble_eq_true rfl) (fun r40 => ?_)
          refine X_istore (ls' := [(7, .int r40), (6, .int r39), (5, .int r17), (4, .int r1), (0, .ref (ad 25)), (1, .int p1), (2, .int p2), (3, .int p3)]) hC dL_tools_284 (by decide) rfl ?_
          refine X_aload_n hC 4 rfl dL_tools_286 ?_
          refine X_iload hC 2 rfl dL_tools_287 ?_
          refine X_iload hC 0 rfl dL_tools_289 ?_
          refine X_callS (C := RX4) (T := TX4) (N := 5) (ci := 4) (rest := []) hC (c_X4_setTrap _ G cls ad hi σ r17 r40) (gV tw_449 tw_450 tw_451 tw_1 tw_452) rfl (wX (k := 25) (by omega) cX_vs) rfl rfl okm_X4_setTrap (by decide) dL_tools_291 rfl (Nat.le_of_ble_eq_true rfl) (fun q50 => X_lts fun σ42 => X_lt fun r41 => ?_)
          refine X_iload hC 1 rfl dL_tools_294 ?_
          refine X_iload hC 0 rfl dL_tools_296 ?_
          refine X_icmp_ne hC 306 dL_tools_298 (by decide) (fun h43 => ?_) (fun h43 => ?_)
          · refine X_iload hC 1 rfl dL_tools_306 ?_
            exact X_sub [4, 2, 1, 0] rfl (L_L_tools_b308 G cls ad hi hC hz0 hz1 σ42 r17 r39 r40 r39 r41)
          · refine X_ldc (v := -10000005) hC tw_387 dL_tools_301 ?_
            refine X_goto hC 308 dL_tools_303 (by decide) ?_
            exact X_sub [4, 2, 1, 0] rfl (L_L_tools_b308 G cls ad hi hC hz0 hz1 σ42 r17 r39 r40 (-10000005 : Int32) r41)
      · refine X_aload_n hC 2 rfl dL_tools_115 ?_
        refine X_iload hC 0 rfl dL_tools_116 ?_
        refine X_iconst (v := 0) hC (by decide) dL_tools_118 ?_
        refine X_callP (C := RX4) (T := TX4) (N := 5) (ci := 4) (rest := []) hC (c_X4_instrument _ G cls ad hi σ r17 (0 : Int32)) (gV tw_367 tw_368 tw_369 tw_1 tw_370) rfl (wX (k := 25) (by omega) cX_vs) rfl rfl okm_X4_instrument (by decide) dL_tools_119 rfl (Nat.le_of_ble_eq_true rfl) (fun r51 => ?_)
        refine X_aload_n hC 2 rfl dL_tools_122 ?_
        refine X_iload hC 0 rfl dL_tools_123 ?_
        refine X_iconst (v := 1) hC (by decide) dL_tools_125 ?_
        refine X_callP (C := RX4) (T := TX4) (N := 5) (ci := 4) (rest := [.int r51]) hC (c_X4_instrument _ G cls ad hi σ r17 (1 : Int32)) (gV tw_367 tw_368 tw_369 tw_1 tw_370) rfl (wX (k := 25) (by omega) cX_vs) rfl rfl okm_X4_instrument (by decide) dL_tools_126 rfl (Nat.le_of_ble_eq_true rfl) (fun r52 => ?_)
        refine X_imul hC dL_tools_129 ?_
        refine X_lt (fun x53 => ?_)
        refine X_istore (ls' := [(6, .int x53), (5, .int r17), (4, .int r1), (0, .ref (ad 25)), (1, .int p1), (2, .int p2), (3, .int p3)]) hC dL_tools_130 (by decide) rfl ?_
        refine X_iload_n hC 6 rfl dL_tools_132 ?_
        refine X_iconst (v := 2) hC (by decide) dL_tools_133 ?_
        refine X_iload hC 0 rfl dL_tools_134 ?_
        refine X_imul hC dL_tools_136 ?_
        refine X_iconst (v := 1) hC (by decide) dL_tools_137 ?_
        refine X_iadd hC dL_tools_138 ?_
        refine X_statP (rest := []) hC (c_L_low _ G cls ad hi σ p3 (((2 : Int32) * x53) + (1 : Int32))) (gSt tw_358 tw_359 tw_0 tw_360) rfl okm_L_low (by decide) dL_tools_139 rfl (Nat.le_of_ble_eq_true rfl) (fun r54 => ?_)
        refine X_iload hC 0 rfl dL_tools_142 ?_
        refine X_isub hC dL_tools_144 ?_
        refine X_lt (fun x55 => ?_)
        refine X_istore (ls' := [(7, .int x55), (6, .int x53), (5, .int r17), (4, .int r1), (0, .ref (ad 25)), (1, .int p1), (2, .int p2), (3, .int p3)]) hC dL_tools_145 (by decide) rfl ?_
        refine X_iload_n hC 7 rfl dL_tools_147 ?_
        refine X_bipush (v := 7) hC (by decide) dL_tools_148 ?_
        refine X_ishr hC dL_tools_150 ?_
        refine X_bipush (v := 21) hC (by decide) dL_tools_151 ?_
        refine X_statP (rest := []) hC (c_L_low _ G cls ad hi σ (p3 >>> ((7 : Int32) &&& 31)) (21 : Int32)) (gSt tw_358 tw_359 tw_0 tw_360) rfl okm_L_low (by decide) dL_tools_153 rfl (Nat.le_of_ble_eq_true rfl) (fun r56 => ?_)
        refine X_istore (ls' := [(8, .int r56), (7, .int x55), (6, .int x53), (5, .int r17), (4, .int r1), (0, .ref (ad 25)), (1, .int p1), (2, .int p2), (3, .int p3)]) hC dL_tools_156 (by decide) rfl ?_
        refine X_aload_n hC 5 rfl dL_tools_158 ?_
        refine X_iload hC 3 rfl dL_tools_159 ?_
        refine X_iconst (v := 4) hC (by decide) dL_tools_161 ?_
        refine X_callP (C := RX4) (T := TX4) (N := 5) (ci := 4) (rest := []) hC (c_X4_instrument _ G cls ad hi σ r17 (4 : Int32)) (gV tw_367 tw_368 tw_369 tw_1 tw_370) rfl (wX (k := 25) (by omega) cX_vs) rfl rfl okm_X4_instrument (by decide) dL_tools_162 rfl (Nat.le_of_ble_eq_true rfl) (fun r57 => ?_)
        refine X_istore (ls' := [(9, .int r57), (8, .int r56), (7, .int x55), (6, .int x53), (5, .int r17), (4, .int r1), (0, .ref (ad 25)), (1, .int p1), (2, .int p2), (3, .int p3)]) hC dL_tools_165 (by decide) rfl ?_
        refine X_iload hC 0 rfl dL_tools_167 ?_
        refine X_iload hC 2 rfl dL_tools_169 ?_
        refine X_icmp_ne hC 190 dL_tools_171 (by decide) (fun h58 => ?_) (fun h58 => ?_)
        · exact X_sub [6, 4, 3, 2, 1, 0] rfl (L_L_tools_b190 G cls ad hi hC hz0 hz1 σ r17 x53 x55 r56 r57)
        · refine X_aload_n hC 6 rfl dL_tools_174 ?_
          refine X_iload hC 4 rfl dL_tools_175 ?_
          refine X_iconst (v := 5) hC (by decide) dL_tools_177 ?_
          refine X_callP (C := RX4) (T := TX4) (N := 5) (ci := 4) (rest := []) hC (c_X4_instrument _ G cls ad hi σ r17 (5 : Int32)) (gV tw_367 tw_368 tw_369 tw_1 tw_370) rfl (wX (k := 25) (by omega) cX_vs) rfl rfl okm_X4_instrument (by decide) dL_tools_178 rfl (Nat.le_of_ble_eq_true rfl) (fun r72 => ?_)
          refine X_iload hC 1 rfl dL_tools_181 ?_
          refine X_icmp_ne hC 190 dL_tools_183 (by decide) (fun h73 => ?_) (fun h73 => ?_)
          · exact X_sub [6, 4, 3, 2, 1, 0] rfl (L_L_tools_b190 G cls ad hi hC hz0 hz1 σ r17 x53 x55 r56 r57)
          · refine X_iconst (v := 1) hC (by decide) dL_tools_186 ?_
            refine X_goto hC 191 dL_tools_187 (by decide) ?_
            exact X_sub [6, 4, 3, 2, 1, 0] rfl (L_L_tools_b191 G cls ad hi hC hz0 hz1 σ r17 x53 x55 r56 r57 (1 : Int32))
    · exact X_sub [1, 4, 0] rfl (L_L_tools_b16 G cls ad hi hC hz0 hz1 σ p3 r1)
theorem dL_pupils_0 : decode cL_pupils 0 = .ok (.aload_n 0, 1) := by decide +kernel
theorem dL_pupils_1 : decode cL_pupils 1 = .ok (.iconst 1, 1) := by decide +kernel
theorem dL_pupils_2 : decode cL_pupils 2 = .ok (.invokevirtual 13, 3) := by decide +kernel
theorem dL_pupils_5 : decode cL_pupils 5 = .ok (.istore 4, 2) := by decide +kernel
theorem dL_pupils_7 : decode cL_pupils 7 = .ok (.iload_n 3, 1) := by decide +kernel
theorem dL_pupils_8 : decode cL_pupils 8 = .ok (.bipush 101, 2) := by decide +kernel
theorem dL_pupils_10 : decode cL_pupils 10 = .ok (.invokestatic 57, 3) := by decide +kernel
theorem dL_pupils_13 : decode cL_pupils 13 = .ok (.bipush 50, 2) := by decide +kernel
theorem dL_pupils_15 : decode cL_pupils 15 = .ok (.isub, 1) := by decide +kernel
theorem dL_pupils_16 : decode cL_pupils 16 = .ok (.istore 5, 2) := by decide +kernel
theorem dL_pupils_18 : decode cL_pupils 18 = .ok (.iload_n 3, 1) := by decide +kernel
theorem dL_pupils_19 : decode cL_pupils 19 = .ok (.bipush 7, 2) := by decide +kernel
theorem dL_pupils_21 : decode cL_pupils 21 = .ok (.ishr, 1) := by decide +kernel
theorem dL_pupils_22 : decode cL_pupils 22 = .ok (.bipush 16, 2) := by decide +kernel
theorem dL_pupils_24 : decode cL_pupils 24 = .ok (.invokestatic 57, 3) := by decide +kernel
theorem dL_pupils_27 : decode cL_pupils 27 = .ok (.istore 6, 2) := by decide +kernel
theorem dL_pupils_29 : decode cL_pupils 29 = .ok (.iload 4, 2) := by decide +kernel
theorem dL_pupils_31 : decode cL_pupils 31 = .ok (.ifCond .eq 8, 3) := by decide +kernel
theorem dL_pupils_34 : decode cL_pupils 34 = .ok (.iload_n 1, 1) := by decide +kernel
theorem dL_pupils_35 : decode cL_pupils 35 = .ok (.iconst 4, 1) := by decide +kernel
theorem dL_pupils_36 : decode cL_pupils 36 = .ok (.if_icmp .ne 50, 3) := by decide +kernel
theorem dL_pupils_39 : decode cL_pupils 39 = .ok (.aload_n 0, 1) := by decide +kernel
theorem dL_pupils_40 : decode cL_pupils 40 = .ok (.iload 5, 2) := by decide +kernel
theorem dL_pupils_42 : decode cL_pupils 42 = .ok (.iload 6, 2) := by decide +kernel
theorem dL_pupils_44 : decode cL_pupils 44 = .ok (.invokevirtual 75, 3) := by decide +kernel
theorem dL_pupils_47 : decode cL_pupils 47 = .ok (.istore 7, 2) := by decide +kernel
theorem dL_pupils_49 : decode cL_pupils 49 = .ok (.iload 7, 2) := by decide +kernel
theorem dL_pupils_51 : decode cL_pupils 51 = .ok (.iload 4, 2) := by decide +kernel
theorem dL_pupils_53 : decode cL_pupils 53 = .ok (.bipush 12, 2) := by decide +kernel
theorem dL_pupils_55 : decode cL_pupils 55 = .ok (.if_icmp .ne 8, 3) := by decide +kernel
theorem dL_pupils_58 : decode cL_pupils 58 = .ok (.ldc 64, 2) := by decide +kernel
theorem dL_pupils_60 : decode cL_pupils 60 = .ok (.goto 5, 3) := by decide +kernel
theorem dL_pupils_63 : decode cL_pupils 63 = .ok (.iload 4, 2) := by decide +kernel
theorem dL_pupils_65 : decode cL_pupils 65 = .ok (.if_icmp .ne 19, 3) := by decide +kernel
theorem dL_pupils_68 : decode cL_pupils 68 = .ok (.aload_n 0, 1) := by decide +kernel
theorem dL_pupils_69 : decode cL_pupils 69 = .ok (.bipush 51, 2) := by decide +kernel
theorem dL_pupils_71 : decode cL_pupils 71 = .ok (.iconst 0, 1) := by decide +kernel
theorem dL_pupils_72 : decode cL_pupils 72 = .ok (.invokevirtual 75, 3) := by decide +kernel
theorem dL_pupils_75 : decode cL_pupils 75 = .ok (.ldc 38, 2) := by decide +kernel
theorem dL_pupils_77 : decode cL_pupils 77 = .ok (.if_icmp .ne 7, 3) := by decide +kernel
theorem dL_pupils_80 : decode cL_pupils 80 = .ok (.iconst 1, 1) := by decide +kernel
theorem dL_pupils_81 : decode cL_pupils 81 = .ok (.goto 4, 3) := by decide +kernel
theorem dL_pupils_84 : decode cL_pupils 84 = .ok (.iconst 0, 1) := by decide +kernel
theorem dL_pupils_85 : decode cL_pupils 85 = .ok (.ireturn, 1) := by decide +kernel
theorem dL_pupils_86 : decode cL_pupils 86 = .ok (.iload_n 2, 1) := by decide +kernel
theorem dL_pupils_87 : decode cL_pupils 87 = .ok (.iload 4, 2) := by decide +kernel
theorem dL_pupils_89 : decode cL_pupils 89 = .ok (.invokestatic 57, 3) := by decide +kernel
theorem dL_pupils_92 : decode cL_pupils 92 = .ok (.istore 7, 2) := by decide +kernel
theorem dL_pupils_94 : decode cL_pupils 94 = .ok (.iload_n 1, 1) := by decide +kernel
theorem dL_pupils_95 : decode cL_pupils 95 = .ok (.iconst 5, 1) := by decide +kernel
theorem dL_pupils_96 : decode cL_pupils 96 = .ok (.if_icmp .ne 75, 3) := by decide +kernel
theorem dL_pupils_99 : decode cL_pupils 99 = .ok (.aload_n 0, 1) := by decide +kernel
theorem dL_pupils_100 : decode cL_pupils 100 = .ok (.iload 7, 2) := by decide +kernel
theorem dL_pupils_102 : decode cL_pupils 102 = .ok (.iconst 2, 1) := by decide +kernel
theorem dL_pupils_103 : decode cL_pupils 103 = .ok (.invokevirtual 23, 3) := by decide +kernel
theorem dL_pupils_106 : decode cL_pupils 106 = .ok (.istore 8, 2) := by decide +kernel
theorem dL_pupils_108 : decode cL_pupils 108 = .ok (.iconst 1, 1) := by decide +kernel
theorem dL_pupils_109 : decode cL_pupils 109 = .ok (.iload_n 3, 1) := by decide +kernel
theorem dL_pupils_110 : decode cL_pupils 110 = .ok (.iconst 3, 1) := by decide +kernel
theorem dL_pupils_111 : decode cL_pupils 111 = .ok (.invokestatic 57, 3) := by decide +kernel
theorem dL_pupils_114 : decode cL_pupils 114 = .ok (.iadd, 1) := by decide +kernel
theorem dL_pupils_115 : decode cL_pupils 115 = .ok (.istore 9, 2) := by decide +kernel
theorem dL_pupils_117 : decode cL_pupils 117 = .ok (.iload 8, 2) := by decide +kernel
theorem dL_pupils_119 : decode cL_pupils 119 = .ok (.iconst 1, 1) := by decide +kernel
theorem dL_pupils_120 : decode cL_pupils 120 = .ok (.iload 9, 2) := by decide +kernel
theorem dL_pupils_122 : decode cL_pupils 122 = .ok (.iconst 1, 1) := by decide +kernel
theorem dL_pupils_123 : decode cL_pupils 123 = .ok (.isub, 1) := by decide +kernel
theorem dL_pupils_124 : decode cL_pupils 124 = .ok (.ishl, 1) := by decide +kernel
theorem dL_pupils_125 : decode cL_pupils 125 = .ok (.ior, 1) := by decide +kernel
theorem dL_pupils_126 : decode cL_pupils 126 = .ok (.istore 10, 2) := by decide +kernel
theorem dL_pupils_128 : decode cL_pupils 128 = .ok (.aload_n 0, 1) := by decide +kernel
theorem dL_pupils_129 : decode cL_pupils 129 = .ok (.iload 7, 2) := by decide +kernel
theorem dL_pupils_131 : decode cL_pupils 131 = .ok (.iload 9, 2) := by decide +kernel
theorem dL_pupils_133 : decode cL_pupils 133 = .ok (.invokevirtual 78, 3) := by decide +kernel
theorem dL_pupils_136 : decode cL_pupils 136 = .ok (.iload 8, 2) := by decide +kernel
theorem dL_pupils_138 : decode cL_pupils 138 = .ok (.iload 10, 2) := by decide +kernel
theorem dL_pupils_140 : decode cL_pupils 140 = .ok (.if_icmp .ne 8, 3) := by decide +kernel
theorem dL_pupils_143 : decode cL_pupils 143 = .ok (.ldc 37, 2) := by decide +kernel
theorem dL_pupils_145 : decode cL_pupils 145 = .ok (.goto 5, 3) := by decide +kernel
theorem dL_pupils_148 : decode cL_pupils 148 = .ok (.iload 10, 2) := by decide +kernel
theorem dL_pupils_150 : decode cL_pupils 150 = .ok (.if_icmp .ne 19, 3) := by decide +kernel
theorem dL_pupils_153 : decode cL_pupils 153 = .ok (.aload_n 0, 1) := by decide +kernel
theorem dL_pupils_154 : decode cL_pupils 154 = .ok (.iload 7, 2) := by decide +kernel
theorem dL_pupils_156 : decode cL_pupils 156 = .ok (.iconst 2, 1) := by decide +kernel
theorem dL_pupils_157 : decode cL_pupils 157 = .ok (.invokevirtual 23, 3) := by decide +kernel
theorem dL_pupils_160 : decode cL_pupils 160 = .ok (.iload 10, 2) := by decide +kernel
theorem dL_pupils_162 : decode cL_pupils 162 = .ok (.if_icmp .ne 7, 3) := by decide +kernel
theorem dL_pupils_165 : decode cL_pupils 165 = .ok (.iconst 1, 1) := by decide +kernel
theorem dL_pupils_166 : decode cL_pupils 166 = .ok (.goto 4, 3) := by decide +kernel
theorem dL_pupils_169 : decode cL_pupils 169 = .ok (.iconst 0, 1) := by decide +kernel
theorem dL_pupils_170 : decode cL_pupils 170 = .ok (.ireturn, 1) := by decide +kernel
theorem dL_pupils_171 : decode cL_pupils 171 = .ok (.aload_n 0, 1) := by decide +kernel
theorem dL_pupils_172 : decode cL_pupils 172 = .ok (.iload 7, 2) := by decide +kernel
theorem dL_pupils_174 : decode cL_pupils 174 = .ok (.iconst 1, 1) := by decide +kernel
theorem dL_pupils_175 : decode cL_pupils 175 = .ok (.invokevirtual 23, 3) := by decide +kernel
theorem dL_pupils_178 : decode cL_pupils 178 = .ok (.iload 6, 2) := by decide +kernel
theorem dL_pupils_180 : decode cL_pupils 180 = .ok (.ixor, 1) := by decide +kernel
theorem dL_pupils_181 : decode cL_pupils 181 = .ok (.istore 8, 2) := by decide +kernel
theorem dL_pupils_183 : decode cL_pupils 183 = .ok (.iload 8, 2) := by decide +kernel
theorem dL_pupils_185 : decode cL_pupils 185 = .ok (.ifCond .ne 19, 3) := by decide +kernel
theorem dL_pupils_188 : decode cL_pupils 188 = .ok (.aload_n 0, 1) := by decide +kernel
theorem dL_pupils_189 : decode cL_pupils 189 = .ok (.iload 7, 2) := by decide +kernel
theorem dL_pupils_191 : decode cL_pupils 191 = .ok (.iconst 0, 1) := by decide +kernel
theorem dL_pupils_192 : decode cL_pupils 192 = .ok (.invokevirtual 23, 3) := by decide +kernel
theorem dL_pupils_195 : decode cL_pupils 195 = .ok (.iload 5, 2) := by decide +kernel
theorem dL_pupils_197 : decode cL_pupils 197 = .ok (.if_icmp .ne 7, 3) := by decide +kernel
theorem dL_pupils_200 : decode cL_pupils 200 = .ok (.iconst 1, 1) := by decide +kernel
theorem dL_pupils_201 : decode cL_pupils 201 = .ok (.goto 4, 3) := by decide +kernel
theorem dL_pupils_204 : decode cL_pupils 204 = .ok (.iconst 0, 1) := by decide +kernel
theorem dL_pupils_205 : decode cL_pupils 205 = .ok (.istore 9, 2) := by decide +kernel
theorem dL_pupils_207 : decode cL_pupils 207 = .ok (.iload 8, 2) := by decide +kernel
theorem dL_pupils_209 : decode cL_pupils 209 = .ok (.iconst 1, 1) := by decide +kernel
theorem dL_pupils_210 : decode cL_pupils 210 = .ok (.iand, 1) := by decide +kernel
theorem dL_pupils_211 : decode cL_pupils 211 = .ok (.iload 8, 2) := by decide +kernel
theorem dL_pupils_213 : decode cL_pupils 213 = .ok (.iconst 1, 1) := by decide +kernel
theorem dL_pupils_214 : decode cL_pupils 214 = .ok (.ishr, 1) := by decide +kernel
theorem dL_pupils_215 : decode cL_pupils 215 = .ok (.iconst 1, 1) := by decide +kernel
theorem dL_pupils_216 : decode cL_pupils 216 = .ok (.iand, 1) := by decide +kernel
theorem dL_pupils_217 : decode cL_pupils 217 = .ok (.iadd, 1) := by decide +kernel
theorem dL_pupils_218 : decode cL_pupils 218 = .ok (.iload 8, 2) := by decide +kernel
theorem dL_pupils_220 : decode cL_pupils 220 = .ok (.iconst 2, 1) := by decide +kernel
theorem dL_pupils_221 : decode cL_pupils 221 = .ok (.ishr, 1) := by decide +kernel
theorem dL_pupils_222 : decode cL_pupils 222 = .ok (.iconst 1, 1) := by decide +kernel
theorem dL_pupils_223 : decode cL_pupils 223 = .ok (.iand, 1) := by decide +kernel
theorem dL_pupils_224 : decode cL_pupils 224 = .ok (.iadd, 1) := by decide +kernel
theorem dL_pupils_225 : decode cL_pupils 225 = .ok (.iload 8, 2) := by decide +kernel
theorem dL_pupils_227 : decode cL_pupils 227 = .ok (.iconst 3, 1) := by decide +kernel
theorem dL_pupils_228 : decode cL_pupils 228 = .ok (.ishr, 1) := by decide +kernel
theorem dL_pupils_229 : decode cL_pupils 229 = .ok (.iadd, 1) := by decide +kernel
theorem dL_pupils_230 : decode cL_pupils 230 = .ok (.istore 10, 2) := by decide +kernel
theorem dL_pupils_232 : decode cL_pupils 232 = .ok (.aload_n 0, 1) := by decide +kernel
theorem dL_pupils_233 : decode cL_pupils 233 = .ok (.iload 7, 2) := by decide +kernel
theorem dL_pupils_235 : decode cL_pupils 235 = .ok (.iload 5, 2) := by decide +kernel
theorem dL_pupils_237 : decode cL_pupils 237 = .ok (.iload 6, 2) := by decide +kernel
theorem dL_pupils_239 : decode cL_pupils 239 = .ok (.invokevirtual 81, 3) := by decide +kernel
theorem dL_pupils_242 : decode cL_pupils 242 = .ok (.iload 9, 2) := by decide +kernel
theorem dL_pupils_244 : decode cL_pupils 244 = .ok (.ifCond .eq 8, 3) := by decide +kernel
theorem dL_pupils_247 : decode cL_pupils 247 = .ok (.ldc 37, 2) := by decide +kernel
theorem dL_pupils_249 : decode cL_pupils 249 = .ok (.goto 5, 3) := by decide +kernel
theorem dL_pupils_252 : decode cL_pupils 252 = .ok (.iload 10, 2) := by decide +kernel
theorem dL_pupils_254 : decode cL_pupils 254 = .ok (.if_icmp .ne 31, 3) := by decide +kernel
theorem dL_pupils_257 : decode cL_pupils 257 = .ok (.aload_n 0, 1) := by decide +kernel
theorem dL_pupils_258 : decode cL_pupils 258 = .ok (.iload 7, 2) := by decide +kernel
theorem dL_pupils_260 : decode cL_pupils 260 = .ok (.iconst 0, 1) := by decide +kernel
theorem dL_pupils_261 : decode cL_pupils 261 = .ok (.invokevirtual 23, 3) := by decide +kernel
theorem dL_pupils_264 : decode cL_pupils 264 = .ok (.iload 5, 2) := by decide +kernel
theorem dL_pupils_266 : decode cL_pupils 266 = .ok (.if_icmp .ne 19, 3) := by decide +kernel
theorem dL_pupils_269 : decode cL_pupils 269 = .ok (.aload_n 0, 1) := by decide +kernel
theorem dL_pupils_270 : decode cL_pupils 270 = .ok (.iload 7, 2) := by decide +kernel
theorem dL_pupils_272 : decode cL_pupils 272 = .ok (.iconst 1, 1) := by decide +kernel
theorem dL_pupils_273 : decode cL_pupils 273 = .ok (.invokevirtual 23, 3) := by decide +kernel
theorem dL_pupils_276 : decode cL_pupils 276 = .ok (.iload 6, 2) := by decide +kernel
theorem dL_pupils_278 : decode cL_pupils 278 = .ok (.if_icmp .ne 7, 3) := by decide +kernel
theorem dL_pupils_281 : decode cL_pupils 281 = .ok (.iconst 1, 1) := by decide +kernel
theorem dL_pupils_282 : decode cL_pupils 282 = .ok (.goto 4, 3) := by decide +kernel
theorem dL_pupils_285 : decode cL_pupils 285 = .ok (.iconst 0, 1) := by decide +kernel
theorem dL_pupils_286 : decode cL_pupils 286 = .ok (.ireturn, 1) := by decide +kernel
def f_L_pupils_b65    (σ : Sg) (w0 : Int32) (w1 : Int32) : Option (Int32 × Sg) := if w1 = w0 then ((f_X4_addPupil σ (51 : Int32) (0 : Int32)).bind fun q13 => lts q13.2 fun σ11 => lt q13.1 fun r10 => if r10 = (-10000002 : Int32) then (some ((1 : Int32), σ11)) else none) else none
def f_L_pupils_b39    (σ : Sg) (v4 : Int32) (v5 : Int32) (v6 : Int32) : Option (Int32 × Sg) := (f_X4_addPupil σ v5 v6).bind fun q14 => lts q14.2 fun σ7 => lt q14.1 fun r6 => if v4 = (12 : Int32) then (f_L_pupils_b65 σ7 (-10000003 : Int32) r6) else (f_L_pupils_b65 σ7 v4 r6)
def f_L_pupils_b254    (σ : Sg) (v5 : Int32) (v6 : Int32) (v7 : Int32) (w0 : Int32) (w1 : Int32) : Option (Int32 × Sg) := if w1 = w0 then ((f_X4_pupil σ v7 (0 : Int32)).bind fun r26 => if r26 = v5 then ((f_X4_pupil σ v7 (1 : Int32)).bind fun r28 => if r28 = v6 then (some ((1 : Int32), σ)) else none) else none) else none
def f_L_pupils_b205    (σ : Sg) (v5 : Int32) (v6 : Int32) (v7 : Int32) (v8 : Int32) (w0 : Int32) : Option (Int32 × Sg) := lt ((((v8 &&& (1 : Int32)) + ((v8 >>> ((1 : Int32) &&& 31)) &&& (1 : Int32))) + ((v8 >>> ((2 : Int32) &&& 31)) &&& (1 : Int32))) + (v8 >>> ((3 : Int32) &&& 31))) fun x21 => (f_X4_train σ v7 v5 v6).bind fun q30 => lts q30.2 fun σ23 => lt q30.1 fun r22 => if w0 = 0 then (f_L_pupils_b254 σ23 v5 v6 v7 x21 r22) else (f_L_pupils_b254 σ23 v5 v6 v7 (-10000005 : Int32) r22)
def f_L_pupils_b204    (σ : Sg) (v5 : Int32) (v6 : Int32) (v7 : Int32) (v8 : Int32) : Option (Int32 × Sg) := f_L_pupils_b205 σ v5 v6 v7 v8 (0 : Int32)
def f_L_pupils_b150    (σ : Sg) (v7 : Int32) (v10 : Int32) (w0 : Int32) (w1 : Int32) : Option (Int32 × Sg) := if w1 = w0 then ((f_X4_pupil σ v7 (2 : Int32)).bind fun r41 => if r41 = v10 then (some ((1 : Int32), σ)) else none) else none
def f_L_pupils (σ : Sg)  (p1 p2 p3 : Int32) : Option (Int32 × Sg) := (f_X4_count σ (1 : Int32)).bind fun r1 => (f_L_low σ p3 (101 : Int32)).bind fun r2 => lt (r2 - (50 : Int32)) fun x3 => (f_L_low σ (p3 >>> ((7 : Int32) &&& 31)) (16 : Int32)).bind fun r4 => if r1 = 0 then (f_L_pupils_b39 σ r1 x3 r4) else (if p1 = (4 : Int32) then (f_L_pupils_b39 σ r1 x3 r4) else ((f_L_low σ p2 r1).bind fun r16 => if p1 = (5 : Int32) then ((f_X4_pupil σ r16 (2 : Int32)).bind fun r33 => (f_L_low σ p3 (3 : Int32)).bind fun r34 => lt ((1 : Int32) + r34) fun x35 => lt (r33 ||| ((1 : Int32) <<< ((x35 - (1 : Int32)) &&& 31))) fun x36 => (f_X4_teach σ r16 x35).bind fun q43 => lts q43.2 fun σ38 => lt q43.1 fun r37 => if r33 = x36 then (f_L_pupils_b150 σ38 r16 x36 (-10000005 : Int32) r37) else (f_L_pupils_b150 σ38 r16 x36 x36 r37)) else ((f_X4_pupil σ r16 (1 : Int32)).bind fun r18 => lt (r18 ^^^ r4) fun x19 => if x19 = 0 then ((f_X4_pupil σ r16 (0 : Int32)).bind fun r31 => if r31 = x3 then (f_L_pupils_b205 σ x3 r4 r16 x19 (1 : Int32)) else (f_L_pupils_b204 σ x3 r4 r16 x19)) else (f_L_pupils_b204 σ x3 r4 r16 x19))))
set_option maxHeartbeats 4000000 in
set_option maxRecDepth 100000 in
theorem L_L_pupils_b65 {Γ : Cx} (G : va_G) (cls : Cls) (ad : Nat → Nat) (hi : inj 49 ad) (hC : CX Γ (YX G cls ad) cL_pupils RL 11 (some .boolean) 5 115) (hz0 : Γ.2.2.2.2.2.1 = 0) (hz1 : Γ.2.2.2.2.2.2 = 0)     (σ : Sg) (w0 : Int32) (w1 : Int32) : WX Γ (YX G cls ad) (qf Γ (YX G cls ad) fiS) 11 65 [(0, .ref (ad 25))] [.int w0, .int w1] σ (f_L_pupils_b65   σ w0 w1) := by
  unfold f_L_pupils_b65
  refine X_icmp_ne hC 84 dL_pupils_65 (by decide) (fun h9 => ?_) (fun h9 => ?_)
  · refine X_iconst (v := 0) hC (by decide) dL_pupils_84 ?_
    exact X_none
  · refine X_aload_n hC 0 rfl dL_pupils_68 ?_
    refine X_bipush (v := 51) hC (by decide) dL_pupils_69 ?_
    refine X_iconst (v := 0) hC (by decide) dL_pupils_71 ?_
    refine X_callS (C := RX4) (T := TX4) (N := 5) (ci := 4) (rest := []) hC (c_X4_addPupil _ G cls ad hi σ (51 : Int32) (0 : Int32)) (gV tw_466 tw_467 tw_468 tw_1 tw_469) rfl (wX (k := 25) (by omega) cX_vs) rfl rfl okm_X4_addPupil (by decide) dL_pupils_72 rfl (Nat.le_of_ble_eq_true rfl) (fun q13 => X_lts fun σ11 => X_lt fun r10 => ?_)
    refine X_ldc (v := -10000002) hC tw_388 dL_pupils_75 ?_
    refine X_icmp_ne hC 84 dL_pupils_77 (by decide) (fun h12 => ?_) (fun h12 => ?_)
    · refine X_iconst (v := 0) hC (by decide) dL_pupils_84 ?_
      exact X_none
    · refine X_iconst (v := 1) hC (by decide) dL_pupils_80 ?_
      refine X_goto hC 85 dL_pupils_81 (by decide) ?_
      exact X_zret hC hz0 hz1 rfl dL_pupils_85 rfl
set_option maxHeartbeats 4000000 in
set_option maxRecDepth 100000 in
theorem L_L_pupils_b39 {Γ : Cx} (G : va_G) (cls : Cls) (ad : Nat → Nat) (hi : inj 49 ad) (hC : CX Γ (YX G cls ad) cL_pupils RL 11 (some .boolean) 5 115) (hz0 : Γ.2.2.2.2.2.1 = 0) (hz1 : Γ.2.2.2.2.2.2 = 0)     (σ : Sg) (v4 : Int32) (v5 : Int32) (v6 : Int32) : WX Γ (YX G cls ad) (qf Γ (YX G cls ad) fiS) 11 39 [(0, .ref (ad 25)), (4, .int v4), (5, .int v5), (6, .int v6)] [] σ (f_L_pupils_b39   σ v4 v5 v6) := by
  unfold f_L_pupils_b39
  refine X_aload_n hC 0 rfl dL_pupils_39 ?_
  refine X_iload hC 2 rfl dL_pupils_40 ?_
  refine X_iload hC 3 rfl dL_pupils_42 ?_
  refine X_callS (C := RX4) (T := TX4) (N := 5) (ci := 4) (rest := []) hC (c_X4_addPupil _ G cls ad hi σ v5 v6) (gV tw_466 tw_467 tw_468 tw_1 tw_469) rfl (wX (k := 25) (by omega) cX_vs) rfl rfl okm_X4_addPupil (by decide) dL_pupils_44 rfl (Nat.le_of_ble_eq_true rfl) (fun q14 => X_lts fun σ7 => X_lt fun r6 => ?_)
  refine X_istore (ls' := [(7, .int r6), (0, .ref (ad 25)), (4, .int v4), (5, .int v5), (6, .int v6)]) hC dL_pupils_47 (by decide) rfl ?_
  refine X_iload hC 0 rfl dL_pupils_49 ?_
  refine X_iload hC 2 rfl dL_pupils_51 ?_
  refine X_bipush (v := 12) hC (by decide) dL_pupils_53 ?_
  refine X_icmp_ne hC 63 dL_pupils_55 (by decide) (fun h8 => ?_) (fun h8 => ?_)
  · refine X_iload hC 2 rfl dL_pupils_63 ?_
    exact X_sub [1] rfl (L_L_pupils_b65 G cls ad hi hC hz0 hz1 σ7 v4 r6)
  · refine X_ldc (v := -10000003) hC tw_443 dL_pupils_58 ?_
    refine X_goto hC 65 dL_pupils_60 (by decide) ?_
    exact X_sub [1] rfl (L_L_pupils_b65 G cls ad hi hC hz0 hz1 σ7 (-10000003 : Int32) r6)
set_option maxHeartbeats 4000000 in
set_option maxRecDepth 100000 in
theorem L_L_pupils_b254 {Γ : Cx} (G : va_G) (cls : Cls) (ad : Nat → Nat) (hi : inj 49 ad) (hC : CX Γ (YX G cls ad) cL_pupils RL 11 (some .boolean) 5 115) (hz0 : Γ.2.2.2.2.2.1 = 0) (hz1 : Γ.2.2.2.2.2.2 = 0)     (σ : Sg) (v5 : Int32) (v6 : Int32) (v7 : Int32) (w0 : Int32) (w1 : Int32) : WX Γ (YX G cls ad) (qf Γ (YX G cls ad) fiS) 11 254 [(0, .ref (ad 25)), (5, .int v5), (6, .int v6), (7, .int v7)] [.int w0, .int w1] σ (f_L_pupils_b254   σ v5 v6 v7 w0 w1) := by
  unfold f_L_pupils_b254
  refine X_icmp_ne hC 285 dL_pupils_254 (by decide) (fun h25 => ?_) (fun h25 => ?_)
  · refine X_iconst (v := 0) hC (by decide) dL_pupils_285 ?_
    exact X_none
  · refine X_aload_n hC 0 rfl dL_pupils_257 ?_
    refine X_iload hC 3 rfl dL_pupils_258 ?_
    refine X_iconst (v := 0) hC (by decide) dL_pupils_260 ?_
    refine X_callP (C := RX4) (T := TX4) (N := 5) (ci := 4) (rest := []) hC (c_X4_pupil _ G cls ad hi σ v7 (0 : Int32)) (gV tw_371 tw_372 tw_373 tw_1 tw_374) rfl (wX (k := 25) (by omega) cX_vs) rfl rfl okm_X4_pupil (by decide) dL_pupils_261 rfl (Nat.le_of_ble_eq_true rfl) (fun r26 => ?_)
    refine X_iload hC 1 rfl dL_pupils_264 ?_
    refine X_icmp_ne hC 285 dL_pupils_266 (by decide) (fun h27 => ?_) (fun h27 => ?_)
    · refine X_iconst (v := 0) hC (by decide) dL_pupils_285 ?_
      exact X_none
    · refine X_aload_n hC 0 rfl dL_pupils_269 ?_
      refine X_iload hC 3 rfl dL_pupils_270 ?_
      refine X_iconst (v := 1) hC (by decide) dL_pupils_272 ?_
      refine X_callP (C := RX4) (T := TX4) (N := 5) (ci := 4) (rest := []) hC (c_X4_pupil _ G cls ad hi σ v7 (1 : Int32)) (gV tw_371 tw_372 tw_373 tw_1 tw_374) rfl (wX (k := 25) (by omega) cX_vs) rfl rfl okm_X4_pupil (by decide) dL_pupils_273 rfl (Nat.le_of_ble_eq_true rfl) (fun r28 => ?_)
      refine X_iload hC 2 rfl dL_pupils_276 ?_
      refine X_icmp_ne hC 285 dL_pupils_278 (by decide) (fun h29 => ?_) (fun h29 => ?_)
      · refine X_iconst (v := 0) hC (by decide) dL_pupils_285 ?_
        exact X_none
      · refine X_iconst (v := 1) hC (by decide) dL_pupils_281 ?_
        refine X_goto hC 286 dL_pupils_282 (by decide) ?_
        exact X_zret hC hz0 hz1 rfl dL_pupils_286 rfl
set_option maxHeartbeats 4000000 in
set_option maxRecDepth 100000 in
theorem L_L_pupils_b205 {Γ : Cx} (G : va_G) (cls : Cls) (ad : Nat → Nat) (hi : inj 49 ad) (hC : CX Γ (YX G cls ad) cL_pupils RL 11 (some .boolean) 5 115) (hz0 : Γ.2.2.2.2.2.1 = 0) (hz1 : Γ.2.2.2.2.2.2 = 0)     (σ : Sg) (v5 : Int32) (v6 : Int32) (v7 : Int32) (v8 : Int32) (w0 : Int32) : WX Γ (YX G cls ad) (qf Γ (YX G cls ad) fiS) 11 205 [(0, .ref (ad 25)), (5, .int v5), (6, .int v6), (7, .int v7), (8, .int v8)] [.int w0] σ (f_L_pupils_b205   σ v5 v6 v7 v8 w0) := by
  unfold f_L_pupils_b205
  refine X_istore (ls' := [(9, .int w0), (0, .ref (ad 25)), (5, .int v5), (6, .int v6), (7, .int v7), (8, .int v8)]) hC dL_pupils_205 (by decide) rfl ?_
  refine X_iload hC 5 rfl dL_pupils_207 ?_
  refine X_iconst (v := 1) hC (by decide) dL_pupils_209 ?_
  refine X_iand hC dL_pupils_210 ?_
  refine X_iload hC 5 rfl dL_pupils_211 ?_
  refine X_iconst (v := 1) hC (by decide) dL_pupils_213 ?_
  refine X_ishr hC dL_pupils_214 ?_
  refine X_iconst (v := 1) hC (by decide) dL_pupils_215 ?_
  refine X_iand hC dL_pupils_216 ?_
  refine X_iadd hC dL_pupils_217 ?_
  refine X_iload hC 5 rfl dL_pupils_218 ?_
  refine X_iconst (v := 2) hC (by decide) dL_pupils_220 ?_
  refine X_ishr hC dL_pupils_221 ?_
  refine X_iconst (v := 1) hC (by decide) dL_pupils_222 ?_
  refine X_iand hC dL_pupils_223 ?_
  refine X_iadd hC dL_pupils_224 ?_
  refine X_iload hC 5 rfl dL_pupils_225 ?_
  refine X_iconst (v := 3) hC (by decide) dL_pupils_227 ?_
  refine X_ishr hC dL_pupils_228 ?_
  refine X_iadd hC dL_pupils_229 ?_
  refine X_lt (fun x21 => ?_)
  refine X_istore (ls' := [(10, .int x21), (9, .int w0), (0, .ref (ad 25)), (5, .int v5), (6, .int v6), (7, .int v7), (8, .int v8)]) hC dL_pupils_230 (by decide) rfl ?_
  refine X_aload_n hC 2 rfl dL_pupils_232 ?_
  refine X_iload hC 5 rfl dL_pupils_233 ?_
  refine X_iload hC 3 rfl dL_pupils_235 ?_
  refine X_iload hC 4 rfl dL_pupils_237 ?_
  refine X_callS (C := RX4) (T := TX4) (N := 5) (ci := 4) (rest := []) hC (c_X4_train _ G cls ad hi σ v7 v5 v6) (gV tw_477 tw_478 tw_479 tw_1 tw_480) rfl (wX (k := 25) (by omega) cX_vs) rfl rfl okm_X4_train (by decide) dL_pupils_239 rfl (Nat.le_of_ble_eq_true rfl) (fun q30 => X_lts fun σ23 => X_lt fun r22 => ?_)
  refine X_iload hC 1 rfl dL_pupils_242 ?_
  refine X_if_eq hC 252 dL_pupils_244 (by decide) (fun h24 => ?_) (fun h24 => ?_)
  · refine X_iload hC 0 rfl dL_pupils_252 ?_
    exact X_sub [2, 3, 4, 5] rfl (L_L_pupils_b254 G cls ad hi hC hz0 hz1 σ23 v5 v6 v7 x21 r22)
  · refine X_ldc (v := -10000005) hC tw_387 dL_pupils_247 ?_
    refine X_goto hC 254 dL_pupils_249 (by decide) ?_
    exact X_sub [2, 3, 4, 5] rfl (L_L_pupils_b254 G cls ad hi hC hz0 hz1 σ23 v5 v6 v7 (-10000005 : Int32) r22)
set_option maxHeartbeats 4000000 in
set_option maxRecDepth 100000 in
theorem L_L_pupils_b204 {Γ : Cx} (G : va_G) (cls : Cls) (ad : Nat → Nat) (hi : inj 49 ad) (hC : CX Γ (YX G cls ad) cL_pupils RL 11 (some .boolean) 5 115) (hz0 : Γ.2.2.2.2.2.1 = 0) (hz1 : Γ.2.2.2.2.2.2 = 0)     (σ : Sg) (v5 : Int32) (v6 : Int32) (v7 : Int32) (v8 : Int32) : WX Γ (YX G cls ad) (qf Γ (YX G cls ad) fiS) 11 204 [(0, .ref (ad 25)), (5, .int v5), (6, .int v6), (7, .int v7), (8, .int v8)] [] σ (f_L_pupils_b204   σ v5 v6 v7 v8) := by
  unfold f_L_pupils_b204
  refine X_iconst (v := 0) hC (by decide) dL_pupils_204 ?_
  exact (L_L_pupils_b205 G cls ad hi hC hz0 hz1 σ v5 v6 v7 v8 (0 : Int32))
set_option maxHeartbeats 4000000 in
set_option maxRecDepth 100000 in
theorem L_L_pupils_b150 {Γ : Cx} (G : va_G) (cls : Cls) (ad : Nat → Nat) (hi : inj 49 ad) (hC : CX Γ (YX G cls ad) cL_pupils RL 11 (some .boolean) 5 115) (hz0 : Γ.2.2.2.2.2.1 = 0) (hz1 : Γ.2.2.2.2.2.2 = 0)     (σ : Sg) (v7 : Int32) (v10 : Int32) (w0 : Int32) (w1 : Int32) : WX Γ (YX G cls ad) (qf Γ (YX G cls ad) fiS) 11 150 [(0, .ref (ad 25)), (7, .int v7), (10, .int v10)] [.int w0, .int w1] σ (f_L_pupils_b150   σ v7 v10 w0 w1) := by
  unfold f_L_pupils_b150
  refine X_icmp_ne hC 169 dL_pupils_150 (by decide) (fun h40 => ?_) (fun h40 => ?_)
  · refine X_iconst (v := 0) hC (by decide) dL_pupils_169 ?_
    exact X_none
  · refine X_aload_n hC 0 rfl dL_pupils_153 ?_
    refine X_iload hC 1 rfl dL_pupils_154 ?_
    refine X_iconst (v := 2) hC (by decide) dL_pupils_156 ?_
    refine X_callP (C := RX4) (T := TX4) (N := 5) (ci := 4) (rest := []) hC (c_X4_pupil _ G cls ad hi σ v7 (2 : Int32)) (gV tw_371 tw_372 tw_373 tw_1 tw_374) rfl (wX (k := 25) (by omega) cX_vs) rfl rfl okm_X4_pupil (by decide) dL_pupils_157 rfl (Nat.le_of_ble_eq_true rfl) (fun r41 => ?_)
    refine X_iload hC 2 rfl dL_pupils_160 ?_
    refine X_icmp_ne hC 169 dL_pupils_162 (by decide) (fun h42 => ?_) (fun h42 => ?_)
    · refine X_iconst (v := 0) hC (by decide) dL_pupils_169 ?_
      exact X_none
    · refine X_iconst (v := 1) hC (by decide) dL_pupils_165 ?_
      refine X_goto hC 170 dL_pupils_166 (by decide) ?_
      exact X_zret hC hz0 hz1 rfl dL_pupils_170 rfl
theorem okm_L_pupils : okm yL_pupils 4 = true := by decide +kernel
set_option maxHeartbeats 4000000 in
set_option maxRecDepth 100000 in
theorem c_L_pupils (l : Launch) (G : va_G) (cls : Cls) (ad : Nat → Nat) (hi : inj 49 ad) (σ : Sg)   (p1 p2 p3 : Int32) : MT l (YX G cls ad) yL_pupils (.code yL_pupils cL_pupils 11 (some .boolean) :: gw) 5 115 [.ref (ad 25), .int p1, .int p2, .int p3] fiS σ (f_L_pupils σ  p1 p2 p3) := by
  refine MT.of (own := RL) (by decide) (YX_D hi) rfl (Nat.le_of_ble_eq_true rfl) fun Γ _ hz0 hz1 hC => ?_
  show WX Γ (YX G cls ad) (qf Γ (YX G cls ad) fiS) 11 0 [(0, .ref (ad 25)), (1, .int p1), (2, .int p2), (3, .int p3)] [] σ (f_L_pupils σ  p1 p2 p3)
  unfold f_L_pupils
  refine X_aload_n hC 0 rfl dL_pupils_0 ?_
  refine X_iconst (v := 1) hC (by decide) dL_pupils_1 ?_
  refine X_callP (C := RX4) (T := TX4) (N := 5) (ci := 4) (rest := []) hC (c_X4_count _ G cls ad hi σ (1 : Int32)) (gV tw_338 tw_339 tw_340 tw_1 tw_341) rfl (wX (k := 25) (by omega) cX_vs) rfl rfl okm_X4_count (by decide) dL_pupils_2 rfl (Nat.le_of_ble_eq_true rfl) (fun r1 => ?_)
  refine X_istore (ls' := [(4, .int r1), (0, .ref (ad 25)), (1, .int p1), (2, .int p2), (3, .int p3)]) hC dL_pupils_5 (by decide) rfl ?_
  refine X_iload_n hC 4 rfl dL_pupils_7 ?_
  refine X_bipush (v := 101) hC (by decide) dL_pupils_8 ?_
  refine X_statP (rest := []) hC (c_L_low _ G cls ad hi σ p3 (101 : Int32)) (gSt tw_358 tw_359 tw_0 tw_360) rfl okm_L_low (by decide) dL_pupils_10 rfl (Nat.le_of_ble_eq_true rfl) (fun r2 => ?_)
  refine X_bipush (v := 50) hC (by decide) dL_pupils_13 ?_
  refine X_isub hC dL_pupils_15 ?_
  refine X_lt (fun x3 => ?_)
  refine X_istore (ls' := [(5, .int x3), (4, .int r1), (0, .ref (ad 25)), (1, .int p1), (2, .int p2), (3, .int p3)]) hC dL_pupils_16 (by decide) rfl ?_
  refine X_iload_n hC 5 rfl dL_pupils_18 ?_
  refine X_bipush (v := 7) hC (by decide) dL_pupils_19 ?_
  refine X_ishr hC dL_pupils_21 ?_
  refine X_bipush (v := 16) hC (by decide) dL_pupils_22 ?_
  refine X_statP (rest := []) hC (c_L_low _ G cls ad hi σ (p3 >>> ((7 : Int32) &&& 31)) (16 : Int32)) (gSt tw_358 tw_359 tw_0 tw_360) rfl okm_L_low (by decide) dL_pupils_24 rfl (Nat.le_of_ble_eq_true rfl) (fun r4 => ?_)
  refine X_istore (ls' := [(6, .int r4), (5, .int x3), (4, .int r1), (0, .ref (ad 25)), (1, .int p1), (2, .int p2), (3, .int p3)]) hC dL_pupils_27 (by decide) rfl ?_
  refine X_iload hC 2 rfl dL_pupils_29 ?_
  refine X_if_eq hC 39 dL_pupils_31 (by decide) (fun h5 => ?_) (fun h5 => ?_)
  · exact X_sub [3, 2, 1, 0] rfl (L_L_pupils_b39 G cls ad hi hC hz0 hz1 σ r1 x3 r4)
  · refine X_iload_n hC 4 rfl dL_pupils_34 ?_
    refine X_iconst (v := 4) hC (by decide) dL_pupils_35 ?_
    refine X_icmp_ne hC 86 dL_pupils_36 (by decide) (fun h15 => ?_) (fun h15 => ?_)
    · refine X_iload_n hC 5 rfl dL_pupils_86 ?_
      refine X_iload hC 2 rfl dL_pupils_87 ?_
      refine X_statP (rest := []) hC (c_L_low _ G cls ad hi σ p2 r1) (gSt tw_358 tw_359 tw_0 tw_360) rfl okm_L_low (by decide) dL_pupils_89 rfl (Nat.le_of_ble_eq_true rfl) (fun r16 => ?_)
      refine X_istore (ls' := [(7, .int r16), (6, .int r4), (5, .int x3), (4, .int r1), (0, .ref (ad 25)), (1, .int p1), (2, .int p2), (3, .int p3)]) hC dL_pupils_92 (by decide) rfl ?_
      refine X_iload_n hC 5 rfl dL_pupils_94 ?_
      refine X_iconst (v := 5) hC (by decide) dL_pupils_95 ?_
      refine X_icmp_ne hC 171 dL_pupils_96 (by decide) (fun h17 => ?_) (fun h17 => ?_)
      · refine X_aload_n hC 4 rfl dL_pupils_171 ?_
        refine X_iload hC 0 rfl dL_pupils_172 ?_
        refine X_iconst (v := 1) hC (by decide) dL_pupils_174 ?_
        refine X_callP (C := RX4) (T := TX4) (N := 5) (ci := 4) (rest := []) hC (c_X4_pupil _ G cls ad hi σ r16 (1 : Int32)) (gV tw_371 tw_372 tw_373 tw_1 tw_374) rfl (wX (k := 25) (by omega) cX_vs) rfl rfl okm_X4_pupil (by decide) dL_pupils_175 rfl (Nat.le_of_ble_eq_true rfl) (fun r18 => ?_)
        refine X_iload hC 1 rfl dL_pupils_178 ?_
        refine X_ixor hC dL_pupils_180 ?_
        refine X_lt (fun x19 => ?_)
        refine X_istore (ls' := [(8, .int x19), (7, .int r16), (6, .int r4), (5, .int x3), (4, .int r1), (0, .ref (ad 25)), (1, .int p1), (2, .int p2), (3, .int p3)]) hC dL_pupils_181 (by decide) rfl ?_
        refine X_iload hC 0 rfl dL_pupils_183 ?_
        refine X_if_ne hC 204 dL_pupils_185 (by decide) (fun h20 => ?_) (fun h20 => ?_)
        · exact X_sub [5, 3, 2, 1, 0] rfl (L_L_pupils_b204 G cls ad hi hC hz0 hz1 σ x3 r4 r16 x19)
        · refine X_aload_n hC 5 rfl dL_pupils_188 ?_
          refine X_iload hC 1 rfl dL_pupils_189 ?_
          refine X_iconst (v := 0) hC (by decide) dL_pupils_191 ?_
          refine X_callP (C := RX4) (T := TX4) (N := 5) (ci := 4) (rest := []) hC (c_X4_pupil _ G cls ad hi σ r16 (0 : Int32)) (gV tw_371 tw_372 tw_373 tw_1 tw_374) rfl (wX (k := 25) (by omega) cX_vs) rfl rfl okm_X4_pupil (by decide) dL_pupils_192 rfl (Nat.le_of_ble_eq_true rfl) (fun r31 => ?_)
          refine X_iload hC 3 rfl dL_pupils_195 ?_
          refine X_icmp_ne hC 204 dL_pupils_197 (by decide) (fun h32 => ?_) (fun h32 => ?_)
          · exact X_sub [5, 3, 2, 1, 0] rfl (L_L_pupils_b204 G cls ad hi hC hz0 hz1 σ x3 r4 r16 x19)
          · refine X_iconst (v := 1) hC (by decide) dL_pupils_200 ?_
            refine X_goto hC 205 dL_pupils_201 (by decide) ?_
            exact X_sub [5, 3, 2, 1, 0] rfl (L_L_pupils_b205 G cls ad hi hC hz0 hz1 σ x3 r4 r16 x19 (1 : Int32))
      · refine X_aload_n hC 4 rfl dL_pupils_99 ?_
        refine X_iload hC 0 rfl dL_pupils_100 ?_
        refine X_iconst (v := 2) hC (by decide) dL_pupils_102 ?_
        refine X_callP (C := RX4) (T := TX4) (N := 5) (ci := 4) (rest := []) hC (c_X4_pupil _ G cls ad hi σ r16 (2 : Int32)) (gV tw_371 tw_372 tw_373 tw_1 tw_374) rfl (wX (k := 25) (by omega) cX_vs) rfl rfl okm_X4_pupil (by decide) dL_pupils_103 rfl (Nat.le_of_ble_eq_true rfl) (fun r33 => ?_)
        refine X_istore (ls' := [(8, .int r33), (7, .int r16), (6, .int r4), (5, .int x3), (4, .int r1), (0, .ref (ad 25)), (1, .int p1), (2, .int p2), (3, .int p3)]) hC dL_pupils_106 (by decide) rfl ?_
        refine X_iconst (v := 1) hC (by decide) dL_pupils_108 ?_
        refine X_iload_n hC 8 rfl dL_pupils_109 ?_
        refine X_iconst (v := 3) hC (by decide) dL_pupils_110 ?_
        refine X_statP (rest := [.int (1 : Int32)]) hC (c_L_low _ G cls ad hi σ p3 (3 : Int32)) (gSt tw_358 tw_359 tw_0 tw_360) rfl okm_L_low (by decide) dL_pupils_111 rfl (Nat.le_of_ble_eq_true rfl) (fun r34 => ?_)
        refine X_iadd hC dL_pupils_114 ?_
        refine X_lt (fun x35 => ?_)
        refine X_istore (ls' := [(9, .int x35), (8, .int r33), (7, .int r16), (6, .int r4), (5, .int x3), (4, .int r1), (0, .ref (ad 25)), (1, .int p1), (2, .int p2), (3, .int p3)]) hC dL_pupils_115 (by decide) rfl ?_
        refine X_iload hC 1 rfl dL_pupils_117 ?_
        refine X_iconst (v := 1) hC (by decide) dL_pupils_119 ?_
        refine X_iload hC 0 rfl dL_pupils_120 ?_
        refine X_iconst (v := 1) hC (by decide) dL_pupils_122 ?_
        refine X_isub hC dL_pupils_123 ?_
        refine X_ishl hC dL_pupils_124 ?_
        refine X_ior hC dL_pupils_125 ?_
        refine X_lt (fun x36 => ?_)
        refine X_istore (ls' := [(10, .int x36), (9, .int x35), (8, .int r33), (7, .int r16), (6, .int r4), (5, .int x3), (4, .int r1), (0, .ref (ad 25)), (1, .int p1), (2, .int p2), (3, .int p3)]) hC dL_pupils_126 (by decide) rfl ?_
        refine X_aload_n hC 7 rfl dL_pupils_128 ?_
        refine X_iload hC 3 rfl dL_pupils_129 ?_
        refine X_iload hC 1 rfl dL_pupils_131 ?_
        refine X_callS (C := RX4) (T := TX4) (N := 5) (ci := 4) (rest := []) hC (c_X4_teach _ G cls ad hi σ r16 x35) (gV tw_471 tw_472 tw_473 tw_1 tw_474) rfl (wX (k := 25) (by omega) cX_vs) rfl rfl okm_X4_teach (by decide) dL_pupils_133 rfl (Nat.le_of_ble_eq_true rfl) (fun q43 => X_lts fun σ38 => X_lt fun r37 => ?_)
        refine X_iload hC 2 rfl dL_pupils_136 ?_
        refine X_iload hC 0 rfl dL_pupils_138 ?_
        refine X_icmp_ne hC 148 dL_pupils_140 (by decide) (fun h39 => ?_) (fun h39 => ?_)
        · refine X_iload hC 0 rfl dL_pupils_148 ?_
          exact X_sub [7, 3, 0] rfl (L_L_pupils_b150 G cls ad hi hC hz0 hz1 σ38 r16 x36 x36 r37)
        · refine X_ldc (v := -10000005) hC tw_387 dL_pupils_143 ?_
          refine X_goto hC 150 dL_pupils_145 (by decide) ?_
          exact X_sub [7, 3, 0] rfl (L_L_pupils_b150 G cls ad hi hC hz0 hz1 σ38 r16 x36 (-10000005 : Int32) r37)
    · exact X_sub [3, 2, 1, 0] rfl (L_L_pupils_b39 G cls ad hi hC hz0 hz1 σ r1 x3 r4)
