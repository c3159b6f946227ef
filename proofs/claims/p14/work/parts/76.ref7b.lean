section
theorem dX12_laid_0 : decode cX12_laid 0 = .ok (.iload_n 2, 1) := dl_28 (by decide +kernel)
theorem dX12_laid_1 : decode cX12_laid 1 = .ok (.iconst 1, 1) := dl_4 (by decide +kernel)
theorem dX12_laid_2 : decode cX12_laid 2 = .ok (.iadd, 1) := dl_96 (by decide +kernel)
theorem dX12_laid_3 : decode cX12_laid 3 = .ok (.istore_n 3, 1) := dl_62 (by decide +kernel)
theorem dX12_laid_4 : decode cX12_laid 4 = .ok (.iconst 0, 1) := dl_3 (by decide +kernel)
theorem dX12_laid_5 : decode cX12_laid 5 = .ok (.istore 4, 2) := dl_54 (by decide +kernel)
theorem dX12_laid_7 : decode cX12_laid 7 = .ok (.iconst 0, 1) := dl_3 (by decide +kernel)
theorem dX12_laid_8 : decode cX12_laid 8 = .ok (.istore 5, 2) := dl_54 (by decide +kernel)
theorem dX12_laid_10 : decode cX12_laid 10 = .ok (.iload 5, 2) := dl_21 (by decide +kernel)
theorem dX12_laid_12 : decode cX12_laid 12 = .ok (.aload_n 0, 1) := dl_42 (by decide +kernel)
theorem dX12_laid_13 : decode cX12_laid 13 = .ok (.getfield 52, 3) := dl_180 (by decide +kernel)
theorem dX12_laid_16 : decode cX12_laid 16 = .ok (.iload_n 1, 1) := dl_27 (by decide +kernel)
theorem dX12_laid_17 : decode cX12_laid 17 = .ok (.iaload, 1) := dl_46 (by decide +kernel)
theorem dX12_laid_18 : decode cX12_laid 18 = .ok (.if_icmp .ge 73, 3) := dl_162 (by decide +kernel)
theorem dX12_laid_91 : decode cX12_laid 91 = .ok (.iconst 0, 1) := dl_3 (by decide +kernel)
theorem dX12_laid_92 : decode cX12_laid 92 = .ok (.istore 5, 2) := dl_54 (by decide +kernel)
theorem dX12_laid_94 : decode cX12_laid 94 = .ok (.iload 5, 2) := dl_21 (by decide +kernel)
theorem dX12_laid_96 : decode cX12_laid 96 = .ok (.aload_n 0, 1) := dl_42 (by decide +kernel)
theorem dX12_laid_97 : decode cX12_laid 97 = .ok (.getfield 7, 3) := dl_180 (by decide +kernel)
theorem dX12_laid_100 : decode cX12_laid 100 = .ok (.iload_n 2, 1) := dl_28 (by decide +kernel)
theorem dX12_laid_101 : decode cX12_laid 101 = .ok (.iaload, 1) := dl_46 (by decide +kernel)
theorem dX12_laid_102 : decode cX12_laid 102 = .ok (.if_icmp .ge 132, 3) := dl_162 (by decide +kernel)
theorem dX12_laid_234 : decode cX12_laid 234 = .ok (.aload_n 0, 1) := dl_42 (by decide +kernel)
theorem dX12_laid_235 : decode cX12_laid 235 = .ok (.getfield 7, 3) := dl_180 (by decide +kernel)
theorem dX12_laid_238 : decode cX12_laid 238 = .ok (.iload_n 3, 1) := dl_29 (by decide +kernel)
theorem dX12_laid_239 : decode cX12_laid 239 = .ok (.iload 4, 2) := dl_21 (by decide +kernel)
theorem dX12_laid_241 : decode cX12_laid 241 = .ok (.iastore, 1) := dl_79 (by decide +kernel)
theorem dX12_laid_242 : decode cX12_laid 242 = .ok (.iconst 0, 1) := dl_3 (by decide +kernel)
theorem dX12_laid_243 : decode cX12_laid 243 = .ok (.istore 5, 2) := dl_54 (by decide +kernel)
theorem dX12_laid_245 : decode cX12_laid 245 = .ok (.iload 5, 2) := dl_21 (by decide +kernel)
theorem dX12_laid_247 : decode cX12_laid 247 = .ok (.aload_n 0, 1) := dl_42 (by decide +kernel)
theorem dX12_laid_248 : decode cX12_laid 248 = .ok (.getfield 7, 3) := dl_180 (by decide +kernel)
theorem dX12_laid_251 : decode cX12_laid 251 = .ok (.iload_n 2, 1) := dl_28 (by decide +kernel)
theorem dX12_laid_252 : decode cX12_laid 252 = .ok (.iaload, 1) := dl_46 (by decide +kernel)
theorem dX12_laid_253 : decode cX12_laid 253 = .ok (.if_icmp .ge 100, 3) := dl_162 (by decide +kernel)
theorem dX12_laid_353 : decode cX12_laid 353 = .ok (.aload_n 0, 1) := dl_42 (by decide +kernel)
theorem dX12_laid_354 : decode cX12_laid 354 = .ok (.getfield 7, 3) := dl_180 (by decide +kernel)
theorem dX12_laid_357 : decode cX12_laid 357 = .ok (.iload_n 2, 1) := dl_28 (by decide +kernel)
theorem dX12_laid_358 : decode cX12_laid 358 = .ok (.iaload, 1) := dl_46 (by decide +kernel)
theorem dX12_laid_359 : decode cX12_laid 359 = .ok (.ifCond .ne 8, 3) := dl_154 (by decide +kernel)
theorem dX12_laid_367 : decode cX12_laid 367 = .ok (.aload_n 0, 1) := dl_42 (by decide +kernel)
theorem dX12_laid_368 : decode cX12_laid 368 = .ok (.getfield 71, 3) := dl_180 (by decide +kernel)
theorem dX12_laid_371 : decode cX12_laid 371 = .ok (.bipush 96, 2) := dl_16 (by decide +kernel)
theorem dX12_laid_373 : decode cX12_laid 373 = .ok (.iload_n 2, 1) := dl_28 (by decide +kernel)
theorem dX12_laid_374 : decode cX12_laid 374 = .ok (.imul, 1) := dl_104 (by decide +kernel)
theorem dX12_laid_375 : decode cX12_laid 375 = .ok (.iconst 4, 1) := dl_7 (by decide +kernel)
theorem dX12_laid_376 : decode cX12_laid 376 = .ok (.aload_n 0, 1) := dl_42 (by decide +kernel)
theorem dX12_laid_377 : decode cX12_laid 377 = .ok (.getfield 13, 3) := dl_180 (by decide +kernel)
theorem dX12_laid_380 : decode cX12_laid 380 = .ok (.iload_n 2, 1) := dl_28 (by decide +kernel)
theorem dX12_laid_381 : decode cX12_laid 381 = .ok (.iaload, 1) := dl_46 (by decide +kernel)
theorem dX12_laid_382 : decode cX12_laid 382 = .ok (.imul, 1) := dl_104 (by decide +kernel)
theorem dX12_laid_383 : decode cX12_laid 383 = .ok (.iadd, 1) := dl_96 (by decide +kernel)
theorem dX12_laid_384 : decode cX12_laid 384 = .ok (.aload_n 0, 1) := dl_42 (by decide +kernel)
theorem dX12_laid_385 : decode cX12_laid 385 = .ok (.getfield 55, 3) := dl_180 (by decide +kernel)
theorem dX12_laid_388 : decode cX12_laid 388 = .ok (.iload_n 1, 1) := dl_27 (by decide +kernel)
theorem dX12_laid_389 : decode cX12_laid 389 = .ok (.iaload, 1) := dl_46 (by decide +kernel)
theorem dX12_laid_390 : decode cX12_laid 390 = .ok (.iadd, 1) := dl_96 (by decide +kernel)
theorem dX12_laid_391 : decode cX12_laid 391 = .ok (.iaload, 1) := dl_46 (by decide +kernel)
theorem dX12_laid_392 : decode cX12_laid 392 = .ok (.istore 5, 2) := dl_54 (by decide +kernel)
theorem dX12_laid_394 : decode cX12_laid 394 = .ok (.aload_n 0, 1) := dl_42 (by decide +kernel)
theorem dX12_laid_395 : decode cX12_laid 395 = .ok (.getfield 13, 3) := dl_180 (by decide +kernel)
theorem dX12_laid_398 : decode cX12_laid 398 = .ok (.iload_n 3, 1) := dl_29 (by decide +kernel)
theorem dX12_laid_399 : decode cX12_laid 399 = .ok (.iload 5, 2) := dl_21 (by decide +kernel)
theorem dX12_laid_401 : decode cX12_laid 401 = .ok (.bipush (-4), 2) := dl_16 (by decide +kernel)
theorem dX12_laid_403 : decode cX12_laid 403 = .ok (.if_icmp .ne 7, 3) := dl_160 (by decide +kernel)
theorem dX12_laid_406 : decode cX12_laid 406 = .ok (.iconst 0, 1) := dl_3 (by decide +kernel)
theorem dX12_laid_407 : decode cX12_laid 407 = .ok (.goto 5, 3) := dl_167 (by decide +kernel)
theorem dX12_laid_412 : decode cX12_laid 412 = .ok (.iastore, 1) := dl_79 (by decide +kernel)
theorem dX12_laid_413 : decode cX12_laid 413 = .ok (.iload 4, 2) := dl_21 (by decide +kernel)
theorem dX12_laid_415 : decode cX12_laid 415 = .ok (.ireturn, 1) := dl_172 (by decide +kernel)
theorem dX12_laid_410 : decode cX12_laid 410 = .ok (.iload 5, 2) := dl_21 (by decide +kernel)
theorem dX12_laid_362 : decode cX12_laid 362 = .ok (.bipush (-4), 2) := dl_16 (by decide +kernel)
theorem dX12_laid_364 : decode cX12_laid 364 = .ok (.goto 28, 3) := dl_167 (by decide +kernel)
theorem dX12_laid_256 : decode cX12_laid 256 = .ok (.iconst 0, 1) := dl_3 (by decide +kernel)
theorem dX12_laid_257 : decode cX12_laid 257 = .ok (.istore 6, 2) := dl_54 (by decide +kernel)
theorem dX12_laid_259 : decode cX12_laid 259 = .ok (.iload 6, 2) := dl_21 (by decide +kernel)
theorem dX12_laid_261 : decode cX12_laid 261 = .ok (.aload_n 0, 1) := dl_42 (by decide +kernel)
theorem dX12_laid_262 : decode cX12_laid 262 = .ok (.getfield 52, 3) := dl_180 (by decide +kernel)
theorem dX12_laid_265 : decode cX12_laid 265 = .ok (.iload_n 1, 1) := dl_27 (by decide +kernel)
theorem dX12_laid_266 : decode cX12_laid 266 = .ok (.iaload, 1) := dl_46 (by decide +kernel)
theorem dX12_laid_267 : decode cX12_laid 267 = .ok (.if_icmp .ge 80, 3) := dl_162 (by decide +kernel)
theorem dX12_laid_347 : decode cX12_laid 347 = .ok (.iinc 5 1, 3) := dl_132 (by decide +kernel)
theorem dX12_laid_350 : decode cX12_laid 350 = .ok (.goto (-105), 3) := dl_167 (by decide +kernel)
theorem dX12_laid_270 : decode cX12_laid 270 = .ok (.aload_n 0, 1) := dl_42 (by decide +kernel)
theorem dX12_laid_271 : decode cX12_laid 271 = .ok (.getfield 71, 3) := dl_180 (by decide +kernel)
theorem dX12_laid_274 : decode cX12_laid 274 = .ok (.bipush 96, 2) := dl_16 (by decide +kernel)
theorem dX12_laid_276 : decode cX12_laid 276 = .ok (.iload_n 2, 1) := dl_28 (by decide +kernel)
theorem dX12_laid_277 : decode cX12_laid 277 = .ok (.imul, 1) := dl_104 (by decide +kernel)
theorem dX12_laid_278 : decode cX12_laid 278 = .ok (.iconst 4, 1) := dl_7 (by decide +kernel)
theorem dX12_laid_279 : decode cX12_laid 279 = .ok (.iload 5, 2) := dl_21 (by decide +kernel)
theorem dX12_laid_281 : decode cX12_laid 281 = .ok (.imul, 1) := dl_104 (by decide +kernel)
theorem dX12_laid_282 : decode cX12_laid 282 = .ok (.iadd, 1) := dl_96 (by decide +kernel)
theorem dX12_laid_283 : decode cX12_laid 283 = .ok (.iload 6, 2) := dl_21 (by decide +kernel)
theorem dX12_laid_285 : decode cX12_laid 285 = .ok (.iadd, 1) := dl_96 (by decide +kernel)
theorem dX12_laid_286 : decode cX12_laid 286 = .ok (.iaload, 1) := dl_46 (by decide +kernel)
theorem dX12_laid_287 : decode cX12_laid 287 = .ok (.istore 7, 2) := dl_54 (by decide +kernel)
theorem dX12_laid_289 : decode cX12_laid 289 = .ok (.iconst 0, 1) := dl_3 (by decide +kernel)
theorem dX12_laid_290 : decode cX12_laid 290 = .ok (.istore 8, 2) := dl_54 (by decide +kernel)
theorem dX12_laid_292 : decode cX12_laid 292 = .ok (.iload 8, 2) := dl_21 (by decide +kernel)
theorem dX12_laid_294 : decode cX12_laid 294 = .ok (.iconst 4, 1) := dl_7 (by decide +kernel)
theorem dX12_laid_295 : decode cX12_laid 295 = .ok (.if_icmp .ge 46, 3) := dl_162 (by decide +kernel)
theorem dX12_laid_298 : decode cX12_laid 298 = .ok (.iload 7, 2) := dl_21 (by decide +kernel)
theorem dX12_laid_300 : decode cX12_laid 300 = .ok (.bipush (-4), 2) := dl_16 (by decide +kernel)
theorem dX12_laid_302 : decode cX12_laid 302 = .ok (.if_icmp .eq 39, 3) := dl_159 (by decide +kernel)
theorem dX12_laid_341 : decode cX12_laid 341 = .ok (.iinc 6 1, 3) := dl_132 (by decide +kernel)
theorem dX12_laid_344 : decode cX12_laid 344 = .ok (.goto (-85), 3) := dl_167 (by decide +kernel)
theorem dX12_laid_305 : decode cX12_laid 305 = .ok (.aload_n 0, 1) := dl_42 (by decide +kernel)
theorem dX12_laid_306 : decode cX12_laid 306 = .ok (.getfield 19, 3) := dl_180 (by decide +kernel)
theorem dX12_laid_309 : decode cX12_laid 309 = .ok (.bipush 96, 2) := dl_16 (by decide +kernel)
theorem dX12_laid_311 : decode cX12_laid 311 = .ok (.iload_n 3, 1) := dl_29 (by decide +kernel)
theorem dX12_laid_312 : decode cX12_laid 312 = .ok (.imul, 1) := dl_104 (by decide +kernel)
theorem dX12_laid_313 : decode cX12_laid 313 = .ok (.bipush 24, 2) := dl_16 (by decide +kernel)
theorem dX12_laid_315 : decode cX12_laid 315 = .ok (.iload 8, 2) := dl_21 (by decide +kernel)
theorem dX12_laid_317 : decode cX12_laid 317 = .ok (.imul, 1) := dl_104 (by decide +kernel)
theorem dX12_laid_318 : decode cX12_laid 318 = .ok (.iadd, 1) := dl_96 (by decide +kernel)
theorem dX12_laid_319 : decode cX12_laid 319 = .ok (.iload 7, 2) := dl_21 (by decide +kernel)
theorem dX12_laid_321 : decode cX12_laid 321 = .ok (.iadd, 1) := dl_96 (by decide +kernel)
theorem dX12_laid_322 : decode cX12_laid 322 = .ok (.aload_n 0, 1) := dl_42 (by decide +kernel)
theorem dX12_laid_323 : decode cX12_laid 323 = .ok (.iload_n 1, 1) := dl_27 (by decide +kernel)
theorem dX12_laid_324 : decode cX12_laid 324 = .ok (.iload_n 2, 1) := dl_28 (by decide +kernel)
theorem dX12_laid_325 : decode cX12_laid 325 = .ok (.iload 8, 2) := dl_21 (by decide +kernel)
theorem dX12_laid_327 : decode cX12_laid 327 = .ok (.iload 5, 2) := dl_21 (by decide +kernel)
theorem dX12_laid_329 : decode cX12_laid 329 = .ok (.iload 6, 2) := dl_21 (by decide +kernel)
theorem dX12_laid_331 : decode cX12_laid 331 = .ok (.invokevirtual 263, 3) := dl_182 (by decide +kernel)
theorem wl_X12_263 : Cond.methodLink RX12 263 yX12_both ∈ TB := tbm (tq6 (List.mem_of_getElem? (i := 181) (by decide +kernel))) (by decide +kernel)
theorem wc_X12_both : Cond.code yX12_both cX12_both 11 (some .int) ∈ TB := tbm (tq6 (List.mem_of_getElem? (i := 184) (rfl))) (by decide +kernel)
theorem wi_X12_both : Cond.instanceMethod yX12_both ∈ TB := tbm (tq6 (List.mem_of_getElem? (i := 183) (by decide +kernel))) (by decide +kernel)
theorem ws_X12_both : Cond.selects RX12 yX12_both yX12_both ∈ TB := tbm (tq0 (List.mem_of_getElem? (i := 64) (by decide +kernel))) (by decide +kernel)
theorem mi_X12_both : MI yX12_both cX12_both 11 (some .int) 5 := ⟨wc_X12_both, wn_X12, ⟨by decide +kernel, by decide +kernel, by decide +kernel⟩, wi_X12_both, ws_X12_both⟩
theorem dX12_laid_334 : decode cX12_laid 334 = .ok (.iastore, 1) := dl_79 (by decide +kernel)
theorem dX12_laid_335 : decode cX12_laid 335 = .ok (.iinc 8 1, 3) := dl_132 (by decide +kernel)
theorem dX12_laid_338 : decode cX12_laid 338 = .ok (.goto (-46), 3) := dl_167 (by decide +kernel)
theorem dX12_laid_105 : decode cX12_laid 105 = .ok (.iconst 0, 1) := dl_3 (by decide +kernel)
theorem dX12_laid_106 : decode cX12_laid 106 = .ok (.istore 6, 2) := dl_54 (by decide +kernel)
theorem dX12_laid_108 : decode cX12_laid 108 = .ok (.iload 6, 2) := dl_21 (by decide +kernel)
theorem dX12_laid_110 : decode cX12_laid 110 = .ok (.aload_n 0, 1) := dl_42 (by decide +kernel)
theorem dX12_laid_111 : decode cX12_laid 111 = .ok (.getfield 52, 3) := dl_180 (by decide +kernel)
theorem dX12_laid_114 : decode cX12_laid 114 = .ok (.iload_n 1, 1) := dl_27 (by decide +kernel)
theorem dX12_laid_115 : decode cX12_laid 115 = .ok (.iaload, 1) := dl_46 (by decide +kernel)
theorem dX12_laid_116 : decode cX12_laid 116 = .ok (.if_icmp .ge 112, 3) := dl_162 (by decide +kernel)
theorem dX12_laid_228 : decode cX12_laid 228 = .ok (.iinc 5 1, 3) := dl_132 (by decide +kernel)
theorem dX12_laid_231 : decode cX12_laid 231 = .ok (.goto (-137), 3) := dl_167 (by decide +kernel)
theorem dX12_laid_119 : decode cX12_laid 119 = .ok (.aload_n 0, 1) := dl_42 (by decide +kernel)
theorem dX12_laid_120 : decode cX12_laid 120 = .ok (.getfield 71, 3) := dl_180 (by decide +kernel)
theorem dX12_laid_123 : decode cX12_laid 123 = .ok (.bipush 96, 2) := dl_16 (by decide +kernel)
theorem dX12_laid_125 : decode cX12_laid 125 = .ok (.iload_n 2, 1) := dl_28 (by decide +kernel)
theorem dX12_laid_126 : decode cX12_laid 126 = .ok (.imul, 1) := dl_104 (by decide +kernel)
theorem dX12_laid_127 : decode cX12_laid 127 = .ok (.iconst 4, 1) := dl_7 (by decide +kernel)
theorem dX12_laid_128 : decode cX12_laid 128 = .ok (.iload 5, 2) := dl_21 (by decide +kernel)
theorem dX12_laid_130 : decode cX12_laid 130 = .ok (.imul, 1) := dl_104 (by decide +kernel)
theorem dX12_laid_131 : decode cX12_laid 131 = .ok (.iadd, 1) := dl_96 (by decide +kernel)
theorem dX12_laid_132 : decode cX12_laid 132 = .ok (.iload 6, 2) := dl_21 (by decide +kernel)
theorem dX12_laid_134 : decode cX12_laid 134 = .ok (.iadd, 1) := dl_96 (by decide +kernel)
theorem dX12_laid_135 : decode cX12_laid 135 = .ok (.iaload, 1) := dl_46 (by decide +kernel)
theorem dX12_laid_136 : decode cX12_laid 136 = .ok (.bipush (-4), 2) := dl_16 (by decide +kernel)
theorem dX12_laid_138 : decode cX12_laid 138 = .ok (.if_icmp .eq 84, 3) := dl_159 (by decide +kernel)
theorem dX12_laid_222 : decode cX12_laid 222 = .ok (.iinc 6 1, 3) := dl_132 (by decide +kernel)
theorem dX12_laid_225 : decode cX12_laid 225 = .ok (.goto (-117), 3) := dl_167 (by decide +kernel)
theorem dX12_laid_141 : decode cX12_laid 141 = .ok (.iload 4, 2) := dl_21 (by decide +kernel)
theorem dX12_laid_143 : decode cX12_laid 143 = .ok (.bipush 24, 2) := dl_16 (by decide +kernel)
theorem dX12_laid_145 : decode cX12_laid 145 = .ok (.if_icmp .ne 5, 3) := dl_160 (by decide +kernel)
theorem dX12_laid_150 : decode cX12_laid 150 = .ok (.aload_n 0, 1) := dl_42 (by decide +kernel)
theorem dX12_laid_151 : decode cX12_laid 151 = .ok (.getfield 71, 3) := dl_180 (by decide +kernel)
theorem dX12_laid_154 : decode cX12_laid 154 = .ok (.bipush 96, 2) := dl_16 (by decide +kernel)
theorem dX12_laid_156 : decode cX12_laid 156 = .ok (.iload_n 2, 1) := dl_28 (by decide +kernel)
theorem dX12_laid_157 : decode cX12_laid 157 = .ok (.imul, 1) := dl_104 (by decide +kernel)
theorem dX12_laid_158 : decode cX12_laid 158 = .ok (.iconst 4, 1) := dl_7 (by decide +kernel)
theorem dX12_laid_159 : decode cX12_laid 159 = .ok (.iload 5, 2) := dl_21 (by decide +kernel)
theorem dX12_laid_161 : decode cX12_laid 161 = .ok (.imul, 1) := dl_104 (by decide +kernel)
theorem dX12_laid_162 : decode cX12_laid 162 = .ok (.iadd, 1) := dl_96 (by decide +kernel)
theorem dX12_laid_163 : decode cX12_laid 163 = .ok (.iload 6, 2) := dl_21 (by decide +kernel)
theorem dX12_laid_165 : decode cX12_laid 165 = .ok (.iadd, 1) := dl_96 (by decide +kernel)
theorem dX12_laid_166 : decode cX12_laid 166 = .ok (.iload 4, 2) := dl_21 (by decide +kernel)
theorem dX12_laid_168 : decode cX12_laid 168 = .ok (.iastore, 1) := dl_79 (by decide +kernel)
theorem dX12_laid_169 : decode cX12_laid 169 = .ok (.aload_n 0, 1) := dl_42 (by decide +kernel)
theorem dX12_laid_170 : decode cX12_laid 170 = .ok (.getfield 16, 3) := dl_180 (by decide +kernel)
theorem dX12_laid_173 : decode cX12_laid 173 = .ok (.bipush 24, 2) := dl_16 (by decide +kernel)
theorem dX12_laid_175 : decode cX12_laid 175 = .ok (.iload_n 3, 1) := dl_29 (by decide +kernel)
theorem dX12_laid_176 : decode cX12_laid 176 = .ok (.imul, 1) := dl_104 (by decide +kernel)
theorem dX12_laid_177 : decode cX12_laid 177 = .ok (.iload 4, 2) := dl_21 (by decide +kernel)
theorem dX12_laid_179 : decode cX12_laid 179 = .ok (.iadd, 1) := dl_96 (by decide +kernel)
theorem dX12_laid_180 : decode cX12_laid 180 = .ok (.aload_n 0, 1) := dl_42 (by decide +kernel)
theorem dX12_laid_181 : decode cX12_laid 181 = .ok (.getfield 16, 3) := dl_180 (by decide +kernel)
theorem dX12_laid_184 : decode cX12_laid 184 = .ok (.bipush 24, 2) := dl_16 (by decide +kernel)
theorem dX12_laid_186 : decode cX12_laid 186 = .ok (.iload_n 2, 1) := dl_28 (by decide +kernel)
theorem dX12_laid_187 : decode cX12_laid 187 = .ok (.imul, 1) := dl_104 (by decide +kernel)
theorem dX12_laid_188 : decode cX12_laid 188 = .ok (.iload 5, 2) := dl_21 (by decide +kernel)
theorem dX12_laid_190 : decode cX12_laid 190 = .ok (.iadd, 1) := dl_96 (by decide +kernel)
theorem dX12_laid_191 : decode cX12_laid 191 = .ok (.iaload, 1) := dl_46 (by decide +kernel)
theorem dX12_laid_192 : decode cX12_laid 192 = .ok (.aload_n 0, 1) := dl_42 (by decide +kernel)
theorem dX12_laid_193 : decode cX12_laid 193 = .ok (.getfield 65, 3) := dl_180 (by decide +kernel)
theorem dX12_laid_196 : decode cX12_laid 196 = .ok (.iconst 4, 1) := dl_7 (by decide +kernel)
theorem dX12_laid_197 : decode cX12_laid 197 = .ok (.iload_n 1, 1) := dl_27 (by decide +kernel)
theorem dX12_laid_198 : decode cX12_laid 198 = .ok (.imul, 1) := dl_104 (by decide +kernel)
theorem dX12_laid_199 : decode cX12_laid 199 = .ok (.iload 6, 2) := dl_21 (by decide +kernel)
theorem dX12_laid_201 : decode cX12_laid 201 = .ok (.iadd, 1) := dl_96 (by decide +kernel)
theorem dX12_laid_202 : decode cX12_laid 202 = .ok (.iaload, 1) := dl_46 (by decide +kernel)
theorem dX12_laid_203 : decode cX12_laid 203 = .ok (.iconst (-1), 1) := dl_2 (by decide +kernel)
theorem dX12_laid_204 : decode cX12_laid 204 = .ok (.ixor, 1) := dl_130 (by decide +kernel)
theorem dX12_laid_205 : decode cX12_laid 205 = .ok (.iand, 1) := dl_126 (by decide +kernel)
theorem dX12_laid_206 : decode cX12_laid 206 = .ok (.aload_n 0, 1) := dl_42 (by decide +kernel)
theorem dX12_laid_207 : decode cX12_laid 207 = .ok (.getfield 62, 3) := dl_180 (by decide +kernel)
theorem dX12_laid_210 : decode cX12_laid 210 = .ok (.iconst 4, 1) := dl_7 (by decide +kernel)
theorem dX12_laid_211 : decode cX12_laid 211 = .ok (.iload_n 1, 1) := dl_27 (by decide +kernel)
theorem dX12_laid_212 : decode cX12_laid 212 = .ok (.imul, 1) := dl_104 (by decide +kernel)
theorem dX12_laid_213 : decode cX12_laid 213 = .ok (.iload 6, 2) := dl_21 (by decide +kernel)
theorem dX12_laid_215 : decode cX12_laid 215 = .ok (.iadd, 1) := dl_96 (by decide +kernel)
theorem dX12_laid_216 : decode cX12_laid 216 = .ok (.iaload, 1) := dl_46 (by decide +kernel)
theorem dX12_laid_217 : decode cX12_laid 217 = .ok (.ior, 1) := dl_128 (by decide +kernel)
theorem dX12_laid_218 : decode cX12_laid 218 = .ok (.iastore, 1) := dl_79 (by decide +kernel)
theorem dX12_laid_219 : decode cX12_laid 219 = .ok (.iinc 4 1, 3) := dl_132 (by decide +kernel)
theorem dX12_laid_148 : decode cX12_laid 148 = .ok (.iconst (-1), 1) := dl_2 (by decide +kernel)
theorem dX12_laid_149 : decode cX12_laid 149 = .ok (.ireturn, 1) := dl_172 (by decide +kernel)
theorem dX12_laid_21 : decode cX12_laid 21 = .ok (.aload_n 0, 1) := dl_42 (by decide +kernel)
theorem dX12_laid_22 : decode cX12_laid 22 = .ok (.iload_n 1, 1) := dl_27 (by decide +kernel)
theorem dX12_laid_23 : decode cX12_laid 23 = .ok (.iload 5, 2) := dl_21 (by decide +kernel)
theorem dX12_laid_25 : decode cX12_laid 25 = .ok (.iload_n 2, 1) := dl_28 (by decide +kernel)
theorem dX12_laid_26 : decode cX12_laid 26 = .ok (.invokevirtual 260, 3) := dl_182 (by decide +kernel)
theorem wl_X12_260 : Cond.methodLink RX12 260 yX12_canBe ∈ TB := tbm (tq6 (List.mem_of_getElem? (i := 166) (by decide +kernel))) (by decide +kernel)
theorem wc_X12_canBe : Cond.code yX12_canBe cX12_canBe 4 (some .int) ∈ TB := tbm (tq6 (List.mem_of_getElem? (i := 169) (rfl))) (by decide +kernel)
theorem wi_X12_canBe : Cond.instanceMethod yX12_canBe ∈ TB := tbm (tq6 (List.mem_of_getElem? (i := 168) (by decide +kernel))) (by decide +kernel)
theorem ws_X12_canBe : Cond.selects RX12 yX12_canBe yX12_canBe ∈ TB := tbm (tq0 (List.mem_of_getElem? (i := 61) (by decide +kernel))) (by decide +kernel)
theorem mi_X12_canBe : MI yX12_canBe cX12_canBe 4 (some .int) 3 := ⟨wc_X12_canBe, wn_X12, ⟨by decide +kernel, by decide +kernel, by decide +kernel⟩, wi_X12_canBe, ws_X12_canBe⟩
theorem dX12_laid_29 : decode cX12_laid 29 = .ok (.istore 6, 2) := dl_54 (by decide +kernel)
theorem dX12_laid_31 : decode cX12_laid 31 = .ok (.iconst 0, 1) := dl_3 (by decide +kernel)
theorem dX12_laid_32 : decode cX12_laid 32 = .ok (.istore 7, 2) := dl_54 (by decide +kernel)
theorem dX12_laid_34 : decode cX12_laid 34 = .ok (.iload 7, 2) := dl_21 (by decide +kernel)
theorem dX12_laid_36 : decode cX12_laid 36 = .ok (.aload_n 0, 1) := dl_42 (by decide +kernel)
theorem dX12_laid_37 : decode cX12_laid 37 = .ok (.getfield 7, 3) := dl_180 (by decide +kernel)
theorem dX12_laid_40 : decode cX12_laid 40 = .ok (.iload_n 2, 1) := dl_28 (by decide +kernel)
theorem dX12_laid_41 : decode cX12_laid 41 = .ok (.iaload, 1) := dl_46 (by decide +kernel)
theorem dX12_laid_42 : decode cX12_laid 42 = .ok (.if_icmp .ge 43, 3) := dl_162 (by decide +kernel)
theorem dX12_laid_85 : decode cX12_laid 85 = .ok (.iinc 5 1, 3) := dl_132 (by decide +kernel)
theorem dX12_laid_88 : decode cX12_laid 88 = .ok (.goto (-78), 3) := dl_167 (by decide +kernel)
theorem dX12_laid_45 : decode cX12_laid 45 = .ok (.aload_n 0, 1) := dl_42 (by decide +kernel)
theorem dX12_laid_46 : decode cX12_laid 46 = .ok (.getfield 71, 3) := dl_180 (by decide +kernel)
theorem dX12_laid_49 : decode cX12_laid 49 = .ok (.bipush 96, 2) := dl_16 (by decide +kernel)
theorem dX12_laid_51 : decode cX12_laid 51 = .ok (.iload_n 2, 1) := dl_28 (by decide +kernel)
theorem dX12_laid_52 : decode cX12_laid 52 = .ok (.imul, 1) := dl_104 (by decide +kernel)
theorem dX12_laid_53 : decode cX12_laid 53 = .ok (.iconst 4, 1) := dl_7 (by decide +kernel)
theorem dX12_laid_54 : decode cX12_laid 54 = .ok (.iload 7, 2) := dl_21 (by decide +kernel)
theorem dX12_laid_56 : decode cX12_laid 56 = .ok (.imul, 1) := dl_104 (by decide +kernel)
theorem dX12_laid_57 : decode cX12_laid 57 = .ok (.iadd, 1) := dl_96 (by decide +kernel)
theorem dX12_laid_58 : decode cX12_laid 58 = .ok (.iload 5, 2) := dl_21 (by decide +kernel)
theorem dX12_laid_60 : decode cX12_laid 60 = .ok (.iadd, 1) := dl_96 (by decide +kernel)
theorem dX12_laid_61 : decode cX12_laid 61 = .ok (.iload 6, 2) := dl_21 (by decide +kernel)
theorem dX12_laid_63 : decode cX12_laid 63 = .ok (.iload 7, 2) := dl_21 (by decide +kernel)
theorem dX12_laid_65 : decode cX12_laid 65 = .ok (.ishr, 1) := dl_122 (by decide +kernel)
theorem dX12_laid_66 : decode cX12_laid 66 = .ok (.iconst 1, 1) := dl_4 (by decide +kernel)
theorem dX12_laid_67 : decode cX12_laid 67 = .ok (.iand, 1) := dl_126 (by decide +kernel)
theorem dX12_laid_68 : decode cX12_laid 68 = .ok (.iconst 1, 1) := dl_4 (by decide +kernel)
theorem dX12_laid_69 : decode cX12_laid 69 = .ok (.if_icmp .ne 7, 3) := dl_160 (by decide +kernel)
theorem dX12_laid_76 : decode cX12_laid 76 = .ok (.bipush (-4), 2) := dl_16 (by decide +kernel)
theorem dX12_laid_78 : decode cX12_laid 78 = .ok (.iastore, 1) := dl_79 (by decide +kernel)
theorem dX12_laid_79 : decode cX12_laid 79 = .ok (.iinc 7 1, 3) := dl_132 (by decide +kernel)
theorem dX12_laid_82 : decode cX12_laid 82 = .ok (.goto (-48), 3) := dl_167 (by decide +kernel)
theorem dX12_laid_72 : decode cX12_laid 72 = .ok (.iconst 0, 1) := dl_3 (by decide +kernel)
theorem dX12_laid_73 : decode cX12_laid 73 = .ok (.goto 5, 3) := dl_167 (by decide +kernel)
set_option maxRecDepth 100000 in
set_option maxHeartbeats 4000000 in
theorem r_laid (l : Launch) (E : EV) (ro : va_W) (hm : Nat) (e : Nat) (pa : Nat) (m_manys : Nat) (m_reals : Nat) (m_factsOf : Nat) (m_possible : Nat) (q_undos : Nat) (q_models : Nat) (m_tape : Nat) (q_taped : Nat) (q_fault : Int32) (q_wrong : Int32) (q_wrongAt : Int32) (q_spot : Int32) (q_place : Int32) (q_token : Int32) (q_value : Int32) (m_ends : Nat) (m_letters : Nat) (m_actOf : Nat) (m_whom : Nat) (m_actMany : Nat) (m_tokens : Nat) (m_afters : Nat) (m_afterOf : Nat) (q_counted : Int32) (m_pile : Nat) (m_caseMany : Nat) (m_happen : Nat) (m_hasIf : Nat) (m_becomes : Nat) (m_goneOf : Nat) (m_heard : Nat) (m_pairs : Nat) (m_heaps : Nat) (q_rounds : Int32) (q_heapMany : Int32) (m_led : Nat) (m_newAt : Nat) (m_knowing : Nat) (m_firsts : Nat) (q_people : Nat) (m_secrets : Nat) (m_tried : Nat) (m_lanes : Nat) (m_lengths : Nat) (m_cells : Nat) (f_manys : Nat → Int32) (f_reals : Nat → Int32) (f_factsOf : Nat → Int32) (f_possible : Nat → Int32) (f_pairs : Nat → Int32) (f_pile : Nat → Int32) (f_caseMany : Nat → Int32) (f_happen : Nat → Int32) (f_hasIf : Nat → Int32) (f_becomes : Nat → Int32) (f_goneOf : Nat → Int32) (f_heard : Nat → Int32) (f_actMany : Nat → Int32) (f_actOf : Nat → Int32) (f_whom : Nat → Int32) (hb_manys : NB 18 24 f_manys) (hb_reals : NB 18 23 f_reals) (hpg : PG f_manys f_reals) (hwf : WFP (pgs f_manys f_reals f_factsOf f_possible)) (hb_caseMany : NB 4 4 f_caseMany) (hb_happen : NB 4 3 f_happen) (hb_actMany : NB 25 32 f_actMany) (hhp : HP f_caseMany f_happen) (hsv : SV f_actOf f_actMany) (he : e < 4) (hpa : pa ≤ 4) (hcs : 0 < cN f_caseMany e) (hWI : WHI f_hasIf f_actMany f_actOf f_whom) : CT l yX12_laid (Cond.code yX12_laid cX12_laid 9 (some .int) :: TB) ({ frames := 5, cells := 0, slots := 0, locals := 130 }) E ro [.ref hm, .int (nI e), .int (nI pa)] [(hm, .inr (12, [.ref m_manys, .ref m_reals, .ref m_factsOf, .ref m_possible, .int (nI q_undos), .int (nI q_models), .ref m_tape, .int (nI q_taped), .int q_fault, .int q_wrong, .int q_wrongAt, .int q_spot, .int q_place, .int q_token, .int q_value, .ref m_ends, .ref m_letters, .ref m_actOf, .ref m_whom, .ref m_actMany, .ref m_tokens, .ref m_afters, .ref m_afterOf, .int q_counted, .ref m_pile, .ref m_caseMany, .ref m_happen, .ref m_hasIf, .ref m_becomes, .ref m_goneOf, .ref m_heard, .ref m_pairs, .ref m_heaps, .int q_rounds, .int q_heapMany, .ref m_led, .ref m_newAt, .ref m_knowing, .ref m_firsts, .int (nI q_people), .ref m_secrets, .ref m_tried, .ref m_lanes, .ref m_lengths, .ref m_cells])), (m_manys, .inl (E.2.1 1, 18, .inl f_manys)), (m_reals, .inl (E.2.1 1, 18, .inl f_reals)), (m_factsOf, .inl (E.2.1 1, 432, .inl f_factsOf)), (m_possible, .inl (E.2.1 1, 1728, .inl f_possible)), (m_pairs, .inl (E.2.1 1, 576, .inl f_pairs)), (m_pile, .inl (E.2.1 1, 34, .inl f_pile)), (m_caseMany, .inl (E.2.1 1, 4, .inl f_caseMany)), (m_happen, .inl (E.2.1 1, 4, .inl f_happen)), (m_hasIf, .inl (E.2.1 3, 16, .inl f_hasIf)), (m_becomes, .inl (E.2.1 1, 16, .inl f_becomes)), (m_goneOf, .inl (E.2.1 1, 16, .inl f_goneOf)), (m_heard, .inl (E.2.1 1, 64, .inl f_heard)), (m_actMany, .inl (E.2.1 1, 25, .inl f_actMany)), (m_actOf, .inl (E.2.1 1, 800, .inl f_actOf)), (m_whom, .inl (E.2.1 1, 800, .inl f_whom))] (Qi E (fun (rz : Int32) uz => (∃ (f_manysz : Nat → Int32) (f_realsz : Nat → Int32) (f_factsOfz : Nat → Int32) (f_possiblez : Nat → Int32) (f_pairsz : Nat → Int32) (f_pilez : Nat → Int32), rz = (-1) ∧ uz = [(hm, .inr (12, [.ref m_manys, .ref m_reals, .ref m_factsOf, .ref m_possible, .int (nI q_undos), .int (nI q_models), .ref m_tape, .int (nI q_taped), .int q_fault, .int q_wrong, .int q_wrongAt, .int q_spot, .int q_place, .int q_token, .int q_value, .ref m_ends, .ref m_letters, .ref m_actOf, .ref m_whom, .ref m_actMany, .ref m_tokens, .ref m_afters, .ref m_afterOf, .int q_counted, .ref m_pile, .ref m_caseMany, .ref m_happen, .ref m_hasIf, .ref m_becomes, .ref m_goneOf, .ref m_heard, .ref m_pairs, .ref m_heaps, .int q_rounds, .int q_heapMany, .ref m_led, .ref m_newAt, .ref m_knowing, .ref m_firsts, .int (nI q_people), .ref m_secrets, .ref m_tried, .ref m_lanes, .ref m_lengths, .ref m_cells])), (m_manys, .inl (E.2.1 1, 18, .inl f_manysz)), (m_reals, .inl (E.2.1 1, 18, .inl f_realsz)), (m_factsOf, .inl (E.2.1 1, 432, .inl f_factsOfz)), (m_possible, .inl (E.2.1 1, 1728, .inl f_possiblez)), (m_pairs, .inl (E.2.1 1, 576, .inl f_pairsz)), (m_pile, .inl (E.2.1 1, 34, .inl f_pilez)), (m_caseMany, .inl (E.2.1 1, 4, .inl f_caseMany)), (m_happen, .inl (E.2.1 1, 4, .inl f_happen)), (m_hasIf, .inl (E.2.1 3, 16, .inl f_hasIf)), (m_becomes, .inl (E.2.1 1, 16, .inl f_becomes)), (m_goneOf, .inl (E.2.1 1, 16, .inl f_goneOf)), (m_heard, .inl (E.2.1 1, 64, .inl f_heard)), (m_actMany, .inl (E.2.1 1, 25, .inl f_actMany)), (m_actOf, .inl (E.2.1 1, 800, .inl f_actOf)), (m_whom, .inl (E.2.1 1, 800, .inl f_whom))] ∧ (NB 18 24 f_manysz) ∧ (NB 18 23 f_realsz) ∧ (PG f_manysz f_realsz) ∧ (WFP (pgs f_manysz f_realsz f_factsOfz f_possiblez)) ∧ (KP (pa + 1) f_manys f_manysz) ∧ (KP (pa + 1) f_reals f_realsz) ∧ (OTH (pa + 1) (pgs f_manys f_reals f_factsOf f_possible) (pgs f_manysz f_realsz f_factsOfz f_possiblez)) ∧ (OFF 96 pa f_pairs f_pairsz) ∧ (¬ lyC (pgs f_manys f_reals f_factsOf f_possible pa) ((rEv f_caseMany f_happen f_hasIf f_actMany f_actOf f_whom f_becomes f_goneOf f_heard) e) ≤ 24)) ∨ (∃ (mz : Nat) (f_manysz : Nat → Int32) (f_realsz : Nat → Int32) (f_factsOfz : Nat → Int32) (f_possiblez : Nat → Int32) (f_pairsz : Nat → Int32) (f_pilez : Nat → Int32), rz = (nI mz) ∧ uz = [(hm, .inr (12, [.ref m_manys, .ref m_reals, .ref m_factsOf, .ref m_possible, .int (nI q_undos), .int (nI q_models), .ref m_tape, .int (nI q_taped), .int q_fault, .int q_wrong, .int q_wrongAt, .int q_spot, .int q_place, .int q_token, .int q_value, .ref m_ends, .ref m_letters, .ref m_actOf, .ref m_whom, .ref m_actMany, .ref m_tokens, .ref m_afters, .ref m_afterOf, .int q_counted, .ref m_pile, .ref m_caseMany, .ref m_happen, .ref m_hasIf, .ref m_becomes, .ref m_goneOf, .ref m_heard, .ref m_pairs, .ref m_heaps, .int q_rounds, .int q_heapMany, .ref m_led, .ref m_newAt, .ref m_knowing, .ref m_firsts, .int (nI q_people), .ref m_secrets, .ref m_tried, .ref m_lanes, .ref m_lengths, .ref m_cells])), (m_manys, .inl (E.2.1 1, 18, .inl f_manysz)), (m_reals, .inl (E.2.1 1, 18, .inl f_realsz)), (m_factsOf, .inl (E.2.1 1, 432, .inl f_factsOfz)), (m_possible, .inl (E.2.1 1, 1728, .inl f_possiblez)), (m_pairs, .inl (E.2.1 1, 576, .inl f_pairsz)), (m_pile, .inl (E.2.1 1, 34, .inl f_pilez)), (m_caseMany, .inl (E.2.1 1, 4, .inl f_caseMany)), (m_happen, .inl (E.2.1 1, 4, .inl f_happen)), (m_hasIf, .inl (E.2.1 3, 16, .inl f_hasIf)), (m_becomes, .inl (E.2.1 1, 16, .inl f_becomes)), (m_goneOf, .inl (E.2.1 1, 16, .inl f_goneOf)), (m_heard, .inl (E.2.1 1, 64, .inl f_heard)), (m_actMany, .inl (E.2.1 1, 25, .inl f_actMany)), (m_actOf, .inl (E.2.1 1, 800, .inl f_actOf)), (m_whom, .inl (E.2.1 1, 800, .inl f_whom))] ∧ (NB 18 24 f_manysz) ∧ (NB 18 23 f_realsz) ∧ (PG f_manysz f_realsz) ∧ (WFP (pgs f_manysz f_realsz f_factsOfz f_possiblez)) ∧ (KP (pa + 1) f_manys f_manysz) ∧ (KP (pa + 1) f_reals f_realsz) ∧ (OTH (pa + 1) (pgs f_manys f_reals f_factsOf f_possible) (pgs f_manysz f_realsz f_factsOfz f_possiblez)) ∧ (OFF 96 pa f_pairs f_pairsz) ∧ (lyC (pgs f_manys f_reals f_factsOf f_possible pa) ((rEv f_caseMany f_happen f_hasIf f_actMany f_actOf f_whom f_becomes f_goneOf f_heard) e) = mz) ∧ (pgs f_manysz f_realsz f_factsOfz f_possiblez (pa + 1) = aLay (pgs f_manys f_reals f_factsOf f_possible pa) ((rEv f_caseMany f_happen f_hasIf f_actMany f_actOf f_whom f_becomes f_goneOf f_heard) e)) ∧ (PRF (lyP (pgs f_manys f_reals f_factsOf f_possible pa) ((rEv f_caseMany f_happen f_hasIf f_actMany f_actOf f_whom f_becomes f_goneOf f_heard) e)) (cN f_manys pa) (cN f_caseMany e) pa f_pairsz) ∧ (mz ≤ 24)))) 0 0 := by
  refine ct_of rfl rfl ?_
  intro X C hT hin hro
  show WW X 9 E 0 [(0, .ref hm), (1, .int (nI e)), (2, .int (nI pa))] [] [(hm, .inr (12, [.ref m_manys, .ref m_reals, .ref m_factsOf, .ref m_possible, .int (nI q_undos), .int (nI q_models), .ref m_tape, .int (nI q_taped), .int q_fault, .int q_wrong, .int q_wrongAt, .int q_spot, .int q_place, .int q_token, .int q_value, .ref m_ends, .ref m_letters, .ref m_actOf, .ref m_whom, .ref m_actMany, .ref m_tokens, .ref m_afters, .ref m_afterOf, .int q_counted, .ref m_pile, .ref m_caseMany, .ref m_happen, .ref m_hasIf, .ref m_becomes, .ref m_goneOf, .ref m_heard, .ref m_pairs, .ref m_heaps, .int q_rounds, .int q_heapMany, .ref m_led, .ref m_newAt, .ref m_knowing, .ref m_firsts, .int (nI q_people), .ref m_secrets, .ref m_tried, .ref m_lanes, .ref m_lengths, .ref m_cells])), (m_manys, .inl (E.2.1 1, 18, .inl f_manys)), (m_reals, .inl (E.2.1 1, 18, .inl f_reals)), (m_factsOf, .inl (E.2.1 1, 432, .inl f_factsOf)), (m_possible, .inl (E.2.1 1, 1728, .inl f_possible)), (m_pairs, .inl (E.2.1 1, 576, .inl f_pairs)), (m_pile, .inl (E.2.1 1, 34, .inl f_pile)), (m_caseMany, .inl (E.2.1 1, 4, .inl f_caseMany)), (m_happen, .inl (E.2.1 1, 4, .inl f_happen)), (m_hasIf, .inl (E.2.1 3, 16, .inl f_hasIf)), (m_becomes, .inl (E.2.1 1, 16, .inl f_becomes)), (m_goneOf, .inl (E.2.1 1, 16, .inl f_goneOf)), (m_heard, .inl (E.2.1 1, 64, .inl f_heard)), (m_actMany, .inl (E.2.1 1, 25, .inl f_actMany)), (m_actOf, .inl (E.2.1 1, 800, .inl f_actOf)), (m_whom, .inl (E.2.1 1, 800, .inl f_whom))] 0 0
  have hmn0 := (hb_manys 0 (by omega)).2
  have hmnp := (hb_manys pa (by omega)).2
  have hcmp := (hb_caseMany e (by omega)).2
  have hrlp := (hb_reals pa (by omega)).2
  have hhap := (hb_happen e (by omega)).2
  have hpgp := hpg pa (by omega)
  have hhpe := hhp e (by omega)
  refine ww_iload_n C dX12_laid_0 2 rfl rfl ?_
  refine ww_iconst (v := 1) C dX12_laid_1 rfl ?_
  refine ww_iadd (v := (nI (pa + 1))) C dX12_laid_2 (nI_add pa 1) ?_
  refine ww_istore_n (lv' := [(3, .int (nI (pa + 1))), (0, .ref hm), (1, .int (nI e)), (2, .int (nI pa))]) C dX12_laid_3 rfl rfl rfl ?_
  refine ww_iconst (v := 0) C dX12_laid_4 rfl ?_
  refine ww_istore (lv' := [(4, .int 0), (3, .int (nI (pa + 1))), (0, .ref hm), (1, .int (nI e)), (2, .int (nI pa))]) C dX12_laid_5 rfl rfl ?_
  refine ww_iconst (v := 0) C dX12_laid_7 rfl ?_
  refine ww_istore (lv' := [(5, .int 0), (4, .int 0), (3, .int (nI (pa + 1))), (0, .ref hm), (1, .int (nI e)), (2, .int (nI pa))]) C dX12_laid_8 rfl rfl ?_
  have loop_10 : ∀ (fu : Nat) (i1 : Nat) (g_pr : Nat → Int32) (g_pi : Nat → Int32), (i1 ≤ cN f_caseMany e) → (PRZ (lyP (pgs f_manys f_reals f_factsOf f_possible pa) ((rEv f_caseMany f_happen f_hasIf f_actMany f_actOf f_whom f_becomes f_goneOf f_heard) e)) (cN f_manys pa) (cN f_caseMany e) pa i1 0 g_pr) → (OFF 96 pa f_pairs g_pr) → cN f_caseMany e - i1 < fu → WW X 9 E 10 [(5, .int (nI i1)), (4, .int 0), (3, .int (nI (pa + 1))), (0, .ref hm), (1, .int (nI e)), (2, .int (nI pa))] [] [(hm, .inr (12, [.ref m_manys, .ref m_reals, .ref m_factsOf, .ref m_possible, .int (nI q_undos), .int (nI q_models), .ref m_tape, .int (nI q_taped), .int q_fault, .int q_wrong, .int q_wrongAt, .int q_spot, .int q_place, .int q_token, .int q_value, .ref m_ends, .ref m_letters, .ref m_actOf, .ref m_whom, .ref m_actMany, .ref m_tokens, .ref m_afters, .ref m_afterOf, .int q_counted, .ref m_pile, .ref m_caseMany, .ref m_happen, .ref m_hasIf, .ref m_becomes, .ref m_goneOf, .ref m_heard, .ref m_pairs, .ref m_heaps, .int q_rounds, .int q_heapMany, .ref m_led, .ref m_newAt, .ref m_knowing, .ref m_firsts, .int (nI q_people), .ref m_secrets, .ref m_tried, .ref m_lanes, .ref m_lengths, .ref m_cells])), (m_manys, .inl (E.2.1 1, 18, .inl f_manys)), (m_reals, .inl (E.2.1 1, 18, .inl f_reals)), (m_factsOf, .inl (E.2.1 1, 432, .inl f_factsOf)), (m_possible, .inl (E.2.1 1, 1728, .inl f_possible)), (m_pairs, .inl (E.2.1 1, 576, .inl g_pr)), (m_pile, .inl (E.2.1 1, 34, .inl g_pi)), (m_caseMany, .inl (E.2.1 1, 4, .inl f_caseMany)), (m_happen, .inl (E.2.1 1, 4, .inl f_happen)), (m_hasIf, .inl (E.2.1 3, 16, .inl f_hasIf)), (m_becomes, .inl (E.2.1 1, 16, .inl f_becomes)), (m_goneOf, .inl (E.2.1 1, 16, .inl f_goneOf)), (m_heard, .inl (E.2.1 1, 64, .inl f_heard)), (m_actMany, .inl (E.2.1 1, 25, .inl f_actMany)), (m_actOf, .inl (E.2.1 1, 800, .inl f_actOf)), (m_whom, .inl (E.2.1 1, 800, .inl f_whom))] 0 0 := by
    intro fu
    induction fu with
    | zero => intro i1 g_pr g_pi hi1 hpz hop hmeas; exact absurd hmeas (Nat.not_lt_zero _)
    | succ fu ih_10 =>
      intro i1 g_pr g_pi hi1 hpz hop hmeas
      refine ww_iload C dX12_laid_10 0 rfl ?_
      refine ww_aload_n C dX12_laid_12 3 rfl rfl ?_
      refine ww_get C fg_X12_52 0 rfl rfl dX12_laid_13 ?_
      refine ww_iload_n C dX12_laid_16 4 rfl rfl ?_
      have hbx_1 := (hb_caseMany e (by omega)).2
      refine ww_iald (v := (nI (cN f_caseMany e))) C 7 rfl (vp_in_nI (by omega) (by omega)) (ldn (by omega) (hb_caseMany e (by omega)).1) dX12_laid_17 ?_
      refine ww_icmp_ge (tgt := 91) C dX12_laid_18 (by decide) (fun c_2 => ?_) (fun c_2 => ?_)
      · have zc_2 : ((i1 : Nat) : Int) ≥ ((cN f_caseMany e : Nat) : Int) := i_le (nI_toInt (n := cN f_caseMany e) (by omega)) (nI_toInt (n := i1) (by omega)) c_2
        refine ww_iconst (v := 0) C dX12_laid_91 rfl ?_
        refine ww_istore (lv' := [(5, .int 0), (4, .int 0), (3, .int (nI (pa + 1))), (0, .ref hm), (1, .int (nI e)), (2, .int (nI pa))]) C dX12_laid_92 rfl rfl ?_
        have loop_94 : ∀ (fu : Nat) (w2 : Nat) (m2 : Nat) (g_pr2 : Nat → Int32) (g_fa2 : Nat → Int32), (w2 ≤ cN f_manys pa) → (m2 ≤ 24) → (m2 = cb (lyP (pgs f_manys f_reals f_factsOf f_possible pa) ((rEv f_caseMany f_happen f_hasIf f_actMany f_actOf f_whom f_becomes f_goneOf f_heard) e)) (4 * w2)) → (PRM (lyP (pgs f_manys f_reals f_factsOf f_possible pa) ((rEv f_caseMany f_happen f_hasIf f_actMany f_actOf f_whom f_becomes f_goneOf f_heard) e)) (cN f_manys pa) (cN f_caseMany e) pa (4 * w2) g_pr2) → (PFx (lyP (pgs f_manys f_reals f_factsOf f_possible pa) ((rEv f_caseMany f_happen f_hasIf f_actMany f_actOf f_whom f_becomes f_goneOf f_heard) e)) (4 * w2) (lyF (pgs f_manys f_reals f_factsOf f_possible pa) ((rEv f_caseMany f_happen f_hasIf f_actMany f_actOf f_whom f_becomes f_goneOf f_heard) e)) (sh (24 * (pa + 1)) g_fa2)) → (OFF 24 (pa + 1) f_factsOf g_fa2) → (OFF 96 pa f_pairs g_pr2) → cN f_manys pa - w2 < fu → WW X 9 E 94 [(5, .int (nI w2)), (4, .int (nI m2)), (3, .int (nI (pa + 1))), (0, .ref hm), (1, .int (nI e)), (2, .int (nI pa))] [] [(hm, .inr (12, [.ref m_manys, .ref m_reals, .ref m_factsOf, .ref m_possible, .int (nI q_undos), .int (nI q_models), .ref m_tape, .int (nI q_taped), .int q_fault, .int q_wrong, .int q_wrongAt, .int q_spot, .int q_place, .int q_token, .int q_value, .ref m_ends, .ref m_letters, .ref m_actOf, .ref m_whom, .ref m_actMany, .ref m_tokens, .ref m_afters, .ref m_afterOf, .int q_counted, .ref m_pile, .ref m_caseMany, .ref m_happen, .ref m_hasIf, .ref m_becomes, .ref m_goneOf, .ref m_heard, .ref m_pairs, .ref m_heaps, .int q_rounds, .int q_heapMany, .ref m_led, .ref m_newAt, .ref m_knowing, .ref m_firsts, .int (nI q_people), .ref m_secrets, .ref m_tried, .ref m_lanes, .ref m_lengths, .ref m_cells])), (m_manys, .inl (E.2.1 1, 18, .inl f_manys)), (m_reals, .inl (E.2.1 1, 18, .inl f_reals)), (m_factsOf, .inl (E.2.1 1, 432, .inl g_fa2)), (m_possible, .inl (E.2.1 1, 1728, .inl f_possible)), (m_pairs, .inl (E.2.1 1, 576, .inl g_pr2)), (m_pile, .inl (E.2.1 1, 34, .inl g_pi)), (m_caseMany, .inl (E.2.1 1, 4, .inl f_caseMany)), (m_happen, .inl (E.2.1 1, 4, .inl f_happen)), (m_hasIf, .inl (E.2.1 3, 16, .inl f_hasIf)), (m_becomes, .inl (E.2.1 1, 16, .inl f_becomes)), (m_goneOf, .inl (E.2.1 1, 16, .inl f_goneOf)), (m_heard, .inl (E.2.1 1, 64, .inl f_heard)), (m_actMany, .inl (E.2.1 1, 25, .inl f_actMany)), (m_actOf, .inl (E.2.1 1, 800, .inl f_actOf)), (m_whom, .inl (E.2.1 1, 800, .inl f_whom))] 0 0 := by
          intro fu
          induction fu with
          | zero => intro w2 m2 g_pr2 g_fa2 hw2 hm2 hmc hpm hpf hof hop2 hmeas; exact absurd hmeas (Nat.not_lt_zero _)
          | succ fu ih_94 =>
            intro w2 m2 g_pr2 g_fa2 hw2 hm2 hmc hpm hpf hof hop2 hmeas
            refine ww_iload C dX12_laid_94 0 rfl ?_
            refine ww_aload_n C dX12_laid_96 3 rfl rfl ?_
            refine ww_get C fg_X12_7 0 rfl rfl dX12_laid_97 ?_
            refine ww_iload_n C dX12_laid_100 5 rfl rfl ?_
            have hbx_3 := (hb_manys pa (by omega)).2
            refine ww_iald (v := (nI (cN f_manys pa))) C 1 rfl (vp_in_nI (by omega) (by omega)) (ldn (by omega) (hb_manys pa (by omega)).1) dX12_laid_101 ?_
            refine ww_icmp_ge (tgt := 234) C dX12_laid_102 (by decide) (fun c_4 => ?_) (fun c_4 => ?_)
            · have zc_4 : ((w2 : Nat) : Int) ≥ ((cN f_manys pa : Nat) : Int) := i_le (nI_toInt (n := cN f_manys pa) (by omega)) (nI_toInt (n := w2) (by omega)) c_4
              refine ww_aload_n C dX12_laid_234 3 rfl rfl ?_
              refine ww_get C fg_X12_7 0 rfl rfl dX12_laid_235 ?_
              refine ww_iload_n C dX12_laid_238 2 rfl rfl ?_
              refine ww_iload C dX12_laid_239 1 rfl ?_
              obtain ⟨f_5, ef_5⟩ : ∃ z : Nat → Int32, upd f_manys (pa + 1) (nI m2) = z := ⟨_, rfl⟩
              refine ww_iast (ws' := [(hm, .inr (12, [.ref m_manys, .ref m_reals, .ref m_factsOf, .ref m_possible, .int (nI q_undos), .int (nI q_models), .ref m_tape, .int (nI q_taped), .int q_fault, .int q_wrong, .int q_wrongAt, .int q_spot, .int q_place, .int q_token, .int q_value, .ref m_ends, .ref m_letters, .ref m_actOf, .ref m_whom, .ref m_actMany, .ref m_tokens, .ref m_afters, .ref m_afterOf, .int q_counted, .ref m_pile, .ref m_caseMany, .ref m_happen, .ref m_hasIf, .ref m_becomes, .ref m_goneOf, .ref m_heard, .ref m_pairs, .ref m_heaps, .int q_rounds, .int q_heapMany, .ref m_led, .ref m_newAt, .ref m_knowing, .ref m_firsts, .int (nI q_people), .ref m_secrets, .ref m_tried, .ref m_lanes, .ref m_lengths, .ref m_cells])), (m_manys, .inl (E.2.1 1, 18, .inl f_5)), (m_reals, .inl (E.2.1 1, 18, .inl f_reals)), (m_factsOf, .inl (E.2.1 1, 432, .inl g_fa2)), (m_possible, .inl (E.2.1 1, 1728, .inl f_possible)), (m_pairs, .inl (E.2.1 1, 576, .inl g_pr2)), (m_pile, .inl (E.2.1 1, 34, .inl g_pi)), (m_caseMany, .inl (E.2.1 1, 4, .inl f_caseMany)), (m_happen, .inl (E.2.1 1, 4, .inl f_happen)), (m_hasIf, .inl (E.2.1 3, 16, .inl f_hasIf)), (m_becomes, .inl (E.2.1 1, 16, .inl f_becomes)), (m_goneOf, .inl (E.2.1 1, 16, .inl f_goneOf)), (m_heard, .inl (E.2.1 1, 64, .inl f_heard)), (m_actMany, .inl (E.2.1 1, 25, .inl f_actMany)), (m_actOf, .inl (E.2.1 1, 800, .inl f_actOf)), (m_whom, .inl (E.2.1 1, 800, .inl f_whom))]) C 1 rfl (vp_in_nI (by omega) (by omega)) (ldn2 (by omega) ef_5) rfl dX12_laid_241 ?_
              have hmu := cN_n (j := pa) ef_5 (by omega)
              have hw2n : w2 = cN f_manys pa := by omega
              rw [hw2n] at hmc hpm hpf
              have hCC : cb (lyP (pgs f_manys f_reals f_factsOf f_possible pa) ((rEv f_caseMany f_happen f_hasIf f_actMany f_actOf f_whom f_becomes f_goneOf f_heard) e)) (4 * cN f_manys pa) ≤ 24 := by rw [← hmc]; exact hm2
              have hprf := PRM.fin hpm rfl (by omega)
              refine ww_iconst (v := 0) C dX12_laid_242 rfl ?_
              refine ww_istore (lv' := [(5, .int 0), (4, .int (nI m2)), (3, .int (nI (pa + 1))), (0, .ref hm), (1, .int (nI e)), (2, .int (nI pa))]) C dX12_laid_243 rfl rfl ?_
              have loop_245 : ∀ (fu : Nat) (w5 : Nat) (g_po5 : Nat → Int32), (w5 ≤ cN f_manys pa) → (PRy (lyP (pgs f_manys f_reals f_factsOf f_possible pa) ((rEv f_caseMany f_happen f_hasIf f_actMany f_actOf f_whom f_becomes f_goneOf f_heard) e)) (4 * cN f_manys pa) (4 * w5) 0 (lyR (pgs f_manys f_reals f_factsOf f_possible pa) ((rEv f_caseMany f_happen f_hasIf f_actMany f_actOf f_whom f_becomes f_goneOf f_heard) e)) (sh (96 * (pa + 1)) g_po5)) → (OFF 96 (pa + 1) f_possible g_po5) → cN f_manys pa - w5 < fu → WW X 9 E 245 [(5, .int (nI w5)), (4, .int (nI m2)), (3, .int (nI (pa + 1))), (0, .ref hm), (1, .int (nI e)), (2, .int (nI pa))] [] [(hm, .inr (12, [.ref m_manys, .ref m_reals, .ref m_factsOf, .ref m_possible, .int (nI q_undos), .int (nI q_models), .ref m_tape, .int (nI q_taped), .int q_fault, .int q_wrong, .int q_wrongAt, .int q_spot, .int q_place, .int q_token, .int q_value, .ref m_ends, .ref m_letters, .ref m_actOf, .ref m_whom, .ref m_actMany, .ref m_tokens, .ref m_afters, .ref m_afterOf, .int q_counted, .ref m_pile, .ref m_caseMany, .ref m_happen, .ref m_hasIf, .ref m_becomes, .ref m_goneOf, .ref m_heard, .ref m_pairs, .ref m_heaps, .int q_rounds, .int q_heapMany, .ref m_led, .ref m_newAt, .ref m_knowing, .ref m_firsts, .int (nI q_people), .ref m_secrets, .ref m_tried, .ref m_lanes, .ref m_lengths, .ref m_cells])), (m_manys, .inl (E.2.1 1, 18, .inl f_5)), (m_reals, .inl (E.2.1 1, 18, .inl f_reals)), (m_factsOf, .inl (E.2.1 1, 432, .inl g_fa2)), (m_possible, .inl (E.2.1 1, 1728, .inl g_po5)), (m_pairs, .inl (E.2.1 1, 576, .inl g_pr2)), (m_pile, .inl (E.2.1 1, 34, .inl g_pi)), (m_caseMany, .inl (E.2.1 1, 4, .inl f_caseMany)), (m_happen, .inl (E.2.1 1, 4, .inl f_happen)), (m_hasIf, .inl (E.2.1 3, 16, .inl f_hasIf)), (m_becomes, .inl (E.2.1 1, 16, .inl f_becomes)), (m_goneOf, .inl (E.2.1 1, 16, .inl f_goneOf)), (m_heard, .inl (E.2.1 1, 64, .inl f_heard)), (m_actMany, .inl (E.2.1 1, 25, .inl f_actMany)), (m_actOf, .inl (E.2.1 1, 800, .inl f_actOf)), (m_whom, .inl (E.2.1 1, 800, .inl f_whom))] 0 0 := by
                intro fu
                induction fu with
                | zero => intro w5 g_po5 hw5 hpy hog hmeas; exact absurd hmeas (Nat.not_lt_zero _)
                | succ fu ih_245 =>
                  intro w5 g_po5 hw5 hpy hog hmeas
                  refine ww_iload C dX12_laid_245 0 rfl ?_
                  refine ww_aload_n C dX12_laid_247 3 rfl rfl ?_
                  refine ww_get C fg_X12_7 0 rfl rfl dX12_laid_248 ?_
                  refine ww_iload_n C dX12_laid_251 5 rfl rfl ?_
                  have hbx_6 := ((NB.put hb_manys (t := m2) (by omega) (by decide) ef_5) pa (by omega)).2
                  refine ww_iald (v := (nI (cN f_5 pa))) C 1 rfl (vp_in_nI (by omega) (by omega)) (ldn (by omega) ((NB.put hb_manys (t := m2) (by omega) (by decide) ef_5) pa (by omega)).1) dX12_laid_252 ?_
                  refine ww_icmp_ge (tgt := 353) C dX12_laid_253 (by decide) (fun c_7 => ?_) (fun c_7 => ?_)
                  · have zc_7 : ((w5 : Nat) : Int) ≥ ((cN f_5 pa : Nat) : Int) := i_le (nI_toInt (n := cN f_5 pa) (by omega)) (nI_toInt (n := w5) (by omega)) c_7
                    refine ww_aload_n C dX12_laid_353 3 rfl rfl ?_
                    refine ww_get C fg_X12_7 0 rfl rfl dX12_laid_354 ?_
                    refine ww_iload_n C dX12_laid_357 5 rfl rfl ?_
                    have hbx_8 := ((NB.put hb_manys (t := m2) (by omega) (by decide) ef_5) pa (by omega)).2
                    refine ww_iald (v := (nI (cN f_5 pa))) C 1 rfl (vp_in_nI (by omega) (by omega)) (ldn (by omega) ((NB.put hb_manys (t := m2) (by omega) (by decide) ef_5) pa (by omega)).1) dX12_laid_358 ?_
                    refine ww_if_ne (tgt := 367) C dX12_laid_359 (by decide) (fun c_9 => ?_) (fun c_9 => ?_)
                    · have zc_9 : ((cN f_5 pa : Nat) : Int) ≠ 0 := i_ne (nI_toInt (n := cN f_5 pa) (by omega)) rfl c_9
                      refine ww_aload_n C dX12_laid_367 3 rfl rfl ?_
                      refine ww_get C fg_X12_71 0 rfl rfl dX12_laid_368 ?_
                      refine ww_bipush (v := 96) C dX12_laid_371 rfl ?_
                      refine ww_iload_n C dX12_laid_373 5 rfl rfl ?_
                      refine ww_imul (v := (nI (96 * pa))) C dX12_laid_374 (pk_mul 96 pa) ?_
                      refine ww_iconst (v := 4) C dX12_laid_375 rfl ?_
                      refine ww_aload_n C dX12_laid_376 3 rfl rfl ?_
                      refine ww_get C fg_X12_13 0 rfl rfl dX12_laid_377 ?_
                      refine ww_iload_n C dX12_laid_380 5 rfl rfl ?_
                      have hbx_10 := (hb_reals pa (by omega)).2
                      refine ww_iald (v := (nI (cN f_reals pa))) C 2 rfl (vp_in_nI (by omega) (by omega)) (ldn (by omega) (hb_reals pa (by omega)).1) dX12_laid_381 ?_
                      refine ww_imul (v := (nI (4 * (cN f_reals pa)))) C dX12_laid_382 (pk_mul 4 (cN f_reals pa)) ?_
                      refine ww_iadd (v := (nI ((96 * pa) + (4 * (cN f_reals pa))))) C dX12_laid_383 (nI_add (96 * pa) (4 * (cN f_reals pa))) ?_
                      refine ww_aload_n C dX12_laid_384 3 rfl rfl ?_
                      refine ww_get C fg_X12_55 0 rfl rfl dX12_laid_385 ?_
                      refine ww_iload_n C dX12_laid_388 4 rfl rfl ?_
                      have hbx_11 := (hb_happen e (by omega)).2
                      refine ww_iald (v := (nI (cN f_happen e))) C 8 rfl (vp_in_nI (by omega) (by omega)) (ldn (by omega) (hb_happen e (by omega)).1) dX12_laid_389 ?_
                      refine ww_iadd (v := (nI (((96 * pa) + (4 * (cN f_reals pa))) + (cN f_happen e)))) C dX12_laid_390 (nI_add ((96 * pa) + (4 * (cN f_reals pa))) (cN f_happen e)) ?_
                      rcases PRF.or (w := cN f_reals pa) (i := cN f_happen e) hprf (by omega) (by omega) with ⟨hP_12, hx_13⟩ | ⟨hP_12, hx_13⟩
                      · refine ww_iald (v := (-4)) C 5 rfl (vp_in_nI (by omega) (by omega)) (ldn (by omega) hx_13) dX12_laid_391 ?_
                        refine ww_istore (lv' := [(5, .int (-4)), (4, .int (nI m2)), (3, .int (nI (pa + 1))), (0, .ref hm), (1, .int (nI e)), (2, .int (nI pa))]) C dX12_laid_392 rfl rfl ?_
                        refine ww_aload_n C dX12_laid_394 3 rfl rfl ?_
                        refine ww_get C fg_X12_13 0 rfl rfl dX12_laid_395 ?_
                        refine ww_iload_n C dX12_laid_398 2 rfl rfl ?_
                        refine ww_iload C dX12_laid_399 0 rfl ?_
                        refine ww_bipush (v := (-4)) C dX12_laid_401 rfl ?_
                        refine ww_icmp_ne_f (tgt := 410) C dX12_laid_403 (by decide) (rfl) ?_
                        refine ww_iconst (v := 0) C dX12_laid_406 rfl ?_
                        refine ww_goto (tgt := 412) C dX12_laid_407 (by decide) ?_
                        obtain ⟨f_14, ef_14⟩ : ∃ z : Nat → Int32, upd f_reals (pa + 1) 0 = z := ⟨_, rfl⟩
                        refine ww_iast (ws' := [(hm, .inr (12, [.ref m_manys, .ref m_reals, .ref m_factsOf, .ref m_possible, .int (nI q_undos), .int (nI q_models), .ref m_tape, .int (nI q_taped), .int q_fault, .int q_wrong, .int q_wrongAt, .int q_spot, .int q_place, .int q_token, .int q_value, .ref m_ends, .ref m_letters, .ref m_actOf, .ref m_whom, .ref m_actMany, .ref m_tokens, .ref m_afters, .ref m_afterOf, .int q_counted, .ref m_pile, .ref m_caseMany, .ref m_happen, .ref m_hasIf, .ref m_becomes, .ref m_goneOf, .ref m_heard, .ref m_pairs, .ref m_heaps, .int q_rounds, .int q_heapMany, .ref m_led, .ref m_newAt, .ref m_knowing, .ref m_firsts, .int (nI q_people), .ref m_secrets, .ref m_tried, .ref m_lanes, .ref m_lengths, .ref m_cells])), (m_manys, .inl (E.2.1 1, 18, .inl f_5)), (m_reals, .inl (E.2.1 1, 18, .inl f_14)), (m_factsOf, .inl (E.2.1 1, 432, .inl g_fa2)), (m_possible, .inl (E.2.1 1, 1728, .inl g_po5)), (m_pairs, .inl (E.2.1 1, 576, .inl g_pr2)), (m_pile, .inl (E.2.1 1, 34, .inl g_pi)), (m_caseMany, .inl (E.2.1 1, 4, .inl f_caseMany)), (m_happen, .inl (E.2.1 1, 4, .inl f_happen)), (m_hasIf, .inl (E.2.1 3, 16, .inl f_hasIf)), (m_becomes, .inl (E.2.1 1, 16, .inl f_becomes)), (m_goneOf, .inl (E.2.1 1, 16, .inl f_goneOf)), (m_heard, .inl (E.2.1 1, 64, .inl f_heard)), (m_actMany, .inl (E.2.1 1, 25, .inl f_actMany)), (m_actOf, .inl (E.2.1 1, 800, .inl f_actOf)), (m_whom, .inl (E.2.1 1, 800, .inl f_whom))]) C 2 rfl (vp_in_nI (by omega) (by omega)) (ldn2 (by omega) ef_14) rfl dX12_laid_412 ?_
                        refine ww_iload C dX12_laid_413 1 rfl ?_
                        exact ww_iret (u := [(hm, .inr (12, [.ref m_manys, .ref m_reals, .ref m_factsOf, .ref m_possible, .int (nI q_undos), .int (nI q_models), .ref m_tape, .int (nI q_taped), .int q_fault, .int q_wrong, .int q_wrongAt, .int q_spot, .int q_place, .int q_token, .int q_value, .ref m_ends, .ref m_letters, .ref m_actOf, .ref m_whom, .ref m_actMany, .ref m_tokens, .ref m_afters, .ref m_afterOf, .int q_counted, .ref m_pile, .ref m_caseMany, .ref m_happen, .ref m_hasIf, .ref m_becomes, .ref m_goneOf, .ref m_heard, .ref m_pairs, .ref m_heaps, .int q_rounds, .int q_heapMany, .ref m_led, .ref m_newAt, .ref m_knowing, .ref m_firsts, .int (nI q_people), .ref m_secrets, .ref m_tried, .ref m_lanes, .ref m_lengths, .ref m_cells])), (m_manys, .inl (E.2.1 1, 18, .inl f_5)), (m_reals, .inl (E.2.1 1, 18, .inl f_14)), (m_factsOf, .inl (E.2.1 1, 432, .inl g_fa2)), (m_possible, .inl (E.2.1 1, 1728, .inl g_po5)), (m_pairs, .inl (E.2.1 1, 576, .inl g_pr2)), (m_pile, .inl (E.2.1 1, 34, .inl g_pi)), (m_caseMany, .inl (E.2.1 1, 4, .inl f_caseMany)), (m_happen, .inl (E.2.1 1, 4, .inl f_happen)), (m_hasIf, .inl (E.2.1 3, 16, .inl f_hasIf)), (m_becomes, .inl (E.2.1 1, 16, .inl f_becomes)), (m_goneOf, .inl (E.2.1 1, 16, .inl f_goneOf)), (m_heard, .inl (E.2.1 1, 64, .inl f_heard)), (m_actMany, .inl (E.2.1 1, 25, .inl f_actMany)), (m_actOf, .inl (E.2.1 1, 800, .inl f_actOf)), (m_whom, .inl (E.2.1 1, 800, .inl f_whom))]) C hT [0, 1, 2, 3, 4, 5, 6, 7, 8, 9, 10, 11, 12, 13, 14, 15] (gqk (by eq_refl)) (ndk (by decide +kernel)) rfl rfl dX12_laid_415 (Or.inr ⟨_, f_5, f_14, g_fa2, g_po5, g_pr2, g_pi, rfl, rfl, (NB.put hb_manys (t := m2) (by omega) (by decide) ef_5), (NB.put hb_reals (t := 0) (by omega) (by decide) ef_14), (PG.put (a := m2) (b := 0) hpg ef_5 ef_14 (by omega) (by omega) (by omega)), (WFP.at hwf (pgs_oth hb_manys (OFF.put OFF.rf (by omega) (by omega) ef_5) (OFF.put OFF.rf (by omega) (by omega) ef_14) hof hog) (by rw [(pg_lay (ev := ((rEv f_caseMany f_happen f_hasIf f_actMany f_actOf f_whom f_becomes f_goneOf f_heard) e)) (by rw [cN_s (by omega) ef_5]; exact hmc) ((cN_s (t := 0) (by omega) ef_14).trans (if_neg (show ¬ ((lyP (pgs f_manys f_reals f_factsOf f_possible pa) ((rEv f_caseMany f_happen f_hasIf f_actMany f_actOf f_whom f_becomes f_goneOf f_heard) e)) (4 * cN f_reals pa + (((rEv f_caseMany f_happen f_hasIf f_actMany f_actOf f_whom f_becomes f_goneOf f_heard) e)).2.1) = true) by rw [show (lyP (pgs f_manys f_reals f_factsOf f_possible pa) ((rEv f_caseMany f_happen f_hasIf f_actMany f_actOf f_whom f_becomes f_goneOf f_heard) e)) (4 * cN f_reals pa + (((rEv f_caseMany f_happen f_hasIf f_actMany f_actOf f_whom f_becomes f_goneOf f_heard) e)).2.1) = false from hP_12]; exact Bool.false_ne_true)).symm) hCC hpf (by have h9 : w5 = cN f_manys pa := (by omega); rw [h9] at hpy; exact hpy))]; exact lay_wf)), (KP.put KP.rf (by omega) ef_5), (KP.put KP.rf (by omega) ef_14), (pgs_oth hb_manys (OFF.put OFF.rf (by omega) (by omega) ef_5) (OFF.put OFF.rf (by omega) (by omega) ef_14) hof hog), hop2, hmc.symm, (pg_lay (ev := ((rEv f_caseMany f_happen f_hasIf f_actMany f_actOf f_whom f_becomes f_goneOf f_heard) e)) (by rw [cN_s (by omega) ef_5]; exact hmc) ((cN_s (t := 0) (by omega) ef_14).trans (if_neg (show ¬ ((lyP (pgs f_manys f_reals f_factsOf f_possible pa) ((rEv f_caseMany f_happen f_hasIf f_actMany f_actOf f_whom f_becomes f_goneOf f_heard) e)) (4 * cN f_reals pa + (((rEv f_caseMany f_happen f_hasIf f_actMany f_actOf f_whom f_becomes f_goneOf f_heard) e)).2.1) = true) by rw [show (lyP (pgs f_manys f_reals f_factsOf f_possible pa) ((rEv f_caseMany f_happen f_hasIf f_actMany f_actOf f_whom f_becomes f_goneOf f_heard) e)) (4 * cN f_reals pa + (((rEv f_caseMany f_happen f_hasIf f_actMany f_actOf f_whom f_becomes f_goneOf f_heard) e)).2.1) = false from hP_12]; exact Bool.false_ne_true)).symm) hCC hpf (by have h9 : w5 = cN f_manys pa := (by omega); rw [h9] at hpy; exact hpy)), hprf, (by omega)⟩)
                      · have hchx_13 := Nat.le_trans (cb_mono (lyP (pgs f_manys f_reals f_factsOf f_possible pa) ((rEv f_caseMany f_happen f_hasIf f_actMany f_actOf f_whom f_becomes f_goneOf f_heard) e)) (show 4 * (cN f_reals pa) + (cN f_happen e) ≤ _ by omega)) hCC
                        have hlhx_13 := cb_lt (f := (lyP (pgs f_manys f_reals f_factsOf f_possible pa) ((rEv f_caseMany f_happen f_hasIf f_actMany f_actOf f_whom f_becomes f_goneOf f_heard) e))) (show 4 * (cN f_reals pa) + (cN f_happen e) < 4 * cN f_manys pa by omega) hP_12
                        refine ww_iald (v := (nI (cb (lyP (pgs f_manys f_reals f_factsOf f_possible pa) ((rEv f_caseMany f_happen f_hasIf f_actMany f_actOf f_whom f_becomes f_goneOf f_heard) e)) (4 * (cN f_reals pa) + (cN f_happen e))))) C 5 rfl (vp_in_nI (by omega) (by omega)) (ldn (by omega) hx_13) dX12_laid_391 ?_
                        refine ww_istore (lv' := [(5, .int (nI (cb (lyP (pgs f_manys f_reals f_factsOf f_possible pa) ((rEv f_caseMany f_happen f_hasIf f_actMany f_actOf f_whom f_becomes f_goneOf f_heard) e)) (4 * (cN f_reals pa) + (cN f_happen e))))), (4, .int (nI m2)), (3, .int (nI (pa + 1))), (0, .ref hm), (1, .int (nI e)), (2, .int (nI pa))]) C dX12_laid_392 rfl rfl ?_
                        refine ww_aload_n C dX12_laid_394 3 rfl rfl ?_
                        refine ww_get C fg_X12_13 0 rfl rfl dX12_laid_395 ?_
                        refine ww_iload_n C dX12_laid_398 2 rfl rfl ?_
                        refine ww_iload C dX12_laid_399 0 rfl ?_
                        refine ww_bipush (v := (-4)) C dX12_laid_401 rfl ?_
                        refine ww_icmp_ne (tgt := 410) C dX12_laid_403 (by decide) (fun c_15 => ?_) (fun c_15 => ?_)
                        · have zc_15 : ((cb (lyP (pgs f_manys f_reals f_factsOf f_possible pa) ((rEv f_caseMany f_happen f_hasIf f_actMany f_actOf f_whom f_becomes f_goneOf f_heard) e)) (4 * (cN f_reals pa) + (cN f_happen e)) : Nat) : Int) ≠ (-4) := i_ne (nI_toInt (n := cb (lyP (pgs f_manys f_reals f_factsOf f_possible pa) ((rEv f_caseMany f_happen f_hasIf f_actMany f_actOf f_whom f_becomes f_goneOf f_heard) e)) (4 * (cN f_reals pa) + (cN f_happen e))) (by omega)) rfl c_15
                          refine ww_iload C dX12_laid_410 0 rfl ?_
                          obtain ⟨f_16, ef_16⟩ : ∃ z : Nat → Int32, upd f_reals (pa + 1) (nI (cb (lyP (pgs f_manys f_reals f_factsOf f_possible pa) ((rEv f_caseMany f_happen f_hasIf f_actMany f_actOf f_whom f_becomes f_goneOf f_heard) e)) (4 * (cN f_reals pa) + (cN f_happen e)))) = z := ⟨_, rfl⟩
                          refine ww_iast (ws' := [(hm, .inr (12, [.ref m_manys, .ref m_reals, .ref m_factsOf, .ref m_possible, .int (nI q_undos), .int (nI q_models), .ref m_tape, .int (nI q_taped), .int q_fault, .int q_wrong, .int q_wrongAt, .int q_spot, .int q_place, .int q_token, .int q_value, .ref m_ends, .ref m_letters, .ref m_actOf, .ref m_whom, .ref m_actMany, .ref m_tokens, .ref m_afters, .ref m_afterOf, .int q_counted, .ref m_pile, .ref m_caseMany, .ref m_happen, .ref m_hasIf, .ref m_becomes, .ref m_goneOf, .ref m_heard, .ref m_pairs, .ref m_heaps, .int q_rounds, .int q_heapMany, .ref m_led, .ref m_newAt, .ref m_knowing, .ref m_firsts, .int (nI q_people), .ref m_secrets, .ref m_tried, .ref m_lanes, .ref m_lengths, .ref m_cells])), (m_manys, .inl (E.2.1 1, 18, .inl f_5)), (m_reals, .inl (E.2.1 1, 18, .inl f_16)), (m_factsOf, .inl (E.2.1 1, 432, .inl g_fa2)), (m_possible, .inl (E.2.1 1, 1728, .inl g_po5)), (m_pairs, .inl (E.2.1 1, 576, .inl g_pr2)), (m_pile, .inl (E.2.1 1, 34, .inl g_pi)), (m_caseMany, .inl (E.2.1 1, 4, .inl f_caseMany)), (m_happen, .inl (E.2.1 1, 4, .inl f_happen)), (m_hasIf, .inl (E.2.1 3, 16, .inl f_hasIf)), (m_becomes, .inl (E.2.1 1, 16, .inl f_becomes)), (m_goneOf, .inl (E.2.1 1, 16, .inl f_goneOf)), (m_heard, .inl (E.2.1 1, 64, .inl f_heard)), (m_actMany, .inl (E.2.1 1, 25, .inl f_actMany)), (m_actOf, .inl (E.2.1 1, 800, .inl f_actOf)), (m_whom, .inl (E.2.1 1, 800, .inl f_whom))]) C 2 rfl (vp_in_nI (by omega) (by omega)) (ldn2 (by omega) ef_16) rfl dX12_laid_412 ?_
                          refine ww_iload C dX12_laid_413 1 rfl ?_
                          exact ww_iret (u := [(hm, .inr (12, [.ref m_manys, .ref m_reals, .ref m_factsOf, .ref m_possible, .int (nI q_undos), .int (nI q_models), .ref m_tape, .int (nI q_taped), .int q_fault, .int q_wrong, .int q_wrongAt, .int q_spot, .int q_place, .int q_token, .int q_value, .ref m_ends, .ref m_letters, .ref m_actOf, .ref m_whom, .ref m_actMany, .ref m_tokens, .ref m_afters, .ref m_afterOf, .int q_counted, .ref m_pile, .ref m_caseMany, .ref m_happen, .ref m_hasIf, .ref m_becomes, .ref m_goneOf, .ref m_heard, .ref m_pairs, .ref m_heaps, .int q_rounds, .int q_heapMany, .ref m_led, .ref m_newAt, .ref m_knowing, .ref m_firsts, .int (nI q_people), .ref m_secrets, .ref m_tried, .ref m_lanes, .ref m_lengths, .ref m_cells])), (m_manys, .inl (E.2.1 1, 18, .inl f_5)), (m_reals, .inl (E.2.1 1, 18, .inl f_16)), (m_factsOf, .inl (E.2.1 1, 432, .inl g_fa2)), (m_possible, .inl (E.2.1 1, 1728, .inl g_po5)), (m_pairs, .inl (E.2.1 1, 576, .inl g_pr2)), (m_pile, .inl (E.2.1 1, 34, .inl g_pi)), (m_caseMany, .inl (E.2.1 1, 4, .inl f_caseMany)), (m_happen, .inl (E.2.1 1, 4, .inl f_happen)), (m_hasIf, .inl (E.2.1 3, 16, .inl f_hasIf)), (m_becomes, .inl (E.2.1 1, 16, .inl f_becomes)), (m_goneOf, .inl (E.2.1 1, 16, .inl f_goneOf)), (m_heard, .inl (E.2.1 1, 64, .inl f_heard)), (m_actMany, .inl (E.2.1 1, 25, .inl f_actMany)), (m_actOf, .inl (E.2.1 1, 800, .inl f_actOf)), (m_whom, .inl (E.2.1 1, 800, .inl f_whom))]) C hT [0, 1, 2, 3, 4, 5, 6, 7, 8, 9, 10, 11, 12, 13, 14, 15] (gqk (by eq_refl)) (ndk (by decide +kernel)) rfl rfl dX12_laid_415 (Or.inr ⟨_, f_5, f_16, g_fa2, g_po5, g_pr2, g_pi, rfl, rfl, (NB.put hb_manys (t := m2) (by omega) (by decide) ef_5), (NB.put hb_reals (t := cb (lyP (pgs f_manys f_reals f_factsOf f_possible pa) ((rEv f_caseMany f_happen f_hasIf f_actMany f_actOf f_whom f_becomes f_goneOf f_heard) e)) (4 * (cN f_reals pa) + (cN f_happen e))) (by omega) (by decide) ef_16), (PG.put (a := m2) (b := cb (lyP (pgs f_manys f_reals f_factsOf f_possible pa) ((rEv f_caseMany f_happen f_hasIf f_actMany f_actOf f_whom f_becomes f_goneOf f_heard) e)) (4 * (cN f_reals pa) + (cN f_happen e))) hpg ef_5 ef_16 (by omega) (by omega) (by omega)), (WFP.at hwf (pgs_oth hb_manys (OFF.put OFF.rf (by omega) (by omega) ef_5) (OFF.put OFF.rf (by omega) (by omega) ef_16) hof hog) (by rw [(pg_lay (ev := ((rEv f_caseMany f_happen f_hasIf f_actMany f_actOf f_whom f_becomes f_goneOf f_heard) e)) (by rw [cN_s (by omega) ef_5]; exact hmc) ((cN_s (t := cb (lyP (pgs f_manys f_reals f_factsOf f_possible pa) ((rEv f_caseMany f_happen f_hasIf f_actMany f_actOf f_whom f_becomes f_goneOf f_heard) e)) (4 * (cN f_reals pa) + (cN f_happen e))) (by omega) ef_16).trans (if_pos (show ((lyP (pgs f_manys f_reals f_factsOf f_possible pa) ((rEv f_caseMany f_happen f_hasIf f_actMany f_actOf f_whom f_becomes f_goneOf f_heard) e)) (4 * cN f_reals pa + (((rEv f_caseMany f_happen f_hasIf f_actMany f_actOf f_whom f_becomes f_goneOf f_heard) e)).2.1) = true) from hP_12)).symm) hCC hpf (by have h9 : w5 = cN f_manys pa := (by omega); rw [h9] at hpy; exact hpy))]; exact lay_wf)), (KP.put KP.rf (by omega) ef_5), (KP.put KP.rf (by omega) ef_16), (pgs_oth hb_manys (OFF.put OFF.rf (by omega) (by omega) ef_5) (OFF.put OFF.rf (by omega) (by omega) ef_16) hof hog), hop2, hmc.symm, (pg_lay (ev := ((rEv f_caseMany f_happen f_hasIf f_actMany f_actOf f_whom f_becomes f_goneOf f_heard) e)) (by rw [cN_s (by omega) ef_5]; exact hmc) ((cN_s (t := cb (lyP (pgs f_manys f_reals f_factsOf f_possible pa) ((rEv f_caseMany f_happen f_hasIf f_actMany f_actOf f_whom f_becomes f_goneOf f_heard) e)) (4 * (cN f_reals pa) + (cN f_happen e))) (by omega) ef_16).trans (if_pos (show ((lyP (pgs f_manys f_reals f_factsOf f_possible pa) ((rEv f_caseMany f_happen f_hasIf f_actMany f_actOf f_whom f_becomes f_goneOf f_heard) e)) (4 * cN f_reals pa + (((rEv f_caseMany f_happen f_hasIf f_actMany f_actOf f_whom f_becomes f_goneOf f_heard) e)).2.1) = true) from hP_12)).symm) hCC hpf (by have h9 : w5 = cN f_manys pa := (by omega); rw [h9] at hpy; exact hpy)), hprf, (by omega)⟩)
                        · have zc_15 : ((cb (lyP (pgs f_manys f_reals f_factsOf f_possible pa) ((rEv f_caseMany f_happen f_hasIf f_actMany f_actOf f_whom f_becomes f_goneOf f_heard) e)) (4 * (cN f_reals pa) + (cN f_happen e)) : Nat) : Int) = (-4) := i_eq (nI_toInt (n := cb (lyP (pgs f_manys f_reals f_factsOf f_possible pa) ((rEv f_caseMany f_happen f_hasIf f_actMany f_actOf f_whom f_becomes f_goneOf f_heard) e)) (4 * (cN f_reals pa) + (cN f_happen e))) (by omega)) rfl c_15
                          omega
                    · have zc_9 : ((cN f_5 pa : Nat) : Int) = 0 := i_eq (nI_toInt (n := cN f_5 pa) (by omega)) rfl c_9
                      refine ww_bipush (v := (-4)) C dX12_laid_362 rfl ?_
                      refine ww_goto (tgt := 392) C dX12_laid_364 (by decide) ?_
                      refine ww_istore (lv' := [(5, .int (-4)), (4, .int (nI m2)), (3, .int (nI (pa + 1))), (0, .ref hm), (1, .int (nI e)), (2, .int (nI pa))]) C dX12_laid_392 rfl rfl ?_
                      refine ww_aload_n C dX12_laid_394 3 rfl rfl ?_
                      refine ww_get C fg_X12_13 0 rfl rfl dX12_laid_395 ?_
                      refine ww_iload_n C dX12_laid_398 2 rfl rfl ?_
                      refine ww_iload C dX12_laid_399 0 rfl ?_
                      refine ww_bipush (v := (-4)) C dX12_laid_401 rfl ?_
                      refine ww_icmp_ne_f (tgt := 410) C dX12_laid_403 (by decide) (rfl) ?_
                      refine ww_iconst (v := 0) C dX12_laid_406 rfl ?_
                      refine ww_goto (tgt := 412) C dX12_laid_407 (by decide) ?_
                      obtain ⟨f_17, ef_17⟩ : ∃ z : Nat → Int32, upd f_reals (pa + 1) 0 = z := ⟨_, rfl⟩
                      refine ww_iast (ws' := [(hm, .inr (12, [.ref m_manys, .ref m_reals, .ref m_factsOf, .ref m_possible, .int (nI q_undos), .int (nI q_models), .ref m_tape, .int (nI q_taped), .int q_fault, .int q_wrong, .int q_wrongAt, .int q_spot, .int q_place, .int q_token, .int q_value, .ref m_ends, .ref m_letters, .ref m_actOf, .ref m_whom, .ref m_actMany, .ref m_tokens, .ref m_afters, .ref m_afterOf, .int q_counted, .ref m_pile, .ref m_caseMany, .ref m_happen, .ref m_hasIf, .ref m_becomes, .ref m_goneOf, .ref m_heard, .ref m_pairs, .ref m_heaps, .int q_rounds, .int q_heapMany, .ref m_led, .ref m_newAt, .ref m_knowing, .ref m_firsts, .int (nI q_people), .ref m_secrets, .ref m_tried, .ref m_lanes, .ref m_lengths, .ref m_cells])), (m_manys, .inl (E.2.1 1, 18, .inl f_5)), (m_reals, .inl (E.2.1 1, 18, .inl f_17)), (m_factsOf, .inl (E.2.1 1, 432, .inl g_fa2)), (m_possible, .inl (E.2.1 1, 1728, .inl g_po5)), (m_pairs, .inl (E.2.1 1, 576, .inl g_pr2)), (m_pile, .inl (E.2.1 1, 34, .inl g_pi)), (m_caseMany, .inl (E.2.1 1, 4, .inl f_caseMany)), (m_happen, .inl (E.2.1 1, 4, .inl f_happen)), (m_hasIf, .inl (E.2.1 3, 16, .inl f_hasIf)), (m_becomes, .inl (E.2.1 1, 16, .inl f_becomes)), (m_goneOf, .inl (E.2.1 1, 16, .inl f_goneOf)), (m_heard, .inl (E.2.1 1, 64, .inl f_heard)), (m_actMany, .inl (E.2.1 1, 25, .inl f_actMany)), (m_actOf, .inl (E.2.1 1, 800, .inl f_actOf)), (m_whom, .inl (E.2.1 1, 800, .inl f_whom))]) C 2 rfl (vp_in_nI (by omega) (by omega)) (ldn2 (by omega) ef_17) rfl dX12_laid_412 ?_
                      refine ww_iload C dX12_laid_413 1 rfl ?_
                      exact ww_iret (u := [(hm, .inr (12, [.ref m_manys, .ref m_reals, .ref m_factsOf, .ref m_possible, .int (nI q_undos), .int (nI q_models), .ref m_tape, .int (nI q_taped), .int q_fault, .int q_wrong, .int q_wrongAt, .int q_spot, .int q_place, .int q_token, .int q_value, .ref m_ends, .ref m_letters, .ref m_actOf, .ref m_whom, .ref m_actMany, .ref m_tokens, .ref m_afters, .ref m_afterOf, .int q_counted, .ref m_pile, .ref m_caseMany, .ref m_happen, .ref m_hasIf, .ref m_becomes, .ref m_goneOf, .ref m_heard, .ref m_pairs, .ref m_heaps, .int q_rounds, .int q_heapMany, .ref m_led, .ref m_newAt, .ref m_knowing, .ref m_firsts, .int (nI q_people), .ref m_secrets, .ref m_tried, .ref m_lanes, .ref m_lengths, .ref m_cells])), (m_manys, .inl (E.2.1 1, 18, .inl f_5)), (m_reals, .inl (E.2.1 1, 18, .inl f_17)), (m_factsOf, .inl (E.2.1 1, 432, .inl g_fa2)), (m_possible, .inl (E.2.1 1, 1728, .inl g_po5)), (m_pairs, .inl (E.2.1 1, 576, .inl g_pr2)), (m_pile, .inl (E.2.1 1, 34, .inl g_pi)), (m_caseMany, .inl (E.2.1 1, 4, .inl f_caseMany)), (m_happen, .inl (E.2.1 1, 4, .inl f_happen)), (m_hasIf, .inl (E.2.1 3, 16, .inl f_hasIf)), (m_becomes, .inl (E.2.1 1, 16, .inl f_becomes)), (m_goneOf, .inl (E.2.1 1, 16, .inl f_goneOf)), (m_heard, .inl (E.2.1 1, 64, .inl f_heard)), (m_actMany, .inl (E.2.1 1, 25, .inl f_actMany)), (m_actOf, .inl (E.2.1 1, 800, .inl f_actOf)), (m_whom, .inl (E.2.1 1, 800, .inl f_whom))]) C hT [0, 1, 2, 3, 4, 5, 6, 7, 8, 9, 10, 11, 12, 13, 14, 15] (gqk (by eq_refl)) (ndk (by decide +kernel)) rfl rfl dX12_laid_415 (Or.inr ⟨_, f_5, f_17, g_fa2, g_po5, g_pr2, g_pi, rfl, rfl, (NB.put hb_manys (t := m2) (by omega) (by decide) ef_5), (NB.put hb_reals (t := 0) (by omega) (by decide) ef_17), (PG.put (a := m2) (b := 0) hpg ef_5 ef_17 (by omega) (by omega) (by omega)), (WFP.at hwf (pgs_oth hb_manys (OFF.put OFF.rf (by omega) (by omega) ef_5) (OFF.put OFF.rf (by omega) (by omega) ef_17) hof hog) (by rw [(pg_lay (ev := ((rEv f_caseMany f_happen f_hasIf f_actMany f_actOf f_whom f_becomes f_goneOf f_heard) e)) (by rw [cN_s (by omega) ef_5]; exact hmc) ((cN_s (t := 0) (by omega) ef_17).trans (if_neg (show ¬ ((lyP (pgs f_manys f_reals f_factsOf f_possible pa) ((rEv f_caseMany f_happen f_hasIf f_actMany f_actOf f_whom f_becomes f_goneOf f_heard) e)) (4 * cN f_reals pa + (((rEv f_caseMany f_happen f_hasIf f_actMany f_actOf f_whom f_becomes f_goneOf f_heard) e)).2.1) = true) by rw [ly_0 (show cN f_manys pa = 0 by omega)]; exact Bool.false_ne_true)).symm) hCC hpf (by have h9 : w5 = cN f_manys pa := (by omega); rw [h9] at hpy; exact hpy))]; exact lay_wf)), (KP.put KP.rf (by omega) ef_5), (KP.put KP.rf (by omega) ef_17), (pgs_oth hb_manys (OFF.put OFF.rf (by omega) (by omega) ef_5) (OFF.put OFF.rf (by omega) (by omega) ef_17) hof hog), hop2, hmc.symm, (pg_lay (ev := ((rEv f_caseMany f_happen f_hasIf f_actMany f_actOf f_whom f_becomes f_goneOf f_heard) e)) (by rw [cN_s (by omega) ef_5]; exact hmc) ((cN_s (t := 0) (by omega) ef_17).trans (if_neg (show ¬ ((lyP (pgs f_manys f_reals f_factsOf f_possible pa) ((rEv f_caseMany f_happen f_hasIf f_actMany f_actOf f_whom f_becomes f_goneOf f_heard) e)) (4 * cN f_reals pa + (((rEv f_caseMany f_happen f_hasIf f_actMany f_actOf f_whom f_becomes f_goneOf f_heard) e)).2.1) = true) by rw [ly_0 (show cN f_manys pa = 0 by omega)]; exact Bool.false_ne_true)).symm) hCC hpf (by have h9 : w5 = cN f_manys pa := (by omega); rw [h9] at hpy; exact hpy)), hprf, (by omega)⟩)
                  · have zc_7 : ((w5 : Nat) : Int) < ((cN f_5 pa : Nat) : Int) := i_nle (nI_toInt (n := cN f_5 pa) (by omega)) (nI_toInt (n := w5) (by omega)) c_7
                    refine ww_iconst (v := 0) C dX12_laid_256 rfl ?_
                    refine ww_istore (lv' := [(6, .int 0), (5, .int (nI w5)), (4, .int (nI m2)), (3, .int (nI (pa + 1))), (0, .ref hm), (1, .int (nI e)), (2, .int (nI pa))]) C dX12_laid_257 rfl rfl ?_
                    have loop_259 : ∀ (fu : Nat) (i6 : Nat) (g_po6 : Nat → Int32), (i6 ≤ cN f_caseMany e) → (PRy (lyP (pgs f_manys f_reals f_factsOf f_possible pa) ((rEv f_caseMany f_happen f_hasIf f_actMany f_actOf f_whom f_becomes f_goneOf f_heard) e)) (4 * cN f_manys pa) (4 * w5 + i6) 0 (lyR (pgs f_manys f_reals f_factsOf f_possible pa) ((rEv f_caseMany f_happen f_hasIf f_actMany f_actOf f_whom f_becomes f_goneOf f_heard) e)) (sh (96 * (pa + 1)) g_po6)) → (OFF 96 (pa + 1) f_possible g_po6) → cN f_caseMany e - i6 < fu → WW X 9 E 259 [(6, .int (nI i6)), (5, .int (nI w5)), (4, .int (nI m2)), (3, .int (nI (pa + 1))), (0, .ref hm), (1, .int (nI e)), (2, .int (nI pa))] [] [(hm, .inr (12, [.ref m_manys, .ref m_reals, .ref m_factsOf, .ref m_possible, .int (nI q_undos), .int (nI q_models), .ref m_tape, .int (nI q_taped), .int q_fault, .int q_wrong, .int q_wrongAt, .int q_spot, .int q_place, .int q_token, .int q_value, .ref m_ends, .ref m_letters, .ref m_actOf, .ref m_whom, .ref m_actMany, .ref m_tokens, .ref m_afters, .ref m_afterOf, .int q_counted, .ref m_pile, .ref m_caseMany, .ref m_happen, .ref m_hasIf, .ref m_becomes, .ref m_goneOf, .ref m_heard, .ref m_pairs, .ref m_heaps, .int q_rounds, .int q_heapMany, .ref m_led, .ref m_newAt, .ref m_knowing, .ref m_firsts, .int (nI q_people), .ref m_secrets, .ref m_tried, .ref m_lanes, .ref m_lengths, .ref m_cells])), (m_manys, .inl (E.2.1 1, 18, .inl f_5)), (m_reals, .inl (E.2.1 1, 18, .inl f_reals)), (m_factsOf, .inl (E.2.1 1, 432, .inl g_fa2)), (m_possible, .inl (E.2.1 1, 1728, .inl g_po6)), (m_pairs, .inl (E.2.1 1, 576, .inl g_pr2)), (m_pile, .inl (E.2.1 1, 34, .inl g_pi)), (m_caseMany, .inl (E.2.1 1, 4, .inl f_caseMany)), (m_happen, .inl (E.2.1 1, 4, .inl f_happen)), (m_hasIf, .inl (E.2.1 3, 16, .inl f_hasIf)), (m_becomes, .inl (E.2.1 1, 16, .inl f_becomes)), (m_goneOf, .inl (E.2.1 1, 16, .inl f_goneOf)), (m_heard, .inl (E.2.1 1, 64, .inl f_heard)), (m_actMany, .inl (E.2.1 1, 25, .inl f_actMany)), (m_actOf, .inl (E.2.1 1, 800, .inl f_actOf)), (m_whom, .inl (E.2.1 1, 800, .inl f_whom))] 0 0 := by
                      intro fu
                      induction fu with
                      | zero => intro i6 g_po6 hi6 hpy6 hog6 hmeas; exact absurd hmeas (Nat.not_lt_zero _)
                      | succ fu ih_259 =>
                        intro i6 g_po6 hi6 hpy6 hog6 hmeas
                        refine ww_iload C dX12_laid_259 0 rfl ?_
                        refine ww_aload_n C dX12_laid_261 4 rfl rfl ?_
                        refine ww_get C fg_X12_52 0 rfl rfl dX12_laid_262 ?_
                        refine ww_iload_n C dX12_laid_265 5 rfl rfl ?_
                        have hbx_18 := (hb_caseMany e (by omega)).2
                        refine ww_iald (v := (nI (cN f_caseMany e))) C 7 rfl (vp_in_nI (by omega) (by omega)) (ldn (by omega) (hb_caseMany e (by omega)).1) dX12_laid_266 ?_
                        refine ww_icmp_ge (tgt := 347) C dX12_laid_267 (by decide) (fun c_19 => ?_) (fun c_19 => ?_)
                        · have zc_19 : ((i6 : Nat) : Int) ≥ ((cN f_caseMany e : Nat) : Int) := i_le (nI_toInt (n := cN f_caseMany e) (by omega)) (nI_toInt (n := i6) (by omega)) c_19
                          refine ww_iinc (j := 1) (v := (nI (w5 + 1))) (lv' := [(5, .int (nI (w5 + 1))), (6, .int (nI i6)), (4, .int (nI m2)), (3, .int (nI (pa + 1))), (0, .ref hm), (1, .int (nI e)), (2, .int (nI pa))]) C dX12_laid_347 rfl (nI_add w5 1) rfl rfl ?_
                          refine ww_goto (tgt := 245) C dX12_laid_350 (by decide) ?_
                          exact ww_lv [0, 2, 3, 4, 5, 6] rfl (ww_sub [0, 1, 2, 3, 4, 5, 6, 7, 8, 9, 10, 11, 12, 13, 14, 15] (ndk (by decide +kernel)) (gqk (by eq_refl)) (ih_245 (w5 + 1) g_po6 (by omega) (PRy.fs (i := 4 * w5 + i6) hpy6 (by omega) (fun p a b => lyP_nos (w := w5) (c := i6) (show cN f_caseMany e ≤ i6 by omega) p a (by omega))) hog6 (by omega)))
                        · have zc_19 : ((i6 : Nat) : Int) < ((cN f_caseMany e : Nat) : Int) := i_nle (nI_toInt (n := cN f_caseMany e) (by omega)) (nI_toInt (n := i6) (by omega)) c_19
                          refine ww_aload_n C dX12_laid_270 4 rfl rfl ?_
                          refine ww_get C fg_X12_71 0 rfl rfl dX12_laid_271 ?_
                          refine ww_bipush (v := 96) C dX12_laid_274 rfl ?_
                          refine ww_iload_n C dX12_laid_276 6 rfl rfl ?_
                          refine ww_imul (v := (nI (96 * pa))) C dX12_laid_277 (pk_mul 96 pa) ?_
                          refine ww_iconst (v := 4) C dX12_laid_278 rfl ?_
                          refine ww_iload C dX12_laid_279 1 rfl ?_
                          refine ww_imul (v := (nI (4 * w5))) C dX12_laid_281 (pk_mul 4 w5) ?_
                          refine ww_iadd (v := (nI ((96 * pa) + (4 * w5)))) C dX12_laid_282 (nI_add (96 * pa) (4 * w5)) ?_
                          refine ww_iload C dX12_laid_283 0 rfl ?_
                          refine ww_iadd (v := (nI (((96 * pa) + (4 * w5)) + i6))) C dX12_laid_285 (nI_add ((96 * pa) + (4 * w5)) i6) ?_
                          rcases PRF.or (w := w5) (i := i6) hprf (by omega) (by omega) with ⟨hP_20, hx_21⟩ | ⟨hP_20, hx_21⟩
                          · refine ww_iald (v := (-4)) C 5 rfl (vp_in_nI (by omega) (by omega)) (ldn (by omega) hx_21) dX12_laid_286 ?_
                            refine ww_istore (lv' := [(7, .int (-4)), (6, .int (nI i6)), (5, .int (nI w5)), (4, .int (nI m2)), (3, .int (nI (pa + 1))), (0, .ref hm), (1, .int (nI e)), (2, .int (nI pa))]) C dX12_laid_287 rfl rfl ?_
                            refine ww_iconst (v := 0) C dX12_laid_289 rfl ?_
                            refine ww_istore (lv' := [(8, .int 0), (7, .int (-4)), (6, .int (nI i6)), (5, .int (nI w5)), (4, .int (nI m2)), (3, .int (nI (pa + 1))), (0, .ref hm), (1, .int (nI e)), (2, .int (nI pa))]) C dX12_laid_290 rfl rfl ?_
                            refine ww_iload C dX12_laid_292 0 rfl ?_
                            refine ww_iconst (v := 4) C dX12_laid_294 rfl ?_
                            refine ww_icmp_ge_f (tgt := 341) C dX12_laid_295 (by decide) (by decide) ?_
                            refine ww_iload C dX12_laid_298 1 rfl ?_
                            refine ww_bipush (v := (-4)) C dX12_laid_300 rfl ?_
                            refine ww_icmp_eq_t (tgt := 341) C dX12_laid_302 (by decide) (rfl) ?_
                            refine ww_iinc (j := 2) (v := (nI (i6 + 1))) (lv' := [(6, .int (nI (i6 + 1))), (8, .int 0), (7, .int (-4)), (5, .int (nI w5)), (4, .int (nI m2)), (3, .int (nI (pa + 1))), (0, .ref hm), (1, .int (nI e)), (2, .int (nI pa))]) C dX12_laid_341 rfl (nI_add i6 1) rfl rfl ?_
                            refine ww_goto (tgt := 259) C dX12_laid_344 (by decide) ?_
                            exact ww_lv [0, 3, 4, 5, 6, 7, 8] rfl (ww_sub [0, 1, 2, 3, 4, 5, 6, 7, 8, 9, 10, 11, 12, 13, 14, 15] (ndk (by decide +kernel)) (gqk (by eq_refl)) (ih_259 (i6 + 1) g_po6 (by omega) (PRy.fs (i := 4 * w5 + i6) hpy6 (by omega) (fun p a b => by rw [show p = 4 * w5 + i6 by omega]; exact hP_20)) hog6 (by omega)))
                          · have hchx_21 := Nat.le_trans (cb_mono (lyP (pgs f_manys f_reals f_factsOf f_possible pa) ((rEv f_caseMany f_happen f_hasIf f_actMany f_actOf f_whom f_becomes f_goneOf f_heard) e)) (show 4 * w5 + i6 ≤ _ by omega)) hCC
                            have hlhx_21 := cb_lt (f := (lyP (pgs f_manys f_reals f_factsOf f_possible pa) ((rEv f_caseMany f_happen f_hasIf f_actMany f_actOf f_whom f_becomes f_goneOf f_heard) e))) (show 4 * w5 + i6 < 4 * cN f_manys pa by omega) hP_20
                            refine ww_iald (v := (nI (cb (lyP (pgs f_manys f_reals f_factsOf f_possible pa) ((rEv f_caseMany f_happen f_hasIf f_actMany f_actOf f_whom f_becomes f_goneOf f_heard) e)) (4 * w5 + i6)))) C 5 rfl (vp_in_nI (by omega) (by omega)) (ldn (by omega) hx_21) dX12_laid_286 ?_
                            refine ww_istore (lv' := [(7, .int (nI (cb (lyP (pgs f_manys f_reals f_factsOf f_possible pa) ((rEv f_caseMany f_happen f_hasIf f_actMany f_actOf f_whom f_becomes f_goneOf f_heard) e)) (4 * w5 + i6)))), (6, .int (nI i6)), (5, .int (nI w5)), (4, .int (nI m2)), (3, .int (nI (pa + 1))), (0, .ref hm), (1, .int (nI e)), (2, .int (nI pa))]) C dX12_laid_287 rfl rfl ?_
                            refine ww_iconst (v := 0) C dX12_laid_289 rfl ?_
                            refine ww_istore (lv' := [(8, .int 0), (7, .int (nI (cb (lyP (pgs f_manys f_reals f_factsOf f_possible pa) ((rEv f_caseMany f_happen f_hasIf f_actMany f_actOf f_whom f_becomes f_goneOf f_heard) e)) (4 * w5 + i6)))), (6, .int (nI i6)), (5, .int (nI w5)), (4, .int (nI m2)), (3, .int (nI (pa + 1))), (0, .ref hm), (1, .int (nI e)), (2, .int (nI pa))]) C dX12_laid_290 rfl rfl ?_
                            have loop_292 : ∀ (fu : Nat) (k8 : Nat) (g_po8 : Nat → Int32), (k8 ≤ 4) → (PRy (lyP (pgs f_manys f_reals f_factsOf f_possible pa) ((rEv f_caseMany f_happen f_hasIf f_actMany f_actOf f_whom f_becomes f_goneOf f_heard) e)) (4 * cN f_manys pa) (4 * w5 + i6) k8 (lyR (pgs f_manys f_reals f_factsOf f_possible pa) ((rEv f_caseMany f_happen f_hasIf f_actMany f_actOf f_whom f_becomes f_goneOf f_heard) e)) (sh (96 * (pa + 1)) g_po8)) → (OFF 96 (pa + 1) f_possible g_po8) → 4 - k8 < fu → WW X 9 E 292 [(8, .int (nI k8)), (7, .int (nI (cb (lyP (pgs f_manys f_reals f_factsOf f_possible pa) ((rEv f_caseMany f_happen f_hasIf f_actMany f_actOf f_whom f_becomes f_goneOf f_heard) e)) (4 * w5 + i6)))), (6, .int (nI i6)), (5, .int (nI w5)), (4, .int (nI m2)), (3, .int (nI (pa + 1))), (0, .ref hm), (1, .int (nI e)), (2, .int (nI pa))] [] [(hm, .inr (12, [.ref m_manys, .ref m_reals, .ref m_factsOf, .ref m_possible, .int (nI q_undos), .int (nI q_models), .ref m_tape, .int (nI q_taped), .int q_fault, .int q_wrong, .int q_wrongAt, .int q_spot, .int q_place, .int q_token, .int q_value, .ref m_ends, .ref m_letters, .ref m_actOf, .ref m_whom, .ref m_actMany, .ref m_tokens, .ref m_afters, .ref m_afterOf, .int q_counted, .ref m_pile, .ref m_caseMany, .ref m_happen, .ref m_hasIf, .ref m_becomes, .ref m_goneOf, .ref m_heard, .ref m_pairs, .ref m_heaps, .int q_rounds, .int q_heapMany, .ref m_led, .ref m_newAt, .ref m_knowing, .ref m_firsts, .int (nI q_people), .ref m_secrets, .ref m_tried, .ref m_lanes, .ref m_lengths, .ref m_cells])), (m_manys, .inl (E.2.1 1, 18, .inl f_5)), (m_reals, .inl (E.2.1 1, 18, .inl f_reals)), (m_factsOf, .inl (E.2.1 1, 432, .inl g_fa2)), (m_possible, .inl (E.2.1 1, 1728, .inl g_po8)), (m_pairs, .inl (E.2.1 1, 576, .inl g_pr2)), (m_pile, .inl (E.2.1 1, 34, .inl g_pi)), (m_caseMany, .inl (E.2.1 1, 4, .inl f_caseMany)), (m_happen, .inl (E.2.1 1, 4, .inl f_happen)), (m_hasIf, .inl (E.2.1 3, 16, .inl f_hasIf)), (m_becomes, .inl (E.2.1 1, 16, .inl f_becomes)), (m_goneOf, .inl (E.2.1 1, 16, .inl f_goneOf)), (m_heard, .inl (E.2.1 1, 64, .inl f_heard)), (m_actMany, .inl (E.2.1 1, 25, .inl f_actMany)), (m_actOf, .inl (E.2.1 1, 800, .inl f_actOf)), (m_whom, .inl (E.2.1 1, 800, .inl f_whom))] 0 0 := by
                              intro fu
                              induction fu with
                              | zero => intro k8 g_po8 hk8 hpy8 hog8 hmeas; exact absurd hmeas (Nat.not_lt_zero _)
                              | succ fu ih_292 =>
                                intro k8 g_po8 hk8 hpy8 hog8 hmeas
                                refine ww_iload C dX12_laid_292 0 rfl ?_
                                refine ww_iconst (v := 4) C dX12_laid_294 rfl ?_
                                refine ww_icmp_ge (tgt := 341) C dX12_laid_295 (by decide) (fun c_22 => ?_) (fun c_22 => ?_)
                                · have zc_22 : ((k8 : Nat) : Int) ≥ 4 := i_le rfl (nI_toInt (n := k8) (by omega)) c_22
                                  refine ww_iinc (j := 2) (v := (nI (i6 + 1))) (lv' := [(6, .int (nI (i6 + 1))), (8, .int (nI k8)), (7, .int (nI (cb (lyP (pgs f_manys f_reals f_factsOf f_possible pa) ((rEv f_caseMany f_happen f_hasIf f_actMany f_actOf f_whom f_becomes f_goneOf f_heard) e)) (4 * w5 + i6)))), (5, .int (nI w5)), (4, .int (nI m2)), (3, .int (nI (pa + 1))), (0, .ref hm), (1, .int (nI e)), (2, .int (nI pa))]) C dX12_laid_341 rfl (nI_add i6 1) rfl rfl ?_
                                  refine ww_goto (tgt := 259) C dX12_laid_344 (by decide) ?_
                                  exact ww_lv [0, 3, 4, 5, 6, 7, 8] rfl (ww_sub [0, 1, 2, 3, 4, 5, 6, 7, 8, 9, 10, 11, 12, 13, 14, 15] (ndk (by decide +kernel)) (gqk (by eq_refl)) (ih_259 (i6 + 1) g_po8 (by omega) (PRy.up hpy8 (by omega)) hog8 (by omega)))
                                · have zc_22 : ((k8 : Nat) : Int) < 4 := i_nle rfl (nI_toInt (n := k8) (by omega)) c_22
                                  refine ww_iload C dX12_laid_298 1 rfl ?_
                                  refine ww_bipush (v := (-4)) C dX12_laid_300 rfl ?_
                                  refine ww_icmp_eq (tgt := 341) C dX12_laid_302 (by decide) (fun c_23 => ?_) (fun c_23 => ?_)
                                  · have zc_23 : ((cb (lyP (pgs f_manys f_reals f_factsOf f_possible pa) ((rEv f_caseMany f_happen f_hasIf f_actMany f_actOf f_whom f_becomes f_goneOf f_heard) e)) (4 * w5 + i6) : Nat) : Int) = (-4) := i_eq (nI_toInt (n := cb (lyP (pgs f_manys f_reals f_factsOf f_possible pa) ((rEv f_caseMany f_happen f_hasIf f_actMany f_actOf f_whom f_becomes f_goneOf f_heard) e)) (4 * w5 + i6)) (by omega)) rfl c_23
                                    omega
                                  · have zc_23 : ((cb (lyP (pgs f_manys f_reals f_factsOf f_possible pa) ((rEv f_caseMany f_happen f_hasIf f_actMany f_actOf f_whom f_becomes f_goneOf f_heard) e)) (4 * w5 + i6) : Nat) : Int) ≠ (-4) := i_ne (nI_toInt (n := cb (lyP (pgs f_manys f_reals f_factsOf f_possible pa) ((rEv f_caseMany f_happen f_hasIf f_actMany f_actOf f_whom f_becomes f_goneOf f_heard) e)) (4 * w5 + i6)) (by omega)) rfl c_23
                                    refine ww_aload_n C dX12_laid_305 6 rfl rfl ?_
                                    refine ww_get C fg_X12_19 0 rfl rfl dX12_laid_306 ?_
                                    refine ww_bipush (v := 96) C dX12_laid_309 rfl ?_
                                    refine ww_iload_n C dX12_laid_311 5 rfl rfl ?_
                                    refine ww_imul (v := (nI (96 * (pa + 1)))) C dX12_laid_312 (pk_mul 96 (pa + 1)) ?_
                                    refine ww_bipush (v := 24) C dX12_laid_313 rfl ?_
                                    refine ww_iload C dX12_laid_315 0 rfl ?_
                                    refine ww_imul (v := (nI (24 * k8))) C dX12_laid_317 (pk_mul 24 k8) ?_
                                    refine ww_iadd (v := (nI ((96 * (pa + 1)) + (24 * k8)))) C dX12_laid_318 (nI_add (96 * (pa + 1)) (24 * k8)) ?_
                                    refine ww_iload C dX12_laid_319 1 rfl ?_
                                    refine ww_iadd (v := (nI (((96 * (pa + 1)) + (24 * k8)) + (cb (lyP (pgs f_manys f_reals f_factsOf f_possible pa) ((rEv f_caseMany f_happen f_hasIf f_actMany f_actOf f_whom f_becomes f_goneOf f_heard) e)) (4 * w5 + i6))))) C dX12_laid_321 (nI_add ((96 * (pa + 1)) + (24 * k8)) (cb (lyP (pgs f_manys f_reals f_factsOf f_possible pa) ((rEv f_caseMany f_happen f_hasIf f_actMany f_actOf f_whom f_becomes f_goneOf f_heard) e)) (4 * w5 + i6))) ?_
                                    refine ww_aload_n C dX12_laid_322 6 rfl rfl ?_
                                    refine ww_iload_n C dX12_laid_323 7 rfl rfl ?_
                                    refine ww_iload_n C dX12_laid_324 8 rfl rfl ?_
                                    refine ww_iload C dX12_laid_325 0 rfl ?_
                                    refine ww_iload C dX12_laid_327 3 rfl ?_
                                    refine ww_iload C dX12_laid_329 2 rfl ?_
                                    refine ww_ci (wr := [(m_reals, .inl (E.2.1 1, 18, .inl f_reals)), (m_factsOf, .inl (E.2.1 1, 432, .inl g_fa2)), (m_pile, .inl (E.2.1 1, 34, .inl g_pi)), (m_happen, .inl (E.2.1 1, 4, .inl f_happen)), (m_hasIf, .inl (E.2.1 3, 16, .inl f_hasIf)), (m_becomes, .inl (E.2.1 1, 16, .inl f_becomes)), (m_goneOf, .inl (E.2.1 1, 16, .inl f_goneOf)), (m_actMany, .inl (E.2.1 1, 25, .inl f_actMany)), (m_actOf, .inl (E.2.1 1, 800, .inl f_actOf)), (m_whom, .inl (E.2.1 1, 800, .inl f_whom))]) (k' := 0) (n' := 0) C (run_V (As := [.int (nI e), .int (nI pa), .int (nI k8), .int (nI w5), .int (nI i6)]) (rest := [.int (nI (((96 * (pa + 1)) + (24 * k8)) + (cb (lyP (pgs f_manys f_reals f_factsOf f_possible pa) ((rEv f_caseMany f_happen f_hasIf f_actMany f_actOf f_whom f_becomes f_goneOf f_heard) e)) (4 * w5 + i6)))), .ref m_possible]) C (r_both X.2.1 E ro hm e pa k8 w5 i6 m_manys m_reals m_factsOf m_possible q_undos q_models m_tape q_taped q_fault q_wrong q_wrongAt q_spot q_place q_token q_value m_ends m_letters m_actOf m_whom m_actMany m_tokens m_afters m_afterOf q_counted m_pile m_caseMany m_happen m_hasIf m_becomes m_goneOf m_heard m_pairs m_heaps q_rounds q_heapMany m_led m_newAt m_knowing m_firsts q_people m_secrets m_tried m_lanes m_lengths m_cells f_5 g_po8 f_caseMany f_heard g_pr2 (lyP (pgs f_manys f_reals f_factsOf f_possible pa) ((rEv f_caseMany f_happen f_hasIf f_actMany f_actOf f_whom f_becomes f_goneOf f_heard) e)) (NB.put hb_manys (t := m2) (by omega) (by decide) ef_5) hb_caseMany (by omega) (by omega) (by omega) (by omega) (by omega) (by rw [hmu]; exact hprf) (fun u j _ hj h4 => lyP_no hj h4) (by rw [hmu]; exact hCC)) mi_X12_both wl_X12_263 rfl 0 12 rfl rfl rfl rfl rfl dX12_laid_331) (roK hro) [0, 1, 4, 7, 12, 5] [2, 3, 6, 8, 9, 10, 11, 13, 14, 15] rfl (gqk (by eq_refl)) (plk (by decide +kernel)) rfl (fun r_24 uz hw => ?_)
                                    refine an1 hw ?_
                                    clear hw
                                    intro he_26 hw
                                    have h_25 := hw
                                    clear hw
                                    subst he_26
                                    refine ww_eq (ws' := [(m_reals, .inl (E.2.1 1, 18, .inl f_reals)), (m_factsOf, .inl (E.2.1 1, 432, .inl g_fa2)), (m_pile, .inl (E.2.1 1, 34, .inl g_pi)), (m_happen, .inl (E.2.1 1, 4, .inl f_happen)), (m_hasIf, .inl (E.2.1 3, 16, .inl f_hasIf)), (m_becomes, .inl (E.2.1 1, 16, .inl f_becomes)), (m_goneOf, .inl (E.2.1 1, 16, .inl f_goneOf)), (m_actMany, .inl (E.2.1 1, 25, .inl f_actMany)), (m_actOf, .inl (E.2.1 1, 800, .inl f_actOf)), (m_whom, .inl (E.2.1 1, 800, .inl f_whom)), (hm, .inr (12, [.ref m_manys, .ref m_reals, .ref m_factsOf, .ref m_possible, .int (nI q_undos), .int (nI q_models), .ref m_tape, .int (nI q_taped), .int q_fault, .int q_wrong, .int q_wrongAt, .int q_spot, .int q_place, .int q_token, .int q_value, .ref m_ends, .ref m_letters, .ref m_actOf, .ref m_whom, .ref m_actMany, .ref m_tokens, .ref m_afters, .ref m_afterOf, .int q_counted, .ref m_pile, .ref m_caseMany, .ref m_happen, .ref m_hasIf, .ref m_becomes, .ref m_goneOf, .ref m_heard, .ref m_pairs, .ref m_heaps, .int q_rounds, .int q_heapMany, .ref m_led, .ref m_newAt, .ref m_knowing, .ref m_firsts, .int (nI q_people), .ref m_secrets, .ref m_tried, .ref m_lanes, .ref m_lengths, .ref m_cells])), (m_manys, .inl (E.2.1 1, 18, .inl f_5)), (m_possible, .inl (E.2.1 1, 1728, .inl g_po8)), (m_caseMany, .inl (E.2.1 1, 4, .inl f_caseMany)), (m_heard, .inl (E.2.1 1, 64, .inl f_heard)), (m_pairs, .inl (E.2.1 1, 576, .inl g_pr2))]) ?_ rfl rfl rfl
                                    obtain ⟨f_27, ef_27⟩ : ∃ z : Nat → Int32, upd g_po8 (((96 * (pa + 1)) + (24 * k8)) + (cb (lyP (pgs f_manys f_reals f_factsOf f_possible pa) ((rEv f_caseMany f_happen f_hasIf f_actMany f_actOf f_whom f_becomes f_goneOf f_heard) e)) (4 * w5 + i6))) r_24 = z := ⟨_, rfl⟩
                                    refine ww_iast (ws' := [(m_reals, .inl (E.2.1 1, 18, .inl f_reals)), (m_factsOf, .inl (E.2.1 1, 432, .inl g_fa2)), (m_pile, .inl (E.2.1 1, 34, .inl g_pi)), (m_happen, .inl (E.2.1 1, 4, .inl f_happen)), (m_hasIf, .inl (E.2.1 3, 16, .inl f_hasIf)), (m_becomes, .inl (E.2.1 1, 16, .inl f_becomes)), (m_goneOf, .inl (E.2.1 1, 16, .inl f_goneOf)), (m_actMany, .inl (E.2.1 1, 25, .inl f_actMany)), (m_actOf, .inl (E.2.1 1, 800, .inl f_actOf)), (m_whom, .inl (E.2.1 1, 800, .inl f_whom)), (hm, .inr (12, [.ref m_manys, .ref m_reals, .ref m_factsOf, .ref m_possible, .int (nI q_undos), .int (nI q_models), .ref m_tape, .int (nI q_taped), .int q_fault, .int q_wrong, .int q_wrongAt, .int q_spot, .int q_place, .int q_token, .int q_value, .ref m_ends, .ref m_letters, .ref m_actOf, .ref m_whom, .ref m_actMany, .ref m_tokens, .ref m_afters, .ref m_afterOf, .int q_counted, .ref m_pile, .ref m_caseMany, .ref m_happen, .ref m_hasIf, .ref m_becomes, .ref m_goneOf, .ref m_heard, .ref m_pairs, .ref m_heaps, .int q_rounds, .int q_heapMany, .ref m_led, .ref m_newAt, .ref m_knowing, .ref m_firsts, .int (nI q_people), .ref m_secrets, .ref m_tried, .ref m_lanes, .ref m_lengths, .ref m_cells])), (m_manys, .inl (E.2.1 1, 18, .inl f_5)), (m_possible, .inl (E.2.1 1, 1728, .inl f_27)), (m_caseMany, .inl (E.2.1 1, 4, .inl f_caseMany)), (m_heard, .inl (E.2.1 1, 64, .inl f_heard)), (m_pairs, .inl (E.2.1 1, 576, .inl g_pr2))]) C 12 rfl (vp_in_nI (by omega) (by omega)) (ldn2 (by omega) ef_27) rfl dX12_laid_334 ?_
                                    refine ww_iinc (j := 0) (v := (nI (k8 + 1))) (lv' := [(8, .int (nI (k8 + 1))), (7, .int (nI (cb (lyP (pgs f_manys f_reals f_factsOf f_possible pa) ((rEv f_caseMany f_happen f_hasIf f_actMany f_actOf f_whom f_becomes f_goneOf f_heard) e)) (4 * w5 + i6)))), (6, .int (nI i6)), (5, .int (nI w5)), (4, .int (nI m2)), (3, .int (nI (pa + 1))), (0, .ref hm), (1, .int (nI e)), (2, .int (nI pa))]) C dX12_laid_335 rfl (nI_add k8 1) rfl rfl ?_
                                    refine ww_goto (tgt := 292) C dX12_laid_338 (by decide) ?_
                                    exact ww_lv [0, 1, 2, 3, 4, 5, 6, 7, 8] rfl (ww_sub [10, 11, 0, 1, 12, 15, 2, 13, 3, 4, 5, 6, 14, 7, 8, 9] (ndk (by decide +kernel)) (gqk (by eq_refl)) (ih_292 (k8 + 1) f_27 (by omega) (PRy.t hpy8 hCC (show 4 * w5 + i6 < 4 * cN f_manys pa by omega) (by omega) hP_20 rfl (both_ly (ev := ((rEv f_caseMany f_happen f_hasIf f_actMany f_actOf f_whom f_becomes f_goneOf f_heard) e)) (k := k8) (w := w5) (i := i6) (by omega) (show w5 < cN f_manys pa by omega) (by omega) (hog8 (96 * pa + 24 * k8 + w5) (by omega)).symm (show f_heard (16 * e + (k8 * 4 + i6)) = f_heard (16 * e + 4 * k8 + i6) from congrArg f_heard (by omega)) (by have h9 := h_25; rw [hmu] at h9; exact h9)) (sh_upg ef_27)) (OFF.put hog8 (by omega) (by omega) ef_27) (by omega)))
                            exact ww_lv [0, 1, 2, 3, 4, 5, 6, 7, 8] rfl (ww_sub [0, 1, 2, 3, 4, 5, 6, 7, 8, 9, 10, 11, 12, 13, 14, 15] (ndk (by decide +kernel)) (gqk (by eq_refl)) (loop_292 _ 0 g_po6 (by omega) hpy6 hog6 (Nat.lt_succ_self _)))
                    exact ww_lv [0, 1, 2, 3, 4, 5, 6] rfl (ww_sub [0, 1, 2, 3, 4, 5, 6, 7, 8, 9, 10, 11, 12, 13, 14, 15] (ndk (by decide +kernel)) (gqk (by eq_refl)) (loop_259 _ 0 g_po5 (by omega) hpy hog (Nat.lt_succ_self _)))
              exact ww_lv [0, 1, 2, 3, 4, 5] rfl (ww_sub [0, 1, 2, 3, 4, 5, 6, 7, 8, 9, 10, 11, 12, 13, 14, 15] (ndk (by decide +kernel)) (gqk (by eq_refl)) (loop_245 _ 0 f_possible (by omega) PRy.nil OFF.rf (Nat.lt_succ_self _)))
            · have zc_4 : ((w2 : Nat) : Int) < ((cN f_manys pa : Nat) : Int) := i_nle (nI_toInt (n := cN f_manys pa) (by omega)) (nI_toInt (n := w2) (by omega)) c_4
              refine ww_iconst (v := 0) C dX12_laid_105 rfl ?_
              refine ww_istore (lv' := [(6, .int 0), (5, .int (nI w2)), (4, .int (nI m2)), (3, .int (nI (pa + 1))), (0, .ref hm), (1, .int (nI e)), (2, .int (nI pa))]) C dX12_laid_106 rfl rfl ?_
              have loop_108 : ∀ (fu : Nat) (i3 : Nat) (m3 : Nat) (g_pr3 : Nat → Int32) (g_fa3 : Nat → Int32), (i3 ≤ cN f_caseMany e) → (m3 ≤ 24) → (m3 = cb (lyP (pgs f_manys f_reals f_factsOf f_possible pa) ((rEv f_caseMany f_happen f_hasIf f_actMany f_actOf f_whom f_becomes f_goneOf f_heard) e)) (4 * w2 + i3)) → (PRM (lyP (pgs f_manys f_reals f_factsOf f_possible pa) ((rEv f_caseMany f_happen f_hasIf f_actMany f_actOf f_whom f_becomes f_goneOf f_heard) e)) (cN f_manys pa) (cN f_caseMany e) pa (4 * w2 + i3) g_pr3) → (PFx (lyP (pgs f_manys f_reals f_factsOf f_possible pa) ((rEv f_caseMany f_happen f_hasIf f_actMany f_actOf f_whom f_becomes f_goneOf f_heard) e)) (4 * w2 + i3) (lyF (pgs f_manys f_reals f_factsOf f_possible pa) ((rEv f_caseMany f_happen f_hasIf f_actMany f_actOf f_whom f_becomes f_goneOf f_heard) e)) (sh (24 * (pa + 1)) g_fa3)) → (OFF 24 (pa + 1) f_factsOf g_fa3) → (OFF 96 pa f_pairs g_pr3) → cN f_caseMany e - i3 < fu → WW X 9 E 108 [(6, .int (nI i3)), (5, .int (nI w2)), (4, .int (nI m3)), (3, .int (nI (pa + 1))), (0, .ref hm), (1, .int (nI e)), (2, .int (nI pa))] [] [(hm, .inr (12, [.ref m_manys, .ref m_reals, .ref m_factsOf, .ref m_possible, .int (nI q_undos), .int (nI q_models), .ref m_tape, .int (nI q_taped), .int q_fault, .int q_wrong, .int q_wrongAt, .int q_spot, .int q_place, .int q_token, .int q_value, .ref m_ends, .ref m_letters, .ref m_actOf, .ref m_whom, .ref m_actMany, .ref m_tokens, .ref m_afters, .ref m_afterOf, .int q_counted, .ref m_pile, .ref m_caseMany, .ref m_happen, .ref m_hasIf, .ref m_becomes, .ref m_goneOf, .ref m_heard, .ref m_pairs, .ref m_heaps, .int q_rounds, .int q_heapMany, .ref m_led, .ref m_newAt, .ref m_knowing, .ref m_firsts, .int (nI q_people), .ref m_secrets, .ref m_tried, .ref m_lanes, .ref m_lengths, .ref m_cells])), (m_manys, .inl (E.2.1 1, 18, .inl f_manys)), (m_reals, .inl (E.2.1 1, 18, .inl f_reals)), (m_factsOf, .inl (E.2.1 1, 432, .inl g_fa3)), (m_possible, .inl (E.2.1 1, 1728, .inl f_possible)), (m_pairs, .inl (E.2.1 1, 576, .inl g_pr3)), (m_pile, .inl (E.2.1 1, 34, .inl g_pi)), (m_caseMany, .inl (E.2.1 1, 4, .inl f_caseMany)), (m_happen, .inl (E.2.1 1, 4, .inl f_happen)), (m_hasIf, .inl (E.2.1 3, 16, .inl f_hasIf)), (m_becomes, .inl (E.2.1 1, 16, .inl f_becomes)), (m_goneOf, .inl (E.2.1 1, 16, .inl f_goneOf)), (m_heard, .inl (E.2.1 1, 64, .inl f_heard)), (m_actMany, .inl (E.2.1 1, 25, .inl f_actMany)), (m_actOf, .inl (E.2.1 1, 800, .inl f_actOf)), (m_whom, .inl (E.2.1 1, 800, .inl f_whom))] 0 0 := by
                intro fu
                induction fu with
                | zero => intro i3 m3 g_pr3 g_fa3 hi3 hm3 hmc3 hpm3 hpf3 hof3 hop3 hmeas; exact absurd hmeas (Nat.not_lt_zero _)
                | succ fu ih_108 =>
                  intro i3 m3 g_pr3 g_fa3 hi3 hm3 hmc3 hpm3 hpf3 hof3 hop3 hmeas
                  refine ww_iload C dX12_laid_108 0 rfl ?_
                  refine ww_aload_n C dX12_laid_110 4 rfl rfl ?_
                  refine ww_get C fg_X12_52 0 rfl rfl dX12_laid_111 ?_
                  refine ww_iload_n C dX12_laid_114 5 rfl rfl ?_
                  have hbx_28 := (hb_caseMany e (by omega)).2
                  refine ww_iald (v := (nI (cN f_caseMany e))) C 7 rfl (vp_in_nI (by omega) (by omega)) (ldn (by omega) (hb_caseMany e (by omega)).1) dX12_laid_115 ?_
                  refine ww_icmp_ge (tgt := 228) C dX12_laid_116 (by decide) (fun c_29 => ?_) (fun c_29 => ?_)
                  · have zc_29 : ((i3 : Nat) : Int) ≥ ((cN f_caseMany e : Nat) : Int) := i_le (nI_toInt (n := cN f_caseMany e) (by omega)) (nI_toInt (n := i3) (by omega)) c_29
                    refine ww_iinc (j := 1) (v := (nI (w2 + 1))) (lv' := [(5, .int (nI (w2 + 1))), (6, .int (nI i3)), (4, .int (nI m3)), (3, .int (nI (pa + 1))), (0, .ref hm), (1, .int (nI e)), (2, .int (nI pa))]) C dX12_laid_228 rfl (nI_add w2 1) rfl rfl ?_
                    refine ww_goto (tgt := 94) C dX12_laid_231 (by decide) ?_
                    exact ww_lv [0, 2, 3, 4, 5, 6] rfl (ww_sub [0, 1, 2, 3, 4, 5, 6, 7, 8, 9, 10, 11, 12, 13, 14, 15] (ndk (by decide +kernel)) (gqk (by eq_refl)) (ih_94 (w2 + 1) m3 g_pr3 g_fa3 (by omega) (by omega) (hmc3.trans (cb_flat (i := 4 * w2 + i3) (j := 4 * (w2 + 1)) (by omega) (fun p a b => lyP_nos (w := w2) (c := i3) (show cN f_caseMany e ≤ i3 by omega) p a (by omega))).symm) (PRM.fs (p := 4 * w2 + i3) hpm3 (by omega) (fun p a b => lyP_nos (w := w2) (c := i3) (show cN f_caseMany e ≤ i3 by omega) p a (by omega))) (PFx.fs (i := 4 * w2 + i3) hpf3 (by omega) (fun p a b => lyP_nos (w := w2) (c := i3) (show cN f_caseMany e ≤ i3 by omega) p a (by omega))) hof3 hop3 (by omega)))
                  · have zc_29 : ((i3 : Nat) : Int) < ((cN f_caseMany e : Nat) : Int) := i_nle (nI_toInt (n := cN f_caseMany e) (by omega)) (nI_toInt (n := i3) (by omega)) c_29
                    refine ww_aload_n C dX12_laid_119 4 rfl rfl ?_
                    refine ww_get C fg_X12_71 0 rfl rfl dX12_laid_120 ?_
                    refine ww_bipush (v := 96) C dX12_laid_123 rfl ?_
                    refine ww_iload_n C dX12_laid_125 6 rfl rfl ?_
                    refine ww_imul (v := (nI (96 * pa))) C dX12_laid_126 (pk_mul 96 pa) ?_
                    refine ww_iconst (v := 4) C dX12_laid_127 rfl ?_
                    refine ww_iload C dX12_laid_128 1 rfl ?_
                    refine ww_imul (v := (nI (4 * w2))) C dX12_laid_130 (pk_mul 4 w2) ?_
                    refine ww_iadd (v := (nI ((96 * pa) + (4 * w2)))) C dX12_laid_131 (nI_add (96 * pa) (4 * w2)) ?_
                    refine ww_iload C dX12_laid_132 0 rfl ?_
                    refine ww_iadd (v := (nI (((96 * pa) + (4 * w2)) + i3))) C dX12_laid_134 (nI_add ((96 * pa) + (4 * w2)) i3) ?_
                    obtain ⟨x_30, ex_30⟩ : ∃ z : Int32, g_pr3 (((96 * pa) + (4 * w2)) + i3) = z := ⟨_, rfl⟩
                    refine ww_iald (v := x_30) C 5 rfl (vp_in_nI (by omega) (by omega)) (ldn (by omega) ex_30) dX12_laid_135 ?_
                    refine ww_bipush (v := (-4)) C dX12_laid_136 rfl ?_
                    refine ww_icmp_eq (tgt := 222) C dX12_laid_138 (by decide) (fun c_31 => ?_) (fun c_31 => ?_)
                    · have zc_31 : x_30.toInt = (-4) := i_eq rfl rfl c_31
                      refine ww_iinc (j := 0) (v := (nI (i3 + 1))) (lv' := [(6, .int (nI (i3 + 1))), (5, .int (nI w2)), (4, .int (nI m3)), (3, .int (nI (pa + 1))), (0, .ref hm), (1, .int (nI e)), (2, .int (nI pa))]) C dX12_laid_222 rfl (nI_add i3 1) rfl rfl ?_
                      refine ww_goto (tgt := 108) C dX12_laid_225 (by decide) ?_
                      exact ww_lv [0, 1, 2, 3, 4, 5, 6] rfl (ww_sub [0, 1, 2, 3, 4, 5, 6, 7, 8, 9, 10, 11, 12, 13, 14, 15] (ndk (by decide +kernel)) (gqk (by eq_refl)) (ih_108 (i3 + 1) m3 g_pr3 g_fa3 (by omega) (by omega) (hmc3.trans (cb_f (PRM.at_n (w := w2) (i := i3) hpm3 (by omega) (by omega) (by omega) (by omega) ex_30 (by assumption))).symm) (PRM.f (w := w2) (i := i3) hpm3 rfl (PRM.at_n (w := w2) (i := i3) hpm3 (by omega) (by omega) (by omega) (by omega) ex_30 (by assumption))) (PFx.f hpf3 (PRM.at_n (w := w2) (i := i3) hpm3 (by omega) (by omega) (by omega) (by omega) ex_30 (by assumption))) hof3 hop3 (by omega)))
                    · have zc_31 : x_30.toInt ≠ (-4) := i_ne rfl rfl c_31
                      refine ww_iload C dX12_laid_141 2 rfl ?_
                      refine ww_bipush (v := 24) C dX12_laid_143 rfl ?_
                      refine ww_icmp_ne (tgt := 150) C dX12_laid_145 (by decide) (fun c_32 => ?_) (fun c_32 => ?_)
                      · have zc_32 : ((m3 : Nat) : Int) ≠ 24 := i_ne (nI_toInt (n := m3) (by omega)) rfl c_32
                        refine ww_aload_n C dX12_laid_150 4 rfl rfl ?_
                        refine ww_get C fg_X12_71 0 rfl rfl dX12_laid_151 ?_
                        refine ww_bipush (v := 96) C dX12_laid_154 rfl ?_
                        refine ww_iload_n C dX12_laid_156 6 rfl rfl ?_
                        refine ww_imul (v := (nI (96 * pa))) C dX12_laid_157 (pk_mul 96 pa) ?_
                        refine ww_iconst (v := 4) C dX12_laid_158 rfl ?_
                        refine ww_iload C dX12_laid_159 1 rfl ?_
                        refine ww_imul (v := (nI (4 * w2))) C dX12_laid_161 (pk_mul 4 w2) ?_
                        refine ww_iadd (v := (nI ((96 * pa) + (4 * w2)))) C dX12_laid_162 (nI_add (96 * pa) (4 * w2)) ?_
                        refine ww_iload C dX12_laid_163 0 rfl ?_
                        refine ww_iadd (v := (nI (((96 * pa) + (4 * w2)) + i3))) C dX12_laid_165 (nI_add ((96 * pa) + (4 * w2)) i3) ?_
                        refine ww_iload C dX12_laid_166 2 rfl ?_
                        obtain ⟨f_33, ef_33⟩ : ∃ z : Nat → Int32, upd g_pr3 (((96 * pa) + (4 * w2)) + i3) (nI m3) = z := ⟨_, rfl⟩
                        refine ww_iast (ws' := [(hm, .inr (12, [.ref m_manys, .ref m_reals, .ref m_factsOf, .ref m_possible, .int (nI q_undos), .int (nI q_models), .ref m_tape, .int (nI q_taped), .int q_fault, .int q_wrong, .int q_wrongAt, .int q_spot, .int q_place, .int q_token, .int q_value, .ref m_ends, .ref m_letters, .ref m_actOf, .ref m_whom, .ref m_actMany, .ref m_tokens, .ref m_afters, .ref m_afterOf, .int q_counted, .ref m_pile, .ref m_caseMany, .ref m_happen, .ref m_hasIf, .ref m_becomes, .ref m_goneOf, .ref m_heard, .ref m_pairs, .ref m_heaps, .int q_rounds, .int q_heapMany, .ref m_led, .ref m_newAt, .ref m_knowing, .ref m_firsts, .int (nI q_people), .ref m_secrets, .ref m_tried, .ref m_lanes, .ref m_lengths, .ref m_cells])), (m_manys, .inl (E.2.1 1, 18, .inl f_manys)), (m_reals, .inl (E.2.1 1, 18, .inl f_reals)), (m_factsOf, .inl (E.2.1 1, 432, .inl g_fa3)), (m_possible, .inl (E.2.1 1, 1728, .inl f_possible)), (m_pairs, .inl (E.2.1 1, 576, .inl f_33)), (m_pile, .inl (E.2.1 1, 34, .inl g_pi)), (m_caseMany, .inl (E.2.1 1, 4, .inl f_caseMany)), (m_happen, .inl (E.2.1 1, 4, .inl f_happen)), (m_hasIf, .inl (E.2.1 3, 16, .inl f_hasIf)), (m_becomes, .inl (E.2.1 1, 16, .inl f_becomes)), (m_goneOf, .inl (E.2.1 1, 16, .inl f_goneOf)), (m_heard, .inl (E.2.1 1, 64, .inl f_heard)), (m_actMany, .inl (E.2.1 1, 25, .inl f_actMany)), (m_actOf, .inl (E.2.1 1, 800, .inl f_actOf)), (m_whom, .inl (E.2.1 1, 800, .inl f_whom))]) C 5 rfl (vp_in_nI (by omega) (by omega)) (ldn2 (by omega) ef_33) rfl dX12_laid_168 ?_
                        refine ww_aload_n C dX12_laid_169 4 rfl rfl ?_
                        refine ww_get C fg_X12_16 0 rfl rfl dX12_laid_170 ?_
                        refine ww_bipush (v := 24) C dX12_laid_173 rfl ?_
                        refine ww_iload_n C dX12_laid_175 3 rfl rfl ?_
                        refine ww_imul (v := (nI (24 * (pa + 1)))) C dX12_laid_176 (pk_mul 24 (pa + 1)) ?_
                        refine ww_iload C dX12_laid_177 2 rfl ?_
                        refine ww_iadd (v := (nI ((24 * (pa + 1)) + m3))) C dX12_laid_179 (nI_add (24 * (pa + 1)) m3) ?_
                        refine ww_aload_n C dX12_laid_180 4 rfl rfl ?_
                        refine ww_get C fg_X12_16 0 rfl rfl dX12_laid_181 ?_
                        refine ww_bipush (v := 24) C dX12_laid_184 rfl ?_
                        refine ww_iload_n C dX12_laid_186 6 rfl rfl ?_
                        refine ww_imul (v := (nI (24 * pa))) C dX12_laid_187 (pk_mul 24 pa) ?_
                        refine ww_iload C dX12_laid_188 1 rfl ?_
                        refine ww_iadd (v := (nI ((24 * pa) + w2))) C dX12_laid_190 (nI_add (24 * pa) w2) ?_
                        obtain ⟨x_34, ex_34⟩ : ∃ z : Int32, g_fa3 ((24 * pa) + w2) = z := ⟨_, rfl⟩
                        refine ww_iald (v := x_34) C 3 rfl (vp_in_nI (by omega) (by omega)) (ldn (by omega) ex_34) dX12_laid_191 ?_
                        refine ww_aload_n C dX12_laid_192 4 rfl rfl ?_
                        refine ww_get C fg_X12_65 0 rfl rfl dX12_laid_193 ?_
                        refine ww_iconst (v := 4) C dX12_laid_196 rfl ?_
                        refine ww_iload_n C dX12_laid_197 5 rfl rfl ?_
                        refine ww_imul (v := (nI (4 * e))) C dX12_laid_198 (pk_mul 4 e) ?_
                        refine ww_iload C dX12_laid_199 0 rfl ?_
                        refine ww_iadd (v := (nI ((4 * e) + i3))) C dX12_laid_201 (nI_add (4 * e) i3) ?_
                        obtain ⟨x_35, ex_35⟩ : ∃ z : Int32, f_goneOf ((4 * e) + i3) = z := ⟨_, rfl⟩
                        refine ww_iald (v := x_35) C 11 rfl (vp_in_nI (by omega) (by omega)) (ldn (by omega) ex_35) dX12_laid_202 ?_
                        refine ww_iconst (v := (-1)) C dX12_laid_203 rfl ?_
                        obtain ⟨x_36, ex_36⟩ : ∃ z : Int32, x_35 ^^^ ((-1) : Int32) = z := ⟨_, rfl⟩
                        refine ww_ixor (v := x_36) C dX12_laid_204 ex_36 ?_
                        obtain ⟨x_37, ex_37⟩ : ∃ z : Int32, x_34 &&& x_36 = z := ⟨_, rfl⟩
                        refine ww_iand (v := x_37) C dX12_laid_205 ex_37 ?_
                        refine ww_aload_n C dX12_laid_206 4 rfl rfl ?_
                        refine ww_get C fg_X12_62 0 rfl rfl dX12_laid_207 ?_
                        refine ww_iconst (v := 4) C dX12_laid_210 rfl ?_
                        refine ww_iload_n C dX12_laid_211 5 rfl rfl ?_
                        refine ww_imul (v := (nI (4 * e))) C dX12_laid_212 (pk_mul 4 e) ?_
                        refine ww_iload C dX12_laid_213 0 rfl ?_
                        refine ww_iadd (v := (nI ((4 * e) + i3))) C dX12_laid_215 (nI_add (4 * e) i3) ?_
                        obtain ⟨x_38, ex_38⟩ : ∃ z : Int32, f_becomes ((4 * e) + i3) = z := ⟨_, rfl⟩
                        refine ww_iald (v := x_38) C 10 rfl (vp_in_nI (by omega) (by omega)) (ldn (by omega) ex_38) dX12_laid_216 ?_
                        obtain ⟨x_39, ex_39⟩ : ∃ z : Int32, x_37 ||| x_38 = z := ⟨_, rfl⟩
                        refine ww_ior (v := x_39) C dX12_laid_217 ex_39 ?_
                        obtain ⟨f_40, ef_40⟩ : ∃ z : Nat → Int32, upd g_fa3 ((24 * (pa + 1)) + m3) x_39 = z := ⟨_, rfl⟩
                        refine ww_iast (ws' := [(hm, .inr (12, [.ref m_manys, .ref m_reals, .ref m_factsOf, .ref m_possible, .int (nI q_undos), .int (nI q_models), .ref m_tape, .int (nI q_taped), .int q_fault, .int q_wrong, .int q_wrongAt, .int q_spot, .int q_place, .int q_token, .int q_value, .ref m_ends, .ref m_letters, .ref m_actOf, .ref m_whom, .ref m_actMany, .ref m_tokens, .ref m_afters, .ref m_afterOf, .int q_counted, .ref m_pile, .ref m_caseMany, .ref m_happen, .ref m_hasIf, .ref m_becomes, .ref m_goneOf, .ref m_heard, .ref m_pairs, .ref m_heaps, .int q_rounds, .int q_heapMany, .ref m_led, .ref m_newAt, .ref m_knowing, .ref m_firsts, .int (nI q_people), .ref m_secrets, .ref m_tried, .ref m_lanes, .ref m_lengths, .ref m_cells])), (m_manys, .inl (E.2.1 1, 18, .inl f_manys)), (m_reals, .inl (E.2.1 1, 18, .inl f_reals)), (m_factsOf, .inl (E.2.1 1, 432, .inl f_40)), (m_possible, .inl (E.2.1 1, 1728, .inl f_possible)), (m_pairs, .inl (E.2.1 1, 576, .inl f_33)), (m_pile, .inl (E.2.1 1, 34, .inl g_pi)), (m_caseMany, .inl (E.2.1 1, 4, .inl f_caseMany)), (m_happen, .inl (E.2.1 1, 4, .inl f_happen)), (m_hasIf, .inl (E.2.1 3, 16, .inl f_hasIf)), (m_becomes, .inl (E.2.1 1, 16, .inl f_becomes)), (m_goneOf, .inl (E.2.1 1, 16, .inl f_goneOf)), (m_heard, .inl (E.2.1 1, 64, .inl f_heard)), (m_actMany, .inl (E.2.1 1, 25, .inl f_actMany)), (m_actOf, .inl (E.2.1 1, 800, .inl f_actOf)), (m_whom, .inl (E.2.1 1, 800, .inl f_whom))]) C 3 rfl (vp_in_nI (by omega) (by omega)) (ldn2 (by omega) ef_40) rfl dX12_laid_218 ?_
                        refine ww_iinc (j := 2) (v := (nI (m3 + 1))) (lv' := [(4, .int (nI (m3 + 1))), (6, .int (nI i3)), (5, .int (nI w2)), (3, .int (nI (pa + 1))), (0, .ref hm), (1, .int (nI e)), (2, .int (nI pa))]) C dX12_laid_219 rfl (nI_add m3 1) rfl rfl ?_
                        refine ww_iinc (j := 1) (v := (nI (i3 + 1))) (lv' := [(6, .int (nI (i3 + 1))), (4, .int (nI (m3 + 1))), (5, .int (nI w2)), (3, .int (nI (pa + 1))), (0, .ref hm), (1, .int (nI e)), (2, .int (nI pa))]) C dX12_laid_222 rfl (nI_add i3 1) rfl rfl ?_
                        refine ww_goto (tgt := 108) C dX12_laid_225 (by decide) ?_
                        exact ww_lv [0, 2, 1, 3, 4, 5, 6] rfl (ww_sub [0, 1, 2, 3, 4, 5, 6, 7, 8, 9, 10, 11, 12, 13, 14, 15] (ndk (by decide +kernel)) (gqk (by eq_refl)) (ih_108 (i3 + 1) (m3 + 1) f_33 f_40 (by omega) (by omega) (by show m3 + 1 = cb (lyP (pgs f_manys f_reals f_factsOf f_possible pa) ((rEv f_caseMany f_happen f_hasIf f_actMany f_actOf f_whom f_becomes f_goneOf f_heard) e)) (4 * w2 + i3 + 1); rw [cb_t (PRM.at_t (w := w2) (i := i3) hpm3 (by omega) (by omega) ex_30 (by assumption)), ← hmc3]) (PRM.t (w := w2) (i := i3) hpm3 (by omega) rfl (by omega) (PRM.at_t (w := w2) (i := i3) hpm3 (by omega) (by omega) ex_30 (by assumption)) hmc3 ef_33) (PFx.t hpf3 (PRM.at_t (w := w2) (i := i3) hpm3 (by omega) (by omega) ex_30 (by assumption)) hmc3 (lyF_r (ev := ((rEv f_caseMany f_happen f_hasIf f_actMany f_actOf f_whom f_becomes f_goneOf f_heard) e)) (fb := fun c => f_becomes (4 * e + c)) (fg := fun c => f_goneOf (4 * e + c)) rfl rfl (show w2 < cN f_manys pa by omega) (by omega) ((hof3 (24 * pa + w2) (by omega)).symm.trans (by assumption)) (by assumption) (by assumption) (by assumption) (by assumption) (by assumption)) (sh_upd ef_40)) (OFF.put hof3 (by omega) (by omega) ef_40) (OFF.put hop3 (by omega) (by omega) ef_33) (by omega)))
                      · have zc_32 : ((m3 : Nat) : Int) = 24 := i_eq (nI_toInt (n := m3) (by omega)) rfl c_32
                        refine ww_iconst (v := (-1)) C dX12_laid_148 rfl ?_
                        exact ww_iret (u := [(hm, .inr (12, [.ref m_manys, .ref m_reals, .ref m_factsOf, .ref m_possible, .int (nI q_undos), .int (nI q_models), .ref m_tape, .int (nI q_taped), .int q_fault, .int q_wrong, .int q_wrongAt, .int q_spot, .int q_place, .int q_token, .int q_value, .ref m_ends, .ref m_letters, .ref m_actOf, .ref m_whom, .ref m_actMany, .ref m_tokens, .ref m_afters, .ref m_afterOf, .int q_counted, .ref m_pile, .ref m_caseMany, .ref m_happen, .ref m_hasIf, .ref m_becomes, .ref m_goneOf, .ref m_heard, .ref m_pairs, .ref m_heaps, .int q_rounds, .int q_heapMany, .ref m_led, .ref m_newAt, .ref m_knowing, .ref m_firsts, .int (nI q_people), .ref m_secrets, .ref m_tried, .ref m_lanes, .ref m_lengths, .ref m_cells])), (m_manys, .inl (E.2.1 1, 18, .inl f_manys)), (m_reals, .inl (E.2.1 1, 18, .inl f_reals)), (m_factsOf, .inl (E.2.1 1, 432, .inl g_fa3)), (m_possible, .inl (E.2.1 1, 1728, .inl f_possible)), (m_pairs, .inl (E.2.1 1, 576, .inl g_pr3)), (m_pile, .inl (E.2.1 1, 34, .inl g_pi)), (m_caseMany, .inl (E.2.1 1, 4, .inl f_caseMany)), (m_happen, .inl (E.2.1 1, 4, .inl f_happen)), (m_hasIf, .inl (E.2.1 3, 16, .inl f_hasIf)), (m_becomes, .inl (E.2.1 1, 16, .inl f_becomes)), (m_goneOf, .inl (E.2.1 1, 16, .inl f_goneOf)), (m_heard, .inl (E.2.1 1, 64, .inl f_heard)), (m_actMany, .inl (E.2.1 1, 25, .inl f_actMany)), (m_actOf, .inl (E.2.1 1, 800, .inl f_actOf)), (m_whom, .inl (E.2.1 1, 800, .inl f_whom))]) C hT [0, 1, 2, 3, 4, 5, 6, 7, 8, 9, 10, 11, 12, 13, 14, 15] (gqk (by eq_refl)) (ndk (by decide +kernel)) rfl rfl dX12_laid_149 (Or.inl ⟨f_manys, f_reals, g_fa3, f_possible, g_pr3, g_pi, rfl, rfl, hb_manys, hb_reals, hpg, (WFP.at hwf (pgs_oth hb_manys OFF.rf OFF.rf hof3 OFF.rf) (wf_ff (hwf (pa + 1) (by omega)))), KP.rf, KP.rf, (pgs_oth hb_manys OFF.rf OFF.rf hof3 OFF.rf), hop3, (lyC_big (p := 4 * w2 + i3) hmc3 (by omega) (show 4 * w2 + i3 < 4 * cN f_manys pa by omega) (PRM.at_t (w := w2) (i := i3) hpm3 (by omega) (by omega) ex_30 (by assumption)))⟩)
              exact ww_lv [0, 1, 2, 3, 4, 5, 6] rfl (ww_sub [0, 1, 2, 3, 4, 5, 6, 7, 8, 9, 10, 11, 12, 13, 14, 15] (ndk (by decide +kernel)) (gqk (by eq_refl)) (loop_108 _ 0 m2 g_pr2 g_fa2 (by omega) (by omega) hmc hpm hpf hof hop2 (Nat.lt_succ_self _)))
        exact ww_lv [0, 1, 2, 3, 4, 5] rfl (ww_sub [0, 1, 2, 3, 4, 5, 6, 7, 8, 9, 10, 11, 12, 13, 14, 15] (ndk (by decide +kernel)) (gqk (by eq_refl)) (loop_94 _ 0 0 g_pr f_factsOf (by omega) (by omega) rfl (PRZ.m hpz (show i1 = cN f_caseMany e by omega)) PFx.nil OFF.rf hop (Nat.lt_succ_self _)))
      · have zc_2 : ((i1 : Nat) : Int) < ((cN f_caseMany e : Nat) : Int) := i_nle (nI_toInt (n := cN f_caseMany e) (by omega)) (nI_toInt (n := i1) (by omega)) c_2
        refine ww_aload_n C dX12_laid_21 3 rfl rfl ?_
        refine ww_iload_n C dX12_laid_22 4 rfl rfl ?_
        refine ww_iload C dX12_laid_23 0 rfl ?_
        refine ww_iload_n C dX12_laid_25 5 rfl rfl ?_
        refine ww_ci (wr := [(m_pairs, .inl (E.2.1 1, 576, .inl g_pr)), (m_caseMany, .inl (E.2.1 1, 4, .inl f_caseMany)), (m_happen, .inl (E.2.1 1, 4, .inl f_happen)), (m_becomes, .inl (E.2.1 1, 16, .inl f_becomes)), (m_goneOf, .inl (E.2.1 1, 16, .inl f_goneOf)), (m_heard, .inl (E.2.1 1, 64, .inl f_heard))]) (k' := 0) (n' := 0) C (run_V (As := [.int (nI e), .int (nI i1), .int (nI pa)]) (rest := []) C (r_canBe X.2.1 E ro hm e i1 pa m_manys m_reals m_factsOf m_possible q_undos q_models m_tape q_taped q_fault q_wrong q_wrongAt q_spot q_place q_token q_value m_ends m_letters m_actOf m_whom m_actMany m_tokens m_afters m_afterOf q_counted m_pile m_caseMany m_happen m_hasIf m_becomes m_goneOf m_heard m_pairs m_heaps q_rounds q_heapMany m_led m_newAt m_knowing m_firsts q_people m_secrets m_tried m_lanes m_lengths m_cells f_manys f_reals f_factsOf f_possible f_actMany f_actOf f_whom f_hasIf g_pi hb_manys hb_reals hb_actMany hpg hsv hwf (by omega) (by omega) (by omega) hWI) mi_X12_canBe wl_X12_260 rfl 0 12 rfl rfl rfl rfl rfl dX12_laid_26) (roK hro) [0, 1, 2, 3, 4, 13, 14, 15, 9, 6] [5, 7, 8, 10, 11, 12] (gqk (by eq_refl)) rfl (plk (by decide +kernel)) rfl (fun r_41 uz hw => ?_)
        refine ex1 hw ?_
        clear hw
        intro f_pilez_42 hw
        refine an1 hw ?_
        clear hw
        intro he_44 hw
        have h_43 := hw
        clear hw
        subst he_44
        refine ww_eq (ws' := [(m_pairs, .inl (E.2.1 1, 576, .inl g_pr)), (m_caseMany, .inl (E.2.1 1, 4, .inl f_caseMany)), (m_happen, .inl (E.2.1 1, 4, .inl f_happen)), (m_becomes, .inl (E.2.1 1, 16, .inl f_becomes)), (m_goneOf, .inl (E.2.1 1, 16, .inl f_goneOf)), (m_heard, .inl (E.2.1 1, 64, .inl f_heard)), (hm, .inr (12, [.ref m_manys, .ref m_reals, .ref m_factsOf, .ref m_possible, .int (nI q_undos), .int (nI q_models), .ref m_tape, .int (nI q_taped), .int q_fault, .int q_wrong, .int q_wrongAt, .int q_spot, .int q_place, .int q_token, .int q_value, .ref m_ends, .ref m_letters, .ref m_actOf, .ref m_whom, .ref m_actMany, .ref m_tokens, .ref m_afters, .ref m_afterOf, .int q_counted, .ref m_pile, .ref m_caseMany, .ref m_happen, .ref m_hasIf, .ref m_becomes, .ref m_goneOf, .ref m_heard, .ref m_pairs, .ref m_heaps, .int q_rounds, .int q_heapMany, .ref m_led, .ref m_newAt, .ref m_knowing, .ref m_firsts, .int (nI q_people), .ref m_secrets, .ref m_tried, .ref m_lanes, .ref m_lengths, .ref m_cells])), (m_manys, .inl (E.2.1 1, 18, .inl f_manys)), (m_reals, .inl (E.2.1 1, 18, .inl f_reals)), (m_factsOf, .inl (E.2.1 1, 432, .inl f_factsOf)), (m_possible, .inl (E.2.1 1, 1728, .inl f_possible)), (m_actMany, .inl (E.2.1 1, 25, .inl f_actMany)), (m_actOf, .inl (E.2.1 1, 800, .inl f_actOf)), (m_whom, .inl (E.2.1 1, 800, .inl f_whom)), (m_hasIf, .inl (E.2.1 3, 16, .inl f_hasIf)), (m_pile, .inl (E.2.1 1, 34, .inl f_pilez_42))]) ?_ rfl rfl rfl
        refine ww_istore (lv' := [(6, .int r_41), (5, .int (nI i1)), (4, .int 0), (3, .int (nI (pa + 1))), (0, .ref hm), (1, .int (nI e)), (2, .int (nI pa))]) C dX12_laid_29 rfl rfl ?_
        refine ww_iconst (v := 0) C dX12_laid_31 rfl ?_
        refine ww_istore (lv' := [(7, .int 0), (6, .int r_41), (5, .int (nI i1)), (4, .int 0), (3, .int (nI (pa + 1))), (0, .ref hm), (1, .int (nI e)), (2, .int (nI pa))]) C dX12_laid_32 rfl rfl ?_
        have loop_34 : ∀ (fu : Nat) (w1 : Nat) (g_pr1 : Nat → Int32), (w1 ≤ cN f_manys pa) → (PRZ (lyP (pgs f_manys f_reals f_factsOf f_possible pa) ((rEv f_caseMany f_happen f_hasIf f_actMany f_actOf f_whom f_becomes f_goneOf f_heard) e)) (cN f_manys pa) (cN f_caseMany e) pa i1 w1 g_pr1) → (OFF 96 pa f_pairs g_pr1) → cN f_manys pa - w1 < fu → WW X 9 E 34 [(7, .int (nI w1)), (6, .int r_41), (5, .int (nI i1)), (4, .int 0), (3, .int (nI (pa + 1))), (0, .ref hm), (1, .int (nI e)), (2, .int (nI pa))] [] [(m_pairs, .inl (E.2.1 1, 576, .inl g_pr1)), (m_caseMany, .inl (E.2.1 1, 4, .inl f_caseMany)), (m_happen, .inl (E.2.1 1, 4, .inl f_happen)), (m_becomes, .inl (E.2.1 1, 16, .inl f_becomes)), (m_goneOf, .inl (E.2.1 1, 16, .inl f_goneOf)), (m_heard, .inl (E.2.1 1, 64, .inl f_heard)), (hm, .inr (12, [.ref m_manys, .ref m_reals, .ref m_factsOf, .ref m_possible, .int (nI q_undos), .int (nI q_models), .ref m_tape, .int (nI q_taped), .int q_fault, .int q_wrong, .int q_wrongAt, .int q_spot, .int q_place, .int q_token, .int q_value, .ref m_ends, .ref m_letters, .ref m_actOf, .ref m_whom, .ref m_actMany, .ref m_tokens, .ref m_afters, .ref m_afterOf, .int q_counted, .ref m_pile, .ref m_caseMany, .ref m_happen, .ref m_hasIf, .ref m_becomes, .ref m_goneOf, .ref m_heard, .ref m_pairs, .ref m_heaps, .int q_rounds, .int q_heapMany, .ref m_led, .ref m_newAt, .ref m_knowing, .ref m_firsts, .int (nI q_people), .ref m_secrets, .ref m_tried, .ref m_lanes, .ref m_lengths, .ref m_cells])), (m_manys, .inl (E.2.1 1, 18, .inl f_manys)), (m_reals, .inl (E.2.1 1, 18, .inl f_reals)), (m_factsOf, .inl (E.2.1 1, 432, .inl f_factsOf)), (m_possible, .inl (E.2.1 1, 1728, .inl f_possible)), (m_actMany, .inl (E.2.1 1, 25, .inl f_actMany)), (m_actOf, .inl (E.2.1 1, 800, .inl f_actOf)), (m_whom, .inl (E.2.1 1, 800, .inl f_whom)), (m_hasIf, .inl (E.2.1 3, 16, .inl f_hasIf)), (m_pile, .inl (E.2.1 1, 34, .inl f_pilez_42))] 0 0 := by
          intro fu
          induction fu with
          | zero => intro w1 g_pr1 hw1 hpz1 hop1 hmeas; exact absurd hmeas (Nat.not_lt_zero _)
          | succ fu ih_34 =>
            intro w1 g_pr1 hw1 hpz1 hop1 hmeas
            refine ww_iload C dX12_laid_34 0 rfl ?_
            refine ww_aload_n C dX12_laid_36 5 rfl rfl ?_
            refine ww_get C fg_X12_7 6 rfl rfl dX12_laid_37 ?_
            refine ww_iload_n C dX12_laid_40 7 rfl rfl ?_
            have hbx_45 := (hb_manys pa (by omega)).2
            refine ww_iald (v := (nI (cN f_manys pa))) C 7 rfl (vp_in_nI (by omega) (by omega)) (ldn (by omega) (hb_manys pa (by omega)).1) dX12_laid_41 ?_
            refine ww_icmp_ge (tgt := 85) C dX12_laid_42 (by decide) (fun c_46 => ?_) (fun c_46 => ?_)
            · have zc_46 : ((w1 : Nat) : Int) ≥ ((cN f_manys pa : Nat) : Int) := i_le (nI_toInt (n := cN f_manys pa) (by omega)) (nI_toInt (n := w1) (by omega)) c_46
              refine ww_iinc (j := 2) (v := (nI (i1 + 1))) (lv' := [(5, .int (nI (i1 + 1))), (7, .int (nI w1)), (6, .int r_41), (4, .int 0), (3, .int (nI (pa + 1))), (0, .ref hm), (1, .int (nI e)), (2, .int (nI pa))]) C dX12_laid_85 rfl (nI_add i1 1) rfl rfl ?_
              refine ww_goto (tgt := 10) C dX12_laid_88 (by decide) ?_
              exact ww_lv [0, 3, 4, 5, 6, 7] rfl (ww_sub [6, 7, 8, 9, 10, 0, 15, 1, 2, 14, 3, 4, 5, 11, 12, 13] (ndk (by decide +kernel)) (gqk (by eq_refl)) (ih_10 (i1 + 1) g_pr1 f_pilez_42 (by omega) (PRZ.up hpz1 (by omega)) hop1 (by omega)))
            · have zc_46 : ((w1 : Nat) : Int) < ((cN f_manys pa : Nat) : Int) := i_nle (nI_toInt (n := cN f_manys pa) (by omega)) (nI_toInt (n := w1) (by omega)) c_46
              refine ww_aload_n C dX12_laid_45 5 rfl rfl ?_
              refine ww_get C fg_X12_71 6 rfl rfl dX12_laid_46 ?_
              refine ww_bipush (v := 96) C dX12_laid_49 rfl ?_
              refine ww_iload_n C dX12_laid_51 7 rfl rfl ?_
              refine ww_imul (v := (nI (96 * pa))) C dX12_laid_52 (pk_mul 96 pa) ?_
              refine ww_iconst (v := 4) C dX12_laid_53 rfl ?_
              refine ww_iload C dX12_laid_54 0 rfl ?_
              refine ww_imul (v := (nI (4 * w1))) C dX12_laid_56 (pk_mul 4 w1) ?_
              refine ww_iadd (v := (nI ((96 * pa) + (4 * w1)))) C dX12_laid_57 (nI_add (96 * pa) (4 * w1)) ?_
              refine ww_iload C dX12_laid_58 2 rfl ?_
              refine ww_iadd (v := (nI (((96 * pa) + (4 * w1)) + i1))) C dX12_laid_60 (nI_add ((96 * pa) + (4 * w1)) i1) ?_
              refine ww_iload C dX12_laid_61 1 rfl ?_
              refine ww_iload C dX12_laid_63 0 rfl ?_
              obtain ⟨x_47, ex_47⟩ : ∃ z : Int32, r_41 >>> ((nI w1) &&& 31) = z := ⟨_, rfl⟩
              refine ww_ishr (v := x_47) C dX12_laid_65 ex_47 ?_
              refine ww_iconst (v := 1) C dX12_laid_66 rfl ?_
              obtain ⟨j_48, hj_48, ej_48⟩ := pk_andE x_47 (m := 1) 1 rfl
              refine ww_iand (v := (nI j_48)) C dX12_laid_67 ej_48 ?_
              refine ww_iconst (v := 1) C dX12_laid_68 rfl ?_
              refine ww_icmp_ne (tgt := 76) C dX12_laid_69 (by decide) (fun c_49 => ?_) (fun c_49 => ?_)
              · have zc_49 : ((j_48 : Nat) : Int) ≠ 1 := i_ne (nI_toInt (n := j_48) (by omega)) rfl c_49
                refine ww_bipush (v := (-4)) C dX12_laid_76 rfl ?_
                obtain ⟨f_50, ef_50⟩ : ∃ z : Nat → Int32, upd g_pr1 (((96 * pa) + (4 * w1)) + i1) (-4) = z := ⟨_, rfl⟩
                refine ww_iast (ws' := [(m_pairs, .inl (E.2.1 1, 576, .inl f_50)), (m_caseMany, .inl (E.2.1 1, 4, .inl f_caseMany)), (m_happen, .inl (E.2.1 1, 4, .inl f_happen)), (m_becomes, .inl (E.2.1 1, 16, .inl f_becomes)), (m_goneOf, .inl (E.2.1 1, 16, .inl f_goneOf)), (m_heard, .inl (E.2.1 1, 64, .inl f_heard)), (hm, .inr (12, [.ref m_manys, .ref m_reals, .ref m_factsOf, .ref m_possible, .int (nI q_undos), .int (nI q_models), .ref m_tape, .int (nI q_taped), .int q_fault, .int q_wrong, .int q_wrongAt, .int q_spot, .int q_place, .int q_token, .int q_value, .ref m_ends, .ref m_letters, .ref m_actOf, .ref m_whom, .ref m_actMany, .ref m_tokens, .ref m_afters, .ref m_afterOf, .int q_counted, .ref m_pile, .ref m_caseMany, .ref m_happen, .ref m_hasIf, .ref m_becomes, .ref m_goneOf, .ref m_heard, .ref m_pairs, .ref m_heaps, .int q_rounds, .int q_heapMany, .ref m_led, .ref m_newAt, .ref m_knowing, .ref m_firsts, .int (nI q_people), .ref m_secrets, .ref m_tried, .ref m_lanes, .ref m_lengths, .ref m_cells])), (m_manys, .inl (E.2.1 1, 18, .inl f_manys)), (m_reals, .inl (E.2.1 1, 18, .inl f_reals)), (m_factsOf, .inl (E.2.1 1, 432, .inl f_factsOf)), (m_possible, .inl (E.2.1 1, 1728, .inl f_possible)), (m_actMany, .inl (E.2.1 1, 25, .inl f_actMany)), (m_actOf, .inl (E.2.1 1, 800, .inl f_actOf)), (m_whom, .inl (E.2.1 1, 800, .inl f_whom)), (m_hasIf, .inl (E.2.1 3, 16, .inl f_hasIf)), (m_pile, .inl (E.2.1 1, 34, .inl f_pilez_42))]) C 0 rfl (vp_in_nI (by omega) (by omega)) (ldn2 (by omega) ef_50) rfl dX12_laid_78 ?_
                refine ww_iinc (j := 0) (v := (nI (w1 + 1))) (lv' := [(7, .int (nI (w1 + 1))), (6, .int r_41), (5, .int (nI i1)), (4, .int 0), (3, .int (nI (pa + 1))), (0, .ref hm), (1, .int (nI e)), (2, .int (nI pa))]) C dX12_laid_79 rfl (nI_add w1 1) rfl rfl ?_
                refine ww_goto (tgt := 34) C dX12_laid_82 (by decide) ?_
                exact ww_lv [0, 1, 2, 3, 4, 5, 6, 7] rfl (ww_sub [0, 1, 2, 3, 4, 5, 6, 7, 8, 9, 10, 11, 12, 13, 14, 15] (ndk (by decide +kernel)) (gqk (by eq_refl)) (ih_34 (w1 + 1) f_50 (by omega) (PRZ.ext hpz1 (by omega) (by omega) (ly_x0 (ly_bit (ev := ((rEv f_caseMany f_happen f_hasIf f_actMany f_actOf f_whom f_becomes f_goneOf f_heard) e)) (i := i1) (w := w1) h_43 (show w1 < cN f_manys pa by omega) (show i1 < cN f_caseMany e by omega) (by omega) (by omega) (hasb_0 (p := w1) (by omega) (by assumption) (by assumption) (by omega)))) ef_50) (OFF.put hop1 (by omega) (by omega) ef_50) (by omega)))
              · have zc_49 : ((j_48 : Nat) : Int) = 1 := i_eq (nI_toInt (n := j_48) (by omega)) rfl c_49
                refine ww_iconst (v := 0) C dX12_laid_72 rfl ?_
                refine ww_goto (tgt := 78) C dX12_laid_73 (by decide) ?_
                obtain ⟨f_51, ef_51⟩ : ∃ z : Nat → Int32, upd g_pr1 (((96 * pa) + (4 * w1)) + i1) 0 = z := ⟨_, rfl⟩
                refine ww_iast (ws' := [(m_pairs, .inl (E.2.1 1, 576, .inl f_51)), (m_caseMany, .inl (E.2.1 1, 4, .inl f_caseMany)), (m_happen, .inl (E.2.1 1, 4, .inl f_happen)), (m_becomes, .inl (E.2.1 1, 16, .inl f_becomes)), (m_goneOf, .inl (E.2.1 1, 16, .inl f_goneOf)), (m_heard, .inl (E.2.1 1, 64, .inl f_heard)), (hm, .inr (12, [.ref m_manys, .ref m_reals, .ref m_factsOf, .ref m_possible, .int (nI q_undos), .int (nI q_models), .ref m_tape, .int (nI q_taped), .int q_fault, .int q_wrong, .int q_wrongAt, .int q_spot, .int q_place, .int q_token, .int q_value, .ref m_ends, .ref m_letters, .ref m_actOf, .ref m_whom, .ref m_actMany, .ref m_tokens, .ref m_afters, .ref m_afterOf, .int q_counted, .ref m_pile, .ref m_caseMany, .ref m_happen, .ref m_hasIf, .ref m_becomes, .ref m_goneOf, .ref m_heard, .ref m_pairs, .ref m_heaps, .int q_rounds, .int q_heapMany, .ref m_led, .ref m_newAt, .ref m_knowing, .ref m_firsts, .int (nI q_people), .ref m_secrets, .ref m_tried, .ref m_lanes, .ref m_lengths, .ref m_cells])), (m_manys, .inl (E.2.1 1, 18, .inl f_manys)), (m_reals, .inl (E.2.1 1, 18, .inl f_reals)), (m_factsOf, .inl (E.2.1 1, 432, .inl f_factsOf)), (m_possible, .inl (E.2.1 1, 1728, .inl f_possible)), (m_actMany, .inl (E.2.1 1, 25, .inl f_actMany)), (m_actOf, .inl (E.2.1 1, 800, .inl f_actOf)), (m_whom, .inl (E.2.1 1, 800, .inl f_whom)), (m_hasIf, .inl (E.2.1 3, 16, .inl f_hasIf)), (m_pile, .inl (E.2.1 1, 34, .inl f_pilez_42))]) C 0 rfl (vp_in_nI (by omega) (by omega)) (ldn2 (by omega) ef_51) rfl dX12_laid_78 ?_
                refine ww_iinc (j := 0) (v := (nI (w1 + 1))) (lv' := [(7, .int (nI (w1 + 1))), (6, .int r_41), (5, .int (nI i1)), (4, .int 0), (3, .int (nI (pa + 1))), (0, .ref hm), (1, .int (nI e)), (2, .int (nI pa))]) C dX12_laid_79 rfl (nI_add w1 1) rfl rfl ?_
                refine ww_goto (tgt := 34) C dX12_laid_82 (by decide) ?_
                exact ww_lv [0, 1, 2, 3, 4, 5, 6, 7] rfl (ww_sub [0, 1, 2, 3, 4, 5, 6, 7, 8, 9, 10, 11, 12, 13, 14, 15] (ndk (by decide +kernel)) (gqk (by eq_refl)) (ih_34 (w1 + 1) f_51 (by omega) (PRZ.ext hpz1 (by omega) (by omega) (ly_x1 (ly_bit (ev := ((rEv f_caseMany f_happen f_hasIf f_actMany f_actOf f_whom f_becomes f_goneOf f_heard) e)) (i := i1) (w := w1) h_43 (show w1 < cN f_manys pa by omega) (show i1 < cN f_caseMany e by omega) (by omega) (by omega) (hasb_1 (p := w1) (by omega) (by assumption) (by assumption) (by omega)))) ef_51) (OFF.put hop1 (by omega) (by omega) ef_51) (by omega)))
        exact ww_lv [0, 1, 2, 3, 4, 5, 6, 7] rfl (ww_sub [0, 1, 2, 3, 4, 5, 6, 7, 8, 9, 10, 11, 12, 13, 14, 15] (ndk (by decide +kernel)) (gqk (by eq_refl)) (loop_34 _ 0 g_pr (by omega) hpz hop (Nat.lt_succ_self _)))
  exact ww_lv [0, 1, 2, 3, 4, 5] rfl (ww_sub [0, 1, 2, 3, 4, 5, 6, 7, 8, 9, 10, 11, 12, 13, 14, 15] (ndk (by decide +kernel)) (gqk (by eq_refl)) (loop_10 _ 0 f_pairs f_pile (by omega) PRZ.nil OFF.rf (Nat.lt_succ_self _)))
end
section
/-! afters laid, in a row -/
def esl (es : Nat → Nat) : Nat → Nat → List Nat
  | _, 0 => []
  | i, c + 1 => es i :: esl es (i + 1) c
theorem aft_esl {S : SVal} (h : S.2.2.2.2.2.2.2 ≤ 2) : aftL S = esl (fun a => cN S.2.2.2.1 a) 0 S.2.2.2.2.2.2.2 := by
  rcases (show S.2.2.2.2.2.2.2 = 0 ∨ S.2.2.2.2.2.2.2 = 1 ∨ S.2.2.2.2.2.2.2 = 2 by omega) with q | q | q
  · exact (if_pos q : aftL S = []).trans (congrArg (esl (fun a => cN S.2.2.2.1 a) 0) q).symm
  · exact (aft_1 q rfl).trans (congrArg (esl (fun a => cN S.2.2.2.1 a) 0) q).symm
  · exact (aft_2 q rfl rfl).trans (congrArg (esl (fun a => cN S.2.2.2.1 a) 0) q).symm
theorem vW_0 {m : AM} {ev : Nat → EVl} {S : SVal} {x : Int32} {j : Nat} {es : List Nat} (h0 : (ev j).1 = 0) (h : BS x (vAll m)) : BS x (vW m ev S (j :: es)) := by
  have hP : ∀ p, lyP m (ev j) p = false := fun p => by
    unfold lyP; rw [h0, decide_eq_false (Nat.not_lt_zero _), Bool.false_and, Bool.and_false]
  show BS x (if lyC m (ev j) ≤ 24 then vBack m (ev j) (vW (aLay m (ev j)) ev S es) else vAll m)
  split
  · refine h.cg (fun w _ => ?_)
    show decide (w < m.1) = (decide (w < m.1) && (decide (cb (lyP m (ev j)) (4 * w + 4) = cb (lyP m (ev j)) (4 * w)) || _))
    rw [decide_eq_true (cb_flat (by omega) (fun p _ _ => hP p)), Bool.true_or, Bool.and_true]
  · exact h
theorem vW_stop {m : AM} {ev : Nat → EVl} {S : SVal} {x : Int32} {j : Nat} {es : List Nat} (h0 : (ev j).1 = 0 ∨ ¬ lyC m (ev j) ≤ 24) (h : BS x (vAll m)) : BS x (vW m ev S (j :: es)) := by
  rcases h0 with h0 | h0
  · exact vW_0 h0 h
  · exact vW_n h0 h
theorem PRF.off {P : Nat → Bool} {n cs pg q : Nat} {pr pr' : Nat → Int32} (h : PRF P n cs pg pr) (ho : OFF 96 q pr pr') (hq : pg ≠ q) (hn : n ≤ 24) (hcs : cs ≤ 4) : PRF P n cs pg pr' := fun w i a b => (ho _ (by omega)).trans (h w i a b)
def CHN (PG : Nat → AM) (pr : Nat → Int32) (ev : Nat → EVl) (es : Nat → Nat) (pa i : Nat) : Prop := ∀ j, j < i → 0 < (ev (es j)).1 ∧ lyC (PG (pa + j)) (ev (es j)) ≤ 24 ∧ PG (pa + j + 1) = aLay (PG (pa + j)) (ev (es j)) ∧ PRF (lyP (PG (pa + j)) (ev (es j))) (PG (pa + j)).1 (ev (es j)).1 (pa + j) pr
section CHNS
variable {PG PG' : Nat → AM} {pr pr' : Nat → Int32} {ev : Nat → EVl} {es : Nat → Nat} {pa i : Nat}
theorem CHN.nil : CHN PG pr ev es pa 0 := fun j h => absurd h (Nat.not_lt_zero _)
theorem CHN.keep (h : CHN PG pr ev es pa i) (ho : OTH (pa + i + 1) PG PG') (hp : OFF 96 (pa + i) pr pr') (hb : ∀ p, p < 18 → (PG p).1 ≤ 24) (hc : ∀ j, j < 2 → (ev (es j)).1 ≤ 4) (hi : i ≤ 2) (hpa : pa ≤ 3) : CHN PG' pr' ev es pa i := fun j hj => by
  have e1 : PG' (pa + j) = PG (pa + j) := ho _ (by omega) (by omega)
  have e2 : PG' (pa + j + 1) = PG (pa + j + 1) := ho _ (by omega) (by omega)
  obtain ⟨a, b, c, d⟩ := h j hj
  rw [e1, e2]
  exact ⟨a, b, c, d.off hp (by omega) (hb _ (by omega)) (hc _ (by omega))⟩
theorem CHN.ext (h : CHN PG pr ev es pa i) (ho : OTH (pa + i + 1) PG PG') (hp : OFF 96 (pa + i) pr pr') (hb : ∀ p, p < 18 → (PG p).1 ≤ 24) (hc : ∀ j, j < 2 → (ev (es j)).1 ≤ 4) (hi : i < 2) (hpa : pa ≤ 3) (h0 : 0 < (ev (es i)).1) (hC : lyC (PG (pa + i)) (ev (es i)) ≤ 24) (e : PG' (pa + i + 1) = aLay (PG (pa + i)) (ev (es i))) (hf : PRF (lyP (PG (pa + i)) (ev (es i))) (PG (pa + i)).1 (ev (es i)).1 (pa + i) pr') : CHN PG' pr' ev es pa (i + 1) := fun j hj => by
  by_cases q : j = i
  · rw [q, ho (pa + i) (by omega) (by omega)]; exact ⟨h0, hC, e, hf⟩
  · exact h.keep ho hp hb hc (by omega) hpa j (by omega)
end CHNS
/-- the pages up to pa, and the kept ones, stay -/
def KPA (pa : Nat) (PG PG' : Nat → AM) : Prop := ∀ p, p < 18 → (p ≤ pa ∨ 6 ≤ p) → PG' p = PG p
theorem KPA.rf {pa : Nat} {PG : Nat → AM} : KPA pa PG PG := fun _ _ _ => rfl
theorem KPA.oth {pa q : Nat} {PG PG1 PG2 : Nat → AM} (h : KPA pa PG PG1) (ho : OTH q PG1 PG2) (hq : pa < q) (h6 : q < 6) : KPA pa PG PG2 := fun p a b => (ho p a (by omega)).trans (h p a b)
theorem KPA.tr {pa pb : Nat} {PG PG1 PG2 : Nat → AM} (h : KPA pa PG PG1) (h2 : KPA pb PG1 PG2) (hp : pa ≤ pb) : KPA pa PG PG2 := fun p a b => (h2 p a (by omega)).trans (h p a b)
theorem dX12_truthOf_0 : decode cX12_truthOf 0 = .ok (.iload_n 2, 1) := dl_28 (by decide +kernel)
theorem dX12_truthOf_1 : decode cX12_truthOf 1 = .ok (.istore_n 3, 1) := dl_62 (by decide +kernel)
theorem dX12_truthOf_2 : decode cX12_truthOf 2 = .ok (.iconst 1, 1) := dl_4 (by decide +kernel)
theorem dX12_truthOf_3 : decode cX12_truthOf 3 = .ok (.istore 4, 2) := dl_54 (by decide +kernel)
theorem dX12_truthOf_5 : decode cX12_truthOf 5 = .ok (.iconst 0, 1) := dl_3 (by decide +kernel)
theorem dX12_truthOf_6 : decode cX12_truthOf 6 = .ok (.istore 5, 2) := dl_54 (by decide +kernel)
theorem dX12_truthOf_8 : decode cX12_truthOf 8 = .ok (.iload 5, 2) := dl_21 (by decide +kernel)
theorem dX12_truthOf_10 : decode cX12_truthOf 10 = .ok (.aload_n 0, 1) := dl_42 (by decide +kernel)
theorem dX12_truthOf_11 : decode cX12_truthOf 11 = .ok (.getfield 43, 3) := dl_180 (by decide +kernel)
theorem dX12_truthOf_14 : decode cX12_truthOf 14 = .ok (.iload_n 1, 1) := dl_27 (by decide +kernel)
theorem dX12_truthOf_15 : decode cX12_truthOf 15 = .ok (.iaload, 1) := dl_46 (by decide +kernel)
theorem dX12_truthOf_16 : decode cX12_truthOf 16 = .ok (.if_icmp .ge 67, 3) := dl_162 (by decide +kernel)
theorem dX12_truthOf_83 : decode cX12_truthOf 83 = .ok (.iload 4, 2) := dl_21 (by decide +kernel)
theorem dX12_truthOf_85 : decode cX12_truthOf 85 = .ok (.ifCond .eq 12, 3) := dl_153 (by decide +kernel)
theorem dX12_truthOf_97 : decode cX12_truthOf 97 = .ok (.aload_n 0, 1) := dl_42 (by decide +kernel)
theorem dX12_truthOf_98 : decode cX12_truthOf 98 = .ok (.getfield 7, 3) := dl_180 (by decide +kernel)
theorem dX12_truthOf_101 : decode cX12_truthOf 101 = .ok (.iload_n 3, 1) := dl_29 (by decide +kernel)
theorem dX12_truthOf_102 : decode cX12_truthOf 102 = .ok (.iaload, 1) := dl_46 (by decide +kernel)
theorem dX12_truthOf_103 : decode cX12_truthOf 103 = .ok (.invokestatic 230, 3) := dl_184 (by decide +kernel)
theorem dX12_truthOf_106 : decode cX12_truthOf 106 = .ok (.istore 5, 2) := dl_54 (by decide +kernel)
theorem dX12_truthOf_108 : decode cX12_truthOf 108 = .ok (.iload_n 3, 1) := dl_29 (by decide +kernel)
theorem dX12_truthOf_109 : decode cX12_truthOf 109 = .ok (.iload_n 2, 1) := dl_28 (by decide +kernel)
theorem dX12_truthOf_110 : decode cX12_truthOf 110 = .ok (.if_icmp .le 30, 3) := dl_164 (by decide +kernel)
theorem dX12_truthOf_140 : decode cX12_truthOf 140 = .ok (.iload 5, 2) := dl_21 (by decide +kernel)
theorem dX12_truthOf_142 : decode cX12_truthOf 142 = .ok (.ireturn, 1) := dl_172 (by decide +kernel)
theorem dX12_truthOf_113 : decode cX12_truthOf 113 = .ok (.iinc 3 (-1), 3) := dl_132 (by decide +kernel)
theorem dX12_truthOf_116 : decode cX12_truthOf 116 = .ok (.aload_n 0, 1) := dl_42 (by decide +kernel)
theorem dX12_truthOf_117 : decode cX12_truthOf 117 = .ok (.aload_n 0, 1) := dl_42 (by decide +kernel)
theorem dX12_truthOf_118 : decode cX12_truthOf 118 = .ok (.getfield 46, 3) := dl_180 (by decide +kernel)
theorem dX12_truthOf_121 : decode cX12_truthOf 121 = .ok (.iconst 2, 1) := dl_5 (by decide +kernel)
theorem dX12_truthOf_122 : decode cX12_truthOf 122 = .ok (.iload_n 1, 1) := dl_27 (by decide +kernel)
theorem dX12_truthOf_123 : decode cX12_truthOf 123 = .ok (.imul, 1) := dl_104 (by decide +kernel)
theorem dX12_truthOf_124 : decode cX12_truthOf 124 = .ok (.iload_n 3, 1) := dl_29 (by decide +kernel)
theorem dX12_truthOf_125 : decode cX12_truthOf 125 = .ok (.iadd, 1) := dl_96 (by decide +kernel)
theorem dX12_truthOf_126 : decode cX12_truthOf 126 = .ok (.iload_n 2, 1) := dl_28 (by decide +kernel)
theorem dX12_truthOf_127 : decode cX12_truthOf 127 = .ok (.isub, 1) := dl_100 (by decide +kernel)
theorem dX12_truthOf_128 : decode cX12_truthOf 128 = .ok (.iaload, 1) := dl_46 (by decide +kernel)
theorem dX12_truthOf_129 : decode cX12_truthOf 129 = .ok (.iload_n 3, 1) := dl_29 (by decide +kernel)
theorem dX12_truthOf_130 : decode cX12_truthOf 130 = .ok (.iload 5, 2) := dl_21 (by decide +kernel)
theorem dX12_truthOf_132 : decode cX12_truthOf 132 = .ok (.invokevirtual 270, 3) := dl_182 (by decide +kernel)
theorem wl_X12_270 : Cond.methodLink RX12 270 yX12_broughtBack ∈ TB := tbm (tq6 (List.mem_of_getElem? (i := 185) (by decide +kernel))) (by decide +kernel)
theorem wc_X12_broughtBack : Cond.code yX12_broughtBack cX12_broughtBack 8 (some .int) ∈ TB := tbm (tq6 (List.mem_of_getElem? (i := 188) (rfl))) (by decide +kernel)
theorem wi_X12_broughtBack : Cond.instanceMethod yX12_broughtBack ∈ TB := tbm (tq6 (List.mem_of_getElem? (i := 187) (by decide +kernel))) (by decide +kernel)
theorem ws_X12_broughtBack : Cond.selects RX12 yX12_broughtBack yX12_broughtBack ∈ TB := tbm (tq0 (List.mem_of_getElem? (i := 65) (by decide +kernel))) (by decide +kernel)
theorem mi_X12_broughtBack : MI yX12_broughtBack cX12_broughtBack 8 (some .int) 3 := ⟨wc_X12_broughtBack, wn_X12, ⟨by decide +kernel, by decide +kernel, by decide +kernel⟩, wi_X12_broughtBack, ws_X12_broughtBack⟩
theorem dX12_truthOf_135 : decode cX12_truthOf 135 = .ok (.istore 5, 2) := dl_54 (by decide +kernel)
theorem dX12_truthOf_137 : decode cX12_truthOf 137 = .ok (.goto (-29), 3) := dl_167 (by decide +kernel)
theorem dX12_truthOf_88 : decode cX12_truthOf 88 = .ok (.aload_n 0, 1) := dl_42 (by decide +kernel)
theorem dX12_truthOf_89 : decode cX12_truthOf 89 = .ok (.iload_n 1, 1) := dl_27 (by decide +kernel)
theorem dX12_truthOf_90 : decode cX12_truthOf 90 = .ok (.iload_n 3, 1) := dl_29 (by decide +kernel)
theorem dX12_truthOf_91 : decode cX12_truthOf 91 = .ok (.invokevirtual 256, 3) := dl_182 (by decide +kernel)
theorem dX12_truthOf_94 : decode cX12_truthOf 94 = .ok (.goto 12, 3) := dl_167 (by decide +kernel)
theorem dX12_truthOf_19 : decode cX12_truthOf 19 = .ok (.iload 4, 2) := dl_21 (by decide +kernel)
theorem dX12_truthOf_21 : decode cX12_truthOf 21 = .ok (.ifCond .eq 62, 3) := dl_153 (by decide +kernel)
theorem dX12_truthOf_24 : decode cX12_truthOf 24 = .ok (.aload_n 0, 1) := dl_42 (by decide +kernel)
theorem dX12_truthOf_25 : decode cX12_truthOf 25 = .ok (.getfield 46, 3) := dl_180 (by decide +kernel)
theorem dX12_truthOf_28 : decode cX12_truthOf 28 = .ok (.iconst 2, 1) := dl_5 (by decide +kernel)
theorem dX12_truthOf_29 : decode cX12_truthOf 29 = .ok (.iload_n 1, 1) := dl_27 (by decide +kernel)
theorem dX12_truthOf_30 : decode cX12_truthOf 30 = .ok (.imul, 1) := dl_104 (by decide +kernel)
theorem dX12_truthOf_31 : decode cX12_truthOf 31 = .ok (.iload 5, 2) := dl_21 (by decide +kernel)
theorem dX12_truthOf_33 : decode cX12_truthOf 33 = .ok (.iadd, 1) := dl_96 (by decide +kernel)
theorem dX12_truthOf_34 : decode cX12_truthOf 34 = .ok (.iaload, 1) := dl_46 (by decide +kernel)
theorem dX12_truthOf_35 : decode cX12_truthOf 35 = .ok (.istore 6, 2) := dl_54 (by decide +kernel)
theorem dX12_truthOf_37 : decode cX12_truthOf 37 = .ok (.aload_n 0, 1) := dl_42 (by decide +kernel)
theorem dX12_truthOf_38 : decode cX12_truthOf 38 = .ok (.getfield 52, 3) := dl_180 (by decide +kernel)
theorem dX12_truthOf_41 : decode cX12_truthOf 41 = .ok (.iload 6, 2) := dl_21 (by decide +kernel)
theorem dX12_truthOf_43 : decode cX12_truthOf 43 = .ok (.iaload, 1) := dl_46 (by decide +kernel)
theorem dX12_truthOf_44 : decode cX12_truthOf 44 = .ok (.ifCond .le 17, 3) := dl_158 (by decide +kernel)
theorem dX12_truthOf_61 : decode cX12_truthOf 61 = .ok (.iconst 0, 1) := dl_3 (by decide +kernel)
theorem dX12_truthOf_62 : decode cX12_truthOf 62 = .ok (.istore 4, 2) := dl_54 (by decide +kernel)
theorem dX12_truthOf_64 : decode cX12_truthOf 64 = .ok (.iload_n 3, 1) := dl_29 (by decide +kernel)
theorem dX12_truthOf_65 : decode cX12_truthOf 65 = .ok (.iload 4, 2) := dl_21 (by decide +kernel)
theorem dX12_truthOf_67 : decode cX12_truthOf 67 = .ok (.ifCond .eq 7, 3) := dl_153 (by decide +kernel)
theorem dX12_truthOf_74 : decode cX12_truthOf 74 = .ok (.iconst 0, 1) := dl_3 (by decide +kernel)
theorem dX12_truthOf_75 : decode cX12_truthOf 75 = .ok (.iadd, 1) := dl_96 (by decide +kernel)
theorem dX12_truthOf_76 : decode cX12_truthOf 76 = .ok (.istore_n 3, 1) := dl_62 (by decide +kernel)
theorem dX12_truthOf_77 : decode cX12_truthOf 77 = .ok (.iinc 5 1, 3) := dl_132 (by decide +kernel)
theorem dX12_truthOf_80 : decode cX12_truthOf 80 = .ok (.goto (-72), 3) := dl_167 (by decide +kernel)
theorem dX12_truthOf_47 : decode cX12_truthOf 47 = .ok (.aload_n 0, 1) := dl_42 (by decide +kernel)
theorem dX12_truthOf_48 : decode cX12_truthOf 48 = .ok (.iload 6, 2) := dl_21 (by decide +kernel)
theorem dX12_truthOf_50 : decode cX12_truthOf 50 = .ok (.iload_n 3, 1) := dl_29 (by decide +kernel)
theorem dX12_truthOf_51 : decode cX12_truthOf 51 = .ok (.invokevirtual 267, 3) := dl_182 (by decide +kernel)
theorem wl_X12_267 : Cond.methodLink RX12 267 yX12_laid ∈ TB := tbm (tq6 (List.mem_of_getElem? (i := 162) (by decide +kernel))) (by decide +kernel)
theorem wc_X12_laid : Cond.code yX12_laid cX12_laid 9 (some .int) ∈ TB := tbm (tq6 (List.mem_of_getElem? (i := 165) (rfl))) (by decide +kernel)
theorem wi_X12_laid : Cond.instanceMethod yX12_laid ∈ TB := tbm (tq6 (List.mem_of_getElem? (i := 164) (by decide +kernel))) (by decide +kernel)
theorem ws_X12_laid : Cond.selects RX12 yX12_laid yX12_laid ∈ TB := tbm (tq0 (List.mem_of_getElem? (i := 60) (by decide +kernel))) (by decide +kernel)
theorem mi_X12_laid : MI yX12_laid cX12_laid 9 (some .int) 2 := ⟨wc_X12_laid, wn_X12, ⟨by decide +kernel, by decide +kernel, by decide +kernel⟩, wi_X12_laid, ws_X12_laid⟩
theorem dX12_truthOf_54 : decode cX12_truthOf 54 = .ok (.ifCond .lt 7, 3) := dl_155 (by decide +kernel)
theorem dX12_truthOf_57 : decode cX12_truthOf 57 = .ok (.iconst 1, 1) := dl_4 (by decide +kernel)
theorem dX12_truthOf_58 : decode cX12_truthOf 58 = .ok (.goto 4, 3) := dl_167 (by decide +kernel)
theorem dX12_truthOf_70 : decode cX12_truthOf 70 = .ok (.iconst 1, 1) := dl_4 (by decide +kernel)
theorem dX12_truthOf_71 : decode cX12_truthOf 71 = .ok (.goto 4, 3) := dl_167 (by decide +kernel)
set_option maxRecDepth 100000 in
set_option maxHeartbeats 4000000 in
theorem r_truthOf (l : Launch) (E : EV) (ro : va_W) (hm : Nat) (k : Nat) (pa : Nat) (m_manys : Nat) (m_reals : Nat) (m_factsOf : Nat) (m_possible : Nat) (q_undos : Nat) (q_models : Nat) (m_tape : Nat) (q_taped : Nat) (q_fault : Int32) (q_wrong : Int32) (q_wrongAt : Int32) (q_spot : Int32) (q_place : Int32) (q_token : Int32) (q_value : Int32) (m_ends : Nat) (m_letters : Nat) (m_actOf : Nat) (m_whom : Nat) (m_actMany : Nat) (m_tokens : Nat) (m_afters : Nat) (m_afterOf : Nat) (q_counted : Int32) (m_pile : Nat) (m_caseMany : Nat) (m_happen : Nat) (m_hasIf : Nat) (m_becomes : Nat) (m_goneOf : Nat) (m_heard : Nat) (m_pairs : Nat) (m_heaps : Nat) (q_rounds : Int32) (q_heapMany : Int32) (m_led : Nat) (m_newAt : Nat) (m_knowing : Nat) (m_firsts : Nat) (q_people : Nat) (m_secrets : Nat) (m_tried : Nat) (m_lanes : Nat) (m_lengths : Nat) (m_cells : Nat) (f_manys : Nat → Int32) (f_reals : Nat → Int32) (f_factsOf : Nat → Int32) (f_possible : Nat → Int32) (f_pairs : Nat → Int32) (f_pile : Nat → Int32) (f_caseMany : Nat → Int32) (f_happen : Nat → Int32) (f_hasIf : Nat → Int32) (f_becomes : Nat → Int32) (f_goneOf : Nat → Int32) (f_heard : Nat → Int32) (f_actMany : Nat → Int32) (f_actOf : Nat → Int32) (f_whom : Nat → Int32) (f_afters : Nat → Int32) (f_afterOf : Nat → Int32) (hb_manys : NB 18 24 f_manys) (hb_reals : NB 18 23 f_reals) (hpg : PG f_manys f_reals) (hwf : WFP (pgs f_manys f_reals f_factsOf f_possible)) (hb_caseMany : NB 4 4 f_caseMany) (hb_happen : NB 4 3 f_happen) (hb_actMany : NB 25 32 f_actMany) (hhp : HP f_caseMany f_happen) (hsv : SV f_actOf f_actMany) (hb_afters : NB 9 2 f_afters) (hb_afterOf : NB 18 3 f_afterOf) (hk : k < 8) (hpa : pa ≤ 3) (hWs : WHs (cN f_actMany k) f_actOf f_whom k) (hWI : WHI f_hasIf f_actMany f_actOf f_whom) : CT l yX12_truthOf (Cond.code yX12_truthOf cX12_truthOf 7 (some .int) :: TB) ({ frames := 6, cells := 0, slots := 0, locals := 158 }) E ro [.ref hm, .int (nI k), .int (nI pa)] [(hm, .inr (12, [.ref m_manys, .ref m_reals, .ref m_factsOf, .ref m_possible, .int (nI q_undos), .int (nI q_models), .ref m_tape, .int (nI q_taped), .int q_fault, .int q_wrong, .int q_wrongAt, .int q_spot, .int q_place, .int q_token, .int q_value, .ref m_ends, .ref m_letters, .ref m_actOf, .ref m_whom, .ref m_actMany, .ref m_tokens, .ref m_afters, .ref m_afterOf, .int q_counted, .ref m_pile, .ref m_caseMany, .ref m_happen, .ref m_hasIf, .ref m_becomes, .ref m_goneOf, .ref m_heard, .ref m_pairs, .ref m_heaps, .int q_rounds, .int q_heapMany, .ref m_led, .ref m_newAt, .ref m_knowing, .ref m_firsts, .int (nI q_people), .ref m_secrets, .ref m_tried, .ref m_lanes, .ref m_lengths, .ref m_cells])), (m_manys, .inl (E.2.1 1, 18, .inl f_manys)), (m_reals, .inl (E.2.1 1, 18, .inl f_reals)), (m_factsOf, .inl (E.2.1 1, 432, .inl f_factsOf)), (m_possible, .inl (E.2.1 1, 1728, .inl f_possible)), (m_pairs, .inl (E.2.1 1, 576, .inl f_pairs)), (m_pile, .inl (E.2.1 1, 34, .inl f_pile)), (m_caseMany, .inl (E.2.1 1, 4, .inl f_caseMany)), (m_happen, .inl (E.2.1 1, 4, .inl f_happen)), (m_hasIf, .inl (E.2.1 3, 16, .inl f_hasIf)), (m_becomes, .inl (E.2.1 1, 16, .inl f_becomes)), (m_goneOf, .inl (E.2.1 1, 16, .inl f_goneOf)), (m_heard, .inl (E.2.1 1, 64, .inl f_heard)), (m_actMany, .inl (E.2.1 1, 25, .inl f_actMany)), (m_actOf, .inl (E.2.1 1, 800, .inl f_actOf)), (m_whom, .inl (E.2.1 1, 800, .inl f_whom)), (m_afters, .inl (E.2.1 1, 9, .inl f_afters)), (m_afterOf, .inl (E.2.1 1, 18, .inl f_afterOf))] (Qi E (fun (rz : Int32) uz => (∃ (f_manysz : Nat → Int32) (f_realsz : Nat → Int32) (f_factsOfz : Nat → Int32) (f_possiblez : Nat → Int32) (f_pairsz : Nat → Int32) (f_pilez : Nat → Int32), uz = [(hm, .inr (12, [.ref m_manys, .ref m_reals, .ref m_factsOf, .ref m_possible, .int (nI q_undos), .int (nI q_models), .ref m_tape, .int (nI q_taped), .int q_fault, .int q_wrong, .int q_wrongAt, .int q_spot, .int q_place, .int q_token, .int q_value, .ref m_ends, .ref m_letters, .ref m_actOf, .ref m_whom, .ref m_actMany, .ref m_tokens, .ref m_afters, .ref m_afterOf, .int q_counted, .ref m_pile, .ref m_caseMany, .ref m_happen, .ref m_hasIf, .ref m_becomes, .ref m_goneOf, .ref m_heard, .ref m_pairs, .ref m_heaps, .int q_rounds, .int q_heapMany, .ref m_led, .ref m_newAt, .ref m_knowing, .ref m_firsts, .int (nI q_people), .ref m_secrets, .ref m_tried, .ref m_lanes, .ref m_lengths, .ref m_cells])), (m_manys, .inl (E.2.1 1, 18, .inl f_manysz)), (m_reals, .inl (E.2.1 1, 18, .inl f_realsz)), (m_factsOf, .inl (E.2.1 1, 432, .inl f_factsOfz)), (m_possible, .inl (E.2.1 1, 1728, .inl f_possiblez)), (m_pairs, .inl (E.2.1 1, 576, .inl f_pairsz)), (m_pile, .inl (E.2.1 1, 34, .inl f_pilez)), (m_caseMany, .inl (E.2.1 1, 4, .inl f_caseMany)), (m_happen, .inl (E.2.1 1, 4, .inl f_happen)), (m_hasIf, .inl (E.2.1 3, 16, .inl f_hasIf)), (m_becomes, .inl (E.2.1 1, 16, .inl f_becomes)), (m_goneOf, .inl (E.2.1 1, 16, .inl f_goneOf)), (m_heard, .inl (E.2.1 1, 64, .inl f_heard)), (m_actMany, .inl (E.2.1 1, 25, .inl f_actMany)), (m_actOf, .inl (E.2.1 1, 800, .inl f_actOf)), (m_whom, .inl (E.2.1 1, 800, .inl f_whom)), (m_afters, .inl (E.2.1 1, 9, .inl f_afters)), (m_afterOf, .inl (E.2.1 1, 18, .inl f_afterOf))] ∧ (NB 18 24 f_manysz) ∧ (NB 18 23 f_realsz) ∧ (PG f_manysz f_realsz) ∧ (WFP (pgs f_manysz f_realsz f_factsOfz f_possiblez)) ∧ (KP (pa + 1) f_manys f_manysz) ∧ (KP (pa + 1) f_reals f_realsz) ∧ (BS rz (vWho (pgs f_manys f_reals f_factsOf f_possible pa) (rEv f_caseMany f_happen f_hasIf f_actMany f_actOf f_whom f_becomes f_goneOf f_heard) (rT f_actMany f_actOf f_whom f_afterOf f_afters k))) ∧ (KPA pa (pgs f_manys f_reals f_factsOf f_possible) (pgs f_manysz f_realsz f_factsOfz f_possiblez))))) 0 0 := by
  refine ct_of rfl rfl ?_
  intro X C hT hin hro
  show WW X 7 E 0 [(0, .ref hm), (1, .int (nI k)), (2, .int (nI pa))] [] [(hm, .inr (12, [.ref m_manys, .ref m_reals, .ref m_factsOf, .ref m_possible, .int (nI q_undos), .int (nI q_models), .ref m_tape, .int (nI q_taped), .int q_fault, .int q_wrong, .int q_wrongAt, .int q_spot, .int q_place, .int q_token, .int q_value, .ref m_ends, .ref m_letters, .ref m_actOf, .ref m_whom, .ref m_actMany, .ref m_tokens, .ref m_afters, .ref m_afterOf, .int q_counted, .ref m_pile, .ref m_caseMany, .ref m_happen, .ref m_hasIf, .ref m_becomes, .ref m_goneOf, .ref m_heard, .ref m_pairs, .ref m_heaps, .int q_rounds, .int q_heapMany, .ref m_led, .ref m_newAt, .ref m_knowing, .ref m_firsts, .int (nI q_people), .ref m_secrets, .ref m_tried, .ref m_lanes, .ref m_lengths, .ref m_cells])), (m_manys, .inl (E.2.1 1, 18, .inl f_manys)), (m_reals, .inl (E.2.1 1, 18, .inl f_reals)), (m_factsOf, .inl (E.2.1 1, 432, .inl f_factsOf)), (m_possible, .inl (E.2.1 1, 1728, .inl f_possible)), (m_pairs, .inl (E.2.1 1, 576, .inl f_pairs)), (m_pile, .inl (E.2.1 1, 34, .inl f_pile)), (m_caseMany, .inl (E.2.1 1, 4, .inl f_caseMany)), (m_happen, .inl (E.2.1 1, 4, .inl f_happen)), (m_hasIf, .inl (E.2.1 3, 16, .inl f_hasIf)), (m_becomes, .inl (E.2.1 1, 16, .inl f_becomes)), (m_goneOf, .inl (E.2.1 1, 16, .inl f_goneOf)), (m_heard, .inl (E.2.1 1, 64, .inl f_heard)), (m_actMany, .inl (E.2.1 1, 25, .inl f_actMany)), (m_actOf, .inl (E.2.1 1, 800, .inl f_actOf)), (m_whom, .inl (E.2.1 1, 800, .inl f_whom)), (m_afters, .inl (E.2.1 1, 9, .inl f_afters)), (m_afterOf, .inl (E.2.1 1, 18, .inl f_afterOf))] 0 0
  have hmn0 := (hb_manys 0 (by omega)).2
  have hafk := (hb_afters k (by omega)).2
  refine ww_iload_n C dX12_truthOf_0 2 rfl rfl ?_
  refine ww_istore_n (lv' := [(3, .int (nI pa)), (0, .ref hm), (1, .int (nI k)), (2, .int (nI pa))]) C dX12_truthOf_1 rfl rfl rfl ?_
  refine ww_iconst (v := 1) C dX12_truthOf_2 rfl ?_
  refine ww_istore (lv' := [(4, .int 1), (3, .int (nI pa)), (0, .ref hm), (1, .int (nI k)), (2, .int (nI pa))]) C dX12_truthOf_3 rfl rfl ?_
  refine ww_iconst (v := 0) C dX12_truthOf_5 rfl ?_
  refine ww_istore (lv' := [(5, .int 0), (4, .int 1), (3, .int (nI pa)), (0, .ref hm), (1, .int (nI k)), (2, .int (nI pa))]) C dX12_truthOf_6 rfl rfl ?_
  have loop_8 : ∀ (fu : Nat) (ln : Nat) (la : Nat) (a1 : Nat) (gt_manys : Nat → Int32) (gt_reals : Nat → Int32) (gt_factsOf : Nat → Int32) (gt_possible : Nat → Int32) (gt_pairs : Nat → Int32) (gt_pile : Nat → Int32), (a1 ≤ cN f_afters k) → (la ≤ 1) → (la = 1 → ln = a1) → (ln ≤ a1) → (la = 0 → ln < a1 ∧ (((rEv f_caseMany f_happen f_hasIf f_actMany f_actOf f_whom f_becomes f_goneOf f_heard) ((fun a => cN f_afterOf (2 * k + a)) ln)).1 = 0 ∨ ¬ lyC ((pgs gt_manys gt_reals gt_factsOf gt_possible) (pa + ln)) ((rEv f_caseMany f_happen f_hasIf f_actMany f_actOf f_whom f_becomes f_goneOf f_heard) ((fun a => cN f_afterOf (2 * k + a)) ln)) ≤ 24)) → (CHN (pgs gt_manys gt_reals gt_factsOf gt_possible) gt_pairs (rEv f_caseMany f_happen f_hasIf f_actMany f_actOf f_whom f_becomes f_goneOf f_heard) (fun a => cN f_afterOf (2 * k + a)) pa ln) → (KPA pa (pgs f_manys f_reals f_factsOf f_possible) (pgs gt_manys gt_reals gt_factsOf gt_possible)) → (KP (pa + 1) f_manys gt_manys) → (KP (pa + 1) f_reals gt_reals) → (NB 18 24 gt_manys) → (NB 18 23 gt_reals) → (PG gt_manys gt_reals) → (WFP (pgs gt_manys gt_reals gt_factsOf gt_possible)) → cN f_afters k - a1 < fu → WW X 7 E 8 [(5, .int (nI a1)), (4, .int (nI la)), (3, .int (nI (pa + ln))), (0, .ref hm), (1, .int (nI k)), (2, .int (nI pa))] [] [(hm, .inr (12, [.ref m_manys, .ref m_reals, .ref m_factsOf, .ref m_possible, .int (nI q_undos), .int (nI q_models), .ref m_tape, .int (nI q_taped), .int q_fault, .int q_wrong, .int q_wrongAt, .int q_spot, .int q_place, .int q_token, .int q_value, .ref m_ends, .ref m_letters, .ref m_actOf, .ref m_whom, .ref m_actMany, .ref m_tokens, .ref m_afters, .ref m_afterOf, .int q_counted, .ref m_pile, .ref m_caseMany, .ref m_happen, .ref m_hasIf, .ref m_becomes, .ref m_goneOf, .ref m_heard, .ref m_pairs, .ref m_heaps, .int q_rounds, .int q_heapMany, .ref m_led, .ref m_newAt, .ref m_knowing, .ref m_firsts, .int (nI q_people), .ref m_secrets, .ref m_tried, .ref m_lanes, .ref m_lengths, .ref m_cells])), (m_manys, .inl (E.2.1 1, 18, .inl gt_manys)), (m_reals, .inl (E.2.1 1, 18, .inl gt_reals)), (m_factsOf, .inl (E.2.1 1, 432, .inl gt_factsOf)), (m_possible, .inl (E.2.1 1, 1728, .inl gt_possible)), (m_pairs, .inl (E.2.1 1, 576, .inl gt_pairs)), (m_pile, .inl (E.2.1 1, 34, .inl gt_pile)), (m_caseMany, .inl (E.2.1 1, 4, .inl f_caseMany)), (m_happen, .inl (E.2.1 1, 4, .inl f_happen)), (m_hasIf, .inl (E.2.1 3, 16, .inl f_hasIf)), (m_becomes, .inl (E.2.1 1, 16, .inl f_becomes)), (m_goneOf, .inl (E.2.1 1, 16, .inl f_goneOf)), (m_heard, .inl (E.2.1 1, 64, .inl f_heard)), (m_actMany, .inl (E.2.1 1, 25, .inl f_actMany)), (m_actOf, .inl (E.2.1 1, 800, .inl f_actOf)), (m_whom, .inl (E.2.1 1, 800, .inl f_whom)), (m_afters, .inl (E.2.1 1, 9, .inl f_afters)), (m_afterOf, .inl (E.2.1 1, 18, .inl f_afterOf))] 0 0 := by
    intro fu
    induction fu with
    | zero => intro ln la a1 gt_manys gt_reals gt_factsOf gt_possible gt_pairs gt_pile ha1 hla hl1 hl2 hl0 hchn hoth hk_manys hk_reals hnb_m_manys_8 hnb_m_reals_8 hpg_8 hwf_8 hmeas; exact absurd hmeas (Nat.not_lt_zero _)
    | succ fu ih_8 =>
      intro ln la a1 gt_manys gt_reals gt_factsOf gt_possible gt_pairs gt_pile ha1 hla hl1 hl2 hl0 hchn hoth hk_manys hk_reals hnb_m_manys_8 hnb_m_reals_8 hpg_8 hwf_8 hmeas
      refine ww_iload C dX12_truthOf_8 0 rfl ?_
      refine ww_aload_n C dX12_truthOf_10 3 rfl rfl ?_
      refine ww_get C fg_X12_43 0 rfl rfl dX12_truthOf_11 ?_
      refine ww_iload_n C dX12_truthOf_14 4 rfl rfl ?_
      have hbx_1 := (hb_afters k (by omega)).2
      refine ww_iald (v := (nI (cN f_afters k))) C 16 rfl (vp_in_nI (by omega) (by omega)) (ldn (by omega) (hb_afters k (by omega)).1) dX12_truthOf_15 ?_
      refine ww_icmp_ge (tgt := 83) C dX12_truthOf_16 (by decide) (fun c_2 => ?_) (fun c_2 => ?_)
      · have zc_2 : ((a1 : Nat) : Int) ≥ ((cN f_afters k : Nat) : Int) := i_le (nI_toInt (n := cN f_afters k) (by omega)) (nI_toInt (n := a1) (by omega)) c_2
        refine ww_iload C dX12_truthOf_83 1 rfl ?_
        refine ww_if_eq (tgt := 97) C dX12_truthOf_85 (by decide) (fun c_3 => ?_) (fun c_3 => ?_)
        · have zc_3 : ((la : Nat) : Int) = 0 := i_eq (nI_toInt (n := la) (by omega)) rfl c_3
          refine ww_aload_n C dX12_truthOf_97 3 rfl rfl ?_
          refine ww_get C fg_X12_7 0 rfl rfl dX12_truthOf_98 ?_
          refine ww_iload_n C dX12_truthOf_101 2 rfl rfl ?_
          have hbx_4 := (hnb_m_manys_8 (pa + ln) (by omega)).2
          refine ww_iald (v := (nI (cN gt_manys (pa + ln)))) C 1 rfl (vp_in_nI (by omega) (by omega)) (ldn (by omega) (hnb_m_manys_8 (pa + ln) (by omega)).1) dX12_truthOf_102 ?_
          refine ww_ci (wr := [(hm, .inr (12, [.ref m_manys, .ref m_reals, .ref m_factsOf, .ref m_possible, .int (nI q_undos), .int (nI q_models), .ref m_tape, .int (nI q_taped), .int q_fault, .int q_wrong, .int q_wrongAt, .int q_spot, .int q_place, .int q_token, .int q_value, .ref m_ends, .ref m_letters, .ref m_actOf, .ref m_whom, .ref m_actMany, .ref m_tokens, .ref m_afters, .ref m_afterOf, .int q_counted, .ref m_pile, .ref m_caseMany, .ref m_happen, .ref m_hasIf, .ref m_becomes, .ref m_goneOf, .ref m_heard, .ref m_pairs, .ref m_heaps, .int q_rounds, .int q_heapMany, .ref m_led, .ref m_newAt, .ref m_knowing, .ref m_firsts, .int (nI q_people), .ref m_secrets, .ref m_tried, .ref m_lanes, .ref m_lengths, .ref m_cells])), (m_manys, .inl (E.2.1 1, 18, .inl gt_manys)), (m_reals, .inl (E.2.1 1, 18, .inl gt_reals)), (m_factsOf, .inl (E.2.1 1, 432, .inl gt_factsOf)), (m_possible, .inl (E.2.1 1, 1728, .inl gt_possible)), (m_pairs, .inl (E.2.1 1, 576, .inl gt_pairs)), (m_pile, .inl (E.2.1 1, 34, .inl gt_pile)), (m_caseMany, .inl (E.2.1 1, 4, .inl f_caseMany)), (m_happen, .inl (E.2.1 1, 4, .inl f_happen)), (m_hasIf, .inl (E.2.1 3, 16, .inl f_hasIf)), (m_becomes, .inl (E.2.1 1, 16, .inl f_becomes)), (m_goneOf, .inl (E.2.1 1, 16, .inl f_goneOf)), (m_heard, .inl (E.2.1 1, 64, .inl f_heard)), (m_actMany, .inl (E.2.1 1, 25, .inl f_actMany)), (m_actOf, .inl (E.2.1 1, 800, .inl f_actOf)), (m_whom, .inl (E.2.1 1, 800, .inl f_whom)), (m_afters, .inl (E.2.1 1, 9, .inl f_afters)), (m_afterOf, .inl (E.2.1 1, 18, .inl f_afterOf))]) (k' := 0) (n' := 0) C (run_S (As := [.int (nI (cN gt_manys (pa + ln)))]) (rest := []) C (r_all X.2.1 E ro (cN gt_manys (pa + ln)) (by omega)) ms_X12_all wl_X12_230 rfl rfl rfl rfl dX12_truthOf_103) (roK hro) [] [0, 1, 2, 3, 4, 5, 6, 7, 8, 9, 10, 11, 12, 13, 14, 15, 16, 17] rfl (gqk (by eq_refl)) (plk (by decide +kernel)) rfl (fun r_5 uz hw => ?_)
          refine an1 hw ?_
          clear hw
          intro he_7 hw
          have h_6 := hw
          clear hw
          subst he_7
          refine ww_eq (ws' := [(hm, .inr (12, [.ref m_manys, .ref m_reals, .ref m_factsOf, .ref m_possible, .int (nI q_undos), .int (nI q_models), .ref m_tape, .int (nI q_taped), .int q_fault, .int q_wrong, .int q_wrongAt, .int q_spot, .int q_place, .int q_token, .int q_value, .ref m_ends, .ref m_letters, .ref m_actOf, .ref m_whom, .ref m_actMany, .ref m_tokens, .ref m_afters, .ref m_afterOf, .int q_counted, .ref m_pile, .ref m_caseMany, .ref m_happen, .ref m_hasIf, .ref m_becomes, .ref m_goneOf, .ref m_heard, .ref m_pairs, .ref m_heaps, .int q_rounds, .int q_heapMany, .ref m_led, .ref m_newAt, .ref m_knowing, .ref m_firsts, .int (nI q_people), .ref m_secrets, .ref m_tried, .ref m_lanes, .ref m_lengths, .ref m_cells])), (m_manys, .inl (E.2.1 1, 18, .inl gt_manys)), (m_reals, .inl (E.2.1 1, 18, .inl gt_reals)), (m_factsOf, .inl (E.2.1 1, 432, .inl gt_factsOf)), (m_possible, .inl (E.2.1 1, 1728, .inl gt_possible)), (m_pairs, .inl (E.2.1 1, 576, .inl gt_pairs)), (m_pile, .inl (E.2.1 1, 34, .inl gt_pile)), (m_caseMany, .inl (E.2.1 1, 4, .inl f_caseMany)), (m_happen, .inl (E.2.1 1, 4, .inl f_happen)), (m_hasIf, .inl (E.2.1 3, 16, .inl f_hasIf)), (m_becomes, .inl (E.2.1 1, 16, .inl f_becomes)), (m_goneOf, .inl (E.2.1 1, 16, .inl f_goneOf)), (m_heard, .inl (E.2.1 1, 64, .inl f_heard)), (m_actMany, .inl (E.2.1 1, 25, .inl f_actMany)), (m_actOf, .inl (E.2.1 1, 800, .inl f_actOf)), (m_whom, .inl (E.2.1 1, 800, .inl f_whom)), (m_afters, .inl (E.2.1 1, 9, .inl f_afters)), (m_afterOf, .inl (E.2.1 1, 18, .inl f_afterOf))]) ?_ rfl rfl rfl
          refine ww_istore (lv' := [(5, .int r_5), (4, .int (nI la)), (3, .int (nI (pa + ln))), (0, .ref hm), (1, .int (nI k)), (2, .int (nI pa))]) C dX12_truthOf_106 rfl rfl ?_
          have loop_108 : ∀ (fu : Nat) (li : Nat) (so2 : Int32), (li ≤ ln) → (BS so2 (vW ((pgs gt_manys gt_reals gt_factsOf gt_possible) (pa + li)) (rEv f_caseMany f_happen f_hasIf f_actMany f_actOf f_whom f_becomes f_goneOf f_heard) (rT f_actMany f_actOf f_whom f_afterOf f_afters k) (esl (fun a => cN f_afterOf (2 * k + a)) li (cN f_afters k - li)))) → li < fu → WW X 7 E 108 [(5, .int so2), (4, .int (nI la)), (3, .int (nI (pa + li))), (0, .ref hm), (1, .int (nI k)), (2, .int (nI pa))] [] [(hm, .inr (12, [.ref m_manys, .ref m_reals, .ref m_factsOf, .ref m_possible, .int (nI q_undos), .int (nI q_models), .ref m_tape, .int (nI q_taped), .int q_fault, .int q_wrong, .int q_wrongAt, .int q_spot, .int q_place, .int q_token, .int q_value, .ref m_ends, .ref m_letters, .ref m_actOf, .ref m_whom, .ref m_actMany, .ref m_tokens, .ref m_afters, .ref m_afterOf, .int q_counted, .ref m_pile, .ref m_caseMany, .ref m_happen, .ref m_hasIf, .ref m_becomes, .ref m_goneOf, .ref m_heard, .ref m_pairs, .ref m_heaps, .int q_rounds, .int q_heapMany, .ref m_led, .ref m_newAt, .ref m_knowing, .ref m_firsts, .int (nI q_people), .ref m_secrets, .ref m_tried, .ref m_lanes, .ref m_lengths, .ref m_cells])), (m_manys, .inl (E.2.1 1, 18, .inl gt_manys)), (m_reals, .inl (E.2.1 1, 18, .inl gt_reals)), (m_factsOf, .inl (E.2.1 1, 432, .inl gt_factsOf)), (m_possible, .inl (E.2.1 1, 1728, .inl gt_possible)), (m_pairs, .inl (E.2.1 1, 576, .inl gt_pairs)), (m_pile, .inl (E.2.1 1, 34, .inl gt_pile)), (m_caseMany, .inl (E.2.1 1, 4, .inl f_caseMany)), (m_happen, .inl (E.2.1 1, 4, .inl f_happen)), (m_hasIf, .inl (E.2.1 3, 16, .inl f_hasIf)), (m_becomes, .inl (E.2.1 1, 16, .inl f_becomes)), (m_goneOf, .inl (E.2.1 1, 16, .inl f_goneOf)), (m_heard, .inl (E.2.1 1, 64, .inl f_heard)), (m_actMany, .inl (E.2.1 1, 25, .inl f_actMany)), (m_actOf, .inl (E.2.1 1, 800, .inl f_actOf)), (m_whom, .inl (E.2.1 1, 800, .inl f_whom)), (m_afters, .inl (E.2.1 1, 9, .inl f_afters)), (m_afterOf, .inl (E.2.1 1, 18, .inl f_afterOf))] 0 0 := by
            intro fu
            induction fu with
            | zero => intro li so2 hli hbs hmeas; exact absurd hmeas (Nat.not_lt_zero _)
            | succ fu ih_108 =>
              intro li so2 hli hbs hmeas
              refine ww_iload_n C dX12_truthOf_108 2 rfl rfl ?_
              refine ww_iload_n C dX12_truthOf_109 5 rfl rfl ?_
              refine ww_icmp_le (tgt := 140) C dX12_truthOf_110 (by decide) (fun c_8 => ?_) (fun c_8 => ?_)
              · have zc_8 : ((pa + li : Nat) : Int) ≤ ((pa : Nat) : Int) := i_le (nI_toInt (n := pa + li) (by omega)) (nI_toInt (n := pa) (by omega)) c_8
                refine ww_iload C dX12_truthOf_140 0 rfl ?_
                exact ww_iret (u := [(hm, .inr (12, [.ref m_manys, .ref m_reals, .ref m_factsOf, .ref m_possible, .int (nI q_undos), .int (nI q_models), .ref m_tape, .int (nI q_taped), .int q_fault, .int q_wrong, .int q_wrongAt, .int q_spot, .int q_place, .int q_token, .int q_value, .ref m_ends, .ref m_letters, .ref m_actOf, .ref m_whom, .ref m_actMany, .ref m_tokens, .ref m_afters, .ref m_afterOf, .int q_counted, .ref m_pile, .ref m_caseMany, .ref m_happen, .ref m_hasIf, .ref m_becomes, .ref m_goneOf, .ref m_heard, .ref m_pairs, .ref m_heaps, .int q_rounds, .int q_heapMany, .ref m_led, .ref m_newAt, .ref m_knowing, .ref m_firsts, .int (nI q_people), .ref m_secrets, .ref m_tried, .ref m_lanes, .ref m_lengths, .ref m_cells])), (m_manys, .inl (E.2.1 1, 18, .inl gt_manys)), (m_reals, .inl (E.2.1 1, 18, .inl gt_reals)), (m_factsOf, .inl (E.2.1 1, 432, .inl gt_factsOf)), (m_possible, .inl (E.2.1 1, 1728, .inl gt_possible)), (m_pairs, .inl (E.2.1 1, 576, .inl gt_pairs)), (m_pile, .inl (E.2.1 1, 34, .inl gt_pile)), (m_caseMany, .inl (E.2.1 1, 4, .inl f_caseMany)), (m_happen, .inl (E.2.1 1, 4, .inl f_happen)), (m_hasIf, .inl (E.2.1 3, 16, .inl f_hasIf)), (m_becomes, .inl (E.2.1 1, 16, .inl f_becomes)), (m_goneOf, .inl (E.2.1 1, 16, .inl f_goneOf)), (m_heard, .inl (E.2.1 1, 64, .inl f_heard)), (m_actMany, .inl (E.2.1 1, 25, .inl f_actMany)), (m_actOf, .inl (E.2.1 1, 800, .inl f_actOf)), (m_whom, .inl (E.2.1 1, 800, .inl f_whom)), (m_afters, .inl (E.2.1 1, 9, .inl f_afters)), (m_afterOf, .inl (E.2.1 1, 18, .inl f_afterOf))]) C hT [0, 1, 2, 3, 4, 5, 6, 7, 8, 9, 10, 11, 12, 13, 14, 15, 16, 17] (gqk (by eq_refl)) (ndk (by decide +kernel)) rfl rfl dX12_truthOf_142 (⟨gt_manys, gt_reals, gt_factsOf, gt_possible, gt_pairs, gt_pile, rfl, hnb_m_manys_8, hnb_m_reals_8, hpg_8, hwf_8, hk_manys, hk_reals, (by have h9 : li = 0 := (by omega); rw [h9] at hbs; show BS _ (vW _ _ _ (aftL _)); rw [aft_esl (S := (rT f_actMany f_actOf f_whom f_afterOf f_afters k)) (show cN f_afters k ≤ 2 by omega), ← hoth pa (by omega) (Or.inl (Nat.le_refl _))]; exact hbs), hoth⟩)
              · have zc_8 : ((pa + li : Nat) : Int) > ((pa : Nat) : Int) := i_nle (nI_toInt (n := pa + li) (by omega)) (nI_toInt (n := pa) (by omega)) c_8
                obtain ⟨l3, rfl⟩ : ∃ z, li = z + 1 := ⟨li - 1, by omega⟩
                have hes3 := (hb_afterOf (2 * k + l3) (by omega)).2
                refine ww_iinc (j := 2) (v := (nI ((pa + (l3 + 1)) - 1))) (lv' := [(3, .int (nI ((pa + (l3 + 1)) - 1))), (5, .int so2), (4, .int (nI la)), (0, .ref hm), (1, .int (nI k)), (2, .int (nI pa))]) C dX12_truthOf_113 rfl (nI_subc (a := (pa + (l3 + 1))) (c := 1) (by omega) rfl) rfl rfl ?_
                refine ww_aload_n C dX12_truthOf_116 3 rfl rfl ?_
                refine ww_aload_n C dX12_truthOf_117 3 rfl rfl ?_
                refine ww_get C fg_X12_46 0 rfl rfl dX12_truthOf_118 ?_
                refine ww_iconst (v := 2) C dX12_truthOf_121 rfl ?_
                refine ww_iload_n C dX12_truthOf_122 4 rfl rfl ?_
                refine ww_imul (v := (nI (2 * k))) C dX12_truthOf_123 (pk_mul 2 k) ?_
                refine ww_iload_n C dX12_truthOf_124 0 rfl rfl ?_
                refine ww_iadd (v := (nI ((2 * k) + ((pa + (l3 + 1)) - 1)))) C dX12_truthOf_125 (nI_add (2 * k) ((pa + (l3 + 1)) - 1)) ?_
                refine ww_iload_n C dX12_truthOf_126 5 rfl rfl ?_
                refine ww_isub (v := (nI (((2 * k) + ((pa + (l3 + 1)) - 1)) - pa))) C dX12_truthOf_127 (pk_sub (a := ((2 * k) + ((pa + (l3 + 1)) - 1))) (b := pa) (by omega)) ?_
                have hbx_9 := (hb_afterOf (((2 * k) + ((pa + (l3 + 1)) - 1)) - pa) (by omega)).2
                refine ww_iald (v := (nI (cN f_afterOf (((2 * k) + ((pa + (l3 + 1)) - 1)) - pa)))) C 17 rfl (vp_in_nI (by omega) (by omega)) (ldn (by omega) (hb_afterOf (((2 * k) + ((pa + (l3 + 1)) - 1)) - pa) (by omega)).1) dX12_truthOf_128 ?_
                refine ww_iload_n C dX12_truthOf_129 0 rfl rfl ?_
                refine ww_iload C dX12_truthOf_130 1 rfl ?_
                have hE : cN f_afterOf (2 * k + (pa + (l3 + 1) - 1) - pa) = cN f_afterOf (2 * k + l3) := congrArg (cN f_afterOf) (by omega)
                have hE1 := hhp (cN f_afterOf (2 * k + l3)) (by omega)
                have hE2 : 0 < cN f_caseMany (cN f_afterOf (2 * k + l3)) := (hchn l3 (by omega)).1
                refine ww_ci (wr := [(m_reals, .inl (E.2.1 1, 18, .inl gt_reals)), (m_factsOf, .inl (E.2.1 1, 432, .inl gt_factsOf)), (m_possible, .inl (E.2.1 1, 1728, .inl gt_possible)), (m_pile, .inl (E.2.1 1, 34, .inl gt_pile)), (m_hasIf, .inl (E.2.1 3, 16, .inl f_hasIf)), (m_becomes, .inl (E.2.1 1, 16, .inl f_becomes)), (m_goneOf, .inl (E.2.1 1, 16, .inl f_goneOf)), (m_heard, .inl (E.2.1 1, 64, .inl f_heard)), (m_actMany, .inl (E.2.1 1, 25, .inl f_actMany)), (m_actOf, .inl (E.2.1 1, 800, .inl f_actOf)), (m_whom, .inl (E.2.1 1, 800, .inl f_whom)), (m_afters, .inl (E.2.1 1, 9, .inl f_afters)), (m_afterOf, .inl (E.2.1 1, 18, .inl f_afterOf))]) (k' := 0) (n' := 0) C (run_V (As := [.int (nI (cN f_afterOf (((2 * k) + ((pa + (l3 + 1)) - 1)) - pa))), .int (nI ((pa + (l3 + 1)) - 1)), .int so2]) (rest := []) C (r_broughtBack X.2.1 E ro hm (cN f_afterOf (((2 * k) + ((pa + (l3 + 1)) - 1)) - pa)) ((pa + (l3 + 1)) - 1) so2 m_manys m_reals m_factsOf m_possible q_undos q_models m_tape q_taped q_fault q_wrong q_wrongAt q_spot q_place q_token q_value m_ends m_letters m_actOf m_whom m_actMany m_tokens m_afters m_afterOf q_counted m_pile m_caseMany m_happen m_hasIf m_becomes m_goneOf m_heard m_pairs m_heaps q_rounds q_heapMany m_led m_newAt m_knowing m_firsts q_people m_secrets m_tried m_lanes m_lengths m_cells gt_manys f_caseMany f_happen gt_pairs (lyP ((pgs gt_manys gt_reals gt_factsOf gt_possible) (pa + l3)) ((rEv f_caseMany f_happen f_hasIf f_actMany f_actOf f_whom f_becomes f_goneOf f_heard) (cN f_afterOf (2 * k + l3)))) hnb_m_manys_8 hb_caseMany hb_happen (by omega) (by omega) (by rw [hE]; exact (hchn l3 (by omega)).2.2.2) (fun u j _ hj h4 => by rw [hE] at hj; exact lyP_no hj h4) (hchn l3 (by omega)).2.1 (by rw [hE]; omega)) mi_X12_broughtBack wl_X12_270 rfl 0 12 rfl rfl rfl rfl rfl dX12_truthOf_132) (roK hro) [0, 1, 7, 8, 5] [2, 3, 4, 6, 9, 10, 11, 12, 13, 14, 15, 16, 17] rfl (gqk (by eq_refl)) (plk (by decide +kernel)) rfl (fun r_10 uz hw => ?_)
                refine an1 hw ?_
                clear hw
                intro he_12 hw
                have h_11 := hw
                clear hw
                subst he_12
                refine ww_eq (ws' := [(m_reals, .inl (E.2.1 1, 18, .inl gt_reals)), (m_factsOf, .inl (E.2.1 1, 432, .inl gt_factsOf)), (m_possible, .inl (E.2.1 1, 1728, .inl gt_possible)), (m_pile, .inl (E.2.1 1, 34, .inl gt_pile)), (m_hasIf, .inl (E.2.1 3, 16, .inl f_hasIf)), (m_becomes, .inl (E.2.1 1, 16, .inl f_becomes)), (m_goneOf, .inl (E.2.1 1, 16, .inl f_goneOf)), (m_heard, .inl (E.2.1 1, 64, .inl f_heard)), (m_actMany, .inl (E.2.1 1, 25, .inl f_actMany)), (m_actOf, .inl (E.2.1 1, 800, .inl f_actOf)), (m_whom, .inl (E.2.1 1, 800, .inl f_whom)), (m_afters, .inl (E.2.1 1, 9, .inl f_afters)), (m_afterOf, .inl (E.2.1 1, 18, .inl f_afterOf)), (hm, .inr (12, [.ref m_manys, .ref m_reals, .ref m_factsOf, .ref m_possible, .int (nI q_undos), .int (nI q_models), .ref m_tape, .int (nI q_taped), .int q_fault, .int q_wrong, .int q_wrongAt, .int q_spot, .int q_place, .int q_token, .int q_value, .ref m_ends, .ref m_letters, .ref m_actOf, .ref m_whom, .ref m_actMany, .ref m_tokens, .ref m_afters, .ref m_afterOf, .int q_counted, .ref m_pile, .ref m_caseMany, .ref m_happen, .ref m_hasIf, .ref m_becomes, .ref m_goneOf, .ref m_heard, .ref m_pairs, .ref m_heaps, .int q_rounds, .int q_heapMany, .ref m_led, .ref m_newAt, .ref m_knowing, .ref m_firsts, .int (nI q_people), .ref m_secrets, .ref m_tried, .ref m_lanes, .ref m_lengths, .ref m_cells])), (m_manys, .inl (E.2.1 1, 18, .inl gt_manys)), (m_caseMany, .inl (E.2.1 1, 4, .inl f_caseMany)), (m_happen, .inl (E.2.1 1, 4, .inl f_happen)), (m_pairs, .inl (E.2.1 1, 576, .inl gt_pairs))]) ?_ rfl rfl rfl
                refine ww_istore (lv' := [(5, .int r_10), (3, .int (nI ((pa + (l3 + 1)) - 1))), (4, .int (nI la)), (0, .ref hm), (1, .int (nI k)), (2, .int (nI pa))]) C dX12_truthOf_135 rfl rfl ?_
                refine ww_goto (tgt := 108) C dX12_truthOf_137 (by decide) ?_
                exact ww_lv [0, 2, 1, 3, 4, 5] rfl (ww_sub [13, 14, 0, 1, 2, 17, 3, 15, 16, 4, 5, 6, 7, 8, 9, 10, 11, 12] (ndk (by decide +kernel)) (gqk (by eq_refl)) (ih_108 l3 r_10 (by omega) (by rw [show cN f_afters k - l3 = (cN f_afters k - (l3 + 1)) + 1 by omega]; exact vW_y (hchn l3 (by omega)).2.1 (show cN f_happen (cN f_afterOf (2 * k + l3)) < 4 by have := (hb_happen (cN f_afterOf (2 * k + l3)) (by omega)).2; omega) (by have h9 := hbs; rw [show pa + (l3 + 1) = pa + l3 + 1 from rfl, (hchn l3 (by omega)).2.2.1] at h9; exact h9) (by have h9 := h_11; rw [hE] at h9; exact h9)) (by omega)))
          exact ww_lv [0, 1, 2, 3, 4, 5] rfl (ww_sub [0, 1, 2, 3, 4, 5, 6, 7, 8, 9, 10, 11, 12, 13, 14, 15, 16, 17] (ndk (by decide +kernel)) (gqk (by eq_refl)) (loop_108 _ ln r_5 (by omega) (by rw [show cN f_afters k - ln = (cN f_afters k - (ln + 1)) + 1 by have h9 := (hl0 (by omega)).1; omega]; exact vW_stop (hl0 (by omega)).2 h_6) (Nat.lt_succ_self _)))
        · have zc_3 : ((la : Nat) : Int) ≠ 0 := i_ne (nI_toInt (n := la) (by omega)) rfl c_3
          refine ww_aload_n C dX12_truthOf_88 3 rfl rfl ?_
          refine ww_iload_n C dX12_truthOf_89 4 rfl rfl ?_
          refine ww_iload_n C dX12_truthOf_90 2 rfl rfl ?_
          refine ww_ci (wr := [(m_pairs, .inl (E.2.1 1, 576, .inl gt_pairs)), (m_caseMany, .inl (E.2.1 1, 4, .inl f_caseMany)), (m_happen, .inl (E.2.1 1, 4, .inl f_happen)), (m_hasIf, .inl (E.2.1 3, 16, .inl f_hasIf)), (m_becomes, .inl (E.2.1 1, 16, .inl f_becomes)), (m_goneOf, .inl (E.2.1 1, 16, .inl f_goneOf)), (m_heard, .inl (E.2.1 1, 64, .inl f_heard)), (m_afters, .inl (E.2.1 1, 9, .inl f_afters)), (m_afterOf, .inl (E.2.1 1, 18, .inl f_afterOf))]) (k' := 0) (n' := 0) C (run_V (As := [.int (nI k), .int (nI (pa + ln))]) (rest := []) C (r_trueAt X.2.1 E ro hm k (pa + ln) m_manys m_reals m_factsOf m_possible q_undos q_models m_tape q_taped q_fault q_wrong q_wrongAt q_spot q_place q_token q_value m_ends m_letters m_actOf m_whom m_actMany m_tokens m_afters m_afterOf q_counted m_pile m_caseMany m_happen m_hasIf m_becomes m_goneOf m_heard m_pairs m_heaps q_rounds q_heapMany m_led m_newAt m_knowing m_firsts q_people m_secrets m_tried m_lanes m_lengths m_cells gt_manys gt_reals gt_factsOf gt_possible f_actMany f_actOf f_whom gt_pile hnb_m_manys_8 hnb_m_reals_8 hb_actMany hpg_8 hsv hwf_8 (by omega) (by omega) hWs) mi_X12_trueAt wl_X12_256 rfl 0 12 rfl rfl rfl rfl rfl dX12_truthOf_91) (roK hro) [0, 1, 2, 3, 4, 13, 14, 15, 6] [5, 7, 8, 9, 10, 11, 12, 16, 17] (gqk (by eq_refl)) (gqk (by eq_refl)) (plk (by decide +kernel)) rfl (fun r_13 uz hw => ?_)
          refine ex1 hw ?_
          clear hw
          intro f_pilez_14 hw
          refine an1 hw ?_
          clear hw
          intro he_16 hw
          have h_15 := hw
          clear hw
          subst he_16
          refine ww_eq (ws' := [(m_pairs, .inl (E.2.1 1, 576, .inl gt_pairs)), (m_caseMany, .inl (E.2.1 1, 4, .inl f_caseMany)), (m_happen, .inl (E.2.1 1, 4, .inl f_happen)), (m_hasIf, .inl (E.2.1 3, 16, .inl f_hasIf)), (m_becomes, .inl (E.2.1 1, 16, .inl f_becomes)), (m_goneOf, .inl (E.2.1 1, 16, .inl f_goneOf)), (m_heard, .inl (E.2.1 1, 64, .inl f_heard)), (m_afters, .inl (E.2.1 1, 9, .inl f_afters)), (m_afterOf, .inl (E.2.1 1, 18, .inl f_afterOf)), (hm, .inr (12, [.ref m_manys, .ref m_reals, .ref m_factsOf, .ref m_possible, .int (nI q_undos), .int (nI q_models), .ref m_tape, .int (nI q_taped), .int q_fault, .int q_wrong, .int q_wrongAt, .int q_spot, .int q_place, .int q_token, .int q_value, .ref m_ends, .ref m_letters, .ref m_actOf, .ref m_whom, .ref m_actMany, .ref m_tokens, .ref m_afters, .ref m_afterOf, .int q_counted, .ref m_pile, .ref m_caseMany, .ref m_happen, .ref m_hasIf, .ref m_becomes, .ref m_goneOf, .ref m_heard, .ref m_pairs, .ref m_heaps, .int q_rounds, .int q_heapMany, .ref m_led, .ref m_newAt, .ref m_knowing, .ref m_firsts, .int (nI q_people), .ref m_secrets, .ref m_tried, .ref m_lanes, .ref m_lengths, .ref m_cells])), (m_manys, .inl (E.2.1 1, 18, .inl gt_manys)), (m_reals, .inl (E.2.1 1, 18, .inl gt_reals)), (m_factsOf, .inl (E.2.1 1, 432, .inl gt_factsOf)), (m_possible, .inl (E.2.1 1, 1728, .inl gt_possible)), (m_actMany, .inl (E.2.1 1, 25, .inl f_actMany)), (m_actOf, .inl (E.2.1 1, 800, .inl f_actOf)), (m_whom, .inl (E.2.1 1, 800, .inl f_whom)), (m_pile, .inl (E.2.1 1, 34, .inl f_pilez_14))]) ?_ rfl rfl rfl
          refine ww_goto (tgt := 106) C dX12_truthOf_94 (by decide) ?_
          refine ww_istore (lv' := [(5, .int r_13), (4, .int (nI la)), (3, .int (nI (pa + ln))), (0, .ref hm), (1, .int (nI k)), (2, .int (nI pa))]) C dX12_truthOf_106 rfl rfl ?_
          have loop_108 : ∀ (fu : Nat) (li : Nat) (so2 : Int32), (li ≤ ln) → (BS so2 (vW ((pgs gt_manys gt_reals gt_factsOf gt_possible) (pa + li)) (rEv f_caseMany f_happen f_hasIf f_actMany f_actOf f_whom f_becomes f_goneOf f_heard) (rT f_actMany f_actOf f_whom f_afterOf f_afters k) (esl (fun a => cN f_afterOf (2 * k + a)) li (cN f_afters k - li)))) → li < fu → WW X 7 E 108 [(5, .int so2), (4, .int (nI la)), (3, .int (nI (pa + li))), (0, .ref hm), (1, .int (nI k)), (2, .int (nI pa))] [] [(m_pairs, .inl (E.2.1 1, 576, .inl gt_pairs)), (m_caseMany, .inl (E.2.1 1, 4, .inl f_caseMany)), (m_happen, .inl (E.2.1 1, 4, .inl f_happen)), (m_hasIf, .inl (E.2.1 3, 16, .inl f_hasIf)), (m_becomes, .inl (E.2.1 1, 16, .inl f_becomes)), (m_goneOf, .inl (E.2.1 1, 16, .inl f_goneOf)), (m_heard, .inl (E.2.1 1, 64, .inl f_heard)), (m_afters, .inl (E.2.1 1, 9, .inl f_afters)), (m_afterOf, .inl (E.2.1 1, 18, .inl f_afterOf)), (hm, .inr (12, [.ref m_manys, .ref m_reals, .ref m_factsOf, .ref m_possible, .int (nI q_undos), .int (nI q_models), .ref m_tape, .int (nI q_taped), .int q_fault, .int q_wrong, .int q_wrongAt, .int q_spot, .int q_place, .int q_token, .int q_value, .ref m_ends, .ref m_letters, .ref m_actOf, .ref m_whom, .ref m_actMany, .ref m_tokens, .ref m_afters, .ref m_afterOf, .int q_counted, .ref m_pile, .ref m_caseMany, .ref m_happen, .ref m_hasIf, .ref m_becomes, .ref m_goneOf, .ref m_heard, .ref m_pairs, .ref m_heaps, .int q_rounds, .int q_heapMany, .ref m_led, .ref m_newAt, .ref m_knowing, .ref m_firsts, .int (nI q_people), .ref m_secrets, .ref m_tried, .ref m_lanes, .ref m_lengths, .ref m_cells])), (m_manys, .inl (E.2.1 1, 18, .inl gt_manys)), (m_reals, .inl (E.2.1 1, 18, .inl gt_reals)), (m_factsOf, .inl (E.2.1 1, 432, .inl gt_factsOf)), (m_possible, .inl (E.2.1 1, 1728, .inl gt_possible)), (m_actMany, .inl (E.2.1 1, 25, .inl f_actMany)), (m_actOf, .inl (E.2.1 1, 800, .inl f_actOf)), (m_whom, .inl (E.2.1 1, 800, .inl f_whom)), (m_pile, .inl (E.2.1 1, 34, .inl f_pilez_14))] 0 0 := by
            intro fu
            induction fu with
            | zero => intro li so2 hli hbs hmeas; exact absurd hmeas (Nat.not_lt_zero _)
            | succ fu ih_108 =>
              intro li so2 hli hbs hmeas
              refine ww_iload_n C dX12_truthOf_108 2 rfl rfl ?_
              refine ww_iload_n C dX12_truthOf_109 5 rfl rfl ?_
              refine ww_icmp_le (tgt := 140) C dX12_truthOf_110 (by decide) (fun c_17 => ?_) (fun c_17 => ?_)
              · have zc_17 : ((pa + li : Nat) : Int) ≤ ((pa : Nat) : Int) := i_le (nI_toInt (n := pa + li) (by omega)) (nI_toInt (n := pa) (by omega)) c_17
                refine ww_iload C dX12_truthOf_140 0 rfl ?_
                exact ww_iret (u := [(hm, .inr (12, [.ref m_manys, .ref m_reals, .ref m_factsOf, .ref m_possible, .int (nI q_undos), .int (nI q_models), .ref m_tape, .int (nI q_taped), .int q_fault, .int q_wrong, .int q_wrongAt, .int q_spot, .int q_place, .int q_token, .int q_value, .ref m_ends, .ref m_letters, .ref m_actOf, .ref m_whom, .ref m_actMany, .ref m_tokens, .ref m_afters, .ref m_afterOf, .int q_counted, .ref m_pile, .ref m_caseMany, .ref m_happen, .ref m_hasIf, .ref m_becomes, .ref m_goneOf, .ref m_heard, .ref m_pairs, .ref m_heaps, .int q_rounds, .int q_heapMany, .ref m_led, .ref m_newAt, .ref m_knowing, .ref m_firsts, .int (nI q_people), .ref m_secrets, .ref m_tried, .ref m_lanes, .ref m_lengths, .ref m_cells])), (m_manys, .inl (E.2.1 1, 18, .inl gt_manys)), (m_reals, .inl (E.2.1 1, 18, .inl gt_reals)), (m_factsOf, .inl (E.2.1 1, 432, .inl gt_factsOf)), (m_possible, .inl (E.2.1 1, 1728, .inl gt_possible)), (m_pairs, .inl (E.2.1 1, 576, .inl gt_pairs)), (m_pile, .inl (E.2.1 1, 34, .inl f_pilez_14)), (m_caseMany, .inl (E.2.1 1, 4, .inl f_caseMany)), (m_happen, .inl (E.2.1 1, 4, .inl f_happen)), (m_hasIf, .inl (E.2.1 3, 16, .inl f_hasIf)), (m_becomes, .inl (E.2.1 1, 16, .inl f_becomes)), (m_goneOf, .inl (E.2.1 1, 16, .inl f_goneOf)), (m_heard, .inl (E.2.1 1, 64, .inl f_heard)), (m_actMany, .inl (E.2.1 1, 25, .inl f_actMany)), (m_actOf, .inl (E.2.1 1, 800, .inl f_actOf)), (m_whom, .inl (E.2.1 1, 800, .inl f_whom)), (m_afters, .inl (E.2.1 1, 9, .inl f_afters)), (m_afterOf, .inl (E.2.1 1, 18, .inl f_afterOf))]) C hT [9, 10, 11, 12, 13, 0, 17, 1, 2, 3, 4, 5, 6, 14, 15, 16, 7, 8] (gqk (by eq_refl)) (ndk (by decide +kernel)) rfl rfl dX12_truthOf_142 (⟨gt_manys, gt_reals, gt_factsOf, gt_possible, gt_pairs, f_pilez_14, rfl, hnb_m_manys_8, hnb_m_reals_8, hpg_8, hwf_8, hk_manys, hk_reals, (by have h9 : li = 0 := (by omega); rw [h9] at hbs; show BS _ (vW _ _ _ (aftL _)); rw [aft_esl (S := (rT f_actMany f_actOf f_whom f_afterOf f_afters k)) (show cN f_afters k ≤ 2 by omega), ← hoth pa (by omega) (Or.inl (Nat.le_refl _))]; exact hbs), hoth⟩)
              · have zc_17 : ((pa + li : Nat) : Int) > ((pa : Nat) : Int) := i_nle (nI_toInt (n := pa + li) (by omega)) (nI_toInt (n := pa) (by omega)) c_17
                obtain ⟨l3, rfl⟩ : ∃ z, li = z + 1 := ⟨li - 1, by omega⟩
                have hes3 := (hb_afterOf (2 * k + l3) (by omega)).2
                refine ww_iinc (j := 2) (v := (nI ((pa + (l3 + 1)) - 1))) (lv' := [(3, .int (nI ((pa + (l3 + 1)) - 1))), (5, .int so2), (4, .int (nI la)), (0, .ref hm), (1, .int (nI k)), (2, .int (nI pa))]) C dX12_truthOf_113 rfl (nI_subc (a := (pa + (l3 + 1))) (c := 1) (by omega) rfl) rfl rfl ?_
                refine ww_aload_n C dX12_truthOf_116 3 rfl rfl ?_
                refine ww_aload_n C dX12_truthOf_117 3 rfl rfl ?_
                refine ww_get C fg_X12_46 9 rfl rfl dX12_truthOf_118 ?_
                refine ww_iconst (v := 2) C dX12_truthOf_121 rfl ?_
                refine ww_iload_n C dX12_truthOf_122 4 rfl rfl ?_
                refine ww_imul (v := (nI (2 * k))) C dX12_truthOf_123 (pk_mul 2 k) ?_
                refine ww_iload_n C dX12_truthOf_124 0 rfl rfl ?_
                refine ww_iadd (v := (nI ((2 * k) + ((pa + (l3 + 1)) - 1)))) C dX12_truthOf_125 (nI_add (2 * k) ((pa + (l3 + 1)) - 1)) ?_
                refine ww_iload_n C dX12_truthOf_126 5 rfl rfl ?_
                refine ww_isub (v := (nI (((2 * k) + ((pa + (l3 + 1)) - 1)) - pa))) C dX12_truthOf_127 (pk_sub (a := ((2 * k) + ((pa + (l3 + 1)) - 1))) (b := pa) (by omega)) ?_
                have hbx_18 := (hb_afterOf (((2 * k) + ((pa + (l3 + 1)) - 1)) - pa) (by omega)).2
                refine ww_iald (v := (nI (cN f_afterOf (((2 * k) + ((pa + (l3 + 1)) - 1)) - pa)))) C 8 rfl (vp_in_nI (by omega) (by omega)) (ldn (by omega) (hb_afterOf (((2 * k) + ((pa + (l3 + 1)) - 1)) - pa) (by omega)).1) dX12_truthOf_128 ?_
                refine ww_iload_n C dX12_truthOf_129 0 rfl rfl ?_
                refine ww_iload C dX12_truthOf_130 1 rfl ?_
                have hE : cN f_afterOf (2 * k + (pa + (l3 + 1) - 1) - pa) = cN f_afterOf (2 * k + l3) := congrArg (cN f_afterOf) (by omega)
                have hE1 := hhp (cN f_afterOf (2 * k + l3)) (by omega)
                have hE2 : 0 < cN f_caseMany (cN f_afterOf (2 * k + l3)) := (hchn l3 (by omega)).1
                refine ww_ci (wr := [(m_hasIf, .inl (E.2.1 3, 16, .inl f_hasIf)), (m_becomes, .inl (E.2.1 1, 16, .inl f_becomes)), (m_goneOf, .inl (E.2.1 1, 16, .inl f_goneOf)), (m_heard, .inl (E.2.1 1, 64, .inl f_heard)), (m_afters, .inl (E.2.1 1, 9, .inl f_afters)), (m_afterOf, .inl (E.2.1 1, 18, .inl f_afterOf)), (m_reals, .inl (E.2.1 1, 18, .inl gt_reals)), (m_factsOf, .inl (E.2.1 1, 432, .inl gt_factsOf)), (m_possible, .inl (E.2.1 1, 1728, .inl gt_possible)), (m_actMany, .inl (E.2.1 1, 25, .inl f_actMany)), (m_actOf, .inl (E.2.1 1, 800, .inl f_actOf)), (m_whom, .inl (E.2.1 1, 800, .inl f_whom)), (m_pile, .inl (E.2.1 1, 34, .inl f_pilez_14))]) (k' := 0) (n' := 0) C (run_V (As := [.int (nI (cN f_afterOf (((2 * k) + ((pa + (l3 + 1)) - 1)) - pa))), .int (nI ((pa + (l3 + 1)) - 1)), .int so2]) (rest := []) C (r_broughtBack X.2.1 E ro hm (cN f_afterOf (((2 * k) + ((pa + (l3 + 1)) - 1)) - pa)) ((pa + (l3 + 1)) - 1) so2 m_manys m_reals m_factsOf m_possible q_undos q_models m_tape q_taped q_fault q_wrong q_wrongAt q_spot q_place q_token q_value m_ends m_letters m_actOf m_whom m_actMany m_tokens m_afters m_afterOf q_counted m_pile m_caseMany m_happen m_hasIf m_becomes m_goneOf m_heard m_pairs m_heaps q_rounds q_heapMany m_led m_newAt m_knowing m_firsts q_people m_secrets m_tried m_lanes m_lengths m_cells gt_manys f_caseMany f_happen gt_pairs (lyP ((pgs gt_manys gt_reals gt_factsOf gt_possible) (pa + l3)) ((rEv f_caseMany f_happen f_hasIf f_actMany f_actOf f_whom f_becomes f_goneOf f_heard) (cN f_afterOf (2 * k + l3)))) hnb_m_manys_8 hb_caseMany hb_happen (by omega) (by omega) (by rw [hE]; exact (hchn l3 (by omega)).2.2.2) (fun u j _ hj h4 => by rw [hE] at hj; exact lyP_no hj h4) (hchn l3 (by omega)).2.1 (by rw [hE]; omega)) mi_X12_broughtBack wl_X12_270 rfl 0 12 rfl rfl rfl rfl rfl dX12_truthOf_132) (roK hro) [9, 10, 1, 2, 0] [3, 4, 5, 6, 7, 8, 11, 12, 13, 14, 15, 16, 17] rfl (gqk (by eq_refl)) (plk (by decide +kernel)) rfl (fun r_19 uz hw => ?_)
                refine an1 hw ?_
                clear hw
                intro he_21 hw
                have h_20 := hw
                clear hw
                subst he_21
                refine ww_eq (ws' := [(m_hasIf, .inl (E.2.1 3, 16, .inl f_hasIf)), (m_becomes, .inl (E.2.1 1, 16, .inl f_becomes)), (m_goneOf, .inl (E.2.1 1, 16, .inl f_goneOf)), (m_heard, .inl (E.2.1 1, 64, .inl f_heard)), (m_afters, .inl (E.2.1 1, 9, .inl f_afters)), (m_afterOf, .inl (E.2.1 1, 18, .inl f_afterOf)), (m_reals, .inl (E.2.1 1, 18, .inl gt_reals)), (m_factsOf, .inl (E.2.1 1, 432, .inl gt_factsOf)), (m_possible, .inl (E.2.1 1, 1728, .inl gt_possible)), (m_actMany, .inl (E.2.1 1, 25, .inl f_actMany)), (m_actOf, .inl (E.2.1 1, 800, .inl f_actOf)), (m_whom, .inl (E.2.1 1, 800, .inl f_whom)), (m_pile, .inl (E.2.1 1, 34, .inl f_pilez_14)), (hm, .inr (12, [.ref m_manys, .ref m_reals, .ref m_factsOf, .ref m_possible, .int (nI q_undos), .int (nI q_models), .ref m_tape, .int (nI q_taped), .int q_fault, .int q_wrong, .int q_wrongAt, .int q_spot, .int q_place, .int q_token, .int q_value, .ref m_ends, .ref m_letters, .ref m_actOf, .ref m_whom, .ref m_actMany, .ref m_tokens, .ref m_afters, .ref m_afterOf, .int q_counted, .ref m_pile, .ref m_caseMany, .ref m_happen, .ref m_hasIf, .ref m_becomes, .ref m_goneOf, .ref m_heard, .ref m_pairs, .ref m_heaps, .int q_rounds, .int q_heapMany, .ref m_led, .ref m_newAt, .ref m_knowing, .ref m_firsts, .int (nI q_people), .ref m_secrets, .ref m_tried, .ref m_lanes, .ref m_lengths, .ref m_cells])), (m_manys, .inl (E.2.1 1, 18, .inl gt_manys)), (m_caseMany, .inl (E.2.1 1, 4, .inl f_caseMany)), (m_happen, .inl (E.2.1 1, 4, .inl f_happen)), (m_pairs, .inl (E.2.1 1, 576, .inl gt_pairs))]) ?_ rfl rfl rfl
                refine ww_istore (lv' := [(5, .int r_19), (3, .int (nI ((pa + (l3 + 1)) - 1))), (4, .int (nI la)), (0, .ref hm), (1, .int (nI k)), (2, .int (nI pa))]) C dX12_truthOf_135 rfl rfl ?_
                refine ww_goto (tgt := 108) C dX12_truthOf_137 (by decide) ?_
                exact ww_lv [0, 2, 1, 3, 4, 5] rfl (ww_sub [17, 15, 16, 0, 1, 2, 3, 4, 5, 13, 14, 6, 7, 8, 9, 10, 11, 12] (ndk (by decide +kernel)) (gqk (by eq_refl)) (ih_108 l3 r_19 (by omega) (by rw [show cN f_afters k - l3 = (cN f_afters k - (l3 + 1)) + 1 by omega]; exact vW_y (hchn l3 (by omega)).2.1 (show cN f_happen (cN f_afterOf (2 * k + l3)) < 4 by have := (hb_happen (cN f_afterOf (2 * k + l3)) (by omega)).2; omega) (by have h9 := hbs; rw [show pa + (l3 + 1) = pa + l3 + 1 from rfl, (hchn l3 (by omega)).2.2.1] at h9; exact h9) (by have h9 := h_20; rw [hE] at h9; exact h9)) (by omega)))
          exact ww_lv [0, 1, 2, 3, 4, 5] rfl (ww_sub [0, 1, 2, 3, 4, 5, 6, 7, 8, 9, 10, 11, 12, 13, 14, 15, 16, 17] (ndk (by decide +kernel)) (gqk (by eq_refl)) (loop_108 _ ln r_13 (by omega) (by rw [show cN f_afters k - ln = 0 by omega]; exact h_15) (Nat.lt_succ_self _)))
      · have zc_2 : ((a1 : Nat) : Int) < ((cN f_afters k : Nat) : Int) := i_nle (nI_toInt (n := cN f_afters k) (by omega)) (nI_toInt (n := a1) (by omega)) c_2
        refine ww_iload C dX12_truthOf_19 1 rfl ?_
        refine ww_if_eq (tgt := 83) C dX12_truthOf_21 (by decide) (fun c_22 => ?_) (fun c_22 => ?_)
        · have zc_22 : ((la : Nat) : Int) = 0 := i_eq (nI_toInt (n := la) (by omega)) rfl c_22
          refine ww_iload C dX12_truthOf_83 1 rfl ?_
          refine ww_if_eq (tgt := 97) C dX12_truthOf_85 (by decide) (fun c_23 => ?_) (fun c_23 => ?_)
          · have zc_23 : ((la : Nat) : Int) = 0 := i_eq (nI_toInt (n := la) (by omega)) rfl c_23
            refine ww_aload_n C dX12_truthOf_97 3 rfl rfl ?_
            refine ww_get C fg_X12_7 0 rfl rfl dX12_truthOf_98 ?_
            refine ww_iload_n C dX12_truthOf_101 2 rfl rfl ?_
            have hbx_24 := (hnb_m_manys_8 (pa + ln) (by omega)).2
            refine ww_iald (v := (nI (cN gt_manys (pa + ln)))) C 1 rfl (vp_in_nI (by omega) (by omega)) (ldn (by omega) (hnb_m_manys_8 (pa + ln) (by omega)).1) dX12_truthOf_102 ?_
            refine ww_ci (wr := [(hm, .inr (12, [.ref m_manys, .ref m_reals, .ref m_factsOf, .ref m_possible, .int (nI q_undos), .int (nI q_models), .ref m_tape, .int (nI q_taped), .int q_fault, .int q_wrong, .int q_wrongAt, .int q_spot, .int q_place, .int q_token, .int q_value, .ref m_ends, .ref m_letters, .ref m_actOf, .ref m_whom, .ref m_actMany, .ref m_tokens, .ref m_afters, .ref m_afterOf, .int q_counted, .ref m_pile, .ref m_caseMany, .ref m_happen, .ref m_hasIf, .ref m_becomes, .ref m_goneOf, .ref m_heard, .ref m_pairs, .ref m_heaps, .int q_rounds, .int q_heapMany, .ref m_led, .ref m_newAt, .ref m_knowing, .ref m_firsts, .int (nI q_people), .ref m_secrets, .ref m_tried, .ref m_lanes, .ref m_lengths, .ref m_cells])), (m_manys, .inl (E.2.1 1, 18, .inl gt_manys)), (m_reals, .inl (E.2.1 1, 18, .inl gt_reals)), (m_factsOf, .inl (E.2.1 1, 432, .inl gt_factsOf)), (m_possible, .inl (E.2.1 1, 1728, .inl gt_possible)), (m_pairs, .inl (E.2.1 1, 576, .inl gt_pairs)), (m_pile, .inl (E.2.1 1, 34, .inl gt_pile)), (m_caseMany, .inl (E.2.1 1, 4, .inl f_caseMany)), (m_happen, .inl (E.2.1 1, 4, .inl f_happen)), (m_hasIf, .inl (E.2.1 3, 16, .inl f_hasIf)), (m_becomes, .inl (E.2.1 1, 16, .inl f_becomes)), (m_goneOf, .inl (E.2.1 1, 16, .inl f_goneOf)), (m_heard, .inl (E.2.1 1, 64, .inl f_heard)), (m_actMany, .inl (E.2.1 1, 25, .inl f_actMany)), (m_actOf, .inl (E.2.1 1, 800, .inl f_actOf)), (m_whom, .inl (E.2.1 1, 800, .inl f_whom)), (m_afters, .inl (E.2.1 1, 9, .inl f_afters)), (m_afterOf, .inl (E.2.1 1, 18, .inl f_afterOf))]) (k' := 0) (n' := 0) C (run_S (As := [.int (nI (cN gt_manys (pa + ln)))]) (rest := []) C (r_all X.2.1 E ro (cN gt_manys (pa + ln)) (by omega)) ms_X12_all wl_X12_230 rfl rfl rfl rfl dX12_truthOf_103) (roK hro) [] [0, 1, 2, 3, 4, 5, 6, 7, 8, 9, 10, 11, 12, 13, 14, 15, 16, 17] rfl (gqk (by eq_refl)) (plk (by decide +kernel)) rfl (fun r_25 uz hw => ?_)
            refine an1 hw ?_
            clear hw
            intro he_27 hw
            have h_26 := hw
            clear hw
            subst he_27
            refine ww_eq (ws' := [(hm, .inr (12, [.ref m_manys, .ref m_reals, .ref m_factsOf, .ref m_possible, .int (nI q_undos), .int (nI q_models), .ref m_tape, .int (nI q_taped), .int q_fault, .int q_wrong, .int q_wrongAt, .int q_spot, .int q_place, .int q_token, .int q_value, .ref m_ends, .ref m_letters, .ref m_actOf, .ref m_whom, .ref m_actMany, .ref m_tokens, .ref m_afters, .ref m_afterOf, .int q_counted, .ref m_pile, .ref m_caseMany, .ref m_happen, .ref m_hasIf, .ref m_becomes, .ref m_goneOf, .ref m_heard, .ref m_pairs, .ref m_heaps, .int q_rounds, .int q_heapMany, .ref m_led, .ref m_newAt, .ref m_knowing, .ref m_firsts, .int (nI q_people), .ref m_secrets, .ref m_tried, .ref m_lanes, .ref m_lengths, .ref m_cells])), (m_manys, .inl (E.2.1 1, 18, .inl gt_manys)), (m_reals, .inl (E.2.1 1, 18, .inl gt_reals)), (m_factsOf, .inl (E.2.1 1, 432, .inl gt_factsOf)), (m_possible, .inl (E.2.1 1, 1728, .inl gt_possible)), (m_pairs, .inl (E.2.1 1, 576, .inl gt_pairs)), (m_pile, .inl (E.2.1 1, 34, .inl gt_pile)), (m_caseMany, .inl (E.2.1 1, 4, .inl f_caseMany)), (m_happen, .inl (E.2.1 1, 4, .inl f_happen)), (m_hasIf, .inl (E.2.1 3, 16, .inl f_hasIf)), (m_becomes, .inl (E.2.1 1, 16, .inl f_becomes)), (m_goneOf, .inl (E.2.1 1, 16, .inl f_goneOf)), (m_heard, .inl (E.2.1 1, 64, .inl f_heard)), (m_actMany, .inl (E.2.1 1, 25, .inl f_actMany)), (m_actOf, .inl (E.2.1 1, 800, .inl f_actOf)), (m_whom, .inl (E.2.1 1, 800, .inl f_whom)), (m_afters, .inl (E.2.1 1, 9, .inl f_afters)), (m_afterOf, .inl (E.2.1 1, 18, .inl f_afterOf))]) ?_ rfl rfl rfl
            refine ww_istore (lv' := [(5, .int r_25), (4, .int (nI la)), (3, .int (nI (pa + ln))), (0, .ref hm), (1, .int (nI k)), (2, .int (nI pa))]) C dX12_truthOf_106 rfl rfl ?_
            have loop_108 : ∀ (fu : Nat) (li : Nat) (so2 : Int32), (li ≤ ln) → (BS so2 (vW ((pgs gt_manys gt_reals gt_factsOf gt_possible) (pa + li)) (rEv f_caseMany f_happen f_hasIf f_actMany f_actOf f_whom f_becomes f_goneOf f_heard) (rT f_actMany f_actOf f_whom f_afterOf f_afters k) (esl (fun a => cN f_afterOf (2 * k + a)) li (cN f_afters k - li)))) → li < fu → WW X 7 E 108 [(5, .int so2), (4, .int (nI la)), (3, .int (nI (pa + li))), (0, .ref hm), (1, .int (nI k)), (2, .int (nI pa))] [] [(hm, .inr (12, [.ref m_manys, .ref m_reals, .ref m_factsOf, .ref m_possible, .int (nI q_undos), .int (nI q_models), .ref m_tape, .int (nI q_taped), .int q_fault, .int q_wrong, .int q_wrongAt, .int q_spot, .int q_place, .int q_token, .int q_value, .ref m_ends, .ref m_letters, .ref m_actOf, .ref m_whom, .ref m_actMany, .ref m_tokens, .ref m_afters, .ref m_afterOf, .int q_counted, .ref m_pile, .ref m_caseMany, .ref m_happen, .ref m_hasIf, .ref m_becomes, .ref m_goneOf, .ref m_heard, .ref m_pairs, .ref m_heaps, .int q_rounds, .int q_heapMany, .ref m_led, .ref m_newAt, .ref m_knowing, .ref m_firsts, .int (nI q_people), .ref m_secrets, .ref m_tried, .ref m_lanes, .ref m_lengths, .ref m_cells])), (m_manys, .inl (E.2.1 1, 18, .inl gt_manys)), (m_reals, .inl (E.2.1 1, 18, .inl gt_reals)), (m_factsOf, .inl (E.2.1 1, 432, .inl gt_factsOf)), (m_possible, .inl (E.2.1 1, 1728, .inl gt_possible)), (m_pairs, .inl (E.2.1 1, 576, .inl gt_pairs)), (m_pile, .inl (E.2.1 1, 34, .inl gt_pile)), (m_caseMany, .inl (E.2.1 1, 4, .inl f_caseMany)), (m_happen, .inl (E.2.1 1, 4, .inl f_happen)), (m_hasIf, .inl (E.2.1 3, 16, .inl f_hasIf)), (m_becomes, .inl (E.2.1 1, 16, .inl f_becomes)), (m_goneOf, .inl (E.2.1 1, 16, .inl f_goneOf)), (m_heard, .inl (E.2.1 1, 64, .inl f_heard)), (m_actMany, .inl (E.2.1 1, 25, .inl f_actMany)), (m_actOf, .inl (E.2.1 1, 800, .inl f_actOf)), (m_whom, .inl (E.2.1 1, 800, .inl f_whom)), (m_afters, .inl (E.2.1 1, 9, .inl f_afters)), (m_afterOf, .inl (E.2.1 1, 18, .inl f_afterOf))] 0 0 := by
              intro fu
              induction fu with
              | zero => intro li so2 hli hbs hmeas; exact absurd hmeas (Nat.not_lt_zero _)
              | succ fu ih_108 =>
                intro li so2 hli hbs hmeas
                refine ww_iload_n C dX12_truthOf_108 2 rfl rfl ?_
                refine ww_iload_n C dX12_truthOf_109 5 rfl rfl ?_
                refine ww_icmp_le (tgt := 140) C dX12_truthOf_110 (by decide) (fun c_28 => ?_) (fun c_28 => ?_)
                · have zc_28 : ((pa + li : Nat) : Int) ≤ ((pa : Nat) : Int) := i_le (nI_toInt (n := pa + li) (by omega)) (nI_toInt (n := pa) (by omega)) c_28
                  refine ww_iload C dX12_truthOf_140 0 rfl ?_
                  exact ww_iret (u := [(hm, .inr (12, [.ref m_manys, .ref m_reals, .ref m_factsOf, .ref m_possible, .int (nI q_undos), .int (nI q_models), .ref m_tape, .int (nI q_taped), .int q_fault, .int q_wrong, .int q_wrongAt, .int q_spot, .int q_place, .int q_token, .int q_value, .ref m_ends, .ref m_letters, .ref m_actOf, .ref m_whom, .ref m_actMany, .ref m_tokens, .ref m_afters, .ref m_afterOf, .int q_counted, .ref m_pile, .ref m_caseMany, .ref m_happen, .ref m_hasIf, .ref m_becomes, .ref m_goneOf, .ref m_heard, .ref m_pairs, .ref m_heaps, .int q_rounds, .int q_heapMany, .ref m_led, .ref m_newAt, .ref m_knowing, .ref m_firsts, .int (nI q_people), .ref m_secrets, .ref m_tried, .ref m_lanes, .ref m_lengths, .ref m_cells])), (m_manys, .inl (E.2.1 1, 18, .inl gt_manys)), (m_reals, .inl (E.2.1 1, 18, .inl gt_reals)), (m_factsOf, .inl (E.2.1 1, 432, .inl gt_factsOf)), (m_possible, .inl (E.2.1 1, 1728, .inl gt_possible)), (m_pairs, .inl (E.2.1 1, 576, .inl gt_pairs)), (m_pile, .inl (E.2.1 1, 34, .inl gt_pile)), (m_caseMany, .inl (E.2.1 1, 4, .inl f_caseMany)), (m_happen, .inl (E.2.1 1, 4, .inl f_happen)), (m_hasIf, .inl (E.2.1 3, 16, .inl f_hasIf)), (m_becomes, .inl (E.2.1 1, 16, .inl f_becomes)), (m_goneOf, .inl (E.2.1 1, 16, .inl f_goneOf)), (m_heard, .inl (E.2.1 1, 64, .inl f_heard)), (m_actMany, .inl (E.2.1 1, 25, .inl f_actMany)), (m_actOf, .inl (E.2.1 1, 800, .inl f_actOf)), (m_whom, .inl (E.2.1 1, 800, .inl f_whom)), (m_afters, .inl (E.2.1 1, 9, .inl f_afters)), (m_afterOf, .inl (E.2.1 1, 18, .inl f_afterOf))]) C hT [0, 1, 2, 3, 4, 5, 6, 7, 8, 9, 10, 11, 12, 13, 14, 15, 16, 17] (gqk (by eq_refl)) (ndk (by decide +kernel)) rfl rfl dX12_truthOf_142 (⟨gt_manys, gt_reals, gt_factsOf, gt_possible, gt_pairs, gt_pile, rfl, hnb_m_manys_8, hnb_m_reals_8, hpg_8, hwf_8, hk_manys, hk_reals, (by have h9 : li = 0 := (by omega); rw [h9] at hbs; show BS _ (vW _ _ _ (aftL _)); rw [aft_esl (S := (rT f_actMany f_actOf f_whom f_afterOf f_afters k)) (show cN f_afters k ≤ 2 by omega), ← hoth pa (by omega) (Or.inl (Nat.le_refl _))]; exact hbs), hoth⟩)
                · have zc_28 : ((pa + li : Nat) : Int) > ((pa : Nat) : Int) := i_nle (nI_toInt (n := pa + li) (by omega)) (nI_toInt (n := pa) (by omega)) c_28
                  obtain ⟨l3, rfl⟩ : ∃ z, li = z + 1 := ⟨li - 1, by omega⟩
                  have hes3 := (hb_afterOf (2 * k + l3) (by omega)).2
                  refine ww_iinc (j := 2) (v := (nI ((pa + (l3 + 1)) - 1))) (lv' := [(3, .int (nI ((pa + (l3 + 1)) - 1))), (5, .int so2), (4, .int (nI la)), (0, .ref hm), (1, .int (nI k)), (2, .int (nI pa))]) C dX12_truthOf_113 rfl (nI_subc (a := (pa + (l3 + 1))) (c := 1) (by omega) rfl) rfl rfl ?_
                  refine ww_aload_n C dX12_truthOf_116 3 rfl rfl ?_
                  refine ww_aload_n C dX12_truthOf_117 3 rfl rfl ?_
                  refine ww_get C fg_X12_46 0 rfl rfl dX12_truthOf_118 ?_
                  refine ww_iconst (v := 2) C dX12_truthOf_121 rfl ?_
                  refine ww_iload_n C dX12_truthOf_122 4 rfl rfl ?_
                  refine ww_imul (v := (nI (2 * k))) C dX12_truthOf_123 (pk_mul 2 k) ?_
                  refine ww_iload_n C dX12_truthOf_124 0 rfl rfl ?_
                  refine ww_iadd (v := (nI ((2 * k) + ((pa + (l3 + 1)) - 1)))) C dX12_truthOf_125 (nI_add (2 * k) ((pa + (l3 + 1)) - 1)) ?_
                  refine ww_iload_n C dX12_truthOf_126 5 rfl rfl ?_
                  refine ww_isub (v := (nI (((2 * k) + ((pa + (l3 + 1)) - 1)) - pa))) C dX12_truthOf_127 (pk_sub (a := ((2 * k) + ((pa + (l3 + 1)) - 1))) (b := pa) (by omega)) ?_
                  have hbx_29 := (hb_afterOf (((2 * k) + ((pa + (l3 + 1)) - 1)) - pa) (by omega)).2
                  refine ww_iald (v := (nI (cN f_afterOf (((2 * k) + ((pa + (l3 + 1)) - 1)) - pa)))) C 17 rfl (vp_in_nI (by omega) (by omega)) (ldn (by omega) (hb_afterOf (((2 * k) + ((pa + (l3 + 1)) - 1)) - pa) (by omega)).1) dX12_truthOf_128 ?_
                  refine ww_iload_n C dX12_truthOf_129 0 rfl rfl ?_
                  refine ww_iload C dX12_truthOf_130 1 rfl ?_
                  have hE : cN f_afterOf (2 * k + (pa + (l3 + 1) - 1) - pa) = cN f_afterOf (2 * k + l3) := congrArg (cN f_afterOf) (by omega)
                  have hE1 := hhp (cN f_afterOf (2 * k + l3)) (by omega)
                  have hE2 : 0 < cN f_caseMany (cN f_afterOf (2 * k + l3)) := (hchn l3 (by omega)).1
                  refine ww_ci (wr := [(m_reals, .inl (E.2.1 1, 18, .inl gt_reals)), (m_factsOf, .inl (E.2.1 1, 432, .inl gt_factsOf)), (m_possible, .inl (E.2.1 1, 1728, .inl gt_possible)), (m_pile, .inl (E.2.1 1, 34, .inl gt_pile)), (m_hasIf, .inl (E.2.1 3, 16, .inl f_hasIf)), (m_becomes, .inl (E.2.1 1, 16, .inl f_becomes)), (m_goneOf, .inl (E.2.1 1, 16, .inl f_goneOf)), (m_heard, .inl (E.2.1 1, 64, .inl f_heard)), (m_actMany, .inl (E.2.1 1, 25, .inl f_actMany)), (m_actOf, .inl (E.2.1 1, 800, .inl f_actOf)), (m_whom, .inl (E.2.1 1, 800, .inl f_whom)), (m_afters, .inl (E.2.1 1, 9, .inl f_afters)), (m_afterOf, .inl (E.2.1 1, 18, .inl f_afterOf))]) (k' := 0) (n' := 0) C (run_V (As := [.int (nI (cN f_afterOf (((2 * k) + ((pa + (l3 + 1)) - 1)) - pa))), .int (nI ((pa + (l3 + 1)) - 1)), .int so2]) (rest := []) C (r_broughtBack X.2.1 E ro hm (cN f_afterOf (((2 * k) + ((pa + (l3 + 1)) - 1)) - pa)) ((pa + (l3 + 1)) - 1) so2 m_manys m_reals m_factsOf m_possible q_undos q_models m_tape q_taped q_fault q_wrong q_wrongAt q_spot q_place q_token q_value m_ends m_letters m_actOf m_whom m_actMany m_tokens m_afters m_afterOf q_counted m_pile m_caseMany m_happen m_hasIf m_becomes m_goneOf m_heard m_pairs m_heaps q_rounds q_heapMany m_led m_newAt m_knowing m_firsts q_people m_secrets m_tried m_lanes m_lengths m_cells gt_manys f_caseMany f_happen gt_pairs (lyP ((pgs gt_manys gt_reals gt_factsOf gt_possible) (pa + l3)) ((rEv f_caseMany f_happen f_hasIf f_actMany f_actOf f_whom f_becomes f_goneOf f_heard) (cN f_afterOf (2 * k + l3)))) hnb_m_manys_8 hb_caseMany hb_happen (by omega) (by omega) (by rw [hE]; exact (hchn l3 (by omega)).2.2.2) (fun u j _ hj h4 => by rw [hE] at hj; exact lyP_no hj h4) (hchn l3 (by omega)).2.1 (by rw [hE]; omega)) mi_X12_broughtBack wl_X12_270 rfl 0 12 rfl rfl rfl rfl rfl dX12_truthOf_132) (roK hro) [0, 1, 7, 8, 5] [2, 3, 4, 6, 9, 10, 11, 12, 13, 14, 15, 16, 17] rfl (gqk (by eq_refl)) (plk (by decide +kernel)) rfl (fun r_30 uz hw => ?_)
                  refine an1 hw ?_
                  clear hw
                  intro he_32 hw
                  have h_31 := hw
                  clear hw
                  subst he_32
                  refine ww_eq (ws' := [(m_reals, .inl (E.2.1 1, 18, .inl gt_reals)), (m_factsOf, .inl (E.2.1 1, 432, .inl gt_factsOf)), (m_possible, .inl (E.2.1 1, 1728, .inl gt_possible)), (m_pile, .inl (E.2.1 1, 34, .inl gt_pile)), (m_hasIf, .inl (E.2.1 3, 16, .inl f_hasIf)), (m_becomes, .inl (E.2.1 1, 16, .inl f_becomes)), (m_goneOf, .inl (E.2.1 1, 16, .inl f_goneOf)), (m_heard, .inl (E.2.1 1, 64, .inl f_heard)), (m_actMany, .inl (E.2.1 1, 25, .inl f_actMany)), (m_actOf, .inl (E.2.1 1, 800, .inl f_actOf)), (m_whom, .inl (E.2.1 1, 800, .inl f_whom)), (m_afters, .inl (E.2.1 1, 9, .inl f_afters)), (m_afterOf, .inl (E.2.1 1, 18, .inl f_afterOf)), (hm, .inr (12, [.ref m_manys, .ref m_reals, .ref m_factsOf, .ref m_possible, .int (nI q_undos), .int (nI q_models), .ref m_tape, .int (nI q_taped), .int q_fault, .int q_wrong, .int q_wrongAt, .int q_spot, .int q_place, .int q_token, .int q_value, .ref m_ends, .ref m_letters, .ref m_actOf, .ref m_whom, .ref m_actMany, .ref m_tokens, .ref m_afters, .ref m_afterOf, .int q_counted, .ref m_pile, .ref m_caseMany, .ref m_happen, .ref m_hasIf, .ref m_becomes, .ref m_goneOf, .ref m_heard, .ref m_pairs, .ref m_heaps, .int q_rounds, .int q_heapMany, .ref m_led, .ref m_newAt, .ref m_knowing, .ref m_firsts, .int (nI q_people), .ref m_secrets, .ref m_tried, .ref m_lanes, .ref m_lengths, .ref m_cells])), (m_manys, .inl (E.2.1 1, 18, .inl gt_manys)), (m_caseMany, .inl (E.2.1 1, 4, .inl f_caseMany)), (m_happen, .inl (E.2.1 1, 4, .inl f_happen)), (m_pairs, .inl (E.2.1 1, 576, .inl gt_pairs))]) ?_ rfl rfl rfl
                  refine ww_istore (lv' := [(5, .int r_30), (3, .int (nI ((pa + (l3 + 1)) - 1))), (4, .int (nI la)), (0, .ref hm), (1, .int (nI k)), (2, .int (nI pa))]) C dX12_truthOf_135 rfl rfl ?_
                  refine ww_goto (tgt := 108) C dX12_truthOf_137 (by decide) ?_
                  exact ww_lv [0, 2, 1, 3, 4, 5] rfl (ww_sub [13, 14, 0, 1, 2, 17, 3, 15, 16, 4, 5, 6, 7, 8, 9, 10, 11, 12] (ndk (by decide +kernel)) (gqk (by eq_refl)) (ih_108 l3 r_30 (by omega) (by rw [show cN f_afters k - l3 = (cN f_afters k - (l3 + 1)) + 1 by omega]; exact vW_y (hchn l3 (by omega)).2.1 (show cN f_happen (cN f_afterOf (2 * k + l3)) < 4 by have := (hb_happen (cN f_afterOf (2 * k + l3)) (by omega)).2; omega) (by have h9 := hbs; rw [show pa + (l3 + 1) = pa + l3 + 1 from rfl, (hchn l3 (by omega)).2.2.1] at h9; exact h9) (by have h9 := h_31; rw [hE] at h9; exact h9)) (by omega)))
            exact ww_lv [0, 1, 2, 3, 4, 5] rfl (ww_sub [0, 1, 2, 3, 4, 5, 6, 7, 8, 9, 10, 11, 12, 13, 14, 15, 16, 17] (ndk (by decide +kernel)) (gqk (by eq_refl)) (loop_108 _ ln r_25 (by omega) (by rw [show cN f_afters k - ln = (cN f_afters k - (ln + 1)) + 1 by have h9 := (hl0 (by omega)).1; omega]; exact vW_stop (hl0 (by omega)).2 h_26) (Nat.lt_succ_self _)))
          · have zc_23 : ((la : Nat) : Int) ≠ 0 := i_ne (nI_toInt (n := la) (by omega)) rfl c_23
            omega
        · have zc_22 : ((la : Nat) : Int) ≠ 0 := i_ne (nI_toInt (n := la) (by omega)) rfl c_22
          have h9_ : ln = a1 := hl1 (by omega)
          subst h9_
          refine ww_aload_n C dX12_truthOf_24 3 rfl rfl ?_
          refine ww_get C fg_X12_46 0 rfl rfl dX12_truthOf_25 ?_
          refine ww_iconst (v := 2) C dX12_truthOf_28 rfl ?_
          refine ww_iload_n C dX12_truthOf_29 4 rfl rfl ?_
          refine ww_imul (v := (nI (2 * k))) C dX12_truthOf_30 (pk_mul 2 k) ?_
          refine ww_iload C dX12_truthOf_31 0 rfl ?_
          refine ww_iadd (v := (nI ((2 * k) + ln))) C dX12_truthOf_33 (nI_add (2 * k) ln) ?_
          have hbx_33 := (hb_afterOf ((2 * k) + ln) (by omega)).2
          refine ww_iald (v := (nI (cN f_afterOf ((2 * k) + ln)))) C 17 rfl (vp_in_nI (by omega) (by omega)) (ldn (by omega) (hb_afterOf ((2 * k) + ln) (by omega)).1) dX12_truthOf_34 ?_
          refine ww_istore (lv' := [(6, .int (nI (cN f_afterOf ((2 * k) + ln)))), (5, .int (nI ln)), (4, .int (nI la)), (3, .int (nI (pa + ln))), (0, .ref hm), (1, .int (nI k)), (2, .int (nI pa))]) C dX12_truthOf_35 rfl rfl ?_
          refine ww_aload_n C dX12_truthOf_37 4 rfl rfl ?_
          refine ww_get C fg_X12_52 0 rfl rfl dX12_truthOf_38 ?_
          refine ww_iload C dX12_truthOf_41 0 rfl ?_
          have hbx_34 := (hb_caseMany (cN f_afterOf ((2 * k) + ln)) (by omega)).2
          refine ww_iald (v := (nI (cN f_caseMany (cN f_afterOf ((2 * k) + ln))))) C 7 rfl (vp_in_nI (by omega) (by omega)) (ldn (by omega) (hb_caseMany (cN f_afterOf ((2 * k) + ln)) (by omega)).1) dX12_truthOf_43 ?_
          refine ww_if_le (tgt := 61) C dX12_truthOf_44 (by decide) (fun c_35 => ?_) (fun c_35 => ?_)
          · have zc_35 : ((cN f_caseMany (cN f_afterOf ((2 * k) + ln)) : Nat) : Int) ≤ 0 := i_le (nI_toInt (n := cN f_caseMany (cN f_afterOf ((2 * k) + ln))) (by omega)) rfl c_35
            refine ww_iconst (v := 0) C dX12_truthOf_61 rfl ?_
            refine ww_istore (lv' := [(4, .int 0), (6, .int (nI (cN f_afterOf ((2 * k) + ln)))), (5, .int (nI ln)), (3, .int (nI (pa + ln))), (0, .ref hm), (1, .int (nI k)), (2, .int (nI pa))]) C dX12_truthOf_62 rfl rfl ?_
            refine ww_iload_n C dX12_truthOf_64 3 rfl rfl ?_
            refine ww_iload C dX12_truthOf_65 0 rfl ?_
            refine ww_if_eq_t (tgt := 74) C dX12_truthOf_67 (by decide) (rfl) ?_
            refine ww_iconst (v := 0) C dX12_truthOf_74 rfl ?_
            refine ww_iadd (v := (nI (pa + ln))) C dX12_truthOf_75 (nI_add (pa + ln) 0) ?_
            refine ww_istore_n (lv' := [(3, .int (nI (pa + ln))), (4, .int 0), (6, .int (nI (cN f_afterOf ((2 * k) + ln)))), (5, .int (nI ln)), (0, .ref hm), (1, .int (nI k)), (2, .int (nI pa))]) C dX12_truthOf_76 rfl rfl rfl ?_
            refine ww_iinc (j := 3) (v := (nI (ln + 1))) (lv' := [(5, .int (nI (ln + 1))), (3, .int (nI (pa + ln))), (4, .int 0), (6, .int (nI (cN f_afterOf ((2 * k) + ln)))), (0, .ref hm), (1, .int (nI k)), (2, .int (nI pa))]) C dX12_truthOf_77 rfl (nI_add ln 1) rfl rfl ?_
            refine ww_goto (tgt := 8) C dX12_truthOf_80 (by decide) ?_
            exact ww_lv [0, 2, 1, 4, 5, 6] rfl (ww_sub [0, 1, 2, 3, 4, 5, 6, 7, 8, 9, 10, 11, 12, 13, 14, 15, 16, 17] (ndk (by decide +kernel)) (gqk (by eq_refl)) (ih_8 ln 0 (ln + 1) gt_manys gt_reals gt_factsOf gt_possible gt_pairs gt_pile (by omega) (by omega) (by omega) (by omega) (fun _ => ⟨by omega, Or.inl (show cN f_caseMany (cN f_afterOf (2 * k + ln)) = 0 by omega)⟩) hchn hoth hk_manys hk_reals hnb_m_manys_8 hnb_m_reals_8 hpg_8 hwf_8 (by omega)))
          · have zc_35 : ((cN f_caseMany (cN f_afterOf ((2 * k) + ln)) : Nat) : Int) > 0 := i_nle (nI_toInt (n := cN f_caseMany (cN f_afterOf ((2 * k) + ln))) (by omega)) rfl c_35
            refine ww_aload_n C dX12_truthOf_47 4 rfl rfl ?_
            refine ww_iload C dX12_truthOf_48 0 rfl ?_
            refine ww_iload_n C dX12_truthOf_50 3 rfl rfl ?_
            refine ww_ci (wr := [(m_afters, .inl (E.2.1 1, 9, .inl f_afters)), (m_afterOf, .inl (E.2.1 1, 18, .inl f_afterOf))]) (k' := 0) (n' := 0) C (run_V (As := [.int (nI (cN f_afterOf ((2 * k) + ln))), .int (nI (pa + ln))]) (rest := []) C (r_laid X.2.1 E ro hm (cN f_afterOf ((2 * k) + ln)) (pa + ln) m_manys m_reals m_factsOf m_possible q_undos q_models m_tape q_taped q_fault q_wrong q_wrongAt q_spot q_place q_token q_value m_ends m_letters m_actOf m_whom m_actMany m_tokens m_afters m_afterOf q_counted m_pile m_caseMany m_happen m_hasIf m_becomes m_goneOf m_heard m_pairs m_heaps q_rounds q_heapMany m_led m_newAt m_knowing m_firsts q_people m_secrets m_tried m_lanes m_lengths m_cells gt_manys gt_reals gt_factsOf gt_possible gt_pairs gt_pile f_caseMany f_happen f_hasIf f_becomes f_goneOf f_heard f_actMany f_actOf f_whom hnb_m_manys_8 hnb_m_reals_8 hpg_8 hwf_8 hb_caseMany hb_happen hb_actMany hhp hsv (by omega) (by omega) (by omega) hWI) mi_X12_laid wl_X12_267 rfl 0 12 rfl rfl rfl rfl rfl dX12_truthOf_51) (roK hro) [0, 1, 2, 3, 4, 5, 6, 7, 8, 9, 10, 11, 12, 13, 14, 15] [16, 17] (gqk (by eq_refl)) rfl (plk (by decide +kernel)) rfl (fun r_36 uz hw => ?_)
            rcases hw with hw | hw
            · refine ex6 hw ?_
              clear hw
              intro f_manysz_37 f_realsz_38 f_factsOfz_39 f_possiblez_40 f_pairsz_41 f_pilez_42 hw
              refine an8 hw ?_
              clear hw
              intro he_52 he_53 h_43 h_44 h_45 h_46 h_47 h_48 hw
              refine an2 hw ?_
              clear hw
              intro h_49 h_50 hw
              have h_51 := hw
              clear hw
              have he_52 := he_52.symm
              subst he_52
              subst he_53
              refine ww_eq (ws' := [(m_afters, .inl (E.2.1 1, 9, .inl f_afters)), (m_afterOf, .inl (E.2.1 1, 18, .inl f_afterOf)), (hm, .inr (12, [.ref m_manys, .ref m_reals, .ref m_factsOf, .ref m_possible, .int (nI q_undos), .int (nI q_models), .ref m_tape, .int (nI q_taped), .int q_fault, .int q_wrong, .int q_wrongAt, .int q_spot, .int q_place, .int q_token, .int q_value, .ref m_ends, .ref m_letters, .ref m_actOf, .ref m_whom, .ref m_actMany, .ref m_tokens, .ref m_afters, .ref m_afterOf, .int q_counted, .ref m_pile, .ref m_caseMany, .ref m_happen, .ref m_hasIf, .ref m_becomes, .ref m_goneOf, .ref m_heard, .ref m_pairs, .ref m_heaps, .int q_rounds, .int q_heapMany, .ref m_led, .ref m_newAt, .ref m_knowing, .ref m_firsts, .int (nI q_people), .ref m_secrets, .ref m_tried, .ref m_lanes, .ref m_lengths, .ref m_cells])), (m_manys, .inl (E.2.1 1, 18, .inl f_manysz_37)), (m_reals, .inl (E.2.1 1, 18, .inl f_realsz_38)), (m_factsOf, .inl (E.2.1 1, 432, .inl f_factsOfz_39)), (m_possible, .inl (E.2.1 1, 1728, .inl f_possiblez_40)), (m_pairs, .inl (E.2.1 1, 576, .inl f_pairsz_41)), (m_pile, .inl (E.2.1 1, 34, .inl f_pilez_42)), (m_caseMany, .inl (E.2.1 1, 4, .inl f_caseMany)), (m_happen, .inl (E.2.1 1, 4, .inl f_happen)), (m_hasIf, .inl (E.2.1 3, 16, .inl f_hasIf)), (m_becomes, .inl (E.2.1 1, 16, .inl f_becomes)), (m_goneOf, .inl (E.2.1 1, 16, .inl f_goneOf)), (m_heard, .inl (E.2.1 1, 64, .inl f_heard)), (m_actMany, .inl (E.2.1 1, 25, .inl f_actMany)), (m_actOf, .inl (E.2.1 1, 800, .inl f_actOf)), (m_whom, .inl (E.2.1 1, 800, .inl f_whom))]) ?_ rfl rfl rfl
              refine ww_if_lt_t (tgt := 61) C dX12_truthOf_54 (by decide) (by decide) ?_
              refine ww_iconst (v := 0) C dX12_truthOf_61 rfl ?_
              refine ww_istore (lv' := [(4, .int 0), (6, .int (nI (cN f_afterOf ((2 * k) + ln)))), (5, .int (nI ln)), (3, .int (nI (pa + ln))), (0, .ref hm), (1, .int (nI k)), (2, .int (nI pa))]) C dX12_truthOf_62 rfl rfl ?_
              refine ww_iload_n C dX12_truthOf_64 3 rfl rfl ?_
              refine ww_iload C dX12_truthOf_65 0 rfl ?_
              refine ww_if_eq_t (tgt := 74) C dX12_truthOf_67 (by decide) (rfl) ?_
              refine ww_iconst (v := 0) C dX12_truthOf_74 rfl ?_
              refine ww_iadd (v := (nI (pa + ln))) C dX12_truthOf_75 (nI_add (pa + ln) 0) ?_
              refine ww_istore_n (lv' := [(3, .int (nI (pa + ln))), (4, .int 0), (6, .int (nI (cN f_afterOf ((2 * k) + ln)))), (5, .int (nI ln)), (0, .ref hm), (1, .int (nI k)), (2, .int (nI pa))]) C dX12_truthOf_76 rfl rfl rfl ?_
              refine ww_iinc (j := 3) (v := (nI (ln + 1))) (lv' := [(5, .int (nI (ln + 1))), (3, .int (nI (pa + ln))), (4, .int 0), (6, .int (nI (cN f_afterOf ((2 * k) + ln)))), (0, .ref hm), (1, .int (nI k)), (2, .int (nI pa))]) C dX12_truthOf_77 rfl (nI_add ln 1) rfl rfl ?_
              refine ww_goto (tgt := 8) C dX12_truthOf_80 (by decide) ?_
              exact ww_lv [0, 2, 1, 4, 5, 6] rfl (ww_sub [2, 3, 4, 5, 6, 7, 8, 9, 10, 11, 12, 13, 14, 15, 16, 17, 0, 1] (ndk (by decide +kernel)) (gqk (by eq_refl)) (ih_8 ln 0 (ln + 1) f_manysz_37 f_realsz_38 f_factsOfz_39 f_possiblez_40 f_pairsz_41 f_pilez_42 (by omega) (by omega) (by omega) (by omega) (fun _ => ⟨by omega, Or.inr (by rw [h_49 (pa + ln) (by omega) (by omega)]; exact h_51)⟩) (CHN.keep hchn h_49 h_50 (fun p hp => (hnb_m_manys_8 p hp).2) (fun j hj => (hb_caseMany _ (by have := (hb_afterOf (2 * k + j) (by omega)).2; omega)).2) (by omega) (by omega)) (KPA.oth hoth h_49 (by omega) (by omega)) (KP.tr hk_manys (KP.up h_47 (by omega))) (KP.tr hk_reals (KP.up h_48 (by omega))) h_43 h_44 h_45 h_46 (by omega)))
            · refine ex7 hw ?_
              clear hw
              intro mz_54 f_manysz_55 f_realsz_56 f_factsOfz_57 f_possiblez_58 f_pairsz_59 f_pilez_60 hw
              refine an8 hw ?_
              clear hw
              intro he_73 he_74 h_61 h_62 h_63 h_64 h_65 h_66 hw
              refine an5 hw ?_
              clear hw
              intro h_67 h_68 h_69 h_70 h_71 hw
              have h_72 := hw
              clear hw
              have he_73 := he_73.symm
              subst he_73
              subst he_74
              refine ww_eq (ws' := [(m_afters, .inl (E.2.1 1, 9, .inl f_afters)), (m_afterOf, .inl (E.2.1 1, 18, .inl f_afterOf)), (hm, .inr (12, [.ref m_manys, .ref m_reals, .ref m_factsOf, .ref m_possible, .int (nI q_undos), .int (nI q_models), .ref m_tape, .int (nI q_taped), .int q_fault, .int q_wrong, .int q_wrongAt, .int q_spot, .int q_place, .int q_token, .int q_value, .ref m_ends, .ref m_letters, .ref m_actOf, .ref m_whom, .ref m_actMany, .ref m_tokens, .ref m_afters, .ref m_afterOf, .int q_counted, .ref m_pile, .ref m_caseMany, .ref m_happen, .ref m_hasIf, .ref m_becomes, .ref m_goneOf, .ref m_heard, .ref m_pairs, .ref m_heaps, .int q_rounds, .int q_heapMany, .ref m_led, .ref m_newAt, .ref m_knowing, .ref m_firsts, .int (nI q_people), .ref m_secrets, .ref m_tried, .ref m_lanes, .ref m_lengths, .ref m_cells])), (m_manys, .inl (E.2.1 1, 18, .inl f_manysz_55)), (m_reals, .inl (E.2.1 1, 18, .inl f_realsz_56)), (m_factsOf, .inl (E.2.1 1, 432, .inl f_factsOfz_57)), (m_possible, .inl (E.2.1 1, 1728, .inl f_possiblez_58)), (m_pairs, .inl (E.2.1 1, 576, .inl f_pairsz_59)), (m_pile, .inl (E.2.1 1, 34, .inl f_pilez_60)), (m_caseMany, .inl (E.2.1 1, 4, .inl f_caseMany)), (m_happen, .inl (E.2.1 1, 4, .inl f_happen)), (m_hasIf, .inl (E.2.1 3, 16, .inl f_hasIf)), (m_becomes, .inl (E.2.1 1, 16, .inl f_becomes)), (m_goneOf, .inl (E.2.1 1, 16, .inl f_goneOf)), (m_heard, .inl (E.2.1 1, 64, .inl f_heard)), (m_actMany, .inl (E.2.1 1, 25, .inl f_actMany)), (m_actOf, .inl (E.2.1 1, 800, .inl f_actOf)), (m_whom, .inl (E.2.1 1, 800, .inl f_whom))]) ?_ rfl rfl rfl
              refine ww_if_lt (tgt := 61) C dX12_truthOf_54 (by decide) (fun c_75 => ?_) (fun c_75 => ?_)
              · have zc_75 : ((mz_54 : Nat) : Int) < 0 := i_lt (nI_toInt (n := mz_54) (by omega)) rfl c_75
                omega
              · have zc_75 : ((mz_54 : Nat) : Int) ≥ 0 := i_nlt (nI_toInt (n := mz_54) (by omega)) rfl c_75
                refine ww_iconst (v := 1) C dX12_truthOf_57 rfl ?_
                refine ww_goto (tgt := 62) C dX12_truthOf_58 (by decide) ?_
                refine ww_istore (lv' := [(4, .int 1), (6, .int (nI (cN f_afterOf ((2 * k) + ln)))), (5, .int (nI ln)), (3, .int (nI (pa + ln))), (0, .ref hm), (1, .int (nI k)), (2, .int (nI pa))]) C dX12_truthOf_62 rfl rfl ?_
                refine ww_iload_n C dX12_truthOf_64 3 rfl rfl ?_
                refine ww_iload C dX12_truthOf_65 0 rfl ?_
                refine ww_if_eq_f (tgt := 74) C dX12_truthOf_67 (by decide) (by decide) ?_
                refine ww_iconst (v := 1) C dX12_truthOf_70 rfl ?_
                refine ww_goto (tgt := 75) C dX12_truthOf_71 (by decide) ?_
                refine ww_iadd (v := (nI ((pa + ln) + 1))) C dX12_truthOf_75 (nI_add (pa + ln) 1) ?_
                refine ww_istore_n (lv' := [(3, .int (nI ((pa + ln) + 1))), (4, .int 1), (6, .int (nI (cN f_afterOf ((2 * k) + ln)))), (5, .int (nI ln)), (0, .ref hm), (1, .int (nI k)), (2, .int (nI pa))]) C dX12_truthOf_76 rfl rfl rfl ?_
                refine ww_iinc (j := 3) (v := (nI (ln + 1))) (lv' := [(5, .int (nI (ln + 1))), (3, .int (nI ((pa + ln) + 1))), (4, .int 1), (6, .int (nI (cN f_afterOf ((2 * k) + ln)))), (0, .ref hm), (1, .int (nI k)), (2, .int (nI pa))]) C dX12_truthOf_77 rfl (nI_add ln 1) rfl rfl ?_
                refine ww_goto (tgt := 8) C dX12_truthOf_80 (by decide) ?_
                exact ww_lv [0, 2, 1, 4, 5, 6] rfl (ww_sub [2, 3, 4, 5, 6, 7, 8, 9, 10, 11, 12, 13, 14, 15, 16, 17, 0, 1] (ndk (by decide +kernel)) (gqk (by eq_refl)) (ih_8 (ln + 1) 1 (ln + 1) f_manysz_55 f_realsz_56 f_factsOfz_57 f_possiblez_58 f_pairsz_59 f_pilez_60 (by omega) (by omega) (by omega) (by omega) (fun h9 => absurd h9 (by decide)) (CHN.ext hchn h_67 h_68 (fun p hp => (hnb_m_manys_8 p hp).2) (fun j hj => (hb_caseMany _ (by have := (hb_afterOf (2 * k + j) (by omega)).2; omega)).2) (by omega) (by omega) (show 0 < cN f_caseMany (cN f_afterOf (2 * k + ln)) by omega) (by rw [h_69]; omega) h_70 h_71) (KPA.oth hoth h_67 (by omega) (by omega)) (KP.tr hk_manys (KP.up h_65 (by omega))) (KP.tr hk_reals (KP.up h_66 (by omega))) h_61 h_62 h_63 h_64 (by omega)))
  exact ww_lv [0, 1, 2, 3, 4, 5] rfl (ww_sub [0, 1, 2, 3, 4, 5, 6, 7, 8, 9, 10, 11, 12, 13, 14, 15, 16, 17] (ndk (by decide +kernel)) (gqk (by eq_refl)) (loop_8 _ 0 1 0 f_manys f_reals f_factsOf f_possible f_pairs f_pile (by omega) (by omega) (by omega) (by omega) (fun h9 => absurd h9 (by decide)) CHN.nil KPA.rf KP.rf KP.rf hb_manys hb_reals hpg hwf (Nat.lt_succ_self _)))
end
