/-! ===== printed by wip/p58/tools: p58's law itself ===== -/
abbrev cL_law : ByteArray := code
def yL_law : MethodName := ⟨RL, "law", "([I)Z"⟩
theorem dL_law_0 : decode cL_law 0 = .ok (.new 8, 3) := by decide +kernel
theorem dL_law_3 : decode cL_law 3 = .ok (.dup, 1) := by decide +kernel
theorem dL_law_4 : decode cL_law 4 = .ok (.invokespecial 309, 3) := by decide +kernel
theorem dL_law_7 : decode cL_law 7 = .ok (.astore_n 1, 1) := by decide +kernel
theorem dL_law_8 : decode cL_law 8 = .ok (.new 8, 3) := by decide +kernel
theorem dL_law_11 : decode cL_law 11 = .ok (.dup, 1) := by decide +kernel
theorem dL_law_12 : decode cL_law 12 = .ok (.invokespecial 309, 3) := by decide +kernel
theorem dL_law_15 : decode cL_law 15 = .ok (.astore_n 2, 1) := by decide +kernel
theorem dL_law_16 : decode cL_law 16 = .ok (.iconst 1, 1) := by decide +kernel
theorem dL_law_17 : decode cL_law 17 = .ok (.newarray .int, 2) := by decide +kernel
theorem dL_law_19 : decode cL_law 19 = .ok (.astore_n 3, 1) := by decide +kernel
theorem dL_law_20 : decode cL_law 20 = .ok (.bipush 20, 2) := by decide +kernel
theorem dL_law_22 : decode cL_law 22 = .ok (.aload_n 0, 1) := by decide +kernel
theorem dL_law_23 : decode cL_law 23 = .ok (.iconst 0, 1) := by decide +kernel
theorem dL_law_24 : decode cL_law 24 = .ok (.invokestatic 310, 3) := by decide +kernel
theorem dL_law_27 : decode cL_law 27 = .ok (.bipush 31, 2) := by decide +kernel
theorem dL_law_29 : decode cL_law 29 = .ok (.irem, 1) := by decide +kernel
theorem dL_law_30 : decode cL_law 30 = .ok (.iadd, 1) := by decide +kernel
theorem dL_law_31 : decode cL_law 31 = .ok (.istore 4, 2) := by decide +kernel
theorem dL_law_33 : decode cL_law 33 = .ok (.iconst 1, 1) := by decide +kernel
theorem dL_law_34 : decode cL_law 34 = .ok (.istore 5, 2) := by decide +kernel
theorem dL_law_36 : decode cL_law 36 = .ok (.iconst 0, 1) := by decide +kernel
theorem dL_law_37 : decode cL_law 37 = .ok (.istore 6, 2) := by decide +kernel
theorem dL_law_39 : decode cL_law 39 = .ok (.iload 6, 2) := by decide +kernel
theorem dL_law_41 : decode cL_law 41 = .ok (.iload 4, 2) := by decide +kernel
theorem dL_law_43 : decode cL_law 43 = .ok (.if_icmp .ge 185, 3) := by decide +kernel
theorem dL_law_46 : decode cL_law 46 = .ok (.iload 5, 2) := by decide +kernel
theorem dL_law_48 : decode cL_law 48 = .ok (.ifCond .eq 180, 3) := by decide +kernel
theorem dL_law_51 : decode cL_law 51 = .ok (.aload_n 0, 1) := by decide +kernel
theorem dL_law_52 : decode cL_law 52 = .ok (.iconst 1, 1) := by decide +kernel
theorem dL_law_53 : decode cL_law 53 = .ok (.iload 6, 2) := by decide +kernel
theorem dL_law_55 : decode cL_law 55 = .ok (.iadd, 1) := by decide +kernel
theorem dL_law_56 : decode cL_law 56 = .ok (.invokestatic 310, 3) := by decide +kernel
theorem dL_law_59 : decode cL_law 59 = .ok (.istore 7, 2) := by decide +kernel
theorem dL_law_61 : decode cL_law 61 = .ok (.aload_n 1, 1) := by decide +kernel
theorem dL_law_62 : decode cL_law 62 = .ok (.iload 7, 2) := by decide +kernel
theorem dL_law_64 : decode cL_law 64 = .ok (.invokestatic 314, 3) := by decide +kernel
theorem dL_law_67 : decode cL_law 67 = .ok (.istore 8, 2) := by decide +kernel
theorem dL_law_69 : decode cL_law 69 = .ok (.aload_n 2, 1) := by decide +kernel
theorem dL_law_70 : decode cL_law 70 = .ok (.aload_n 3, 1) := by decide +kernel
theorem dL_law_71 : decode cL_law 71 = .ok (.iload 7, 2) := by decide +kernel
theorem dL_law_73 : decode cL_law 73 = .ok (.sipush 9973, 3) := by decide +kernel
theorem dL_law_76 : decode cL_law 76 = .ok (.irem, 1) := by decide +kernel
theorem dL_law_77 : decode cL_law 77 = .ok (.invokestatic 317, 3) := by decide +kernel
theorem dL_law_80 : decode cL_law 80 = .ok (.ifCond .eq 18, 3) := by decide +kernel
theorem dL_law_83 : decode cL_law 83 = .ok (.aload_n 2, 1) := by decide +kernel
theorem dL_law_84 : decode cL_law 84 = .ok (.iload 7, 2) := by decide +kernel
theorem dL_law_86 : decode cL_law 86 = .ok (.invokestatic 314, 3) := by decide +kernel
theorem dL_law_89 : decode cL_law 89 = .ok (.iload 8, 2) := by decide +kernel
theorem dL_law_91 : decode cL_law 91 = .ok (.if_icmp .ne 7, 3) := by decide +kernel
theorem dL_law_94 : decode cL_law 94 = .ok (.iconst 1, 1) := by decide +kernel
theorem dL_law_95 : decode cL_law 95 = .ok (.goto 4, 3) := by decide +kernel
theorem dL_law_98 : decode cL_law 98 = .ok (.iconst 0, 1) := by decide +kernel
theorem dL_law_99 : decode cL_law 99 = .ok (.istore 5, 2) := by decide +kernel
theorem dL_law_101 : decode cL_law 101 = .ok (.iload 7, 2) := by decide +kernel
theorem dL_law_103 : decode cL_law 103 = .ok (.bipush 24, 2) := by decide +kernel
theorem dL_law_105 : decode cL_law 105 = .ok (.irem, 1) := by decide +kernel
theorem dL_law_106 : decode cL_law 106 = .ok (.istore 9, 2) := by decide +kernel
theorem dL_law_108 : decode cL_law 108 = .ok (.aload_n 3, 1) := by decide +kernel
theorem dL_law_109 : decode cL_law 109 = .ok (.iconst 0, 1) := by decide +kernel
theorem dL_law_110 : decode cL_law 110 = .ok (.iload 9, 2) := by decide +kernel
theorem dL_law_112 : decode cL_law 112 = .ok (.bipush 9, 2) := by decide +kernel
theorem dL_law_114 : decode cL_law 114 = .ok (.if_icmp .ge 13, 3) := by decide +kernel
theorem dL_law_117 : decode cL_law 117 = .ok (.iload 8, 2) := by decide +kernel
theorem dL_law_119 : decode cL_law 119 = .ok (.ifCond .le 8, 3) := by decide +kernel
theorem dL_law_122 : decode cL_law 122 = .ok (.iload 8, 2) := by decide +kernel
theorem dL_law_124 : decode cL_law 124 = .ok (.goto 24, 3) := by decide +kernel
theorem dL_law_127 : decode cL_law 127 = .ok (.iload 9, 2) := by decide +kernel
theorem dL_law_129 : decode cL_law 129 = .ok (.bipush 8, 2) := by decide +kernel
theorem dL_law_131 : decode cL_law 131 = .ok (.if_icmp .le 14, 3) := by decide +kernel
theorem dL_law_134 : decode cL_law 134 = .ok (.iload 9, 2) := by decide +kernel
theorem dL_law_136 : decode cL_law 136 = .ok (.bipush 13, 2) := by decide +kernel
theorem dL_law_138 : decode cL_law 138 = .ok (.if_icmp .ge 7, 3) := by decide +kernel
theorem dL_law_141 : decode cL_law 141 = .ok (.iconst 0, 1) := by decide +kernel
theorem dL_law_142 : decode cL_law 142 = .ok (.goto 6, 3) := by decide +kernel
theorem dL_law_145 : decode cL_law 145 = .ok (.aload_n 3, 1) := by decide +kernel
theorem dL_law_146 : decode cL_law 146 = .ok (.iconst 0, 1) := by decide +kernel
theorem dL_law_147 : decode cL_law 147 = .ok (.iaload, 1) := by decide +kernel
theorem dL_law_148 : decode cL_law 148 = .ok (.iastore, 1) := by decide +kernel
theorem dL_law_149 : decode cL_law 149 = .ok (.iload 5, 2) := by decide +kernel
theorem dL_law_151 : decode cL_law 151 = .ok (.ifCond .eq 68, 3) := by decide +kernel
theorem dL_law_154 : decode cL_law 154 = .ok (.iload 6, 2) := by decide +kernel
theorem dL_law_156 : decode cL_law 156 = .ok (.iconst 3, 1) := by decide +kernel
theorem dL_law_157 : decode cL_law 157 = .ok (.irem, 1) := by decide +kernel
theorem dL_law_158 : decode cL_law 158 = .ok (.ifCond .gt 17, 3) := by decide +kernel
theorem dL_law_161 : decode cL_law 161 = .ok (.aload_n 2, 1) := by decide +kernel
theorem dL_law_162 : decode cL_law 162 = .ok (.aload_n 3, 1) := by decide +kernel
theorem dL_law_163 : decode cL_law 163 = .ok (.iload 7, 2) := by decide +kernel
theorem dL_law_165 : decode cL_law 165 = .ok (.sipush 499, 3) := by decide +kernel
theorem dL_law_168 : decode cL_law 168 = .ok (.irem, 1) := by decide +kernel
theorem dL_law_169 : decode cL_law 169 = .ok (.invokestatic 317, 3) := by decide +kernel
theorem dL_law_172 : decode cL_law 172 = .ok (.ifCond .eq 47, 3) := by decide +kernel
theorem dL_law_175 : decode cL_law 175 = .ok (.iload 6, 2) := by decide +kernel
theorem dL_law_177 : decode cL_law 177 = .ok (.iconst 2, 1) := by decide +kernel
theorem dL_law_178 : decode cL_law 178 = .ok (.irem, 1) := by decide +kernel
theorem dL_law_179 : decode cL_law 179 = .ok (.ifCond .gt 15, 3) := by decide +kernel
theorem dL_law_182 : decode cL_law 182 = .ok (.aload_n 1, 1) := by decide +kernel
theorem dL_law_183 : decode cL_law 183 = .ok (.aload_n 2, 1) := by decide +kernel
theorem dL_law_184 : decode cL_law 184 = .ok (.iload 7, 2) := by decide +kernel
theorem dL_law_186 : decode cL_law 186 = .ok (.iconst 3, 1) := by decide +kernel
theorem dL_law_187 : decode cL_law 187 = .ok (.idiv, 1) := by decide +kernel
theorem dL_law_188 : decode cL_law 188 = .ok (.invokestatic 321, 3) := by decide +kernel
theorem dL_law_191 : decode cL_law 191 = .ok (.ifCond .eq 28, 3) := by decide +kernel
theorem dL_law_194 : decode cL_law 194 = .ok (.iload 6, 2) := by decide +kernel
theorem dL_law_196 : decode cL_law 196 = .ok (.iconst 4, 1) := by decide +kernel
theorem dL_law_197 : decode cL_law 197 = .ok (.irem, 1) := by decide +kernel
theorem dL_law_198 : decode cL_law 198 = .ok (.ifCond .gt 17, 3) := by decide +kernel
theorem dL_law_201 : decode cL_law 201 = .ok (.aload_n 2, 1) := by decide +kernel
theorem dL_law_202 : decode cL_law 202 = .ok (.invokestatic 325, 3) := by decide +kernel
theorem dL_law_205 : decode cL_law 205 = .ok (.ifCond .eq 14, 3) := by decide +kernel
theorem dL_law_208 : decode cL_law 208 = .ok (.aload_n 2, 1) := by decide +kernel
theorem dL_law_209 : decode cL_law 209 = .ok (.invokestatic 329, 3) := by decide +kernel
theorem dL_law_212 : decode cL_law 212 = .ok (.ifCond .eq 7, 3) := by decide +kernel
theorem dL_law_215 : decode cL_law 215 = .ok (.iconst 1, 1) := by decide +kernel
theorem dL_law_216 : decode cL_law 216 = .ok (.goto 4, 3) := by decide +kernel
theorem dL_law_219 : decode cL_law 219 = .ok (.iconst 0, 1) := by decide +kernel
theorem dL_law_220 : decode cL_law 220 = .ok (.istore 5, 2) := by decide +kernel
theorem dL_law_222 : decode cL_law 222 = .ok (.iinc 6 1, 3) := by decide +kernel
theorem dL_law_225 : decode cL_law 225 = .ok (.goto (-186), 3) := by decide +kernel
theorem dL_law_228 : decode cL_law 228 = .ok (.aload_n 1, 1) := by decide +kernel
theorem dL_law_229 : decode cL_law 229 = .ok (.invokevirtual 296, 3) := by decide +kernel
theorem dL_law_232 : decode cL_law 232 = .ok (.istore 6, 2) := by decide +kernel
theorem dL_law_234 : decode cL_law 234 = .ok (.iload 5, 2) := by decide +kernel
theorem dL_law_236 : decode cL_law 236 = .ok (.ifCond .eq 48, 3) := by decide +kernel
theorem dL_law_239 : decode cL_law 239 = .ok (.aload_n 1, 1) := by decide +kernel
theorem dL_law_240 : decode cL_law 240 = .ok (.invokevirtual 282, 3) := by decide +kernel
theorem dL_law_243 : decode cL_law 243 = .ok (.aload_n 2, 1) := by decide +kernel
theorem dL_law_244 : decode cL_law 244 = .ok (.invokevirtual 282, 3) := by decide +kernel
theorem dL_law_247 : decode cL_law 247 = .ok (.if_icmp .ne 37, 3) := by decide +kernel
theorem dL_law_250 : decode cL_law 250 = .ok (.aload_n 1, 1) := by decide +kernel
theorem dL_law_251 : decode cL_law 251 = .ok (.aload_n 2, 1) := by decide +kernel
theorem dL_law_252 : decode cL_law 252 = .ok (.aload_n 0, 1) := by decide +kernel
theorem dL_law_253 : decode cL_law 253 = .ok (.iconst 0, 1) := by decide +kernel
theorem dL_law_254 : decode cL_law 254 = .ok (.invokestatic 310, 3) := by decide +kernel
theorem dL_law_257 : decode cL_law 257 = .ok (.bipush 29, 2) := by decide +kernel
theorem dL_law_259 : decode cL_law 259 = .ok (.idiv, 1) := by decide +kernel
theorem dL_law_260 : decode cL_law 260 = .ok (.invokestatic 321, 3) := by decide +kernel
theorem dL_law_263 : decode cL_law 263 = .ok (.ifCond .eq 21, 3) := by decide +kernel
theorem dL_law_266 : decode cL_law 266 = .ok (.aload_n 1, 1) := by decide +kernel
theorem dL_law_267 : decode cL_law 267 = .ok (.invokestatic 325, 3) := by decide +kernel
theorem dL_law_270 : decode cL_law 270 = .ok (.ifCond .eq 14, 3) := by decide +kernel
theorem dL_law_273 : decode cL_law 273 = .ok (.aload_n 1, 1) := by decide +kernel
theorem dL_law_274 : decode cL_law 274 = .ok (.invokestatic 329, 3) := by decide +kernel
theorem dL_law_277 : decode cL_law 277 = .ok (.ifCond .eq 7, 3) := by decide +kernel
theorem dL_law_280 : decode cL_law 280 = .ok (.iconst 1, 1) := by decide +kernel
theorem dL_law_281 : decode cL_law 281 = .ok (.goto 4, 3) := by decide +kernel
theorem dL_law_284 : decode cL_law 284 = .ok (.iconst 0, 1) := by decide +kernel
theorem dL_law_285 : decode cL_law 285 = .ok (.istore 5, 2) := by decide +kernel
theorem dL_law_287 : decode cL_law 287 = .ok (.aload_n 1, 1) := by decide +kernel
theorem dL_law_288 : decode cL_law 288 = .ok (.invokestatic 291, 3) := by decide +kernel
theorem dL_law_291 : decode cL_law 291 = .ok (.istore 7, 2) := by decide +kernel
theorem dL_law_293 : decode cL_law 293 = .ok (.iload 5, 2) := by decide +kernel
theorem dL_law_295 : decode cL_law 295 = .ok (.ifCond .eq 95, 3) := by decide +kernel
theorem dL_law_298 : decode cL_law 298 = .ok (.iload 7, 2) := by decide +kernel
theorem dL_law_300 : decode cL_law 300 = .ok (.ifCond .lt 86, 3) := by decide +kernel
theorem dL_law_303 : decode cL_law 303 = .ok (.aload_n 1, 1) := by decide +kernel
theorem dL_law_304 : decode cL_law 304 = .ok (.iload 7, 2) := by decide +kernel
theorem dL_law_306 : decode cL_law 306 = .ok (.iload 7, 2) := by decide +kernel
theorem dL_law_308 : decode cL_law 308 = .ok (.invokestatic 275, 3) := by decide +kernel
theorem dL_law_311 : decode cL_law 311 = .ok (.ifCond .ne 79, 3) := by decide +kernel
theorem dL_law_314 : decode cL_law 314 = .ok (.aload_n 1, 1) := by decide +kernel
theorem dL_law_315 : decode cL_law 315 = .ok (.iload 7, 2) := by decide +kernel
theorem dL_law_317 : decode cL_law 317 = .ok (.iload 7, 2) := by decide +kernel
theorem dL_law_319 : decode cL_law 319 = .ok (.iload 7, 2) := by decide +kernel
theorem dL_law_321 : decode cL_law 321 = .ok (.invokestatic 277, 3) := by decide +kernel
theorem dL_law_324 : decode cL_law 324 = .ok (.ifCond .ne 66, 3) := by decide +kernel
theorem dL_law_327 : decode cL_law 327 = .ok (.aload_n 1, 1) := by decide +kernel
theorem dL_law_328 : decode cL_law 328 = .ok (.iconst 0, 1) := by decide +kernel
theorem dL_law_329 : decode cL_law 329 = .ok (.iconst 0, 1) := by decide +kernel
theorem dL_law_330 : decode cL_law 330 = .ok (.iconst 1, 1) := by decide +kernel
theorem dL_law_331 : decode cL_law 331 = .ok (.invokestatic 178, 3) := by decide +kernel
theorem dL_law_334 : decode cL_law 334 = .ok (.iconst 1, 1) := by decide +kernel
theorem dL_law_335 : decode cL_law 335 = .ok (.if_icmp .ne 55, 3) := by decide +kernel
theorem dL_law_338 : decode cL_law 338 = .ok (.aload_n 1, 1) := by decide +kernel
theorem dL_law_339 : decode cL_law 339 = .ok (.invokevirtual 282, 3) := by decide +kernel
theorem dL_law_342 : decode cL_law 342 = .ok (.iconst 1, 1) := by decide +kernel
theorem dL_law_343 : decode cL_law 343 = .ok (.if_icmp .ne 47, 3) := by decide +kernel
theorem dL_law_346 : decode cL_law 346 = .ok (.aload_n 1, 1) := by decide +kernel
theorem dL_law_347 : decode cL_law 347 = .ok (.iload 7, 2) := by decide +kernel
theorem dL_law_349 : decode cL_law 349 = .ok (.invokestatic 273, 3) := by decide +kernel
theorem dL_law_352 : decode cL_law 352 = .ok (.iload 6, 2) := by decide +kernel
theorem dL_law_354 : decode cL_law 354 = .ok (.if_icmp .ne 7, 3) := by decide +kernel
theorem dL_law_357 : decode cL_law 357 = .ok (.iconst 1, 1) := by decide +kernel
theorem dL_law_358 : decode cL_law 358 = .ok (.goto 4, 3) := by decide +kernel
theorem dL_law_361 : decode cL_law 361 = .ok (.iconst 0, 1) := by decide +kernel
theorem dL_law_362 : decode cL_law 362 = .ok (.aload_n 1, 1) := by decide +kernel
theorem dL_law_363 : decode cL_law 363 = .ok (.invokevirtual 296, 3) := by decide +kernel
theorem dL_law_366 : decode cL_law 366 = .ok (.iload 6, 2) := by decide +kernel
theorem dL_law_368 : decode cL_law 368 = .ok (.if_icmp .ne 7, 3) := by decide +kernel
theorem dL_law_371 : decode cL_law 371 = .ok (.iconst 1, 1) := by decide +kernel
theorem dL_law_372 : decode cL_law 372 = .ok (.goto 4, 3) := by decide +kernel
theorem dL_law_375 : decode cL_law 375 = .ok (.iconst 0, 1) := by decide +kernel
theorem dL_law_376 : decode cL_law 376 = .ok (.if_icmp .ne 14, 3) := by decide +kernel
theorem dL_law_379 : decode cL_law 379 = .ok (.aload_n 1, 1) := by decide +kernel
theorem dL_law_380 : decode cL_law 380 = .ok (.invokestatic 325, 3) := by decide +kernel
theorem dL_law_383 : decode cL_law 383 = .ok (.ifCond .eq 7, 3) := by decide +kernel
theorem dL_law_386 : decode cL_law 386 = .ok (.iconst 1, 1) := by decide +kernel
theorem dL_law_387 : decode cL_law 387 = .ok (.goto 4, 3) := by decide +kernel
theorem dL_law_390 : decode cL_law 390 = .ok (.iconst 0, 1) := by decide +kernel
theorem dL_law_391 : decode cL_law 391 = .ok (.ireturn, 1) := by decide +kernel
theorem tk_RL_8 : Cond.classLink RL 8 RX10 ∈ tq_G := tq_g (i := 74) (by decide +kernel) rfl
theorem tk_in10 : Cond.instantiable RX10 19 ∈ tq_G := tq_g (i := 75) (by decide +kernel) rfl
theorem tk_ini10 : Cond.initialized RX10 ∈ tq_G := tq_g (i := 53) (by decide +kernel) rfl
theorem tk_RL_309 : Cond.methodLink RL 309 yX10_init ∈ tq_G := tq_g (i := 76) (by decide +kernel) rfl
theorem tk_RL_310 : Cond.methodLink RL 310 yL_drawn ∈ tq_G := tq_g (i := 1051) (by decide +kernel) rfl
theorem tk_kb_31 : (Int8.ofInt (31)).toInt32 = (31 : Int32) := by decide +kernel
theorem tk_RL_314 : Cond.methodLink RL 314 yL_act ∈ tq_G := tq_g (i := 1575) (by decide +kernel) rfl
theorem tk_ks_9973 : (Int16.ofInt (9973)).toInt32 = (9973 : Int32) := by decide +kernel
theorem tk_RL_317 : Cond.methodLink RL 317 yL_refuses ∈ tq_G := tq_g (i := 1056) (by decide +kernel) rfl
set_option maxRecDepth 1000000 in
theorem tk_y_L_act : tq_yok yL_act cL_act 7 (some .int) 2 := ⟨tq_g (i := 1577) (by rfl) rfl, tq_g (i := 52) (by decide +kernel) rfl, ⟨by decide +kernel, by decide +kernel⟩, by decide +kernel, by decide⟩
theorem tk_s_L_act : Cond.static yL_act ∈ tq_G := tq_g (i := 1576) (by decide +kernel) rfl
theorem tk_RL_325 : Cond.methodLink RL 325 yL_isTree ∈ tq_G := tq_g (i := 1710) (by decide +kernel) rfl
theorem tk_RL_329 : Cond.methodLink RL 329 yL_finds ∈ tq_G := tq_g (i := 1717) (by decide +kernel) rfl
theorem tk_y_L_finds : tq_yok yL_finds cL_finds 8 (some .boolean) 1 := ⟨tq_g (i := 1719) (by decide +kernel) rfl, tq_g (i := 52) (by decide +kernel) rfl, ⟨by decide +kernel, by decide +kernel⟩, by decide +kernel, by decide⟩
theorem tk_s_L_finds : Cond.static yL_finds ∈ tq_G := tq_g (i := 1718) (by decide +kernel) rfl
theorem tk_y_L_isTree : tq_yok yL_isTree cL_isTree 8 (some .boolean) 1 := ⟨tq_g (i := 1712) (by decide +kernel) rfl, tq_g (i := 52) (by decide +kernel) rfl, ⟨by decide +kernel, by decide +kernel⟩, by decide +kernel, by decide⟩
theorem tk_s_L_isTree : Cond.static yL_isTree ∈ tq_G := tq_g (i := 1711) (by decide +kernel) rfl
theorem tk_RL_321 : Cond.methodLink RL 321 yL_alike ∈ tq_G := tq_g (i := 1699) (by decide +kernel) rfl
theorem tk_y_L_alike : tq_yok yL_alike cL_alike 5 (some .boolean) 3 := ⟨tq_g (i := 1701) (by decide +kernel) rfl, tq_g (i := 52) (by decide +kernel) rfl, ⟨by decide +kernel, by decide +kernel⟩, by decide +kernel, by decide⟩
theorem tk_s_L_alike : Cond.static yL_alike ∈ tq_G := tq_g (i := 1700) (by decide +kernel) rfl
theorem tk_ks_499 : (Int16.ofInt (499)).toInt32 = (499 : Int32) := by decide +kernel
set_option maxRecDepth 1000000 in
theorem tk_y_L_refuses : tq_yok yL_refuses cL_refuses 12 (some .boolean) 3 := ⟨tq_g (i := 1058) (by rfl) rfl, tq_g (i := 52) (by decide +kernel) rfl, ⟨by decide +kernel, by decide +kernel⟩, by decide +kernel, by decide⟩
theorem tk_s_L_refuses : Cond.static yL_refuses ∈ tq_G := tq_g (i := 1057) (by decide +kernel) rfl
theorem tk_y_L_drawn : tq_yok yL_drawn cL_drawn 2 (some .int) 2 := ⟨tq_g (i := 1053) (by decide +kernel) rfl, tq_g (i := 52) (by decide +kernel) rfl, ⟨by decide +kernel, by decide +kernel⟩, by decide +kernel, by decide⟩
theorem tk_s_L_drawn : Cond.static yL_drawn ∈ tq_G := tq_g (i := 1052) (by decide +kernel) rfl
theorem tk_kb_29 : (Int8.ofInt (29)).toInt32 = (29 : Int32) := by decide +kernel
theorem tk_y_X10_init : tq_yok yX10_init cX10_init 1 none 0 := ⟨tq_g (i := 78) (by decide +kernel) rfl, tq_g (i := 53) (by decide +kernel) rfl, ⟨by decide +kernel, by decide +kernel⟩, by decide +kernel, by decide⟩
theorem tk_v_X10_init : Cond.instanceMethod yX10_init ∈ tq_G := tq_g (i := 77) (by decide +kernel) rfl
abbrev mL_law (b sn : Nat) (xs : Nat → Int32) : tq_M := (RL, cL_law, 10, (some .boolean), false, [], some (b, sn, xs))
def f_L_law_b39 (sn : Nat) (xs : Nat → Int32) (i1 : Nat) (i2 : Nat) (i3 : Nat) (i4 : Int32) (s : Int32 × Int32 × tq_H) : Option ((Int32 × Int32 × tq_H) ⊕ (Int32 × tq_H)) := match s with
  | (y5, y6, hh) =>
    if y6 ≥ i4 then
      some (.inr (y5, hh))
    else
      if y5 = 0 then
        some (.inr (y5, hh))
      else
        (f_L_drawn sn xs ((1 : Int32) + y6)).bind fun v8 =>
        (f_L_act i1 v8 hh).bind fun v9 =>
        (f_L_refuses i2 i3 (v8 - v8 / (9973 : Int32) * (9973 : Int32)) v9.2).bind fun v10 =>
        (if v10.1 = 0 then
          some ((0 : Int32), v10.2)
        else
          (f_L_act i2 v8 v10.2).bind fun v11 =>
          if v11.1 = v9.1 then
            some ((1 : Int32), v11.2)
          else
            some ((0 : Int32), v11.2)).bind fun p12 =>
        tq_let ((v8 - v8 / (24 : Int32) * (24 : Int32))) fun x13 =>
        (if x13 ≥ (9 : Int32) then
          if x13 ≤ (8 : Int32) then
            (tq_ai p12.2 i3 (0 : Int32)).bind fun x14 =>
            some x14
          else
            if x13 ≥ (13 : Int32) then
              (tq_ai p12.2 i3 (0 : Int32)).bind fun x15 =>
              some x15
            else
              some (0 : Int32)
        else
          if v9.1 ≤ 0 then
            if x13 ≤ (8 : Int32) then
              (tq_ai p12.2 i3 (0 : Int32)).bind fun x16 =>
              some x16
            else
              if x13 ≥ (13 : Int32) then
                (tq_ai p12.2 i3 (0 : Int32)).bind fun x17 =>
                some x17
              else
                some (0 : Int32)
          else
            some v9.1).bind fun p18 =>
        (tq_si p12.2 i3 (0 : Int32) p18).bind fun w19 =>
        (if p12.1 = 0 then
          some ((0 : Int32), w19)
        else
          if (y6 - y6 / (3 : Int32) * (3 : Int32)) > 0 then
            if (y6 - y6 / (2 : Int32) * (2 : Int32)) > 0 then
              if (y6 - y6 / (4 : Int32) * (4 : Int32)) > 0 then
                some ((1 : Int32), w19)
              else
                (f_L_isTree i2 w19).bind fun v20 =>
                if v20.1 = 0 then
                  some ((0 : Int32), v20.2)
                else
                  (f_L_finds i2 v20.2).bind fun v21 =>
                  if v21.1 = 0 then
                    some ((0 : Int32), v21.2)
                  else
                    some ((1 : Int32), v21.2)
            else
              (f_L_alike i1 i2 (v8 / (3 : Int32)) w19).bind fun v22 =>
              if v22.1 = 0 then
                some ((0 : Int32), v22.2)
              else
                if (y6 - y6 / (4 : Int32) * (4 : Int32)) > 0 then
                  some ((1 : Int32), v22.2)
                else
                  (f_L_isTree i2 v22.2).bind fun v23 =>
                  if v23.1 = 0 then
                    some ((0 : Int32), v23.2)
                  else
                    (f_L_finds i2 v23.2).bind fun v24 =>
                    if v24.1 = 0 then
                      some ((0 : Int32), v24.2)
                    else
                      some ((1 : Int32), v24.2)
          else
            (f_L_refuses i2 i3 (v8 - v8 / (499 : Int32) * (499 : Int32)) w19).bind fun v25 =>
            if v25.1 = 0 then
              some ((0 : Int32), v25.2)
            else
              if (y6 - y6 / (2 : Int32) * (2 : Int32)) > 0 then
                if (y6 - y6 / (4 : Int32) * (4 : Int32)) > 0 then
                  some ((1 : Int32), v25.2)
                else
                  (f_L_isTree i2 v25.2).bind fun v26 =>
                  if v26.1 = 0 then
                    some ((0 : Int32), v26.2)
                  else
                    (f_L_finds i2 v26.2).bind fun v27 =>
                    if v27.1 = 0 then
                      some ((0 : Int32), v27.2)
                    else
                      some ((1 : Int32), v27.2)
              else
                (f_L_alike i1 i2 (v8 / (3 : Int32)) v25.2).bind fun v28 =>
                if v28.1 = 0 then
                  some ((0 : Int32), v28.2)
                else
                  if (y6 - y6 / (4 : Int32) * (4 : Int32)) > 0 then
                    some ((1 : Int32), v28.2)
                  else
                    (f_L_isTree i2 v28.2).bind fun v29 =>
                    if v29.1 = 0 then
                      some ((0 : Int32), v29.2)
                    else
                      (f_L_finds i2 v29.2).bind fun v30 =>
                      if v30.1 = 0 then
                        some ((0 : Int32), v30.2)
                      else
                        some ((1 : Int32), v30.2)).bind fun p31 =>
        tq_let (y6 + (1 : Int32)) fun x32 =>
        some (.inl (p31.1, x32, p31.2))
def f_L_law (sn : Nat) (xs : Nat → Int32)  (h : tq_H) : Option (Int32 × tq_H) :=
  tq_let (tq_new h (.inl (10, [.null, .null, .null, .null, .null, .null, .null, .null, .null, .null, .null, .null, .int 0, .int 0, .int 0, .long 0, .long 0, .int 0, .int 0]))) fun w1 =>
  (f_X10_init h.1 w1).bind fun v2 =>
  tq_let (tq_new v2 (.inl (10, [.null, .null, .null, .null, .null, .null, .null, .null, .null, .null, .null, .null, .int 0, .int 0, .int 0, .long 0, .long 0, .int 0, .int 0]))) fun w3 =>
  (f_X10_init v2.1 w3).bind fun v4 =>
  tq_let (tq_new v4 (.inr (0, (1, .inl (fun _ => 0))))) fun w5 =>
  (f_L_drawn sn xs (0 : Int32)).bind fun v6 =>
  tq_let (((20 : Int32) + (v6 - v6 / (31 : Int32) * (31 : Int32)))) fun x7 =>
  (tq_loop (f_L_law_b39 sn xs h.1 v2.1 v4.1 x7) 51 ((1 : Int32), (0 : Int32), w5)).bind fun o33 =>
  (tq_is o33.2 h.1 10).bind fun _ =>
  (f_X10_nodes h.1 o33.2).bind fun v34 =>
  (if o33.1 = 0 then
    some ((0 : Int32), o33.2)
  else
    (tq_is o33.2 h.1 10).bind fun _ =>
    (f_X10_forget h.1 o33.2).bind fun v36 =>
    (tq_is v36.2 v2.1 10).bind fun _ =>
    (f_X10_forget v2.1 v36.2).bind fun v38 =>
    if v36.1 = v38.1 then
      (f_L_drawn sn xs (0 : Int32)).bind fun v40 =>
      (f_L_alike h.1 v2.1 (v40 / (29 : Int32)) v38.2).bind fun v41 =>
      if v41.1 = 0 then
        some ((0 : Int32), v41.2)
      else
        (f_L_isTree h.1 v41.2).bind fun v42 =>
        if v42.1 = 0 then
          some ((0 : Int32), v42.2)
        else
          (f_L_finds h.1 v42.2).bind fun v43 =>
          if v43.1 = 0 then
            some ((0 : Int32), v43.2)
          else
            some ((1 : Int32), v43.2)
    else
      some ((0 : Int32), v38.2)).bind fun p44 =>
  (f_L_keep h.1 p44.2).bind fun v45 =>
  (if p44.1 = 0 then
    some ((0 : Int32), v45.2)
  else
    if v45.1 < 0 then
      some ((1 : Int32), v45.2)
    else
      (f_L_distance h.1 v45.1 v45.1 v45.2).bind fun v46 =>
      if v46.1 = 0 then
        (f_L_odds h.1 v45.1 v45.1 v45.1 v46.2).bind fun v47 =>
        if v47.1 = 0 then
          (f_L_element h.1 (0 : Int32) (0 : Int32) (1 : Int32) v47.2).bind fun v48 =>
          if v48.1 = (1 : Int32) then
            (tq_is v48.2 h.1 10).bind fun _ =>
            (f_X10_forget h.1 v48.2).bind fun v49 =>
            if v49.1 = (1 : Int32) then
              (f_L_take h.1 v45.1 v49.2).bind fun v51 =>
              tq_let (if v51.1 = v34 then (1 : Int32) else (0 : Int32)) fun p52 =>
              (tq_is v51.2 h.1 10).bind fun _ =>
              (f_X10_nodes h.1 v51.2).bind fun v53 =>
              tq_let (if v53 = v34 then (1 : Int32) else (0 : Int32)) fun p55 =>
              if p52 = p55 then
                (f_L_isTree h.1 v51.2).bind fun v56 =>
                if v56.1 = 0 then
                  some ((0 : Int32), v56.2)
                else
                  some ((1 : Int32), v56.2)
              else
                some ((0 : Int32), v51.2)
            else
              some ((0 : Int32), v49.2)
          else
            some ((0 : Int32), v48.2)
        else
          some ((0 : Int32), v47.2)
      else
        some ((0 : Int32), v46.2)).bind fun p57 =>
  (tq_bz p57.1).bind fun z58 =>
  some (z58, p57.2)
set_option maxHeartbeats 4000000 in
theorem l_L_law_39 {l : Launch} {d : Nat} {Q : tq_R → tq_H → Prop} {bc bs : Nat} {b sn : Nat} {xs : Nat → Int32} (hd9 : 11 ≤ d) (i1 : Nat) (i2 : Nat) (i3 : Nat) (i4 : Int32) : ∀ (n : Nat) (y5 : Int32) (y6 : Int32) (hh : tq_H) (o : Int32 × tq_H), tq_loop (f_L_law_b39 sn xs i1 i2 i3 i4) n (y5, y6, hh) = some o → tq_W l (mL_law b sn xs) d bc bs Q 228 [(0, .retAddr b), (1, .ref i1), (2, .ref i2), (5, .int o.1)] [] o.2 → tq_W l (mL_law b sn xs) d (1384 * n + bc) (25382 * n + bs) Q 39 [(0, .retAddr b), (1, .ref i1), (2, .ref i2), (3, .ref i3), (4, .int i4), (5, .int y5), (6, .int y6)] [] hh := by
  intro n
  induction n with
  | zero => intro y5 y6 hh o hl; cases hl
  | succ n ih =>
    intro y5 y6 hh o hl hk
    obtain ⟨oo, hf, ho⟩ := tq_loop_s hl
    refine tq_more (bc := 1384 + (1384 * n + bc)) (bs := 25382 + (25382 * n + bs)) (by omega) (by omega) ?_
    refine tq_iload (M := mL_law b sn xs) (pc := 39) dL_law_39 rfl ?_
    refine tq_iload (M := mL_law b sn xs) (pc := 41) dL_law_41 rfl ?_
    refine tq_icmp_ge (M := mL_law b sn xs) (pc := 43) (tgt := 228) dL_law_43 (by decide) (fun cc => ?_) (fun cc => ?_)
    · have hf := tq_ifp hf cc
      refine tq_pick (L2 := [(0, .retAddr b), (1, .ref i1), (2, .ref i2), (5, .int y5)]) [0, 1, 2, 5] rfl ?_
      refine tq_more (bc := bc) (bs := bs) (by omega) (by omega) ?_
      cases (Option.some.inj hf)
      cases (tq_lx ho)
      exact hk
    · have hf := tq_ifn hf cc
      refine tq_iload (M := mL_law b sn xs) (pc := 46) dL_law_46 rfl ?_
      refine tq_if_eq (M := mL_law b sn xs) (pc := 48) (tgt := 228) dL_law_48 (by decide) (fun cc => ?_) (fun cc => ?_)
      · have hf := tq_ifp hf cc
        refine tq_pick (L2 := [(0, .retAddr b), (1, .ref i1), (2, .ref i2), (5, .int y5)]) [0, 1, 2, 5] rfl ?_
        refine tq_more (bc := bc) (bs := bs) (by omega) (by omega) ?_
        cases (Option.some.inj hf)
        cases (tq_lx ho)
        exact hk
      · have hf := tq_ifn hf cc
        refine tq_xload (M := mL_law b sn xs) (pc := 51) dL_law_51 rfl ?_
        refine tq_iconst (M := mL_law b sn xs) (pc := 52) dL_law_52 tk_ki_1 ?_
        refine tq_iload (M := mL_law b sn xs) (pc := 53) dL_law_53 rfl ?_
        refine tq_iadd (M := mL_law b sn xs) (pc := 55) dL_law_55 ?_
        obtain ⟨v8, ev8, hf⟩ := tq_be hf
        refine tq_calSX (M := mL_law b sn xs) (pc := 56) (S := []) rfl tk_y_L_drawn tk_s_L_drawn tk_RL_310 dL_law_56 [.retAddr b, .int (((1 : Int32) + y6))] rfl (Nat.le_of_ble_eq_true rfl) (d1 := d - 1) (b1 := 0) (s1 := 0) (bc' := (1384 + (1384 * n + bc))) (bs' := (25382 + (25382 * n + bs))) (Q1 := fun r h9 => r = .inl (some (.int v8)) ∧ hh = h9) (by omega) (by omega) (by omega) (w_L_drawn (by omega) ev8 (fun _ _ q => q)) (fun E h9 q => nomatch (show (Sum.inr E : tq_R) = Sum.inl _ from q.1)) (fun r9 h9 q => ?_)
        obtain ⟨q1, rfl⟩ := q
        cases (show (Sum.inl r9 : tq_R) = Sum.inl (some (.int v8)) from q1)
        refine tq_istore (M := mL_law b sn xs) (pc := 59) dL_law_59 (L2 := [(7, .int v8), (0, .retAddr b), (1, .ref i1), (2, .ref i2), (3, .ref i3), (4, .int i4), (5, .int y5), (6, .int y6)]) (Nat.le_of_ble_eq_true rfl) rfl ?_
        refine tq_aload_n (M := mL_law b sn xs) (pc := 61) dL_law_61 rfl ?_
        refine tq_iload (M := mL_law b sn xs) (pc := 62) dL_law_62 rfl ?_
        obtain ⟨v9, ev9, hf⟩ := tq_be hf
        refine tq_calS (M := mL_law b sn xs) (pc := 64) (S := []) tk_y_L_act tk_s_L_act tk_RL_314 dL_law_64 [.ref i1, .int v8] rfl (Nat.le_of_ble_eq_true rfl) (d1 := d - 1) (b1 := 67) (s1 := 1299) (bc' := (1317 + (1384 * n + bc))) (bs' := (24083 + (25382 * n + bs))) (Q1 := fun r h9 => r = .inl (some (.int v9.1)) ∧ v9.2 = h9) (by omega) (by omega) (by omega) (w_L_act (by omega) ev9 (fun _ _ q => q)) (fun E h9 q => nomatch (show (Sum.inr E : tq_R) = Sum.inl _ from q.1)) (fun r9 h9 q => ?_)
        obtain ⟨q1, rfl⟩ := q
        cases (show (Sum.inl r9 : tq_R) = Sum.inl (some (.int v9.1)) from q1)
        refine tq_istore (M := mL_law b sn xs) (pc := 67) dL_law_67 (L2 := [(8, .int v9.1), (7, .int v8), (0, .retAddr b), (1, .ref i1), (2, .ref i2), (3, .ref i3), (4, .int i4), (5, .int y5), (6, .int y6)]) (Nat.le_of_ble_eq_true rfl) rfl ?_
        refine tq_aload_n (M := mL_law b sn xs) (pc := 69) dL_law_69 rfl ?_
        refine tq_aload_n (M := mL_law b sn xs) (pc := 70) dL_law_70 rfl ?_
        refine tq_iload (M := mL_law b sn xs) (pc := 71) dL_law_71 rfl ?_
        refine tq_sipush (M := mL_law b sn xs) (pc := 73) dL_law_73 tk_ks_9973 ?_
        refine tq_irem (M := mL_law b sn xs) (pc := 76) dL_law_76 (by decide +kernel) ?_
        obtain ⟨v10, ev10, hf⟩ := tq_be hf
        refine tq_calS (M := mL_law b sn xs) (pc := 77) (S := []) tk_y_L_refuses tk_s_L_refuses tk_RL_317 dL_law_77 [.ref i2, .ref i3, .int ((v8 - v8 / (9973 : Int32) * (9973 : Int32)))] rfl (Nat.le_of_ble_eq_true rfl) (d1 := d - 1) (b1 := 90) (s1 := 8182) (bc' := (1227 + (1384 * n + bc))) (bs' := (15901 + (25382 * n + bs))) (Q1 := fun r h9 => r = .inl (some (.int v10.1)) ∧ v10.2 = h9) (by omega) (by omega) (by omega) (w_L_refuses (by omega) ev10 (fun _ _ q => q)) (fun E h9 q => nomatch (show (Sum.inr E : tq_R) = Sum.inl _ from q.1)) (fun r9 h9 q => ?_)
        obtain ⟨q1, rfl⟩ := q
        cases (show (Sum.inl r9 : tq_R) = Sum.inl (some (.int v10.1)) from q1)
        obtain ⟨p12, ep12, hf⟩ := tq_be hf
        have HJ80 : tq_W l (mL_law b sn xs) d (1160 + (1384 * n + bc)) (14602 + (25382 * n + bs)) Q 99 [(0, .retAddr b), (1, .ref i1), (2, .ref i2), (3, .ref i3), (4, .int i4), (6, .int y6), (7, .int v8), (8, .int v9.1)] [.int p12.1] p12.2 := by
          refine tq_istore (M := mL_law b sn xs) (pc := 99) dL_law_99 (L2 := [(5, .int p12.1), (0, .retAddr b), (1, .ref i1), (2, .ref i2), (3, .ref i3), (4, .int i4), (6, .int y6), (7, .int v8), (8, .int v9.1)]) (Nat.le_of_ble_eq_true rfl) rfl ?_
          refine tq_iload (M := mL_law b sn xs) (pc := 101) dL_law_101 rfl ?_
          refine tq_bipush (M := mL_law b sn xs) (pc := 103) dL_law_103 tk_kb_24 ?_
          refine tq_irem (M := mL_law b sn xs) (pc := 105) dL_law_105 (by decide +kernel) ?_
          obtain ⟨x13, ex13, hf⟩ := tq_le hf
          refine tq_istore (M := mL_law b sn xs) (pc := 106) dL_law_106 (L2 := [(9, .int x13), (5, .int p12.1), (0, .retAddr b), (1, .ref i1), (2, .ref i2), (3, .ref i3), (4, .int i4), (6, .int y6), (7, .int v8), (8, .int v9.1)]) (Nat.le_of_ble_eq_true rfl) (by rw [ex13]; rfl) ?_
          refine tq_aload_n (M := mL_law b sn xs) (pc := 108) dL_law_108 rfl ?_
          refine tq_iconst (M := mL_law b sn xs) (pc := 109) dL_law_109 tk_ki_0 ?_
          refine tq_iload (M := mL_law b sn xs) (pc := 110) dL_law_110 rfl ?_
          refine tq_bipush (M := mL_law b sn xs) (pc := 112) dL_law_112 tk_kb_9 ?_
          obtain ⟨p18, ep18, hf⟩ := tq_be hf
          have HJ114 : tq_W l (mL_law b sn xs) d (1160 + (1384 * n + bc)) (14602 + (25382 * n + bs)) Q 148 [(0, .retAddr b), (1, .ref i1), (2, .ref i2), (3, .ref i3), (4, .int i4), (5, .int p12.1), (6, .int y6), (7, .int v8)] [.int p18, .int (0 : Int32), .ref i3] p12.2 := by
            obtain ⟨w19, ew19, hf⟩ := tq_be hf
            refine tq_iastF (M := mL_law b sn xs) (pc := 148) dL_law_148 ew19 ?_
            refine tq_iload (M := mL_law b sn xs) (pc := 149) dL_law_149 rfl ?_
            obtain ⟨p31, ep31, hf⟩ := tq_be hf
            have HJ151 : tq_W l (mL_law b sn xs) d (1384 * n + bc) (25382 * n + bs) Q 220 [(0, .retAddr b), (1, .ref i1), (2, .ref i2), (3, .ref i3), (4, .int i4), (6, .int y6)] [.int p31.1] p31.2 := by
              refine tq_istore (M := mL_law b sn xs) (pc := 220) dL_law_220 (L2 := [(5, .int p31.1), (0, .retAddr b), (1, .ref i1), (2, .ref i2), (3, .ref i3), (4, .int i4), (6, .int y6)]) (Nat.le_of_ble_eq_true rfl) rfl ?_
              obtain ⟨x32, ex32, hf⟩ := tq_le hf
              refine tq_iinc (M := mL_law b sn xs) (pc := 222) (v := x32) (L2 := [(6, .int x32), (5, .int p31.1), (0, .retAddr b), (1, .ref i1), (2, .ref i2), (3, .ref i3), (4, .int i4)]) dL_law_222 rfl (by rw [ex32, tk_ki_1]) (Nat.le_of_ble_eq_true rfl) rfl ?_
              refine tq_goto (M := mL_law b sn xs) (pc := 225) (tgt := 39) dL_law_225 (by decide) ?_
              refine tq_pick (L2 := [(0, .retAddr b), (1, .ref i1), (2, .ref i2), (3, .ref i3), (4, .int i4), (5, .int p31.1), (6, .int x32)]) [2, 3, 4, 5, 6, 1, 0] rfl ?_
              refine tq_more (bc := 1384 * n + bc) (bs := 25382 * n + bs) (by omega) (by omega) ?_
              cases (Option.some.inj hf)
              exact ih _ _ _ o (tq_lc ho) hk
            refine tq_if_eq (M := mL_law b sn xs) (pc := 151) (tgt := 219) dL_law_151 (by decide) (fun cc => ?_) (fun cc => ?_)
            · have hf := tq_ifp ep31 cc
              refine tq_iconst (M := mL_law b sn xs) (pc := 219) dL_law_219 tk_ki_0 ?_
              refine tq_pick (L2 := [(0, .retAddr b), (1, .ref i1), (2, .ref i2), (3, .ref i3), (4, .int i4), (6, .int y6)]) [0, 1, 2, 3, 4, 6] rfl ?_
              refine tq_more (bc := (1384 * n + bc)) (bs := (25382 * n + bs)) (by omega) (by omega) ?_
              cases (Option.some.inj hf)
              exact HJ151
            · have hf := tq_ifn ep31 cc
              refine tq_iload (M := mL_law b sn xs) (pc := 154) dL_law_154 rfl ?_
              refine tq_iconst (M := mL_law b sn xs) (pc := 156) dL_law_156 tk_ki_3 ?_
              refine tq_irem (M := mL_law b sn xs) (pc := 157) dL_law_157 (by decide +kernel) ?_
              refine tq_if_gt (M := mL_law b sn xs) (pc := 158) (tgt := 175) dL_law_158 (by decide) (fun cc => ?_) (fun cc => ?_)
              · have hf := tq_ifp hf cc
                refine tq_iload (M := mL_law b sn xs) (pc := 175) dL_law_175 rfl ?_
                refine tq_iconst (M := mL_law b sn xs) (pc := 177) dL_law_177 tk_ki_2 ?_
                refine tq_irem (M := mL_law b sn xs) (pc := 178) dL_law_178 (by decide +kernel) ?_
                refine tq_if_gt (M := mL_law b sn xs) (pc := 179) (tgt := 194) dL_law_179 (by decide) (fun cc => ?_) (fun cc => ?_)
                · have hf := tq_ifp hf cc
                  refine tq_iload (M := mL_law b sn xs) (pc := 194) dL_law_194 rfl ?_
                  refine tq_iconst (M := mL_law b sn xs) (pc := 196) dL_law_196 tk_ki_4 ?_
                  refine tq_irem (M := mL_law b sn xs) (pc := 197) dL_law_197 (by decide +kernel) ?_
                  refine tq_if_gt (M := mL_law b sn xs) (pc := 198) (tgt := 215) dL_law_198 (by decide) (fun cc => ?_) (fun cc => ?_)
                  · have hf := tq_ifp hf cc
                    refine tq_iconst (M := mL_law b sn xs) (pc := 215) dL_law_215 tk_ki_1 ?_
                    refine tq_goto (M := mL_law b sn xs) (pc := 216) (tgt := 220) dL_law_216 (by decide) ?_
                    refine tq_pick (L2 := [(0, .retAddr b), (1, .ref i1), (2, .ref i2), (3, .ref i3), (4, .int i4), (6, .int y6)]) [0, 1, 2, 3, 4, 6] rfl ?_
                    refine tq_more (bc := (1384 * n + bc)) (bs := (25382 * n + bs)) (by omega) (by omega) ?_
                    cases (Option.some.inj hf)
                    exact HJ151
                  · have hf := tq_ifn hf cc
                    refine tq_aload_n (M := mL_law b sn xs) (pc := 201) dL_law_201 rfl ?_
                    obtain ⟨v20, ev20, hf⟩ := tq_be hf
                    refine tq_calS (M := mL_law b sn xs) (pc := 202) (S := []) tk_y_L_isTree tk_s_L_isTree tk_RL_325 dL_law_202 [.ref i2] rfl (Nat.le_of_ble_eq_true rfl) (d1 := d - 1) (b1 := 0) (s1 := 0) (bc' := (1160 + (1384 * n + bc))) (bs' := (14602 + (25382 * n + bs))) (Q1 := fun r h9 => r = .inl (some (.int v20.1)) ∧ v20.2 = h9) (by omega) (by omega) (by omega) (w_L_isTree (by omega) ev20 (fun _ _ q => q)) (fun E h9 q => nomatch (show (Sum.inr E : tq_R) = Sum.inl _ from q.1)) (fun r9 h9 q => ?_)
                    obtain ⟨q1, rfl⟩ := q
                    cases (show (Sum.inl r9 : tq_R) = Sum.inl (some (.int v20.1)) from q1)
                    refine tq_if_eq (M := mL_law b sn xs) (pc := 205) (tgt := 219) dL_law_205 (by decide) (fun cc => ?_) (fun cc => ?_)
                    · have hf := tq_ifp hf cc
                      refine tq_iconst (M := mL_law b sn xs) (pc := 219) dL_law_219 tk_ki_0 ?_
                      refine tq_pick (L2 := [(0, .retAddr b), (1, .ref i1), (2, .ref i2), (3, .ref i3), (4, .int i4), (6, .int y6)]) [0, 1, 2, 3, 4, 6] rfl ?_
                      refine tq_more (bc := (1384 * n + bc)) (bs := (25382 * n + bs)) (by omega) (by omega) ?_
                      cases (Option.some.inj hf)
                      exact HJ151
                    · have hf := tq_ifn hf cc
                      refine tq_aload_n (M := mL_law b sn xs) (pc := 208) dL_law_208 rfl ?_
                      obtain ⟨v21, ev21, hf⟩ := tq_be hf
                      refine tq_calS (M := mL_law b sn xs) (pc := 209) (S := []) tk_y_L_finds tk_s_L_finds tk_RL_329 dL_law_209 [.ref i2] rfl (Nat.le_of_ble_eq_true rfl) (d1 := d - 1) (b1 := 42) (s1 := 252) (bc' := (1118 + (1384 * n + bc))) (bs' := (14350 + (25382 * n + bs))) (Q1 := fun r h9 => r = .inl (some (.int v21.1)) ∧ v21.2 = h9) (by omega) (by omega) (by omega) (w_L_finds (by omega) ev21 (fun _ _ q => q)) (fun E h9 q => nomatch (show (Sum.inr E : tq_R) = Sum.inl _ from q.1)) (fun r9 h9 q => ?_)
                      obtain ⟨q1, rfl⟩ := q
                      cases (show (Sum.inl r9 : tq_R) = Sum.inl (some (.int v21.1)) from q1)
                      refine tq_if_eq (M := mL_law b sn xs) (pc := 212) (tgt := 219) dL_law_212 (by decide) (fun cc => ?_) (fun cc => ?_)
                      · have hf := tq_ifp hf cc
                        refine tq_iconst (M := mL_law b sn xs) (pc := 219) dL_law_219 tk_ki_0 ?_
                        refine tq_pick (L2 := [(0, .retAddr b), (1, .ref i1), (2, .ref i2), (3, .ref i3), (4, .int i4), (6, .int y6)]) [0, 1, 2, 3, 4, 6] rfl ?_
                        refine tq_more (bc := (1384 * n + bc)) (bs := (25382 * n + bs)) (by omega) (by omega) ?_
                        cases (Option.some.inj hf)
                        exact HJ151
                      · have hf := tq_ifn hf cc
                        refine tq_iconst (M := mL_law b sn xs) (pc := 215) dL_law_215 tk_ki_1 ?_
                        refine tq_goto (M := mL_law b sn xs) (pc := 216) (tgt := 220) dL_law_216 (by decide) ?_
                        refine tq_pick (L2 := [(0, .retAddr b), (1, .ref i1), (2, .ref i2), (3, .ref i3), (4, .int i4), (6, .int y6)]) [0, 1, 2, 3, 4, 6] rfl ?_
                        refine tq_more (bc := (1384 * n + bc)) (bs := (25382 * n + bs)) (by omega) (by omega) ?_
                        cases (Option.some.inj hf)
                        exact HJ151
                · have hf := tq_ifn hf cc
                  refine tq_aload_n (M := mL_law b sn xs) (pc := 182) dL_law_182 rfl ?_
                  refine tq_aload_n (M := mL_law b sn xs) (pc := 183) dL_law_183 rfl ?_
                  refine tq_iload (M := mL_law b sn xs) (pc := 184) dL_law_184 rfl ?_
                  refine tq_iconst (M := mL_law b sn xs) (pc := 186) dL_law_186 tk_ki_3 ?_
                  refine tq_idiv (M := mL_law b sn xs) (pc := 187) dL_law_187 (by decide +kernel) ?_
                  obtain ⟨v22, ev22, hf⟩ := tq_be hf
                  refine tq_calS (M := mL_law b sn xs) (pc := 188) (S := []) tk_y_L_alike tk_s_L_alike tk_RL_321 dL_law_188 [.ref i1, .ref i2, .int ((v8 / (3 : Int32)))] rfl (Nat.le_of_ble_eq_true rfl) (d1 := d - 1) (b1 := 1028) (s1 := 6168) (bc' := (132 + (1384 * n + bc))) (bs' := (8434 + (25382 * n + bs))) (Q1 := fun r h9 => r = .inl (some (.int v22.1)) ∧ v22.2 = h9) (by omega) (by omega) (by omega) (w_L_alike (by omega) ev22 (fun _ _ q => q)) (fun E h9 q => nomatch (show (Sum.inr E : tq_R) = Sum.inl _ from q.1)) (fun r9 h9 q => ?_)
                  obtain ⟨q1, rfl⟩ := q
                  cases (show (Sum.inl r9 : tq_R) = Sum.inl (some (.int v22.1)) from q1)
                  refine tq_if_eq (M := mL_law b sn xs) (pc := 191) (tgt := 219) dL_law_191 (by decide) (fun cc => ?_) (fun cc => ?_)
                  · have hf := tq_ifp hf cc
                    refine tq_iconst (M := mL_law b sn xs) (pc := 219) dL_law_219 tk_ki_0 ?_
                    refine tq_pick (L2 := [(0, .retAddr b), (1, .ref i1), (2, .ref i2), (3, .ref i3), (4, .int i4), (6, .int y6)]) [0, 1, 2, 3, 4, 6] rfl ?_
                    refine tq_more (bc := (1384 * n + bc)) (bs := (25382 * n + bs)) (by omega) (by omega) ?_
                    cases (Option.some.inj hf)
                    exact HJ151
                  · have hf := tq_ifn hf cc
                    refine tq_iload (M := mL_law b sn xs) (pc := 194) dL_law_194 rfl ?_
                    refine tq_iconst (M := mL_law b sn xs) (pc := 196) dL_law_196 tk_ki_4 ?_
                    refine tq_irem (M := mL_law b sn xs) (pc := 197) dL_law_197 (by decide +kernel) ?_
                    refine tq_if_gt (M := mL_law b sn xs) (pc := 198) (tgt := 215) dL_law_198 (by decide) (fun cc => ?_) (fun cc => ?_)
                    · have hf := tq_ifp hf cc
                      refine tq_iconst (M := mL_law b sn xs) (pc := 215) dL_law_215 tk_ki_1 ?_
                      refine tq_goto (M := mL_law b sn xs) (pc := 216) (tgt := 220) dL_law_216 (by decide) ?_
                      refine tq_pick (L2 := [(0, .retAddr b), (1, .ref i1), (2, .ref i2), (3, .ref i3), (4, .int i4), (6, .int y6)]) [0, 1, 2, 3, 4, 6] rfl ?_
                      refine tq_more (bc := (1384 * n + bc)) (bs := (25382 * n + bs)) (by omega) (by omega) ?_
                      cases (Option.some.inj hf)
                      exact HJ151
                    · have hf := tq_ifn hf cc
                      refine tq_aload_n (M := mL_law b sn xs) (pc := 201) dL_law_201 rfl ?_
                      obtain ⟨v23, ev23, hf⟩ := tq_be hf
                      refine tq_calS (M := mL_law b sn xs) (pc := 202) (S := []) tk_y_L_isTree tk_s_L_isTree tk_RL_325 dL_law_202 [.ref i2] rfl (Nat.le_of_ble_eq_true rfl) (d1 := d - 1) (b1 := 0) (s1 := 0) (bc' := (132 + (1384 * n + bc))) (bs' := (8434 + (25382 * n + bs))) (Q1 := fun r h9 => r = .inl (some (.int v23.1)) ∧ v23.2 = h9) (by omega) (by omega) (by omega) (w_L_isTree (by omega) ev23 (fun _ _ q => q)) (fun E h9 q => nomatch (show (Sum.inr E : tq_R) = Sum.inl _ from q.1)) (fun r9 h9 q => ?_)
                      obtain ⟨q1, rfl⟩ := q
                      cases (show (Sum.inl r9 : tq_R) = Sum.inl (some (.int v23.1)) from q1)
                      refine tq_if_eq (M := mL_law b sn xs) (pc := 205) (tgt := 219) dL_law_205 (by decide) (fun cc => ?_) (fun cc => ?_)
                      · have hf := tq_ifp hf cc
                        refine tq_iconst (M := mL_law b sn xs) (pc := 219) dL_law_219 tk_ki_0 ?_
                        refine tq_pick (L2 := [(0, .retAddr b), (1, .ref i1), (2, .ref i2), (3, .ref i3), (4, .int i4), (6, .int y6)]) [0, 1, 2, 3, 4, 6] rfl ?_
                        refine tq_more (bc := (1384 * n + bc)) (bs := (25382 * n + bs)) (by omega) (by omega) ?_
                        cases (Option.some.inj hf)
                        exact HJ151
                      · have hf := tq_ifn hf cc
                        refine tq_aload_n (M := mL_law b sn xs) (pc := 208) dL_law_208 rfl ?_
                        obtain ⟨v24, ev24, hf⟩ := tq_be hf
                        refine tq_calS (M := mL_law b sn xs) (pc := 209) (S := []) tk_y_L_finds tk_s_L_finds tk_RL_329 dL_law_209 [.ref i2] rfl (Nat.le_of_ble_eq_true rfl) (d1 := d - 1) (b1 := 42) (s1 := 252) (bc' := (90 + (1384 * n + bc))) (bs' := (8182 + (25382 * n + bs))) (Q1 := fun r h9 => r = .inl (some (.int v24.1)) ∧ v24.2 = h9) (by omega) (by omega) (by omega) (w_L_finds (by omega) ev24 (fun _ _ q => q)) (fun E h9 q => nomatch (show (Sum.inr E : tq_R) = Sum.inl _ from q.1)) (fun r9 h9 q => ?_)
                        obtain ⟨q1, rfl⟩ := q
                        cases (show (Sum.inl r9 : tq_R) = Sum.inl (some (.int v24.1)) from q1)
                        refine tq_if_eq (M := mL_law b sn xs) (pc := 212) (tgt := 219) dL_law_212 (by decide) (fun cc => ?_) (fun cc => ?_)
                        · have hf := tq_ifp hf cc
                          refine tq_iconst (M := mL_law b sn xs) (pc := 219) dL_law_219 tk_ki_0 ?_
                          refine tq_pick (L2 := [(0, .retAddr b), (1, .ref i1), (2, .ref i2), (3, .ref i3), (4, .int i4), (6, .int y6)]) [0, 1, 2, 3, 4, 6] rfl ?_
                          refine tq_more (bc := (1384 * n + bc)) (bs := (25382 * n + bs)) (by omega) (by omega) ?_
                          cases (Option.some.inj hf)
                          exact HJ151
                        · have hf := tq_ifn hf cc
                          refine tq_iconst (M := mL_law b sn xs) (pc := 215) dL_law_215 tk_ki_1 ?_
                          refine tq_goto (M := mL_law b sn xs) (pc := 216) (tgt := 220) dL_law_216 (by decide) ?_
                          refine tq_pick (L2 := [(0, .retAddr b), (1, .ref i1), (2, .ref i2), (3, .ref i3), (4, .int i4), (6, .int y6)]) [0, 1, 2, 3, 4, 6] rfl ?_
                          refine tq_more (bc := (1384 * n + bc)) (bs := (25382 * n + bs)) (by omega) (by omega) ?_
                          cases (Option.some.inj hf)
                          exact HJ151
              · have hf := tq_ifn hf cc
                refine tq_aload_n (M := mL_law b sn xs) (pc := 161) dL_law_161 rfl ?_
                refine tq_aload_n (M := mL_law b sn xs) (pc := 162) dL_law_162 rfl ?_
                refine tq_iload (M := mL_law b sn xs) (pc := 163) dL_law_163 rfl ?_
                refine tq_sipush (M := mL_law b sn xs) (pc := 165) dL_law_165 tk_ks_499 ?_
                refine tq_irem (M := mL_law b sn xs) (pc := 168) dL_law_168 (by decide +kernel) ?_
                obtain ⟨v25, ev25, hf⟩ := tq_be hf
                refine tq_calS (M := mL_law b sn xs) (pc := 169) (S := []) tk_y_L_refuses tk_s_L_refuses tk_RL_317 dL_law_169 [.ref i2, .ref i3, .int ((v8 - v8 / (499 : Int32) * (499 : Int32)))] rfl (Nat.le_of_ble_eq_true rfl) (d1 := d - 1) (b1 := 90) (s1 := 8182) (bc' := (1070 + (1384 * n + bc))) (bs' := (6420 + (25382 * n + bs))) (Q1 := fun r h9 => r = .inl (some (.int v25.1)) ∧ v25.2 = h9) (by omega) (by omega) (by omega) (w_L_refuses (by omega) ev25 (fun _ _ q => q)) (fun E h9 q => nomatch (show (Sum.inr E : tq_R) = Sum.inl _ from q.1)) (fun r9 h9 q => ?_)
                obtain ⟨q1, rfl⟩ := q
                cases (show (Sum.inl r9 : tq_R) = Sum.inl (some (.int v25.1)) from q1)
                refine tq_if_eq (M := mL_law b sn xs) (pc := 172) (tgt := 219) dL_law_172 (by decide) (fun cc => ?_) (fun cc => ?_)
                · have hf := tq_ifp hf cc
                  refine tq_iconst (M := mL_law b sn xs) (pc := 219) dL_law_219 tk_ki_0 ?_
                  refine tq_pick (L2 := [(0, .retAddr b), (1, .ref i1), (2, .ref i2), (3, .ref i3), (4, .int i4), (6, .int y6)]) [0, 1, 2, 3, 4, 6] rfl ?_
                  refine tq_more (bc := (1384 * n + bc)) (bs := (25382 * n + bs)) (by omega) (by omega) ?_
                  cases (Option.some.inj hf)
                  exact HJ151
                · have hf := tq_ifn hf cc
                  refine tq_iload (M := mL_law b sn xs) (pc := 175) dL_law_175 rfl ?_
                  refine tq_iconst (M := mL_law b sn xs) (pc := 177) dL_law_177 tk_ki_2 ?_
                  refine tq_irem (M := mL_law b sn xs) (pc := 178) dL_law_178 (by decide +kernel) ?_
                  refine tq_if_gt (M := mL_law b sn xs) (pc := 179) (tgt := 194) dL_law_179 (by decide) (fun cc => ?_) (fun cc => ?_)
                  · have hf := tq_ifp hf cc
                    refine tq_iload (M := mL_law b sn xs) (pc := 194) dL_law_194 rfl ?_
                    refine tq_iconst (M := mL_law b sn xs) (pc := 196) dL_law_196 tk_ki_4 ?_
                    refine tq_irem (M := mL_law b sn xs) (pc := 197) dL_law_197 (by decide +kernel) ?_
                    refine tq_if_gt (M := mL_law b sn xs) (pc := 198) (tgt := 215) dL_law_198 (by decide) (fun cc => ?_) (fun cc => ?_)
                    · have hf := tq_ifp hf cc
                      refine tq_iconst (M := mL_law b sn xs) (pc := 215) dL_law_215 tk_ki_1 ?_
                      refine tq_goto (M := mL_law b sn xs) (pc := 216) (tgt := 220) dL_law_216 (by decide) ?_
                      refine tq_pick (L2 := [(0, .retAddr b), (1, .ref i1), (2, .ref i2), (3, .ref i3), (4, .int i4), (6, .int y6)]) [0, 1, 2, 3, 4, 6] rfl ?_
                      refine tq_more (bc := (1384 * n + bc)) (bs := (25382 * n + bs)) (by omega) (by omega) ?_
                      cases (Option.some.inj hf)
                      exact HJ151
                    · have hf := tq_ifn hf cc
                      refine tq_aload_n (M := mL_law b sn xs) (pc := 201) dL_law_201 rfl ?_
                      obtain ⟨v26, ev26, hf⟩ := tq_be hf
                      refine tq_calS (M := mL_law b sn xs) (pc := 202) (S := []) tk_y_L_isTree tk_s_L_isTree tk_RL_325 dL_law_202 [.ref i2] rfl (Nat.le_of_ble_eq_true rfl) (d1 := d - 1) (b1 := 0) (s1 := 0) (bc' := (1070 + (1384 * n + bc))) (bs' := (6420 + (25382 * n + bs))) (Q1 := fun r h9 => r = .inl (some (.int v26.1)) ∧ v26.2 = h9) (by omega) (by omega) (by omega) (w_L_isTree (by omega) ev26 (fun _ _ q => q)) (fun E h9 q => nomatch (show (Sum.inr E : tq_R) = Sum.inl _ from q.1)) (fun r9 h9 q => ?_)
                      obtain ⟨q1, rfl⟩ := q
                      cases (show (Sum.inl r9 : tq_R) = Sum.inl (some (.int v26.1)) from q1)
                      refine tq_if_eq (M := mL_law b sn xs) (pc := 205) (tgt := 219) dL_law_205 (by decide) (fun cc => ?_) (fun cc => ?_)
                      · have hf := tq_ifp hf cc
                        refine tq_iconst (M := mL_law b sn xs) (pc := 219) dL_law_219 tk_ki_0 ?_
                        refine tq_pick (L2 := [(0, .retAddr b), (1, .ref i1), (2, .ref i2), (3, .ref i3), (4, .int i4), (6, .int y6)]) [0, 1, 2, 3, 4, 6] rfl ?_
                        refine tq_more (bc := (1384 * n + bc)) (bs := (25382 * n + bs)) (by omega) (by omega) ?_
                        cases (Option.some.inj hf)
                        exact HJ151
                      · have hf := tq_ifn hf cc
                        refine tq_aload_n (M := mL_law b sn xs) (pc := 208) dL_law_208 rfl ?_
                        obtain ⟨v27, ev27, hf⟩ := tq_be hf
                        refine tq_calS (M := mL_law b sn xs) (pc := 209) (S := []) tk_y_L_finds tk_s_L_finds tk_RL_329 dL_law_209 [.ref i2] rfl (Nat.le_of_ble_eq_true rfl) (d1 := d - 1) (b1 := 42) (s1 := 252) (bc' := (1028 + (1384 * n + bc))) (bs' := (6168 + (25382 * n + bs))) (Q1 := fun r h9 => r = .inl (some (.int v27.1)) ∧ v27.2 = h9) (by omega) (by omega) (by omega) (w_L_finds (by omega) ev27 (fun _ _ q => q)) (fun E h9 q => nomatch (show (Sum.inr E : tq_R) = Sum.inl _ from q.1)) (fun r9 h9 q => ?_)
                        obtain ⟨q1, rfl⟩ := q
                        cases (show (Sum.inl r9 : tq_R) = Sum.inl (some (.int v27.1)) from q1)
                        refine tq_if_eq (M := mL_law b sn xs) (pc := 212) (tgt := 219) dL_law_212 (by decide) (fun cc => ?_) (fun cc => ?_)
                        · have hf := tq_ifp hf cc
                          refine tq_iconst (M := mL_law b sn xs) (pc := 219) dL_law_219 tk_ki_0 ?_
                          refine tq_pick (L2 := [(0, .retAddr b), (1, .ref i1), (2, .ref i2), (3, .ref i3), (4, .int i4), (6, .int y6)]) [0, 1, 2, 3, 4, 6] rfl ?_
                          refine tq_more (bc := (1384 * n + bc)) (bs := (25382 * n + bs)) (by omega) (by omega) ?_
                          cases (Option.some.inj hf)
                          exact HJ151
                        · have hf := tq_ifn hf cc
                          refine tq_iconst (M := mL_law b sn xs) (pc := 215) dL_law_215 tk_ki_1 ?_
                          refine tq_goto (M := mL_law b sn xs) (pc := 216) (tgt := 220) dL_law_216 (by decide) ?_
                          refine tq_pick (L2 := [(0, .retAddr b), (1, .ref i1), (2, .ref i2), (3, .ref i3), (4, .int i4), (6, .int y6)]) [0, 1, 2, 3, 4, 6] rfl ?_
                          refine tq_more (bc := (1384 * n + bc)) (bs := (25382 * n + bs)) (by omega) (by omega) ?_
                          cases (Option.some.inj hf)
                          exact HJ151
                  · have hf := tq_ifn hf cc
                    refine tq_aload_n (M := mL_law b sn xs) (pc := 182) dL_law_182 rfl ?_
                    refine tq_aload_n (M := mL_law b sn xs) (pc := 183) dL_law_183 rfl ?_
                    refine tq_iload (M := mL_law b sn xs) (pc := 184) dL_law_184 rfl ?_
                    refine tq_iconst (M := mL_law b sn xs) (pc := 186) dL_law_186 tk_ki_3 ?_
                    refine tq_idiv (M := mL_law b sn xs) (pc := 187) dL_law_187 (by decide +kernel) ?_
                    obtain ⟨v28, ev28, hf⟩ := tq_be hf
                    refine tq_calS (M := mL_law b sn xs) (pc := 188) (S := []) tk_y_L_alike tk_s_L_alike tk_RL_321 dL_law_188 [.ref i1, .ref i2, .int ((v8 / (3 : Int32)))] rfl (Nat.le_of_ble_eq_true rfl) (d1 := d - 1) (b1 := 1028) (s1 := 6168) (bc' := (42 + (1384 * n + bc))) (bs' := (252 + (25382 * n + bs))) (Q1 := fun r h9 => r = .inl (some (.int v28.1)) ∧ v28.2 = h9) (by omega) (by omega) (by omega) (w_L_alike (by omega) ev28 (fun _ _ q => q)) (fun E h9 q => nomatch (show (Sum.inr E : tq_R) = Sum.inl _ from q.1)) (fun r9 h9 q => ?_)
                    obtain ⟨q1, rfl⟩ := q
                    cases (show (Sum.inl r9 : tq_R) = Sum.inl (some (.int v28.1)) from q1)
                    refine tq_if_eq (M := mL_law b sn xs) (pc := 191) (tgt := 219) dL_law_191 (by decide) (fun cc => ?_) (fun cc => ?_)
                    · have hf := tq_ifp hf cc
                      refine tq_iconst (M := mL_law b sn xs) (pc := 219) dL_law_219 tk_ki_0 ?_
                      refine tq_pick (L2 := [(0, .retAddr b), (1, .ref i1), (2, .ref i2), (3, .ref i3), (4, .int i4), (6, .int y6)]) [0, 1, 2, 3, 4, 6] rfl ?_
                      refine tq_more (bc := (1384 * n + bc)) (bs := (25382 * n + bs)) (by omega) (by omega) ?_
                      cases (Option.some.inj hf)
                      exact HJ151
                    · have hf := tq_ifn hf cc
                      refine tq_iload (M := mL_law b sn xs) (pc := 194) dL_law_194 rfl ?_
                      refine tq_iconst (M := mL_law b sn xs) (pc := 196) dL_law_196 tk_ki_4 ?_
                      refine tq_irem (M := mL_law b sn xs) (pc := 197) dL_law_197 (by decide +kernel) ?_
                      refine tq_if_gt (M := mL_law b sn xs) (pc := 198) (tgt := 215) dL_law_198 (by decide) (fun cc => ?_) (fun cc => ?_)
                      · have hf := tq_ifp hf cc
                        refine tq_iconst (M := mL_law b sn xs) (pc := 215) dL_law_215 tk_ki_1 ?_
                        refine tq_goto (M := mL_law b sn xs) (pc := 216) (tgt := 220) dL_law_216 (by decide) ?_
                        refine tq_pick (L2 := [(0, .retAddr b), (1, .ref i1), (2, .ref i2), (3, .ref i3), (4, .int i4), (6, .int y6)]) [0, 1, 2, 3, 4, 6] rfl ?_
                        refine tq_more (bc := (1384 * n + bc)) (bs := (25382 * n + bs)) (by omega) (by omega) ?_
                        cases (Option.some.inj hf)
                        exact HJ151
                      · have hf := tq_ifn hf cc
                        refine tq_aload_n (M := mL_law b sn xs) (pc := 201) dL_law_201 rfl ?_
                        obtain ⟨v29, ev29, hf⟩ := tq_be hf
                        refine tq_calS (M := mL_law b sn xs) (pc := 202) (S := []) tk_y_L_isTree tk_s_L_isTree tk_RL_325 dL_law_202 [.ref i2] rfl (Nat.le_of_ble_eq_true rfl) (d1 := d - 1) (b1 := 0) (s1 := 0) (bc' := (42 + (1384 * n + bc))) (bs' := (252 + (25382 * n + bs))) (Q1 := fun r h9 => r = .inl (some (.int v29.1)) ∧ v29.2 = h9) (by omega) (by omega) (by omega) (w_L_isTree (by omega) ev29 (fun _ _ q => q)) (fun E h9 q => nomatch (show (Sum.inr E : tq_R) = Sum.inl _ from q.1)) (fun r9 h9 q => ?_)
                        obtain ⟨q1, rfl⟩ := q
                        cases (show (Sum.inl r9 : tq_R) = Sum.inl (some (.int v29.1)) from q1)
                        refine tq_if_eq (M := mL_law b sn xs) (pc := 205) (tgt := 219) dL_law_205 (by decide) (fun cc => ?_) (fun cc => ?_)
                        · have hf := tq_ifp hf cc
                          refine tq_iconst (M := mL_law b sn xs) (pc := 219) dL_law_219 tk_ki_0 ?_
                          refine tq_pick (L2 := [(0, .retAddr b), (1, .ref i1), (2, .ref i2), (3, .ref i3), (4, .int i4), (6, .int y6)]) [0, 1, 2, 3, 4, 6] rfl ?_
                          refine tq_more (bc := (1384 * n + bc)) (bs := (25382 * n + bs)) (by omega) (by omega) ?_
                          cases (Option.some.inj hf)
                          exact HJ151
                        · have hf := tq_ifn hf cc
                          refine tq_aload_n (M := mL_law b sn xs) (pc := 208) dL_law_208 rfl ?_
                          obtain ⟨v30, ev30, hf⟩ := tq_be hf
                          refine tq_calS (M := mL_law b sn xs) (pc := 209) (S := []) tk_y_L_finds tk_s_L_finds tk_RL_329 dL_law_209 [.ref i2] rfl (Nat.le_of_ble_eq_true rfl) (d1 := d - 1) (b1 := 42) (s1 := 252) (bc' := (1384 * n + bc)) (bs' := (25382 * n + bs)) (Q1 := fun r h9 => r = .inl (some (.int v30.1)) ∧ v30.2 = h9) (by omega) (by omega) (by omega) (w_L_finds (by omega) ev30 (fun _ _ q => q)) (fun E h9 q => nomatch (show (Sum.inr E : tq_R) = Sum.inl _ from q.1)) (fun r9 h9 q => ?_)
                          obtain ⟨q1, rfl⟩ := q
                          cases (show (Sum.inl r9 : tq_R) = Sum.inl (some (.int v30.1)) from q1)
                          refine tq_if_eq (M := mL_law b sn xs) (pc := 212) (tgt := 219) dL_law_212 (by decide) (fun cc => ?_) (fun cc => ?_)
                          · have hf := tq_ifp hf cc
                            refine tq_iconst (M := mL_law b sn xs) (pc := 219) dL_law_219 tk_ki_0 ?_
                            refine tq_pick (L2 := [(0, .retAddr b), (1, .ref i1), (2, .ref i2), (3, .ref i3), (4, .int i4), (6, .int y6)]) [0, 1, 2, 3, 4, 6] rfl ?_
                            cases (Option.some.inj hf)
                            exact HJ151
                          · have hf := tq_ifn hf cc
                            refine tq_iconst (M := mL_law b sn xs) (pc := 215) dL_law_215 tk_ki_1 ?_
                            refine tq_goto (M := mL_law b sn xs) (pc := 216) (tgt := 220) dL_law_216 (by decide) ?_
                            refine tq_pick (L2 := [(0, .retAddr b), (1, .ref i1), (2, .ref i2), (3, .ref i3), (4, .int i4), (6, .int y6)]) [0, 1, 2, 3, 4, 6] rfl ?_
                            cases (Option.some.inj hf)
                            exact HJ151
          refine tq_icmp_ge (M := mL_law b sn xs) (pc := 114) (tgt := 127) dL_law_114 (by decide) (fun cc => ?_) (fun cc => ?_)
          · have hf := tq_ifp ep18 cc
            refine tq_iload (M := mL_law b sn xs) (pc := 127) dL_law_127 rfl ?_
            refine tq_bipush (M := mL_law b sn xs) (pc := 129) dL_law_129 tk_kb_8 ?_
            refine tq_icmp_le (M := mL_law b sn xs) (pc := 131) (tgt := 145) dL_law_131 (by decide) (fun cc => ?_) (fun cc => ?_)
            · have hf := tq_ifp hf cc
              refine tq_aload_n (M := mL_law b sn xs) (pc := 145) dL_law_145 rfl ?_
              refine tq_iconst (M := mL_law b sn xs) (pc := 146) dL_law_146 tk_ki_0 ?_
              obtain ⟨x14, ex14, hf⟩ := tq_be hf
              refine tq_ialdF (M := mL_law b sn xs) (pc := 147) dL_law_147 ex14 ?_
              refine tq_pick (L2 := [(0, .retAddr b), (1, .ref i1), (2, .ref i2), (3, .ref i3), (4, .int i4), (5, .int p12.1), (6, .int y6), (7, .int v8)]) [2, 3, 4, 5, 6, 1, 7, 8] rfl ?_
              cases (Option.some.inj hf)
              exact HJ114
            · have hf := tq_ifn hf cc
              refine tq_iload (M := mL_law b sn xs) (pc := 134) dL_law_134 rfl ?_
              refine tq_bipush (M := mL_law b sn xs) (pc := 136) dL_law_136 tk_kb_13 ?_
              refine tq_icmp_ge (M := mL_law b sn xs) (pc := 138) (tgt := 145) dL_law_138 (by decide) (fun cc => ?_) (fun cc => ?_)
              · have hf := tq_ifp hf cc
                refine tq_aload_n (M := mL_law b sn xs) (pc := 145) dL_law_145 rfl ?_
                refine tq_iconst (M := mL_law b sn xs) (pc := 146) dL_law_146 tk_ki_0 ?_
                obtain ⟨x15, ex15, hf⟩ := tq_be hf
                refine tq_ialdF (M := mL_law b sn xs) (pc := 147) dL_law_147 ex15 ?_
                refine tq_pick (L2 := [(0, .retAddr b), (1, .ref i1), (2, .ref i2), (3, .ref i3), (4, .int i4), (5, .int p12.1), (6, .int y6), (7, .int v8)]) [2, 3, 4, 5, 6, 1, 7, 8] rfl ?_
                cases (Option.some.inj hf)
                exact HJ114
              · have hf := tq_ifn hf cc
                refine tq_iconst (M := mL_law b sn xs) (pc := 141) dL_law_141 tk_ki_0 ?_
                refine tq_goto (M := mL_law b sn xs) (pc := 142) (tgt := 148) dL_law_142 (by decide) ?_
                refine tq_pick (L2 := [(0, .retAddr b), (1, .ref i1), (2, .ref i2), (3, .ref i3), (4, .int i4), (5, .int p12.1), (6, .int y6), (7, .int v8)]) [2, 3, 4, 5, 6, 1, 7, 8] rfl ?_
                cases (Option.some.inj hf)
                exact HJ114
          · have hf := tq_ifn ep18 cc
            refine tq_iload (M := mL_law b sn xs) (pc := 117) dL_law_117 rfl ?_
            refine tq_if_le (M := mL_law b sn xs) (pc := 119) (tgt := 127) dL_law_119 (by decide) (fun cc => ?_) (fun cc => ?_)
            · have hf := tq_ifp hf cc
              refine tq_iload (M := mL_law b sn xs) (pc := 127) dL_law_127 rfl ?_
              refine tq_bipush (M := mL_law b sn xs) (pc := 129) dL_law_129 tk_kb_8 ?_
              refine tq_icmp_le (M := mL_law b sn xs) (pc := 131) (tgt := 145) dL_law_131 (by decide) (fun cc => ?_) (fun cc => ?_)
              · have hf := tq_ifp hf cc
                refine tq_aload_n (M := mL_law b sn xs) (pc := 145) dL_law_145 rfl ?_
                refine tq_iconst (M := mL_law b sn xs) (pc := 146) dL_law_146 tk_ki_0 ?_
                obtain ⟨x16, ex16, hf⟩ := tq_be hf
                refine tq_ialdF (M := mL_law b sn xs) (pc := 147) dL_law_147 ex16 ?_
                refine tq_pick (L2 := [(0, .retAddr b), (1, .ref i1), (2, .ref i2), (3, .ref i3), (4, .int i4), (5, .int p12.1), (6, .int y6), (7, .int v8)]) [2, 3, 4, 5, 6, 1, 7, 8] rfl ?_
                cases (Option.some.inj hf)
                exact HJ114
              · have hf := tq_ifn hf cc
                refine tq_iload (M := mL_law b sn xs) (pc := 134) dL_law_134 rfl ?_
                refine tq_bipush (M := mL_law b sn xs) (pc := 136) dL_law_136 tk_kb_13 ?_
                refine tq_icmp_ge (M := mL_law b sn xs) (pc := 138) (tgt := 145) dL_law_138 (by decide) (fun cc => ?_) (fun cc => ?_)
                · have hf := tq_ifp hf cc
                  refine tq_aload_n (M := mL_law b sn xs) (pc := 145) dL_law_145 rfl ?_
                  refine tq_iconst (M := mL_law b sn xs) (pc := 146) dL_law_146 tk_ki_0 ?_
                  obtain ⟨x17, ex17, hf⟩ := tq_be hf
                  refine tq_ialdF (M := mL_law b sn xs) (pc := 147) dL_law_147 ex17 ?_
                  refine tq_pick (L2 := [(0, .retAddr b), (1, .ref i1), (2, .ref i2), (3, .ref i3), (4, .int i4), (5, .int p12.1), (6, .int y6), (7, .int v8)]) [2, 3, 4, 5, 6, 1, 7, 8] rfl ?_
                  cases (Option.some.inj hf)
                  exact HJ114
                · have hf := tq_ifn hf cc
                  refine tq_iconst (M := mL_law b sn xs) (pc := 141) dL_law_141 tk_ki_0 ?_
                  refine tq_goto (M := mL_law b sn xs) (pc := 142) (tgt := 148) dL_law_142 (by decide) ?_
                  refine tq_pick (L2 := [(0, .retAddr b), (1, .ref i1), (2, .ref i2), (3, .ref i3), (4, .int i4), (5, .int p12.1), (6, .int y6), (7, .int v8)]) [2, 3, 4, 5, 6, 1, 7, 8] rfl ?_
                  cases (Option.some.inj hf)
                  exact HJ114
            · have hf := tq_ifn hf cc
              refine tq_iload (M := mL_law b sn xs) (pc := 122) dL_law_122 rfl ?_
              refine tq_goto (M := mL_law b sn xs) (pc := 124) (tgt := 148) dL_law_124 (by decide) ?_
              refine tq_pick (L2 := [(0, .retAddr b), (1, .ref i1), (2, .ref i2), (3, .ref i3), (4, .int i4), (5, .int p12.1), (6, .int y6), (7, .int v8)]) [2, 3, 4, 5, 6, 1, 7, 8] rfl ?_
              cases (Option.some.inj hf)
              exact HJ114
        refine tq_if_eq (M := mL_law b sn xs) (pc := 80) (tgt := 98) dL_law_80 (by decide) (fun cc => ?_) (fun cc => ?_)
        · have hf := tq_ifp ep12 cc
          refine tq_iconst (M := mL_law b sn xs) (pc := 98) dL_law_98 tk_ki_0 ?_
          refine tq_pick (L2 := [(0, .retAddr b), (1, .ref i1), (2, .ref i2), (3, .ref i3), (4, .int i4), (6, .int y6), (7, .int v8), (8, .int v9.1)]) [2, 3, 4, 5, 6, 8, 1, 0] rfl ?_
          refine tq_more (bc := (1160 + (1384 * n + bc))) (bs := (14602 + (25382 * n + bs))) (by omega) (by omega) ?_
          cases (Option.some.inj hf)
          exact HJ80
        · have hf := tq_ifn ep12 cc
          refine tq_aload_n (M := mL_law b sn xs) (pc := 83) dL_law_83 rfl ?_
          refine tq_iload (M := mL_law b sn xs) (pc := 84) dL_law_84 rfl ?_
          obtain ⟨v11, ev11, hf⟩ := tq_be hf
          refine tq_calS (M := mL_law b sn xs) (pc := 86) (S := []) tk_y_L_act tk_s_L_act tk_RL_314 dL_law_86 [.ref i2, .int v8] rfl (Nat.le_of_ble_eq_true rfl) (d1 := d - 1) (b1 := 67) (s1 := 1299) (bc' := (1160 + (1384 * n + bc))) (bs' := (14602 + (25382 * n + bs))) (Q1 := fun r h9 => r = .inl (some (.int v11.1)) ∧ v11.2 = h9) (by omega) (by omega) (by omega) (w_L_act (by omega) ev11 (fun _ _ q => q)) (fun E h9 q => nomatch (show (Sum.inr E : tq_R) = Sum.inl _ from q.1)) (fun r9 h9 q => ?_)
          obtain ⟨q1, rfl⟩ := q
          cases (show (Sum.inl r9 : tq_R) = Sum.inl (some (.int v11.1)) from q1)
          refine tq_iload (M := mL_law b sn xs) (pc := 89) dL_law_89 rfl ?_
          refine tq_icmp_ne (M := mL_law b sn xs) (pc := 91) (tgt := 98) dL_law_91 (by decide) (fun cc => ?_) (fun cc => ?_)
          · have hf := tq_ifn hf cc
            refine tq_iconst (M := mL_law b sn xs) (pc := 98) dL_law_98 tk_ki_0 ?_
            refine tq_pick (L2 := [(0, .retAddr b), (1, .ref i1), (2, .ref i2), (3, .ref i3), (4, .int i4), (6, .int y6), (7, .int v8), (8, .int v9.1)]) [2, 3, 4, 5, 6, 8, 1, 0] rfl ?_
            cases (Option.some.inj hf)
            exact HJ80
          · have hf := tq_ifp hf cc
            refine tq_iconst (M := mL_law b sn xs) (pc := 94) dL_law_94 tk_ki_1 ?_
            refine tq_goto (M := mL_law b sn xs) (pc := 95) (tgt := 99) dL_law_95 (by decide) ?_
            refine tq_pick (L2 := [(0, .retAddr b), (1, .ref i1), (2, .ref i2), (3, .ref i3), (4, .int i4), (6, .int y6), (7, .int v8), (8, .int v9.1)]) [2, 3, 4, 5, 6, 8, 1, 0] rfl ?_
            cases (Option.some.inj hf)
            exact HJ80
set_option maxHeartbeats 4000000 in
set_option maxRecDepth 20000 in
theorem w_L_law {l : Launch} {d : Nat} (hd9 : 11 ≤ d) {b sn : Nat} {xs : Nat → Int32}  {h : tq_H} {o : Int32 × tq_H} {Q : tq_R → tq_H → Prop} (hf : f_L_law sn xs  h = some o) (hQ : ∀ r h9, r = .inl (some (.int o.1)) ∧ o.2 = h9 → Q r h9) : tq_W l (mL_law b sn xs) d 72025 1323516 Q 0 [(0, .retAddr b)] [] h := by
  obtain ⟨w1, ew1, hf⟩ := tq_le hf
  refine tq_newo (M := mL_law b sn xs) (pc := 0) tk_c10 dL_law_0 tk_RL_8 tk_in10 tk_ini10 (fs := [.null, .null, .null, .null, .null, .null, .null, .null, .null, .null, .null, .null, .int 0, .int 0, .int 0, .long 0, .long 0, .int 0, .int 0]) (fun j hj => by rcases (show j = 0 ∨ j = 1 ∨ j = 2 ∨ j = 3 ∨ j = 4 ∨ j = 5 ∨ j = 6 ∨ j = 7 ∨ j = 8 ∨ j = 9 ∨ j = 10 ∨ j = 11 ∨ j = 12 ∨ j = 13 ∨ j = 14 ∨ j = 15 ∨ j = 16 ∨ j = 17 ∨ j = 18 by omega) with rfl | rfl | rfl | rfl | rfl | rfl | rfl | rfl | rfl | rfl | rfl | rfl | rfl | rfl | rfl | rfl | rfl | rfl | rfl <;> rfl) (fun _ => ⟨rfl, rfl, rfl, rfl, rfl, rfl, rfl, rfl, rfl, rfl, rfl, rfl, rfl, rfl, rfl, rfl, rfl, rfl, rfl, trivial⟩) (bc' := 72024) (bs' := 1323497) (by omega) (by omega) ?_
  rw [← ew1]
  refine tq_dup (M := mL_law b sn xs) (pc := 3) dL_law_3 rfl ?_
  obtain ⟨v2, ev2, hf⟩ := tq_be hf
  refine tq_calI (M := mL_law b sn xs) (pc := 4) (S := [.ref h.1]) tk_y_X10_init tk_v_X10_init rfl (Or.inl tk_RL_309) dL_law_4 [] rfl (Nat.le_of_ble_eq_true rfl) (d1 := d - 1) (b1 := 154) (s1 := 6838) (bc' := 71870) (bs' := 1316659) (Q1 := fun r h9 => r = .inl none ∧ v2 = h9) (by omega) rfl rfl (w_X10_init (by omega) ev2 (fun _ _ q => q)) (fun E h9 q => nomatch (show (Sum.inr E : tq_R) = Sum.inl _ from q.1)) (fun r9 h9 q => ?_)
  obtain ⟨q1, rfl⟩ := q
  cases (show (Sum.inl r9 : tq_R) = Sum.inl (none) from q1)
  refine tq_astore_n (M := mL_law b sn xs) (pc := 7) rfl dL_law_7 (L2 := [(1, .ref h.1), (0, .retAddr b)]) (Nat.le_of_ble_eq_true rfl) rfl ?_
  obtain ⟨w3, ew3, hf⟩ := tq_le hf
  refine tq_newo (M := mL_law b sn xs) (pc := 8) tk_c10 dL_law_8 tk_RL_8 tk_in10 tk_ini10 (fs := [.null, .null, .null, .null, .null, .null, .null, .null, .null, .null, .null, .null, .int 0, .int 0, .int 0, .long 0, .long 0, .int 0, .int 0]) (fun j hj => by rcases (show j = 0 ∨ j = 1 ∨ j = 2 ∨ j = 3 ∨ j = 4 ∨ j = 5 ∨ j = 6 ∨ j = 7 ∨ j = 8 ∨ j = 9 ∨ j = 10 ∨ j = 11 ∨ j = 12 ∨ j = 13 ∨ j = 14 ∨ j = 15 ∨ j = 16 ∨ j = 17 ∨ j = 18 by omega) with rfl | rfl | rfl | rfl | rfl | rfl | rfl | rfl | rfl | rfl | rfl | rfl | rfl | rfl | rfl | rfl | rfl | rfl | rfl <;> rfl) (fun _ => ⟨rfl, rfl, rfl, rfl, rfl, rfl, rfl, rfl, rfl, rfl, rfl, rfl, rfl, rfl, rfl, rfl, rfl, rfl, rfl, trivial⟩) (bc' := 71869) (bs' := 1316640) (by omega) (by omega) ?_
  rw [← ew3]
  refine tq_dup (M := mL_law b sn xs) (pc := 11) dL_law_11 rfl ?_
  obtain ⟨v4, ev4, hf⟩ := tq_be hf
  refine tq_calI (M := mL_law b sn xs) (pc := 12) (S := [.ref v2.1]) tk_y_X10_init tk_v_X10_init rfl (Or.inl tk_RL_309) dL_law_12 [] rfl (Nat.le_of_ble_eq_true rfl) (d1 := d - 1) (b1 := 154) (s1 := 6838) (bc' := 71715) (bs' := 1309802) (Q1 := fun r h9 => r = .inl none ∧ v4 = h9) (by omega) rfl rfl (w_X10_init (by omega) ev4 (fun _ _ q => q)) (fun E h9 q => nomatch (show (Sum.inr E : tq_R) = Sum.inl _ from q.1)) (fun r9 h9 q => ?_)
  obtain ⟨q1, rfl⟩ := q
  cases (show (Sum.inl r9 : tq_R) = Sum.inl (none) from q1)
  refine tq_astore_n (M := mL_law b sn xs) (pc := 15) rfl dL_law_15 (L2 := [(2, .ref v2.1), (1, .ref h.1), (0, .retAddr b)]) (Nat.le_of_ble_eq_true rfl) rfl ?_
  refine tq_iconst (M := mL_law b sn xs) (pc := 16) dL_law_16 tk_ki_1 ?_
  obtain ⟨w5, ew5, hf⟩ := tq_le hf
  refine tq_newi (M := mL_law b sn xs) (pc := 17) dL_law_17 tk_ac_int (N := 1) (by decide +kernel) (by decide +kernel) (by decide) (bc' := 71714) (bs' := 1309801) (by omega) (by omega) ?_
  rw [← ew5]
  refine tq_astore_n (M := mL_law b sn xs) (pc := 19) rfl dL_law_19 (L2 := [(3, .ref v4.1), (2, .ref v2.1), (1, .ref h.1), (0, .retAddr b)]) (Nat.le_of_ble_eq_true rfl) rfl ?_
  refine tq_bipush (M := mL_law b sn xs) (pc := 20) dL_law_20 tk_kb_20 ?_
  refine tq_xload (M := mL_law b sn xs) (pc := 22) dL_law_22 rfl ?_
  refine tq_iconst (M := mL_law b sn xs) (pc := 23) dL_law_23 tk_ki_0 ?_
  obtain ⟨v6, ev6, hf⟩ := tq_be hf
  refine tq_calSX (M := mL_law b sn xs) (pc := 24) (S := [.int (20 : Int32)]) rfl tk_y_L_drawn tk_s_L_drawn tk_RL_310 dL_law_24 [.retAddr b, .int (0 : Int32)] rfl (Nat.le_of_ble_eq_true rfl) (d1 := d - 1) (b1 := 0) (s1 := 0) (bc' := 71714) (bs' := 1309801) (Q1 := fun r h9 => r = .inl (some (.int v6)) ∧ w5 = h9) (by omega) rfl rfl (w_L_drawn (by omega) ev6 (fun _ _ q => q)) (fun E h9 q => nomatch (show (Sum.inr E : tq_R) = Sum.inl _ from q.1)) (fun r9 h9 q => ?_)
  obtain ⟨q1, rfl⟩ := q
  cases (show (Sum.inl r9 : tq_R) = Sum.inl (some (.int v6)) from q1)
  refine tq_bipush (M := mL_law b sn xs) (pc := 27) dL_law_27 tk_kb_31 ?_
  refine tq_irem (M := mL_law b sn xs) (pc := 29) dL_law_29 (by decide +kernel) ?_
  refine tq_iadd (M := mL_law b sn xs) (pc := 30) dL_law_30 ?_
  obtain ⟨x7, ex7, hf⟩ := tq_le hf
  refine tq_istore (M := mL_law b sn xs) (pc := 31) dL_law_31 (L2 := [(4, .int x7), (3, .ref v4.1), (2, .ref v2.1), (1, .ref h.1), (0, .retAddr b)]) (Nat.le_of_ble_eq_true rfl) (by rw [ex7]; rfl) ?_
  refine tq_iconst (M := mL_law b sn xs) (pc := 33) dL_law_33 tk_ki_1 ?_
  refine tq_istore (M := mL_law b sn xs) (pc := 34) dL_law_34 (L2 := [(5, .int (1 : Int32)), (4, .int x7), (3, .ref v4.1), (2, .ref v2.1), (1, .ref h.1), (0, .retAddr b)]) (Nat.le_of_ble_eq_true rfl) rfl ?_
  refine tq_iconst (M := mL_law b sn xs) (pc := 36) dL_law_36 tk_ki_0 ?_
  refine tq_istore (M := mL_law b sn xs) (pc := 37) dL_law_37 (L2 := [(6, .int (0 : Int32)), (5, .int (1 : Int32)), (4, .int x7), (3, .ref v4.1), (2, .ref v2.1), (1, .ref h.1), (0, .retAddr b)]) (Nat.le_of_ble_eq_true rfl) rfl ?_
  obtain ⟨o33, eo33, hf⟩ := tq_be hf
  refine tq_pick (L2 := [(0, .retAddr b), (1, .ref h.1), (2, .ref v2.1), (3, .ref v4.1), (4, .int x7), (5, .int (1 : Int32)), (6, .int (0 : Int32))]) [6, 5, 4, 3, 2, 1, 0] rfl ?_
  refine tq_more (bc := 1384 * 51 + 1130) (bs := 25382 * 51 + 15319) (by omega) (by omega) ?_
  refine l_L_law_39 (bc := 1130) (bs := 15319) (by omega) h.1 v2.1 v4.1 x7 _ (1 : Int32) (0 : Int32) w5 _ eo33 ?_
  refine tq_aload_n (M := mL_law b sn xs) (pc := 228) dL_law_228 rfl ?_
  obtain ⟨⟨⟩, eu35, hf⟩ := tq_be hf
  obtain ⟨fsu35, eu35⟩ := tq_is_s eu35
  obtain ⟨v34, ev34, hf⟩ := tq_be hf
  refine tq_calV (M := mL_law b sn xs) (pc := 229) (S := []) tk_y_X10_nodes tk_v_X10_nodes tk_RL_296 dL_law_229 [] rfl (S0 := _) rfl eu35 rfl (Nat.le_of_ble_eq_true rfl) (d1 := d - 1) (b1 := 0) (s1 := 0) (bc' := 1130) (bs' := 15319) (Q1 := fun r h9 => r = .inl (some (.int v34)) ∧ o33.2 = h9) (by omega) rfl rfl (w_X10_nodes (by omega) ev34 (fun _ _ q => q)) (fun E h9 q => nomatch (show (Sum.inr E : tq_R) = Sum.inl _ from q.1)) (fun r9 h9 q => ?_)
  obtain ⟨q1, rfl⟩ := q
  cases (show (Sum.inl r9 : tq_R) = Sum.inl (some (.int v34)) from q1)
  refine tq_istore (M := mL_law b sn xs) (pc := 232) dL_law_232 (L2 := [(6, .int v34), (0, .retAddr b), (1, .ref h.1), (2, .ref v2.1), (5, .int o33.1)]) (Nat.le_of_ble_eq_true rfl) rfl ?_
  refine tq_iload (M := mL_law b sn xs) (pc := 234) dL_law_234 rfl ?_
  obtain ⟨p44, ep44, hf⟩ := tq_be hf
  have HJ236 : tq_W l (mL_law b sn xs) d 60 8899 Q 285 [(1, .ref h.1), (6, .int v34)] [.int p44.1] p44.2 := by
    refine tq_istore (M := mL_law b sn xs) (pc := 285) dL_law_285 (L2 := [(5, .int p44.1), (1, .ref h.1), (6, .int v34)]) (Nat.le_of_ble_eq_true rfl) rfl ?_
    refine tq_aload_n (M := mL_law b sn xs) (pc := 287) dL_law_287 rfl ?_
    obtain ⟨v45, ev45, hf⟩ := tq_be hf
    refine tq_calSW (M := mL_law b sn xs) (pc := 288) (S := []) tk_w_L_keep.1 tk_w_L_keep.2.1 tk_w_L_keep.2.2.1 tk_w_L_keep.2.2.2.1 tk_w_L_keep.2.2.2.2 tk_s_L_keep tk_RL_291 dL_law_288 [.ref h.1] rfl (Nat.le_of_ble_eq_true rfl) (d1 := d - 1) (b1 := 41) (s1 := 1143) (bc' := 19) (bs' := 7756) (Q1 := fun r h9 => r = .inl (some (.int v45.1)) ∧ v45.2 = h9) (by omega) rfl rfl (w_L_keep (bc := 1) (bs := 6) (by omega) ev45 (fun _ _ _ => ⟨by decide, by decide⟩) (fun _ _ q => q)) (fun E h9 q => nomatch (show (Sum.inr E : tq_R) = Sum.inl _ from q.1)) (fun r9 h9 q => ?_)
    obtain ⟨q1, rfl⟩ := q
    cases (show (Sum.inl r9 : tq_R) = Sum.inl (some (.int v45.1)) from q1)
    refine tq_istore (M := mL_law b sn xs) (pc := 291) dL_law_291 (L2 := [(7, .int v45.1), (5, .int p44.1), (1, .ref h.1), (6, .int v34)]) (Nat.le_of_ble_eq_true rfl) rfl ?_
    refine tq_iload (M := mL_law b sn xs) (pc := 293) dL_law_293 rfl ?_
    obtain ⟨p57, ep57, hf⟩ := tq_be hf
    have HJ295 : tq_W l (mL_law b sn xs) d 0 0 Q 391 [] [.int p57.1] p57.2 := by
      obtain ⟨z58, ez58, hf⟩ := tq_be hf
      refine tq_zretB (M := mL_law b sn xs) (pc := 391) dL_law_391 rfl ez58 ?_
      cases (Option.some.inj hf)
      exact hQ _ _ ⟨rfl, rfl⟩
    refine tq_if_eq (M := mL_law b sn xs) (pc := 295) (tgt := 390) dL_law_295 (by decide) (fun cc => ?_) (fun cc => ?_)
    · have hf := tq_ifp ep57 cc
      refine tq_iconst (M := mL_law b sn xs) (pc := 390) dL_law_390 tk_ki_0 ?_
      refine tq_pick (L2 := []) [] rfl ?_
      refine tq_more (bc := 0) (bs := 0) (by omega) (by omega) ?_
      cases (Option.some.inj hf)
      exact HJ295
    · have hf := tq_ifn ep57 cc
      refine tq_iload (M := mL_law b sn xs) (pc := 298) dL_law_298 rfl ?_
      refine tq_if_lt (M := mL_law b sn xs) (pc := 300) (tgt := 386) dL_law_300 (by decide) (fun cc => ?_) (fun cc => ?_)
      · have hf := tq_ifp hf cc
        refine tq_iconst (M := mL_law b sn xs) (pc := 386) dL_law_386 tk_ki_1 ?_
        refine tq_goto (M := mL_law b sn xs) (pc := 387) (tgt := 391) dL_law_387 (by decide) ?_
        refine tq_pick (L2 := []) [] rfl ?_
        refine tq_more (bc := 0) (bs := 0) (by omega) (by omega) ?_
        cases (Option.some.inj hf)
        exact HJ295
      · have hf := tq_ifn hf cc
        refine tq_aload_n (M := mL_law b sn xs) (pc := 303) dL_law_303 rfl ?_
        refine tq_iload (M := mL_law b sn xs) (pc := 304) dL_law_304 rfl ?_
        refine tq_iload (M := mL_law b sn xs) (pc := 306) dL_law_306 rfl ?_
        obtain ⟨v46, ev46, hf⟩ := tq_be hf
        refine tq_calSW (M := mL_law b sn xs) (pc := 308) (S := []) tk_w_L_distance.1 tk_w_L_distance.2.1 tk_w_L_distance.2.2.1 tk_w_L_distance.2.2.2.1 tk_w_L_distance.2.2.2.2 tk_s_L_distance tk_RL_275 dL_law_308 [.ref h.1, .int v45.1, .int v45.1] rfl (Nat.le_of_ble_eq_true rfl) (d1 := d - 1) (b1 := 16) (s1 := 7738) (bc' := 3) (bs' := 18) (Q1 := fun r h9 => r = .inl (some (.int v46.1)) ∧ v46.2 = h9) (by omega) rfl rfl (w_L_distance (bc := 1) (bs := 6) (by omega) ev46 (fun _ _ _ => ⟨by decide, by decide⟩) (fun _ _ q => q)) (fun E h9 q => nomatch (show (Sum.inr E : tq_R) = Sum.inl _ from q.1)) (fun r9 h9 q => ?_)
        obtain ⟨q1, rfl⟩ := q
        cases (show (Sum.inl r9 : tq_R) = Sum.inl (some (.int v46.1)) from q1)
        refine tq_if_ne (M := mL_law b sn xs) (pc := 311) (tgt := 390) dL_law_311 (by decide) (fun cc => ?_) (fun cc => ?_)
        · have hf := tq_ifn hf cc
          refine tq_iconst (M := mL_law b sn xs) (pc := 390) dL_law_390 tk_ki_0 ?_
          refine tq_pick (L2 := []) [] rfl ?_
          refine tq_more (bc := 0) (bs := 0) (by omega) (by omega) ?_
          cases (Option.some.inj hf)
          exact HJ295
        · have hf := tq_ifp hf cc
          refine tq_aload_n (M := mL_law b sn xs) (pc := 314) dL_law_314 rfl ?_
          refine tq_iload (M := mL_law b sn xs) (pc := 315) dL_law_315 rfl ?_
          refine tq_iload (M := mL_law b sn xs) (pc := 317) dL_law_317 rfl ?_
          refine tq_iload (M := mL_law b sn xs) (pc := 319) dL_law_319 rfl ?_
          obtain ⟨v47, ev47, hf⟩ := tq_be hf
          refine tq_calSW (M := mL_law b sn xs) (pc := 321) (S := []) tk_w_L_odds.1 tk_w_L_odds.2.1 tk_w_L_odds.2.2.1 tk_w_L_odds.2.2.2.1 tk_w_L_odds.2.2.2.2 tk_s_L_odds tk_RL_277 dL_law_321 [.ref h.1, .int v45.1, .int v45.1, .int v45.1] rfl (Nat.le_of_ble_eq_true rfl) (d1 := d - 1) (b1 := 1) (s1 := 6) (bc' := 2) (bs' := 12) (Q1 := fun r h9 => r = .inl (some (.int v47.1)) ∧ v47.2 = h9) (by omega) rfl rfl (w_L_odds (bc := 1) (bs := 6) (by omega) ev47 (fun _ _ _ => ⟨by decide, by decide⟩) (fun _ _ q => q)) (fun E h9 q => nomatch (show (Sum.inr E : tq_R) = Sum.inl _ from q.1)) (fun r9 h9 q => ?_)
          obtain ⟨q1, rfl⟩ := q
          cases (show (Sum.inl r9 : tq_R) = Sum.inl (some (.int v47.1)) from q1)
          refine tq_if_ne (M := mL_law b sn xs) (pc := 324) (tgt := 390) dL_law_324 (by decide) (fun cc => ?_) (fun cc => ?_)
          · have hf := tq_ifn hf cc
            refine tq_iconst (M := mL_law b sn xs) (pc := 390) dL_law_390 tk_ki_0 ?_
            refine tq_pick (L2 := []) [] rfl ?_
            refine tq_more (bc := 0) (bs := 0) (by omega) (by omega) ?_
            cases (Option.some.inj hf)
            exact HJ295
          · have hf := tq_ifp hf cc
            refine tq_aload_n (M := mL_law b sn xs) (pc := 327) dL_law_327 rfl ?_
            refine tq_iconst (M := mL_law b sn xs) (pc := 328) dL_law_328 tk_ki_0 ?_
            refine tq_iconst (M := mL_law b sn xs) (pc := 329) dL_law_329 tk_ki_0 ?_
            refine tq_iconst (M := mL_law b sn xs) (pc := 330) dL_law_330 tk_ki_1 ?_
            obtain ⟨v48, ev48, hf⟩ := tq_be hf
            refine tq_calSW (M := mL_law b sn xs) (pc := 331) (S := []) tk_w_L_element.1 tk_w_L_element.2.1 tk_w_L_element.2.2.1 tk_w_L_element.2.2.2.1 tk_w_L_element.2.2.2.2 tk_s_L_element tk_RL_178 dL_law_331 [.ref h.1, .int (0 : Int32), .int (0 : Int32), .int (1 : Int32)] rfl (Nat.le_of_ble_eq_true rfl) (d1 := d - 1) (b1 := 1) (s1 := 6) (bc' := 1) (bs' := 6) (Q1 := fun r h9 => r = .inl (some (.int v48.1)) ∧ v48.2 = h9) (by omega) rfl rfl (w_L_element (bc := 1) (bs := 6) (by omega) ev48 (fun _ _ _ => ⟨by decide, by decide⟩) (fun _ _ q => q)) (fun E h9 q => nomatch (show (Sum.inr E : tq_R) = Sum.inl _ from q.1)) (fun r9 h9 q => ?_)
            obtain ⟨q1, rfl⟩ := q
            cases (show (Sum.inl r9 : tq_R) = Sum.inl (some (.int v48.1)) from q1)
            refine tq_iconst (M := mL_law b sn xs) (pc := 334) dL_law_334 tk_ki_1 ?_
            refine tq_icmp_ne (M := mL_law b sn xs) (pc := 335) (tgt := 390) dL_law_335 (by decide) (fun cc => ?_) (fun cc => ?_)
            · have hf := tq_ifn hf cc
              refine tq_iconst (M := mL_law b sn xs) (pc := 390) dL_law_390 tk_ki_0 ?_
              refine tq_pick (L2 := []) [] rfl ?_
              refine tq_more (bc := 0) (bs := 0) (by omega) (by omega) ?_
              cases (Option.some.inj hf)
              exact HJ295
            · have hf := tq_ifp hf cc
              refine tq_aload_n (M := mL_law b sn xs) (pc := 338) dL_law_338 rfl ?_
              obtain ⟨⟨⟩, eu50, hf⟩ := tq_be hf
              obtain ⟨fsu50, eu50⟩ := tq_is_s eu50
              obtain ⟨v49, ev49, hf⟩ := tq_be hf
              refine tq_calV (M := mL_law b sn xs) (pc := 339) (S := []) tk_y_X10_forget tk_v_X10_forget tk_RL_282 dL_law_339 [] rfl (S0 := _) rfl eu50 rfl (Nat.le_of_ble_eq_true rfl) (d1 := d - 1) (b1 := 0) (s1 := 0) (bc' := 1) (bs' := 6) (Q1 := fun r h9 => r = .inl (some (.int v49.1)) ∧ v49.2 = h9) (by omega) rfl rfl (w_X10_forget (by omega) ev49 (fun _ _ q => q)) (fun E h9 q => nomatch (show (Sum.inr E : tq_R) = Sum.inl _ from q.1)) (fun r9 h9 q => ?_)
              obtain ⟨q1, rfl⟩ := q
              cases (show (Sum.inl r9 : tq_R) = Sum.inl (some (.int v49.1)) from q1)
              refine tq_iconst (M := mL_law b sn xs) (pc := 342) dL_law_342 tk_ki_1 ?_
              refine tq_icmp_ne (M := mL_law b sn xs) (pc := 343) (tgt := 390) dL_law_343 (by decide) (fun cc => ?_) (fun cc => ?_)
              · have hf := tq_ifn hf cc
                refine tq_iconst (M := mL_law b sn xs) (pc := 390) dL_law_390 tk_ki_0 ?_
                refine tq_pick (L2 := []) [] rfl ?_
                refine tq_more (bc := 0) (bs := 0) (by omega) (by omega) ?_
                cases (Option.some.inj hf)
                exact HJ295
              · have hf := tq_ifp hf cc
                refine tq_aload_n (M := mL_law b sn xs) (pc := 346) dL_law_346 rfl ?_
                refine tq_iload (M := mL_law b sn xs) (pc := 347) dL_law_347 rfl ?_
                obtain ⟨v51, ev51, hf⟩ := tq_be hf
                refine tq_calSW (M := mL_law b sn xs) (pc := 349) (S := []) tk_w_L_take.1 tk_w_L_take.2.1 tk_w_L_take.2.2.1 tk_w_L_take.2.2.2.1 tk_w_L_take.2.2.2.2 tk_s_L_take tk_RL_273 dL_law_349 [.ref h.1, .int v45.1] rfl (Nat.le_of_ble_eq_true rfl) (d1 := d - 1) (b1 := 1) (s1 := 6) (bc' := 0) (bs' := 0) (Q1 := fun r h9 => r = .inl (some (.int v51.1)) ∧ v51.2 = h9) (by omega) rfl rfl (w_L_take (bc := 1) (bs := 6) (by omega) ev51 (fun _ _ _ => ⟨by decide, by decide⟩) (fun _ _ q => q)) (fun E h9 q => nomatch (show (Sum.inr E : tq_R) = Sum.inl _ from q.1)) (fun r9 h9 q => ?_)
                obtain ⟨q1, rfl⟩ := q
                cases (show (Sum.inl r9 : tq_R) = Sum.inl (some (.int v51.1)) from q1)
                refine tq_iload (M := mL_law b sn xs) (pc := 352) dL_law_352 rfl ?_
                obtain ⟨p52, ep52, hf⟩ := tq_le hf
                have HJ354 : tq_W l (mL_law b sn xs) d 0 0 Q 362 [(1, .ref h.1), (6, .int v34)] [.int p52] v51.2 := by
                  refine tq_aload_n (M := mL_law b sn xs) (pc := 362) dL_law_362 rfl ?_
                  obtain ⟨⟨⟩, eu54, hf⟩ := tq_be hf
                  obtain ⟨fsu54, eu54⟩ := tq_is_s eu54
                  obtain ⟨v53, ev53, hf⟩ := tq_be hf
                  refine tq_calV (M := mL_law b sn xs) (pc := 363) (S := [.int p52]) tk_y_X10_nodes tk_v_X10_nodes tk_RL_296 dL_law_363 [] rfl (S0 := _) rfl eu54 rfl (Nat.le_of_ble_eq_true rfl) (d1 := d - 1) (b1 := 0) (s1 := 0) (bc' := 0) (bs' := 0) (Q1 := fun r h9 => r = .inl (some (.int v53)) ∧ v51.2 = h9) (by omega) rfl rfl (w_X10_nodes (by omega) ev53 (fun _ _ q => q)) (fun E h9 q => nomatch (show (Sum.inr E : tq_R) = Sum.inl _ from q.1)) (fun r9 h9 q => ?_)
                  obtain ⟨q1, rfl⟩ := q
                  cases (show (Sum.inl r9 : tq_R) = Sum.inl (some (.int v53)) from q1)
                  refine tq_iload (M := mL_law b sn xs) (pc := 366) dL_law_366 rfl ?_
                  obtain ⟨p55, ep55, hf⟩ := tq_le hf
                  have HJ368 : tq_W l (mL_law b sn xs) d 0 0 Q 376 [(1, .ref h.1)] [.int p55, .int p52] v51.2 := by
                    refine tq_icmp_ne (M := mL_law b sn xs) (pc := 376) (tgt := 390) dL_law_376 (by decide) (fun cc => ?_) (fun cc => ?_)
                    · have hf := tq_ifn hf cc
                      refine tq_iconst (M := mL_law b sn xs) (pc := 390) dL_law_390 tk_ki_0 ?_
                      refine tq_pick (L2 := []) [] rfl ?_
                      cases (Option.some.inj hf)
                      exact HJ295
                    · have hf := tq_ifp hf cc
                      refine tq_aload_n (M := mL_law b sn xs) (pc := 379) dL_law_379 rfl ?_
                      obtain ⟨v56, ev56, hf⟩ := tq_be hf
                      refine tq_calS (M := mL_law b sn xs) (pc := 380) (S := []) tk_y_L_isTree tk_s_L_isTree tk_RL_325 dL_law_380 [.ref h.1] rfl (Nat.le_of_ble_eq_true rfl) (d1 := d - 1) (b1 := 0) (s1 := 0) (bc' := 0) (bs' := 0) (Q1 := fun r h9 => r = .inl (some (.int v56.1)) ∧ v56.2 = h9) (by omega) rfl rfl (w_L_isTree (by omega) ev56 (fun _ _ q => q)) (fun E h9 q => nomatch (show (Sum.inr E : tq_R) = Sum.inl _ from q.1)) (fun r9 h9 q => ?_)
                      obtain ⟨q1, rfl⟩ := q
                      cases (show (Sum.inl r9 : tq_R) = Sum.inl (some (.int v56.1)) from q1)
                      refine tq_if_eq (M := mL_law b sn xs) (pc := 383) (tgt := 390) dL_law_383 (by decide) (fun cc => ?_) (fun cc => ?_)
                      · have hf := tq_ifp hf cc
                        refine tq_iconst (M := mL_law b sn xs) (pc := 390) dL_law_390 tk_ki_0 ?_
                        refine tq_pick (L2 := []) [] rfl ?_
                        cases (Option.some.inj hf)
                        exact HJ295
                      · have hf := tq_ifn hf cc
                        refine tq_iconst (M := mL_law b sn xs) (pc := 386) dL_law_386 tk_ki_1 ?_
                        refine tq_goto (M := mL_law b sn xs) (pc := 387) (tgt := 391) dL_law_387 (by decide) ?_
                        refine tq_pick (L2 := []) [] rfl ?_
                        cases (Option.some.inj hf)
                        exact HJ295
                  refine tq_icmp_ne (M := mL_law b sn xs) (pc := 368) (tgt := 375) dL_law_368 (by decide) (fun cc => ?_) (fun cc => ?_)
                  · have hf := tq_ifn ep55.symm cc
                    refine tq_iconst (M := mL_law b sn xs) (pc := 375) dL_law_375 tk_ki_0 ?_
                    refine tq_pick (L2 := [(1, .ref h.1)]) [0] rfl ?_
                    cases hf
                    exact HJ368
                  · have hf := tq_ifp ep55.symm cc
                    refine tq_iconst (M := mL_law b sn xs) (pc := 371) dL_law_371 tk_ki_1 ?_
                    refine tq_goto (M := mL_law b sn xs) (pc := 372) (tgt := 376) dL_law_372 (by decide) ?_
                    refine tq_pick (L2 := [(1, .ref h.1)]) [0] rfl ?_
                    cases hf
                    exact HJ368
                refine tq_icmp_ne (M := mL_law b sn xs) (pc := 354) (tgt := 361) dL_law_354 (by decide) (fun cc => ?_) (fun cc => ?_)
                · have hf := tq_ifn ep52.symm cc
                  refine tq_iconst (M := mL_law b sn xs) (pc := 361) dL_law_361 tk_ki_0 ?_
                  refine tq_pick (L2 := [(1, .ref h.1), (6, .int v34)]) [2, 3] rfl ?_
                  cases hf
                  exact HJ354
                · have hf := tq_ifp ep52.symm cc
                  refine tq_iconst (M := mL_law b sn xs) (pc := 357) dL_law_357 tk_ki_1 ?_
                  refine tq_goto (M := mL_law b sn xs) (pc := 358) (tgt := 362) dL_law_358 (by decide) ?_
                  refine tq_pick (L2 := [(1, .ref h.1), (6, .int v34)]) [2, 3] rfl ?_
                  cases hf
                  exact HJ354
  refine tq_if_eq (M := mL_law b sn xs) (pc := 236) (tgt := 284) dL_law_236 (by decide) (fun cc => ?_) (fun cc => ?_)
  · have hf := tq_ifp ep44 cc
    refine tq_iconst (M := mL_law b sn xs) (pc := 284) dL_law_284 tk_ki_0 ?_
    refine tq_pick (L2 := [(1, .ref h.1), (6, .int v34)]) [2, 0] rfl ?_
    refine tq_more (bc := 60) (bs := 8899) (by omega) (by omega) ?_
    cases (Option.some.inj hf)
    exact HJ236
  · have hf := tq_ifn ep44 cc
    refine tq_aload_n (M := mL_law b sn xs) (pc := 239) dL_law_239 rfl ?_
    obtain ⟨⟨⟩, eu37, hf⟩ := tq_be hf
    obtain ⟨fsu37, eu37⟩ := tq_is_s eu37
    obtain ⟨v36, ev36, hf⟩ := tq_be hf
    refine tq_calV (M := mL_law b sn xs) (pc := 240) (S := []) tk_y_X10_forget tk_v_X10_forget tk_RL_282 dL_law_240 [] rfl (S0 := _) rfl eu37 rfl (Nat.le_of_ble_eq_true rfl) (d1 := d - 1) (b1 := 0) (s1 := 0) (bc' := 1130) (bs' := 15319) (Q1 := fun r h9 => r = .inl (some (.int v36.1)) ∧ v36.2 = h9) (by omega) rfl rfl (w_X10_forget (by omega) ev36 (fun _ _ q => q)) (fun E h9 q => nomatch (show (Sum.inr E : tq_R) = Sum.inl _ from q.1)) (fun r9 h9 q => ?_)
    obtain ⟨q1, rfl⟩ := q
    cases (show (Sum.inl r9 : tq_R) = Sum.inl (some (.int v36.1)) from q1)
    refine tq_aload_n (M := mL_law b sn xs) (pc := 243) dL_law_243 rfl ?_
    obtain ⟨⟨⟩, eu39, hf⟩ := tq_be hf
    obtain ⟨fsu39, eu39⟩ := tq_is_s eu39
    obtain ⟨v38, ev38, hf⟩ := tq_be hf
    refine tq_calV (M := mL_law b sn xs) (pc := 244) (S := [.int v36.1]) tk_y_X10_forget tk_v_X10_forget tk_RL_282 dL_law_244 [] rfl (S0 := _) rfl eu39 rfl (Nat.le_of_ble_eq_true rfl) (d1 := d - 1) (b1 := 0) (s1 := 0) (bc' := 1130) (bs' := 15319) (Q1 := fun r h9 => r = .inl (some (.int v38.1)) ∧ v38.2 = h9) (by omega) rfl rfl (w_X10_forget (by omega) ev38 (fun _ _ q => q)) (fun E h9 q => nomatch (show (Sum.inr E : tq_R) = Sum.inl _ from q.1)) (fun r9 h9 q => ?_)
    obtain ⟨q1, rfl⟩ := q
    cases (show (Sum.inl r9 : tq_R) = Sum.inl (some (.int v38.1)) from q1)
    refine tq_icmp_ne (M := mL_law b sn xs) (pc := 247) (tgt := 284) dL_law_247 (by decide) (fun cc => ?_) (fun cc => ?_)
    · have hf := tq_ifn hf cc
      refine tq_iconst (M := mL_law b sn xs) (pc := 284) dL_law_284 tk_ki_0 ?_
      refine tq_pick (L2 := [(1, .ref h.1), (6, .int v34)]) [2, 0] rfl ?_
      refine tq_more (bc := 60) (bs := 8899) (by omega) (by omega) ?_
      cases (Option.some.inj hf)
      exact HJ236
    · have hf := tq_ifp hf cc
      refine tq_aload_n (M := mL_law b sn xs) (pc := 250) dL_law_250 rfl ?_
      refine tq_aload_n (M := mL_law b sn xs) (pc := 251) dL_law_251 rfl ?_
      refine tq_xload (M := mL_law b sn xs) (pc := 252) dL_law_252 rfl ?_
      refine tq_iconst (M := mL_law b sn xs) (pc := 253) dL_law_253 tk_ki_0 ?_
      obtain ⟨v40, ev40, hf⟩ := tq_be hf
      refine tq_calSX (M := mL_law b sn xs) (pc := 254) (S := [.ref v2.1, .ref h.1]) rfl tk_y_L_drawn tk_s_L_drawn tk_RL_310 dL_law_254 [.retAddr b, .int (0 : Int32)] rfl (Nat.le_of_ble_eq_true rfl) (d1 := d - 1) (b1 := 0) (s1 := 0) (bc' := 1130) (bs' := 15319) (Q1 := fun r h9 => r = .inl (some (.int v40)) ∧ v38.2 = h9) (by omega) rfl rfl (w_L_drawn (by omega) ev40 (fun _ _ q => q)) (fun E h9 q => nomatch (show (Sum.inr E : tq_R) = Sum.inl _ from q.1)) (fun r9 h9 q => ?_)
      obtain ⟨q1, rfl⟩ := q
      cases (show (Sum.inl r9 : tq_R) = Sum.inl (some (.int v40)) from q1)
      refine tq_bipush (M := mL_law b sn xs) (pc := 257) dL_law_257 tk_kb_29 ?_
      refine tq_idiv (M := mL_law b sn xs) (pc := 259) dL_law_259 (by decide +kernel) ?_
      obtain ⟨v41, ev41, hf⟩ := tq_be hf
      refine tq_calS (M := mL_law b sn xs) (pc := 260) (S := []) tk_y_L_alike tk_s_L_alike tk_RL_321 dL_law_260 [.ref h.1, .ref v2.1, .int ((v40 / (29 : Int32)))] rfl (Nat.le_of_ble_eq_true rfl) (d1 := d - 1) (b1 := 1028) (s1 := 6168) (bc' := 102) (bs' := 9151) (Q1 := fun r h9 => r = .inl (some (.int v41.1)) ∧ v41.2 = h9) (by omega) rfl rfl (w_L_alike (by omega) ev41 (fun _ _ q => q)) (fun E h9 q => nomatch (show (Sum.inr E : tq_R) = Sum.inl _ from q.1)) (fun r9 h9 q => ?_)
      obtain ⟨q1, rfl⟩ := q
      cases (show (Sum.inl r9 : tq_R) = Sum.inl (some (.int v41.1)) from q1)
      refine tq_if_eq (M := mL_law b sn xs) (pc := 263) (tgt := 284) dL_law_263 (by decide) (fun cc => ?_) (fun cc => ?_)
      · have hf := tq_ifp hf cc
        refine tq_iconst (M := mL_law b sn xs) (pc := 284) dL_law_284 tk_ki_0 ?_
        refine tq_pick (L2 := [(1, .ref h.1), (6, .int v34)]) [2, 0] rfl ?_
        refine tq_more (bc := 60) (bs := 8899) (by omega) (by omega) ?_
        cases (Option.some.inj hf)
        exact HJ236
      · have hf := tq_ifn hf cc
        refine tq_aload_n (M := mL_law b sn xs) (pc := 266) dL_law_266 rfl ?_
        obtain ⟨v42, ev42, hf⟩ := tq_be hf
        refine tq_calS (M := mL_law b sn xs) (pc := 267) (S := []) tk_y_L_isTree tk_s_L_isTree tk_RL_325 dL_law_267 [.ref h.1] rfl (Nat.le_of_ble_eq_true rfl) (d1 := d - 1) (b1 := 0) (s1 := 0) (bc' := 102) (bs' := 9151) (Q1 := fun r h9 => r = .inl (some (.int v42.1)) ∧ v42.2 = h9) (by omega) rfl rfl (w_L_isTree (by omega) ev42 (fun _ _ q => q)) (fun E h9 q => nomatch (show (Sum.inr E : tq_R) = Sum.inl _ from q.1)) (fun r9 h9 q => ?_)
        obtain ⟨q1, rfl⟩ := q
        cases (show (Sum.inl r9 : tq_R) = Sum.inl (some (.int v42.1)) from q1)
        refine tq_if_eq (M := mL_law b sn xs) (pc := 270) (tgt := 284) dL_law_270 (by decide) (fun cc => ?_) (fun cc => ?_)
        · have hf := tq_ifp hf cc
          refine tq_iconst (M := mL_law b sn xs) (pc := 284) dL_law_284 tk_ki_0 ?_
          refine tq_pick (L2 := [(1, .ref h.1), (6, .int v34)]) [2, 0] rfl ?_
          refine tq_more (bc := 60) (bs := 8899) (by omega) (by omega) ?_
          cases (Option.some.inj hf)
          exact HJ236
        · have hf := tq_ifn hf cc
          refine tq_aload_n (M := mL_law b sn xs) (pc := 273) dL_law_273 rfl ?_
          obtain ⟨v43, ev43, hf⟩ := tq_be hf
          refine tq_calS (M := mL_law b sn xs) (pc := 274) (S := []) tk_y_L_finds tk_s_L_finds tk_RL_329 dL_law_274 [.ref h.1] rfl (Nat.le_of_ble_eq_true rfl) (d1 := d - 1) (b1 := 42) (s1 := 252) (bc' := 60) (bs' := 8899) (Q1 := fun r h9 => r = .inl (some (.int v43.1)) ∧ v43.2 = h9) (by omega) rfl rfl (w_L_finds (by omega) ev43 (fun _ _ q => q)) (fun E h9 q => nomatch (show (Sum.inr E : tq_R) = Sum.inl _ from q.1)) (fun r9 h9 q => ?_)
          obtain ⟨q1, rfl⟩ := q
          cases (show (Sum.inl r9 : tq_R) = Sum.inl (some (.int v43.1)) from q1)
          refine tq_if_eq (M := mL_law b sn xs) (pc := 277) (tgt := 284) dL_law_277 (by decide) (fun cc => ?_) (fun cc => ?_)
          · have hf := tq_ifp hf cc
            refine tq_iconst (M := mL_law b sn xs) (pc := 284) dL_law_284 tk_ki_0 ?_
            refine tq_pick (L2 := [(1, .ref h.1), (6, .int v34)]) [2, 0] rfl ?_
            cases (Option.some.inj hf)
            exact HJ236
          · have hf := tq_ifn hf cc
            refine tq_iconst (M := mL_law b sn xs) (pc := 280) dL_law_280 tk_ki_1 ?_
            refine tq_goto (M := mL_law b sn xs) (pc := 281) (tgt := 285) dL_law_281 (by decide) ?_
            refine tq_pick (L2 := [(1, .ref h.1), (6, .int v34)]) [2, 0] rfl ?_
            cases (Option.some.inj hf)
            exact HJ236
