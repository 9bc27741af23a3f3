/-! ===== printed by wip/p58/tools: p58's law: calls that throw ===== -/
abbrev cL_refuses : ByteArray := method_50_code
def yL_refuses : MethodName := ⟨RL, "refuses", "(LTreequery;[II)Z"⟩
theorem dL_refuses_0 : decode cL_refuses 0 = .ok (.iload_n 2, 1) := by decide +kernel
theorem dL_refuses_1 : decode cL_refuses 1 = .ok (.iconst 2, 1) := by decide +kernel
theorem dL_refuses_2 : decode cL_refuses 2 = .ok (.irem, 1) := by decide +kernel
theorem dL_refuses_3 : decode cL_refuses 3 = .ok (.ifCond .ne 7, 3) := by decide +kernel
theorem dL_refuses_6 : decode cL_refuses 6 = .ok (.iconst 1, 1) := by decide +kernel
theorem dL_refuses_7 : decode cL_refuses 7 = .ok (.goto 4, 3) := by decide +kernel
theorem dL_refuses_10 : decode cL_refuses 10 = .ok (.iconst 0, 1) := by decide +kernel
theorem dL_refuses_11 : decode cL_refuses 11 = .ok (.istore_n 3, 1) := by decide +kernel
theorem dL_refuses_12 : decode cL_refuses 12 = .ok (.iload_n 3, 1) := by decide +kernel
theorem dL_refuses_13 : decode cL_refuses 13 = .ok (.ifCond .eq 12, 3) := by decide +kernel
theorem dL_refuses_16 : decode cL_refuses 16 = .ok (.iconst (-1), 1) := by decide +kernel
theorem dL_refuses_17 : decode cL_refuses 17 = .ok (.iload_n 2, 1) := by decide +kernel
theorem dL_refuses_18 : decode cL_refuses 18 = .ok (.bipush 50, 2) := by decide +kernel
theorem dL_refuses_20 : decode cL_refuses 20 = .ok (.irem, 1) := by decide +kernel
theorem dL_refuses_21 : decode cL_refuses 21 = .ok (.isub, 1) := by decide +kernel
theorem dL_refuses_22 : decode cL_refuses 22 = .ok (.goto 12, 3) := by decide +kernel
theorem dL_refuses_25 : decode cL_refuses 25 = .ok (.aload_n 0, 1) := by decide +kernel
theorem dL_refuses_26 : decode cL_refuses 26 = .ok (.invokevirtual 172, 3) := by decide +kernel
theorem dL_refuses_29 : decode cL_refuses 29 = .ok (.iload_n 2, 1) := by decide +kernel
theorem dL_refuses_30 : decode cL_refuses 30 = .ok (.bipush 50, 2) := by decide +kernel
theorem dL_refuses_32 : decode cL_refuses 32 = .ok (.irem, 1) := by decide +kernel
theorem dL_refuses_33 : decode cL_refuses 33 = .ok (.iadd, 1) := by decide +kernel
theorem dL_refuses_34 : decode cL_refuses 34 = .ok (.istore 4, 2) := by decide +kernel
theorem dL_refuses_36 : decode cL_refuses 36 = .ok (.iload_n 3, 1) := by decide +kernel
theorem dL_refuses_37 : decode cL_refuses 37 = .ok (.ifCond .eq 12, 3) := by decide +kernel
theorem dL_refuses_40 : decode cL_refuses 40 = .ok (.iconst (-1), 1) := by decide +kernel
theorem dL_refuses_41 : decode cL_refuses 41 = .ok (.iload_n 2, 1) := by decide +kernel
theorem dL_refuses_42 : decode cL_refuses 42 = .ok (.bipush 50, 2) := by decide +kernel
theorem dL_refuses_44 : decode cL_refuses 44 = .ok (.irem, 1) := by decide +kernel
theorem dL_refuses_45 : decode cL_refuses 45 = .ok (.isub, 1) := by decide +kernel
theorem dL_refuses_46 : decode cL_refuses 46 = .ok (.goto 12, 3) := by decide +kernel
theorem dL_refuses_49 : decode cL_refuses 49 = .ok (.aload_n 0, 1) := by decide +kernel
theorem dL_refuses_50 : decode cL_refuses 50 = .ok (.invokevirtual 175, 3) := by decide +kernel
theorem dL_refuses_53 : decode cL_refuses 53 = .ok (.iload_n 2, 1) := by decide +kernel
theorem dL_refuses_54 : decode cL_refuses 54 = .ok (.bipush 50, 2) := by decide +kernel
theorem dL_refuses_56 : decode cL_refuses 56 = .ok (.irem, 1) := by decide +kernel
theorem dL_refuses_57 : decode cL_refuses 57 = .ok (.iadd, 1) := by decide +kernel
theorem dL_refuses_58 : decode cL_refuses 58 = .ok (.istore 5, 2) := by decide +kernel
theorem dL_refuses_60 : decode cL_refuses 60 = .ok (.iload_n 3, 1) := by decide +kernel
theorem dL_refuses_61 : decode cL_refuses 61 = .ok (.ifCond .eq 9, 3) := by decide +kernel
theorem dL_refuses_64 : decode cL_refuses 64 = .ok (.iconst (-1), 1) := by decide +kernel
theorem dL_refuses_65 : decode cL_refuses 65 = .ok (.iload_n 2, 1) := by decide +kernel
theorem dL_refuses_66 : decode cL_refuses 66 = .ok (.isub, 1) := by decide +kernel
theorem dL_refuses_67 : decode cL_refuses 67 = .ok (.goto 7, 3) := by decide +kernel
theorem dL_refuses_70 : decode cL_refuses 70 = .ok (.bipush 8, 2) := by decide +kernel
theorem dL_refuses_72 : decode cL_refuses 72 = .ok (.iload_n 2, 1) := by decide +kernel
theorem dL_refuses_73 : decode cL_refuses 73 = .ok (.iadd, 1) := by decide +kernel
theorem dL_refuses_74 : decode cL_refuses 74 = .ok (.istore 6, 2) := by decide +kernel
theorem dL_refuses_76 : decode cL_refuses 76 = .ok (.iload_n 3, 1) := by decide +kernel
theorem dL_refuses_77 : decode cL_refuses 77 = .ok (.ifCond .eq 9, 3) := by decide +kernel
theorem dL_refuses_80 : decode cL_refuses 80 = .ok (.iconst (-1), 1) := by decide +kernel
theorem dL_refuses_81 : decode cL_refuses 81 = .ok (.iload_n 2, 1) := by decide +kernel
theorem dL_refuses_82 : decode cL_refuses 82 = .ok (.isub, 1) := by decide +kernel
theorem dL_refuses_83 : decode cL_refuses 83 = .ok (.goto 7, 3) := by decide +kernel
theorem dL_refuses_86 : decode cL_refuses 86 = .ok (.bipush 6, 2) := by decide +kernel
theorem dL_refuses_88 : decode cL_refuses 88 = .ok (.iload_n 2, 1) := by decide +kernel
theorem dL_refuses_89 : decode cL_refuses 89 = .ok (.iadd, 1) := by decide +kernel
theorem dL_refuses_90 : decode cL_refuses 90 = .ok (.istore 7, 2) := by decide +kernel
theorem dL_refuses_92 : decode cL_refuses 92 = .ok (.iload_n 3, 1) := by decide +kernel
theorem dL_refuses_93 : decode cL_refuses 93 = .ok (.ifCond .eq 9, 3) := by decide +kernel
theorem dL_refuses_96 : decode cL_refuses 96 = .ok (.iconst (-1), 1) := by decide +kernel
theorem dL_refuses_97 : decode cL_refuses 97 = .ok (.iload_n 2, 1) := by decide +kernel
theorem dL_refuses_98 : decode cL_refuses 98 = .ok (.isub, 1) := by decide +kernel
theorem dL_refuses_99 : decode cL_refuses 99 = .ok (.goto 7, 3) := by decide +kernel
theorem dL_refuses_102 : decode cL_refuses 102 = .ok (.bipush 6, 2) := by decide +kernel
theorem dL_refuses_104 : decode cL_refuses 104 = .ok (.iload_n 2, 1) := by decide +kernel
theorem dL_refuses_105 : decode cL_refuses 105 = .ok (.iadd, 1) := by decide +kernel
theorem dL_refuses_106 : decode cL_refuses 106 = .ok (.istore 8, 2) := by decide +kernel
theorem dL_refuses_108 : decode cL_refuses 108 = .ok (.aload_n 1, 1) := by decide +kernel
theorem dL_refuses_109 : decode cL_refuses 109 = .ok (.iconst 0, 1) := by decide +kernel
theorem dL_refuses_110 : decode cL_refuses 110 = .ok (.iaload, 1) := by decide +kernel
theorem dL_refuses_111 : decode cL_refuses 111 = .ok (.bipush 20, 2) := by decide +kernel
theorem dL_refuses_113 : decode cL_refuses 113 = .ok (.if_icmp .ne 7, 3) := by decide +kernel
theorem dL_refuses_116 : decode cL_refuses 116 = .ok (.iconst 1, 1) := by decide +kernel
theorem dL_refuses_117 : decode cL_refuses 117 = .ok (.goto 4, 3) := by decide +kernel
theorem dL_refuses_120 : decode cL_refuses 120 = .ok (.iconst 0, 1) := by decide +kernel
theorem dL_refuses_121 : decode cL_refuses 121 = .ok (.istore 9, 2) := by decide +kernel
theorem dL_refuses_123 : decode cL_refuses 123 = .ok (.aload_n 0, 1) := by decide +kernel
theorem dL_refuses_124 : decode cL_refuses 124 = .ok (.iload 4, 2) := by decide +kernel
theorem dL_refuses_126 : decode cL_refuses 126 = .ok (.iconst 0, 1) := by decide +kernel
theorem dL_refuses_127 : decode cL_refuses 127 = .ok (.iconst 0, 1) := by decide +kernel
theorem dL_refuses_128 : decode cL_refuses 128 = .ok (.invokestatic 178, 3) := by decide +kernel
theorem dL_refuses_131 : decode cL_refuses 131 = .ok (.ldc 15, 2) := by decide +kernel
theorem dL_refuses_133 : decode cL_refuses 133 = .ok (.if_icmp .ne 307, 3) := by decide +kernel
theorem dL_refuses_136 : decode cL_refuses 136 = .ok (.aload_n 0, 1) := by decide +kernel
theorem dL_refuses_137 : decode cL_refuses 137 = .ok (.iconst 0, 1) := by decide +kernel
theorem dL_refuses_138 : decode cL_refuses 138 = .ok (.iload_n 3, 1) := by decide +kernel
theorem dL_refuses_139 : decode cL_refuses 139 = .ok (.ifCond .eq 9, 3) := by decide +kernel
theorem dL_refuses_142 : decode cL_refuses 142 = .ok (.iconst (-1), 1) := by decide +kernel
theorem dL_refuses_143 : decode cL_refuses 143 = .ok (.iload_n 2, 1) := by decide +kernel
theorem dL_refuses_144 : decode cL_refuses 144 = .ok (.isub, 1) := by decide +kernel
theorem dL_refuses_145 : decode cL_refuses 145 = .ok (.goto 7, 3) := by decide +kernel
theorem dL_refuses_148 : decode cL_refuses 148 = .ok (.bipush 60, 2) := by decide +kernel
theorem dL_refuses_150 : decode cL_refuses 150 = .ok (.iload_n 2, 1) := by decide +kernel
theorem dL_refuses_151 : decode cL_refuses 151 = .ok (.iadd, 1) := by decide +kernel
theorem dL_refuses_152 : decode cL_refuses 152 = .ok (.iconst 0, 1) := by decide +kernel
theorem dL_refuses_153 : decode cL_refuses 153 = .ok (.invokestatic 178, 3) := by decide +kernel
theorem dL_refuses_156 : decode cL_refuses 156 = .ok (.ldc 15, 2) := by decide +kernel
theorem dL_refuses_158 : decode cL_refuses 158 = .ok (.if_icmp .ne 282, 3) := by decide +kernel
theorem dL_refuses_161 : decode cL_refuses 161 = .ok (.aload_n 0, 1) := by decide +kernel
theorem dL_refuses_162 : decode cL_refuses 162 = .ok (.iconst 0, 1) := by decide +kernel
theorem dL_refuses_163 : decode cL_refuses 163 = .ok (.iconst 0, 1) := by decide +kernel
theorem dL_refuses_164 : decode cL_refuses 164 = .ok (.iload 6, 2) := by decide +kernel
theorem dL_refuses_166 : decode cL_refuses 166 = .ok (.invokestatic 178, 3) := by decide +kernel
theorem dL_refuses_169 : decode cL_refuses 169 = .ok (.ldc 18, 2) := by decide +kernel
theorem dL_refuses_171 : decode cL_refuses 171 = .ok (.if_icmp .ne 269, 3) := by decide +kernel
theorem dL_refuses_174 : decode cL_refuses 174 = .ok (.aload_n 0, 1) := by decide +kernel
theorem dL_refuses_175 : decode cL_refuses 175 = .ok (.iconst 0, 1) := by decide +kernel
theorem dL_refuses_176 : decode cL_refuses 176 = .ok (.iconst 0, 1) := by decide +kernel
theorem dL_refuses_177 : decode cL_refuses 177 = .ok (.iload_n 3, 1) := by decide +kernel
theorem dL_refuses_178 : decode cL_refuses 178 = .ok (.ifCond .eq 9, 3) := by decide +kernel
theorem dL_refuses_181 : decode cL_refuses 181 = .ok (.iconst (-1), 1) := by decide +kernel
theorem dL_refuses_182 : decode cL_refuses 182 = .ok (.iload_n 2, 1) := by decide +kernel
theorem dL_refuses_183 : decode cL_refuses 183 = .ok (.isub, 1) := by decide +kernel
theorem dL_refuses_184 : decode cL_refuses 184 = .ok (.goto 8, 3) := by decide +kernel
theorem dL_refuses_187 : decode cL_refuses 187 = .ok (.sipush 1000, 3) := by decide +kernel
theorem dL_refuses_190 : decode cL_refuses 190 = .ok (.iload_n 2, 1) := by decide +kernel
theorem dL_refuses_191 : decode cL_refuses 191 = .ok (.iadd, 1) := by decide +kernel
theorem dL_refuses_192 : decode cL_refuses 192 = .ok (.invokestatic 184, 3) := by decide +kernel
theorem dL_refuses_195 : decode cL_refuses 195 = .ok (.ldc 18, 2) := by decide +kernel
theorem dL_refuses_197 : decode cL_refuses 197 = .ok (.if_icmp .ne 243, 3) := by decide +kernel
theorem dL_refuses_200 : decode cL_refuses 200 = .ok (.aload_n 0, 1) := by decide +kernel
theorem dL_refuses_201 : decode cL_refuses 201 = .ok (.iconst 0, 1) := by decide +kernel
theorem dL_refuses_202 : decode cL_refuses 202 = .ok (.iload 6, 2) := by decide +kernel
theorem dL_refuses_204 : decode cL_refuses 204 = .ok (.iconst 0, 1) := by decide +kernel
theorem dL_refuses_205 : decode cL_refuses 205 = .ok (.invokestatic 187, 3) := by decide +kernel
theorem dL_refuses_208 : decode cL_refuses 208 = .ok (.ldc 18, 2) := by decide +kernel
theorem dL_refuses_210 : decode cL_refuses 210 = .ok (.if_icmp .ne 230, 3) := by decide +kernel
theorem dL_refuses_213 : decode cL_refuses 213 = .ok (.aload_n 0, 1) := by decide +kernel
theorem dL_refuses_214 : decode cL_refuses 214 = .ok (.iload 4, 2) := by decide +kernel
theorem dL_refuses_216 : decode cL_refuses 216 = .ok (.iconst 0, 1) := by decide +kernel
theorem dL_refuses_217 : decode cL_refuses 217 = .ok (.iconst 0, 1) := by decide +kernel
theorem dL_refuses_218 : decode cL_refuses 218 = .ok (.invokestatic 187, 3) := by decide +kernel
theorem dL_refuses_221 : decode cL_refuses 221 = .ok (.ldc 15, 2) := by decide +kernel
theorem dL_refuses_223 : decode cL_refuses 223 = .ok (.if_icmp .ne 217, 3) := by decide +kernel
theorem dL_refuses_226 : decode cL_refuses 226 = .ok (.iload 9, 2) := by decide +kernel
theorem dL_refuses_228 : decode cL_refuses 228 = .ok (.ifCond .eq 37, 3) := by decide +kernel
theorem dL_refuses_231 : decode cL_refuses 231 = .ok (.aload_n 0, 1) := by decide +kernel
theorem dL_refuses_232 : decode cL_refuses 232 = .ok (.iconst 0, 1) := by decide +kernel
theorem dL_refuses_233 : decode cL_refuses 233 = .ok (.iconst 0, 1) := by decide +kernel
theorem dL_refuses_234 : decode cL_refuses 234 = .ok (.iconst 0, 1) := by decide +kernel
theorem dL_refuses_235 : decode cL_refuses 235 = .ok (.invokestatic 187, 3) := by decide +kernel
theorem dL_refuses_238 : decode cL_refuses 238 = .ok (.ldc 21, 2) := by decide +kernel
theorem dL_refuses_240 : decode cL_refuses 240 = .ok (.if_icmp .ne 200, 3) := by decide +kernel
theorem dL_refuses_243 : decode cL_refuses 243 = .ok (.aload_n 0, 1) := by decide +kernel
theorem dL_refuses_244 : decode cL_refuses 244 = .ok (.iconst 0, 1) := by decide +kernel
theorem dL_refuses_245 : decode cL_refuses 245 = .ok (.iconst 0, 1) := by decide +kernel
theorem dL_refuses_246 : decode cL_refuses 246 = .ok (.invokestatic 189, 3) := by decide +kernel
theorem dL_refuses_249 : decode cL_refuses 249 = .ok (.ldc 21, 2) := by decide +kernel
theorem dL_refuses_251 : decode cL_refuses 251 = .ok (.if_icmp .ne 189, 3) := by decide +kernel
theorem dL_refuses_254 : decode cL_refuses 254 = .ok (.aload_n 0, 1) := by decide +kernel
theorem dL_refuses_255 : decode cL_refuses 255 = .ok (.iconst 0, 1) := by decide +kernel
theorem dL_refuses_256 : decode cL_refuses 256 = .ok (.iconst 0, 1) := by decide +kernel
theorem dL_refuses_257 : decode cL_refuses 257 = .ok (.invokestatic 192, 3) := by decide +kernel
theorem dL_refuses_260 : decode cL_refuses 260 = .ok (.ldc 21, 2) := by decide +kernel
theorem dL_refuses_262 : decode cL_refuses 262 = .ok (.if_icmp .ne 178, 3) := by decide +kernel
theorem dL_refuses_265 : decode cL_refuses 265 = .ok (.aload_n 0, 1) := by decide +kernel
theorem dL_refuses_266 : decode cL_refuses 266 = .ok (.iload 4, 2) := by decide +kernel
theorem dL_refuses_268 : decode cL_refuses 268 = .ok (.invokestatic 194, 3) := by decide +kernel
theorem dL_refuses_271 : decode cL_refuses 271 = .ok (.ldc 15, 2) := by decide +kernel
theorem dL_refuses_273 : decode cL_refuses 273 = .ok (.if_icmp .ne 167, 3) := by decide +kernel
theorem dL_refuses_276 : decode cL_refuses 276 = .ok (.aload_n 0, 1) := by decide +kernel
theorem dL_refuses_277 : decode cL_refuses 277 = .ok (.iconst 0, 1) := by decide +kernel
theorem dL_refuses_278 : decode cL_refuses 278 = .ok (.invokestatic 194, 3) := by decide +kernel
theorem dL_refuses_281 : decode cL_refuses 281 = .ok (.ldc 21, 2) := by decide +kernel
theorem dL_refuses_283 : decode cL_refuses 283 = .ok (.if_icmp .ne 157, 3) := by decide +kernel
theorem dL_refuses_286 : decode cL_refuses 286 = .ok (.aload_n 0, 1) := by decide +kernel
theorem dL_refuses_287 : decode cL_refuses 287 = .ok (.iload 4, 2) := by decide +kernel
theorem dL_refuses_289 : decode cL_refuses 289 = .ok (.iconst 0, 1) := by decide +kernel
theorem dL_refuses_290 : decode cL_refuses 290 = .ok (.invokestatic 189, 3) := by decide +kernel
theorem dL_refuses_293 : decode cL_refuses 293 = .ok (.ldc 15, 2) := by decide +kernel
theorem dL_refuses_295 : decode cL_refuses 295 = .ok (.if_icmp .ne 145, 3) := by decide +kernel
theorem dL_refuses_298 : decode cL_refuses 298 = .ok (.aload_n 0, 1) := by decide +kernel
theorem dL_refuses_299 : decode cL_refuses 299 = .ok (.iconst 0, 1) := by decide +kernel
theorem dL_refuses_300 : decode cL_refuses 300 = .ok (.iload 6, 2) := by decide +kernel
theorem dL_refuses_302 : decode cL_refuses 302 = .ok (.invokestatic 189, 3) := by decide +kernel
theorem dL_refuses_305 : decode cL_refuses 305 = .ok (.ldc 18, 2) := by decide +kernel
theorem dL_refuses_307 : decode cL_refuses 307 = .ok (.if_icmp .ne 133, 3) := by decide +kernel
theorem dL_refuses_310 : decode cL_refuses 310 = .ok (.aload_n 0, 1) := by decide +kernel
theorem dL_refuses_311 : decode cL_refuses 311 = .ok (.iload 4, 2) := by decide +kernel
theorem dL_refuses_313 : decode cL_refuses 313 = .ok (.iconst 0, 1) := by decide +kernel
theorem dL_refuses_314 : decode cL_refuses 314 = .ok (.invokestatic 197, 3) := by decide +kernel
theorem dL_refuses_317 : decode cL_refuses 317 = .ok (.ldc 15, 2) := by decide +kernel
theorem dL_refuses_319 : decode cL_refuses 319 = .ok (.if_icmp .ne 121, 3) := by decide +kernel
theorem dL_refuses_322 : decode cL_refuses 322 = .ok (.aload_n 0, 1) := by decide +kernel
theorem dL_refuses_323 : decode cL_refuses 323 = .ok (.iconst 0, 1) := by decide +kernel
theorem dL_refuses_324 : decode cL_refuses 324 = .ok (.iload_n 3, 1) := by decide +kernel
theorem dL_refuses_325 : decode cL_refuses 325 = .ok (.ifCond .eq 9, 3) := by decide +kernel
theorem dL_refuses_328 : decode cL_refuses 328 = .ok (.iconst (-1), 1) := by decide +kernel
theorem dL_refuses_329 : decode cL_refuses 329 = .ok (.iload_n 2, 1) := by decide +kernel
theorem dL_refuses_330 : decode cL_refuses 330 = .ok (.isub, 1) := by decide +kernel
theorem dL_refuses_331 : decode cL_refuses 331 = .ok (.goto 8, 3) := by decide +kernel
theorem dL_refuses_334 : decode cL_refuses 334 = .ok (.sipush 1000, 3) := by decide +kernel
theorem dL_refuses_337 : decode cL_refuses 337 = .ok (.iload_n 2, 1) := by decide +kernel
theorem dL_refuses_338 : decode cL_refuses 338 = .ok (.iadd, 1) := by decide +kernel
theorem dL_refuses_339 : decode cL_refuses 339 = .ok (.invokestatic 197, 3) := by decide +kernel
theorem dL_refuses_342 : decode cL_refuses 342 = .ok (.ldc 18, 2) := by decide +kernel
theorem dL_refuses_344 : decode cL_refuses 344 = .ok (.if_icmp .ne 96, 3) := by decide +kernel
theorem dL_refuses_347 : decode cL_refuses 347 = .ok (.aload_n 0, 1) := by decide +kernel
theorem dL_refuses_348 : decode cL_refuses 348 = .ok (.iconst 0, 1) := by decide +kernel
theorem dL_refuses_349 : decode cL_refuses 349 = .ok (.iload_n 2, 1) := by decide +kernel
theorem dL_refuses_350 : decode cL_refuses 350 = .ok (.sipush 1000, 3) := by decide +kernel
theorem dL_refuses_353 : decode cL_refuses 353 = .ok (.irem, 1) := by decide +kernel
theorem dL_refuses_354 : decode cL_refuses 354 = .ok (.invokestatic 197, 3) := by decide +kernel
theorem dL_refuses_357 : decode cL_refuses 357 = .ok (.ldc 21, 2) := by decide +kernel
theorem dL_refuses_359 : decode cL_refuses 359 = .ok (.if_icmp .ne 81, 3) := by decide +kernel
theorem dL_refuses_362 : decode cL_refuses 362 = .ok (.aload_n 0, 1) := by decide +kernel
theorem dL_refuses_363 : decode cL_refuses 363 = .ok (.iload 4, 2) := by decide +kernel
theorem dL_refuses_365 : decode cL_refuses 365 = .ok (.iconst 0, 1) := by decide +kernel
theorem dL_refuses_366 : decode cL_refuses 366 = .ok (.iconst 0, 1) := by decide +kernel
theorem dL_refuses_367 : decode cL_refuses 367 = .ok (.invokestatic 200, 3) := by decide +kernel
theorem dL_refuses_370 : decode cL_refuses 370 = .ok (.ldc 15, 2) := by decide +kernel
theorem dL_refuses_372 : decode cL_refuses 372 = .ok (.if_icmp .ne 68, 3) := by decide +kernel
theorem dL_refuses_375 : decode cL_refuses 375 = .ok (.aload_n 0, 1) := by decide +kernel
theorem dL_refuses_376 : decode cL_refuses 376 = .ok (.iconst 0, 1) := by decide +kernel
theorem dL_refuses_377 : decode cL_refuses 377 = .ok (.iload 4, 2) := by decide +kernel
theorem dL_refuses_379 : decode cL_refuses 379 = .ok (.iconst 0, 1) := by decide +kernel
theorem dL_refuses_380 : decode cL_refuses 380 = .ok (.invokestatic 200, 3) := by decide +kernel
theorem dL_refuses_383 : decode cL_refuses 383 = .ok (.ldc 15, 2) := by decide +kernel
theorem dL_refuses_385 : decode cL_refuses 385 = .ok (.if_icmp .ne 55, 3) := by decide +kernel
theorem dL_refuses_388 : decode cL_refuses 388 = .ok (.aload_n 0, 1) := by decide +kernel
theorem dL_refuses_389 : decode cL_refuses 389 = .ok (.iconst 0, 1) := by decide +kernel
theorem dL_refuses_390 : decode cL_refuses 390 = .ok (.iconst 0, 1) := by decide +kernel
theorem dL_refuses_391 : decode cL_refuses 391 = .ok (.iconst 0, 1) := by decide +kernel
theorem dL_refuses_392 : decode cL_refuses 392 = .ok (.invokestatic 200, 3) := by decide +kernel
theorem dL_refuses_395 : decode cL_refuses 395 = .ok (.ldc 21, 2) := by decide +kernel
theorem dL_refuses_397 : decode cL_refuses 397 = .ok (.if_icmp .ne 43, 3) := by decide +kernel
theorem dL_refuses_400 : decode cL_refuses 400 = .ok (.aload_n 0, 1) := by decide +kernel
theorem dL_refuses_401 : decode cL_refuses 401 = .ok (.iload 4, 2) := by decide +kernel
theorem dL_refuses_403 : decode cL_refuses 403 = .ok (.iconst 0, 1) := by decide +kernel
theorem dL_refuses_404 : decode cL_refuses 404 = .ok (.invokestatic 192, 3) := by decide +kernel
theorem dL_refuses_407 : decode cL_refuses 407 = .ok (.ldc 15, 2) := by decide +kernel
theorem dL_refuses_409 : decode cL_refuses 409 = .ok (.if_icmp .ne 31, 3) := by decide +kernel
theorem dL_refuses_412 : decode cL_refuses 412 = .ok (.aload_n 0, 1) := by decide +kernel
theorem dL_refuses_413 : decode cL_refuses 413 = .ok (.iconst 0, 1) := by decide +kernel
theorem dL_refuses_414 : decode cL_refuses 414 = .ok (.iload_n 3, 1) := by decide +kernel
theorem dL_refuses_415 : decode cL_refuses 415 = .ok (.ifCond .eq 10, 3) := by decide +kernel
theorem dL_refuses_418 : decode cL_refuses 418 = .ok (.bipush (-2), 2) := by decide +kernel
theorem dL_refuses_420 : decode cL_refuses 420 = .ok (.iload_n 2, 1) := by decide +kernel
theorem dL_refuses_421 : decode cL_refuses 421 = .ok (.isub, 1) := by decide +kernel
theorem dL_refuses_422 : decode cL_refuses 422 = .ok (.goto 6, 3) := by decide +kernel
theorem dL_refuses_425 : decode cL_refuses 425 = .ok (.iconst 4, 1) := by decide +kernel
theorem dL_refuses_426 : decode cL_refuses 426 = .ok (.iload_n 2, 1) := by decide +kernel
theorem dL_refuses_427 : decode cL_refuses 427 = .ok (.iadd, 1) := by decide +kernel
theorem dL_refuses_428 : decode cL_refuses 428 = .ok (.invokestatic 192, 3) := by decide +kernel
theorem dL_refuses_431 : decode cL_refuses 431 = .ok (.ldc 18, 2) := by decide +kernel
theorem dL_refuses_433 : decode cL_refuses 433 = .ok (.if_icmp .ne 7, 3) := by decide +kernel
theorem dL_refuses_436 : decode cL_refuses 436 = .ok (.iconst 1, 1) := by decide +kernel
theorem dL_refuses_437 : decode cL_refuses 437 = .ok (.goto 4, 3) := by decide +kernel
theorem dL_refuses_440 : decode cL_refuses 440 = .ok (.iconst 0, 1) := by decide +kernel
theorem dL_refuses_441 : decode cL_refuses 441 = .ok (.istore 10, 2) := by decide +kernel
theorem dL_refuses_443 : decode cL_refuses 443 = .ok (.iload 10, 2) := by decide +kernel
theorem dL_refuses_445 : decode cL_refuses 445 = .ok (.ifCond .eq 334, 3) := by decide +kernel
theorem dL_refuses_448 : decode cL_refuses 448 = .ok (.aload_n 0, 1) := by decide +kernel
theorem dL_refuses_449 : decode cL_refuses 449 = .ok (.iload 4, 2) := by decide +kernel
theorem dL_refuses_451 : decode cL_refuses 451 = .ok (.invokestatic 202, 3) := by decide +kernel
theorem dL_refuses_454 : decode cL_refuses 454 = .ok (.ldc 15, 2) := by decide +kernel
theorem dL_refuses_456 : decode cL_refuses 456 = .ok (.if_icmp .ne 323, 3) := by decide +kernel
theorem dL_refuses_459 : decode cL_refuses 459 = .ok (.aload_n 0, 1) := by decide +kernel
theorem dL_refuses_460 : decode cL_refuses 460 = .ok (.iload 4, 2) := by decide +kernel
theorem dL_refuses_462 : decode cL_refuses 462 = .ok (.invokestatic 204, 3) := by decide +kernel
theorem dL_refuses_465 : decode cL_refuses 465 = .ok (.ldc 15, 2) := by decide +kernel
theorem dL_refuses_467 : decode cL_refuses 467 = .ok (.if_icmp .ne 312, 3) := by decide +kernel
theorem dL_refuses_470 : decode cL_refuses 470 = .ok (.aload_n 0, 1) := by decide +kernel
theorem dL_refuses_471 : decode cL_refuses 471 = .ok (.iload 4, 2) := by decide +kernel
theorem dL_refuses_473 : decode cL_refuses 473 = .ok (.invokestatic 206, 3) := by decide +kernel
theorem dL_refuses_476 : decode cL_refuses 476 = .ok (.ldc 15, 2) := by decide +kernel
theorem dL_refuses_478 : decode cL_refuses 478 = .ok (.if_icmp .ne 301, 3) := by decide +kernel
theorem dL_refuses_481 : decode cL_refuses 481 = .ok (.aload_n 0, 1) := by decide +kernel
theorem dL_refuses_482 : decode cL_refuses 482 = .ok (.iload 4, 2) := by decide +kernel
theorem dL_refuses_484 : decode cL_refuses 484 = .ok (.invokestatic 208, 3) := by decide +kernel
theorem dL_refuses_487 : decode cL_refuses 487 = .ok (.ldc 15, 2) := by decide +kernel
theorem dL_refuses_489 : decode cL_refuses 489 = .ok (.if_icmp .ne 290, 3) := by decide +kernel
theorem dL_refuses_492 : decode cL_refuses 492 = .ok (.aload_n 0, 1) := by decide +kernel
theorem dL_refuses_493 : decode cL_refuses 493 = .ok (.iload 4, 2) := by decide +kernel
theorem dL_refuses_495 : decode cL_refuses 495 = .ok (.iconst 0, 1) := by decide +kernel
theorem dL_refuses_496 : decode cL_refuses 496 = .ok (.invokestatic 210, 3) := by decide +kernel
theorem dL_refuses_499 : decode cL_refuses 499 = .ok (.ldc 15, 2) := by decide +kernel
theorem dL_refuses_501 : decode cL_refuses 501 = .ok (.if_icmp .ne 278, 3) := by decide +kernel
theorem dL_refuses_504 : decode cL_refuses 504 = .ok (.aload_n 0, 1) := by decide +kernel
theorem dL_refuses_505 : decode cL_refuses 505 = .ok (.iconst 0, 1) := by decide +kernel
theorem dL_refuses_506 : decode cL_refuses 506 = .ok (.iconst (-1), 1) := by decide +kernel
theorem dL_refuses_507 : decode cL_refuses 507 = .ok (.iload_n 2, 1) := by decide +kernel
theorem dL_refuses_508 : decode cL_refuses 508 = .ok (.isub, 1) := by decide +kernel
theorem dL_refuses_509 : decode cL_refuses 509 = .ok (.invokestatic 210, 3) := by decide +kernel
theorem dL_refuses_512 : decode cL_refuses 512 = .ok (.ldc 15, 2) := by decide +kernel
theorem dL_refuses_514 : decode cL_refuses 514 = .ok (.if_icmp .ne 265, 3) := by decide +kernel
theorem dL_refuses_517 : decode cL_refuses 517 = .ok (.aload_n 0, 1) := by decide +kernel
theorem dL_refuses_518 : decode cL_refuses 518 = .ok (.iload 4, 2) := by decide +kernel
theorem dL_refuses_520 : decode cL_refuses 520 = .ok (.invokestatic 212, 3) := by decide +kernel
theorem dL_refuses_523 : decode cL_refuses 523 = .ok (.ldc 15, 2) := by decide +kernel
theorem dL_refuses_525 : decode cL_refuses 525 = .ok (.if_icmp .ne 254, 3) := by decide +kernel
theorem dL_refuses_528 : decode cL_refuses 528 = .ok (.aload_n 0, 1) := by decide +kernel
theorem dL_refuses_529 : decode cL_refuses 529 = .ok (.iload 4, 2) := by decide +kernel
theorem dL_refuses_531 : decode cL_refuses 531 = .ok (.invokestatic 214, 3) := by decide +kernel
theorem dL_refuses_534 : decode cL_refuses 534 = .ok (.ldc 15, 2) := by decide +kernel
theorem dL_refuses_536 : decode cL_refuses 536 = .ok (.if_icmp .ne 243, 3) := by decide +kernel
theorem dL_refuses_539 : decode cL_refuses 539 = .ok (.aload_n 0, 1) := by decide +kernel
theorem dL_refuses_540 : decode cL_refuses 540 = .ok (.iload 4, 2) := by decide +kernel
theorem dL_refuses_542 : decode cL_refuses 542 = .ok (.invokestatic 216, 3) := by decide +kernel
theorem dL_refuses_545 : decode cL_refuses 545 = .ok (.ldc 15, 2) := by decide +kernel
theorem dL_refuses_547 : decode cL_refuses 547 = .ok (.if_icmp .ne 232, 3) := by decide +kernel
theorem dL_refuses_550 : decode cL_refuses 550 = .ok (.aload_n 0, 1) := by decide +kernel
theorem dL_refuses_551 : decode cL_refuses 551 = .ok (.iload 4, 2) := by decide +kernel
theorem dL_refuses_553 : decode cL_refuses 553 = .ok (.invokestatic 219, 3) := by decide +kernel
theorem dL_refuses_556 : decode cL_refuses 556 = .ok (.ldc 15, 2) := by decide +kernel
theorem dL_refuses_558 : decode cL_refuses 558 = .ok (.if_icmp .ne 221, 3) := by decide +kernel
theorem dL_refuses_561 : decode cL_refuses 561 = .ok (.aload_n 0, 1) := by decide +kernel
theorem dL_refuses_562 : decode cL_refuses 562 = .ok (.iload 5, 2) := by decide +kernel
theorem dL_refuses_564 : decode cL_refuses 564 = .ok (.iconst 0, 1) := by decide +kernel
theorem dL_refuses_565 : decode cL_refuses 565 = .ok (.bipush 8, 2) := by decide +kernel
theorem dL_refuses_567 : decode cL_refuses 567 = .ok (.iconst (-1), 1) := by decide +kernel
theorem dL_refuses_568 : decode cL_refuses 568 = .ok (.invokestatic 221, 3) := by decide +kernel
theorem dL_refuses_571 : decode cL_refuses 571 = .ok (.ldc 15, 2) := by decide +kernel
theorem dL_refuses_573 : decode cL_refuses 573 = .ok (.if_icmp .ne 206, 3) := by decide +kernel
theorem dL_refuses_576 : decode cL_refuses 576 = .ok (.aload_n 0, 1) := by decide +kernel
theorem dL_refuses_577 : decode cL_refuses 577 = .ok (.iload 5, 2) := by decide +kernel
theorem dL_refuses_579 : decode cL_refuses 579 = .ok (.iconst 0, 1) := by decide +kernel
theorem dL_refuses_580 : decode cL_refuses 580 = .ok (.iconst 1, 1) := by decide +kernel
theorem dL_refuses_581 : decode cL_refuses 581 = .ok (.invokestatic 224, 3) := by decide +kernel
theorem dL_refuses_584 : decode cL_refuses 584 = .ok (.ldc 15, 2) := by decide +kernel
theorem dL_refuses_586 : decode cL_refuses 586 = .ok (.if_icmp .ne 193, 3) := by decide +kernel
theorem dL_refuses_589 : decode cL_refuses 589 = .ok (.aload_n 0, 1) := by decide +kernel
theorem dL_refuses_590 : decode cL_refuses 590 = .ok (.iload 5, 2) := by decide +kernel
theorem dL_refuses_592 : decode cL_refuses 592 = .ok (.invokestatic 226, 3) := by decide +kernel
theorem dL_refuses_595 : decode cL_refuses 595 = .ok (.ldc 15, 2) := by decide +kernel
theorem dL_refuses_597 : decode cL_refuses 597 = .ok (.if_icmp .ne 182, 3) := by decide +kernel
theorem dL_refuses_600 : decode cL_refuses 600 = .ok (.aload_n 0, 1) := by decide +kernel
theorem dL_refuses_601 : decode cL_refuses 601 = .ok (.iload 5, 2) := by decide +kernel
theorem dL_refuses_603 : decode cL_refuses 603 = .ok (.iconst 0, 1) := by decide +kernel
theorem dL_refuses_604 : decode cL_refuses 604 = .ok (.iconst 1, 1) := by decide +kernel
theorem dL_refuses_605 : decode cL_refuses 605 = .ok (.invokestatic 228, 3) := by decide +kernel
theorem dL_refuses_608 : decode cL_refuses 608 = .ok (.ldc 15, 2) := by decide +kernel
theorem dL_refuses_610 : decode cL_refuses 610 = .ok (.if_icmp .ne 169, 3) := by decide +kernel
theorem dL_refuses_613 : decode cL_refuses 613 = .ok (.aload_n 0, 1) := by decide +kernel
theorem dL_refuses_614 : decode cL_refuses 614 = .ok (.iload 5, 2) := by decide +kernel
theorem dL_refuses_616 : decode cL_refuses 616 = .ok (.iconst 0, 1) := by decide +kernel
theorem dL_refuses_617 : decode cL_refuses 617 = .ok (.iconst 0, 1) := by decide +kernel
theorem dL_refuses_618 : decode cL_refuses 618 = .ok (.iconst 0, 1) := by decide +kernel
theorem dL_refuses_619 : decode cL_refuses 619 = .ok (.invokestatic 231, 3) := by decide +kernel
theorem dL_refuses_622 : decode cL_refuses 622 = .ok (.ldc 15, 2) := by decide +kernel
theorem dL_refuses_624 : decode cL_refuses 624 = .ok (.if_icmp .ne 155, 3) := by decide +kernel
theorem dL_refuses_627 : decode cL_refuses 627 = .ok (.aload_n 0, 1) := by decide +kernel
theorem dL_refuses_628 : decode cL_refuses 628 = .ok (.iload 5, 2) := by decide +kernel
theorem dL_refuses_630 : decode cL_refuses 630 = .ok (.iconst 0, 1) := by decide +kernel
theorem dL_refuses_631 : decode cL_refuses 631 = .ok (.invokestatic 233, 3) := by decide +kernel
theorem dL_refuses_634 : decode cL_refuses 634 = .ok (.ldc 15, 2) := by decide +kernel
theorem dL_refuses_636 : decode cL_refuses 636 = .ok (.if_icmp .ne 143, 3) := by decide +kernel
theorem dL_refuses_639 : decode cL_refuses 639 = .ok (.aload_n 0, 1) := by decide +kernel
theorem dL_refuses_640 : decode cL_refuses 640 = .ok (.iload 5, 2) := by decide +kernel
theorem dL_refuses_642 : decode cL_refuses 642 = .ok (.iconst 0, 1) := by decide +kernel
theorem dL_refuses_643 : decode cL_refuses 643 = .ok (.invokestatic 235, 3) := by decide +kernel
theorem dL_refuses_646 : decode cL_refuses 646 = .ok (.ldc 15, 2) := by decide +kernel
theorem dL_refuses_648 : decode cL_refuses 648 = .ok (.if_icmp .ne 131, 3) := by decide +kernel
theorem dL_refuses_651 : decode cL_refuses 651 = .ok (.aload_n 0, 1) := by decide +kernel
theorem dL_refuses_652 : decode cL_refuses 652 = .ok (.iload 5, 2) := by decide +kernel
theorem dL_refuses_654 : decode cL_refuses 654 = .ok (.iconst 0, 1) := by decide +kernel
theorem dL_refuses_655 : decode cL_refuses 655 = .ok (.invokestatic 237, 3) := by decide +kernel
theorem dL_refuses_658 : decode cL_refuses 658 = .ok (.ldc 15, 2) := by decide +kernel
theorem dL_refuses_660 : decode cL_refuses 660 = .ok (.if_icmp .ne 119, 3) := by decide +kernel
theorem dL_refuses_663 : decode cL_refuses 663 = .ok (.aload_n 0, 1) := by decide +kernel
theorem dL_refuses_664 : decode cL_refuses 664 = .ok (.iload 5, 2) := by decide +kernel
theorem dL_refuses_666 : decode cL_refuses 666 = .ok (.iconst 0, 1) := by decide +kernel
theorem dL_refuses_667 : decode cL_refuses 667 = .ok (.invokestatic 239, 3) := by decide +kernel
theorem dL_refuses_670 : decode cL_refuses 670 = .ok (.ldc 15, 2) := by decide +kernel
theorem dL_refuses_672 : decode cL_refuses 672 = .ok (.if_icmp .ne 107, 3) := by decide +kernel
theorem dL_refuses_675 : decode cL_refuses 675 = .ok (.aload_n 0, 1) := by decide +kernel
theorem dL_refuses_676 : decode cL_refuses 676 = .ok (.iload 5, 2) := by decide +kernel
theorem dL_refuses_678 : decode cL_refuses 678 = .ok (.invokestatic 241, 3) := by decide +kernel
theorem dL_refuses_681 : decode cL_refuses 681 = .ok (.ldc 15, 2) := by decide +kernel
theorem dL_refuses_683 : decode cL_refuses 683 = .ok (.if_icmp .ne 96, 3) := by decide +kernel
theorem dL_refuses_686 : decode cL_refuses 686 = .ok (.aload_n 0, 1) := by decide +kernel
theorem dL_refuses_687 : decode cL_refuses 687 = .ok (.iload 5, 2) := by decide +kernel
theorem dL_refuses_689 : decode cL_refuses 689 = .ok (.invokestatic 243, 3) := by decide +kernel
theorem dL_refuses_692 : decode cL_refuses 692 = .ok (.ldc 15, 2) := by decide +kernel
theorem dL_refuses_694 : decode cL_refuses 694 = .ok (.if_icmp .ne 85, 3) := by decide +kernel
theorem dL_refuses_697 : decode cL_refuses 697 = .ok (.aload_n 0, 1) := by decide +kernel
theorem dL_refuses_698 : decode cL_refuses 698 = .ok (.iload 5, 2) := by decide +kernel
theorem dL_refuses_700 : decode cL_refuses 700 = .ok (.invokestatic 245, 3) := by decide +kernel
theorem dL_refuses_703 : decode cL_refuses 703 = .ok (.ldc 15, 2) := by decide +kernel
theorem dL_refuses_705 : decode cL_refuses 705 = .ok (.if_icmp .ne 74, 3) := by decide +kernel
theorem dL_refuses_708 : decode cL_refuses 708 = .ok (.aload_n 0, 1) := by decide +kernel
theorem dL_refuses_709 : decode cL_refuses 709 = .ok (.iload 5, 2) := by decide +kernel
theorem dL_refuses_711 : decode cL_refuses 711 = .ok (.invokestatic 247, 3) := by decide +kernel
theorem dL_refuses_714 : decode cL_refuses 714 = .ok (.ldc 15, 2) := by decide +kernel
theorem dL_refuses_716 : decode cL_refuses 716 = .ok (.if_icmp .ne 63, 3) := by decide +kernel
theorem dL_refuses_719 : decode cL_refuses 719 = .ok (.aload_n 0, 1) := by decide +kernel
theorem dL_refuses_720 : decode cL_refuses 720 = .ok (.iload 5, 2) := by decide +kernel
theorem dL_refuses_722 : decode cL_refuses 722 = .ok (.invokestatic 249, 3) := by decide +kernel
theorem dL_refuses_725 : decode cL_refuses 725 = .ok (.ldc 15, 2) := by decide +kernel
theorem dL_refuses_727 : decode cL_refuses 727 = .ok (.if_icmp .ne 52, 3) := by decide +kernel
theorem dL_refuses_730 : decode cL_refuses 730 = .ok (.aload_n 0, 1) := by decide +kernel
theorem dL_refuses_731 : decode cL_refuses 731 = .ok (.iload_n 3, 1) := by decide +kernel
theorem dL_refuses_732 : decode cL_refuses 732 = .ok (.ifCond .eq 9, 3) := by decide +kernel
theorem dL_refuses_735 : decode cL_refuses 735 = .ok (.iconst (-1), 1) := by decide +kernel
theorem dL_refuses_736 : decode cL_refuses 736 = .ok (.iload_n 2, 1) := by decide +kernel
theorem dL_refuses_737 : decode cL_refuses 737 = .ok (.isub, 1) := by decide +kernel
theorem dL_refuses_738 : decode cL_refuses 738 = .ok (.goto 6, 3) := by decide +kernel
theorem dL_refuses_741 : decode cL_refuses 741 = .ok (.iconst 5, 1) := by decide +kernel
theorem dL_refuses_742 : decode cL_refuses 742 = .ok (.iload_n 2, 1) := by decide +kernel
theorem dL_refuses_743 : decode cL_refuses 743 = .ok (.iadd, 1) := by decide +kernel
theorem dL_refuses_744 : decode cL_refuses 744 = .ok (.iconst 0, 1) := by decide +kernel
theorem dL_refuses_745 : decode cL_refuses 745 = .ok (.invokestatic 251, 3) := by decide +kernel
theorem dL_refuses_748 : decode cL_refuses 748 = .ok (.ldc 15, 2) := by decide +kernel
theorem dL_refuses_750 : decode cL_refuses 750 = .ok (.if_icmp .ne 29, 3) := by decide +kernel
theorem dL_refuses_753 : decode cL_refuses 753 = .ok (.aload_n 0, 1) := by decide +kernel
theorem dL_refuses_754 : decode cL_refuses 754 = .ok (.iload_n 3, 1) := by decide +kernel
theorem dL_refuses_755 : decode cL_refuses 755 = .ok (.ifCond .eq 9, 3) := by decide +kernel
theorem dL_refuses_758 : decode cL_refuses 758 = .ok (.iconst (-1), 1) := by decide +kernel
theorem dL_refuses_759 : decode cL_refuses 759 = .ok (.iload_n 2, 1) := by decide +kernel
theorem dL_refuses_760 : decode cL_refuses 760 = .ok (.isub, 1) := by decide +kernel
theorem dL_refuses_761 : decode cL_refuses 761 = .ok (.goto 6, 3) := by decide +kernel
theorem dL_refuses_764 : decode cL_refuses 764 = .ok (.iconst 5, 1) := by decide +kernel
theorem dL_refuses_765 : decode cL_refuses 765 = .ok (.iload_n 2, 1) := by decide +kernel
theorem dL_refuses_766 : decode cL_refuses 766 = .ok (.iadd, 1) := by decide +kernel
theorem dL_refuses_767 : decode cL_refuses 767 = .ok (.invokestatic 253, 3) := by decide +kernel
theorem dL_refuses_770 : decode cL_refuses 770 = .ok (.ldc 15, 2) := by decide +kernel
theorem dL_refuses_772 : decode cL_refuses 772 = .ok (.if_icmp .ne 7, 3) := by decide +kernel
theorem dL_refuses_775 : decode cL_refuses 775 = .ok (.iconst 1, 1) := by decide +kernel
theorem dL_refuses_776 : decode cL_refuses 776 = .ok (.goto 4, 3) := by decide +kernel
theorem dL_refuses_779 : decode cL_refuses 779 = .ok (.iconst 0, 1) := by decide +kernel
theorem dL_refuses_780 : decode cL_refuses 780 = .ok (.istore 10, 2) := by decide +kernel
theorem dL_refuses_782 : decode cL_refuses 782 = .ok (.iload 10, 2) := by decide +kernel
theorem dL_refuses_784 : decode cL_refuses 784 = .ok (.ifCond .eq 257, 3) := by decide +kernel
theorem dL_refuses_787 : decode cL_refuses 787 = .ok (.aload_n 0, 1) := by decide +kernel
theorem dL_refuses_788 : decode cL_refuses 788 = .ok (.iload 7, 2) := by decide +kernel
theorem dL_refuses_790 : decode cL_refuses 790 = .ok (.iconst 0, 1) := by decide +kernel
theorem dL_refuses_791 : decode cL_refuses 791 = .ok (.invokestatic 255, 3) := by decide +kernel
theorem dL_refuses_794 : decode cL_refuses 794 = .ok (.ldc 15, 2) := by decide +kernel
theorem dL_refuses_796 : decode cL_refuses 796 = .ok (.if_icmp .ne 245, 3) := by decide +kernel
theorem dL_refuses_799 : decode cL_refuses 799 = .ok (.aload_n 0, 1) := by decide +kernel
theorem dL_refuses_800 : decode cL_refuses 800 = .ok (.iload_n 2, 1) := by decide +kernel
theorem dL_refuses_801 : decode cL_refuses 801 = .ok (.bipush 6, 2) := by decide +kernel
theorem dL_refuses_803 : decode cL_refuses 803 = .ok (.irem, 1) := by decide +kernel
theorem dL_refuses_804 : decode cL_refuses 804 = .ok (.iload_n 3, 1) := by decide +kernel
theorem dL_refuses_805 : decode cL_refuses 805 = .ok (.ifCond .eq 10, 3) := by decide +kernel
theorem dL_refuses_808 : decode cL_refuses 808 = .ok (.bipush (-2), 2) := by decide +kernel
theorem dL_refuses_810 : decode cL_refuses 810 = .ok (.iload_n 2, 1) := by decide +kernel
theorem dL_refuses_811 : decode cL_refuses 811 = .ok (.isub, 1) := by decide +kernel
theorem dL_refuses_812 : decode cL_refuses 812 = .ok (.goto 7, 3) := by decide +kernel
theorem dL_refuses_815 : decode cL_refuses 815 = .ok (.bipush 8, 2) := by decide +kernel
theorem dL_refuses_817 : decode cL_refuses 817 = .ok (.iload_n 2, 1) := by decide +kernel
theorem dL_refuses_818 : decode cL_refuses 818 = .ok (.iadd, 1) := by decide +kernel
theorem dL_refuses_819 : decode cL_refuses 819 = .ok (.invokestatic 255, 3) := by decide +kernel
theorem dL_refuses_822 : decode cL_refuses 822 = .ok (.ldc 18, 2) := by decide +kernel
theorem dL_refuses_824 : decode cL_refuses 824 = .ok (.if_icmp .ne 217, 3) := by decide +kernel
theorem dL_refuses_827 : decode cL_refuses 827 = .ok (.aload_n 0, 1) := by decide +kernel
theorem dL_refuses_828 : decode cL_refuses 828 = .ok (.iload 7, 2) := by decide +kernel
theorem dL_refuses_830 : decode cL_refuses 830 = .ok (.iconst 0, 1) := by decide +kernel
theorem dL_refuses_831 : decode cL_refuses 831 = .ok (.iconst 0, 1) := by decide +kernel
theorem dL_refuses_832 : decode cL_refuses 832 = .ok (.iconst 0, 1) := by decide +kernel
theorem dL_refuses_833 : decode cL_refuses 833 = .ok (.invokestatic 257, 3) := by decide +kernel
theorem dL_refuses_836 : decode cL_refuses 836 = .ok (.ldc 15, 2) := by decide +kernel
theorem dL_refuses_838 : decode cL_refuses 838 = .ok (.if_icmp .ne 203, 3) := by decide +kernel
theorem dL_refuses_841 : decode cL_refuses 841 = .ok (.aload_n 0, 1) := by decide +kernel
theorem dL_refuses_842 : decode cL_refuses 842 = .ok (.iconst 0, 1) := by decide +kernel
theorem dL_refuses_843 : decode cL_refuses 843 = .ok (.iload_n 3, 1) := by decide +kernel
theorem dL_refuses_844 : decode cL_refuses 844 = .ok (.ifCond .eq 9, 3) := by decide +kernel
theorem dL_refuses_847 : decode cL_refuses 847 = .ok (.iconst (-1), 1) := by decide +kernel
theorem dL_refuses_848 : decode cL_refuses 848 = .ok (.iload_n 2, 1) := by decide +kernel
theorem dL_refuses_849 : decode cL_refuses 849 = .ok (.isub, 1) := by decide +kernel
theorem dL_refuses_850 : decode cL_refuses 850 = .ok (.goto 6, 3) := by decide +kernel
theorem dL_refuses_853 : decode cL_refuses 853 = .ok (.iconst 4, 1) := by decide +kernel
theorem dL_refuses_854 : decode cL_refuses 854 = .ok (.iload_n 2, 1) := by decide +kernel
theorem dL_refuses_855 : decode cL_refuses 855 = .ok (.iadd, 1) := by decide +kernel
theorem dL_refuses_856 : decode cL_refuses 856 = .ok (.iconst 0, 1) := by decide +kernel
theorem dL_refuses_857 : decode cL_refuses 857 = .ok (.iconst 0, 1) := by decide +kernel
theorem dL_refuses_858 : decode cL_refuses 858 = .ok (.invokestatic 257, 3) := by decide +kernel
theorem dL_refuses_861 : decode cL_refuses 861 = .ok (.ldc 15, 2) := by decide +kernel
theorem dL_refuses_863 : decode cL_refuses 863 = .ok (.if_icmp .ne 178, 3) := by decide +kernel
theorem dL_refuses_866 : decode cL_refuses 866 = .ok (.aload_n 0, 1) := by decide +kernel
theorem dL_refuses_867 : decode cL_refuses 867 = .ok (.iload 7, 2) := by decide +kernel
theorem dL_refuses_869 : decode cL_refuses 869 = .ok (.iconst 0, 1) := by decide +kernel
theorem dL_refuses_870 : decode cL_refuses 870 = .ok (.iconst 1, 1) := by decide +kernel
theorem dL_refuses_871 : decode cL_refuses 871 = .ok (.invokestatic 259, 3) := by decide +kernel
theorem dL_refuses_874 : decode cL_refuses 874 = .ok (.ldc 15, 2) := by decide +kernel
theorem dL_refuses_876 : decode cL_refuses 876 = .ok (.if_icmp .ne 165, 3) := by decide +kernel
theorem dL_refuses_879 : decode cL_refuses 879 = .ok (.aload_n 0, 1) := by decide +kernel
theorem dL_refuses_880 : decode cL_refuses 880 = .ok (.iload 7, 2) := by decide +kernel
theorem dL_refuses_882 : decode cL_refuses 882 = .ok (.iconst 1, 1) := by decide +kernel
theorem dL_refuses_883 : decode cL_refuses 883 = .ok (.invokestatic 262, 3) := by decide +kernel
theorem dL_refuses_886 : decode cL_refuses 886 = .ok (.ldc 15, 2) := by decide +kernel
theorem dL_refuses_888 : decode cL_refuses 888 = .ok (.if_icmp .ne 153, 3) := by decide +kernel
theorem dL_refuses_891 : decode cL_refuses 891 = .ok (.aload_n 0, 1) := by decide +kernel
theorem dL_refuses_892 : decode cL_refuses 892 = .ok (.iload 7, 2) := by decide +kernel
theorem dL_refuses_894 : decode cL_refuses 894 = .ok (.iconst 0, 1) := by decide +kernel
theorem dL_refuses_895 : decode cL_refuses 895 = .ok (.iconst 0, 1) := by decide +kernel
theorem dL_refuses_896 : decode cL_refuses 896 = .ok (.invokestatic 266, 3) := by decide +kernel
theorem dL_refuses_899 : decode cL_refuses 899 = .ok (.ldc 15, 2) := by decide +kernel
theorem dL_refuses_901 : decode cL_refuses 901 = .ok (.if_icmp .ne 140, 3) := by decide +kernel
theorem dL_refuses_904 : decode cL_refuses 904 = .ok (.aload_n 0, 1) := by decide +kernel
theorem dL_refuses_905 : decode cL_refuses 905 = .ok (.iload_n 2, 1) := by decide +kernel
theorem dL_refuses_906 : decode cL_refuses 906 = .ok (.bipush 6, 2) := by decide +kernel
theorem dL_refuses_908 : decode cL_refuses 908 = .ok (.irem, 1) := by decide +kernel
theorem dL_refuses_909 : decode cL_refuses 909 = .ok (.iload 6, 2) := by decide +kernel
theorem dL_refuses_911 : decode cL_refuses 911 = .ok (.iconst 0, 1) := by decide +kernel
theorem dL_refuses_912 : decode cL_refuses 912 = .ok (.invokestatic 266, 3) := by decide +kernel
theorem dL_refuses_915 : decode cL_refuses 915 = .ok (.ldc 18, 2) := by decide +kernel
theorem dL_refuses_917 : decode cL_refuses 917 = .ok (.if_icmp .ne 124, 3) := by decide +kernel
theorem dL_refuses_920 : decode cL_refuses 920 = .ok (.aload_n 0, 1) := by decide +kernel
theorem dL_refuses_921 : decode cL_refuses 921 = .ok (.iload_n 2, 1) := by decide +kernel
theorem dL_refuses_922 : decode cL_refuses 922 = .ok (.bipush 6, 2) := by decide +kernel
theorem dL_refuses_924 : decode cL_refuses 924 = .ok (.irem, 1) := by decide +kernel
theorem dL_refuses_925 : decode cL_refuses 925 = .ok (.iconst 0, 1) := by decide +kernel
theorem dL_refuses_926 : decode cL_refuses 926 = .ok (.iload_n 3, 1) := by decide +kernel
theorem dL_refuses_927 : decode cL_refuses 927 = .ok (.ifCond .eq 9, 3) := by decide +kernel
theorem dL_refuses_930 : decode cL_refuses 930 = .ok (.iconst (-1), 1) := by decide +kernel
theorem dL_refuses_931 : decode cL_refuses 931 = .ok (.iload_n 2, 1) := by decide +kernel
theorem dL_refuses_932 : decode cL_refuses 932 = .ok (.isub, 1) := by decide +kernel
theorem dL_refuses_933 : decode cL_refuses 933 = .ok (.goto 6, 3) := by decide +kernel
theorem dL_refuses_936 : decode cL_refuses 936 = .ok (.iconst 3, 1) := by decide +kernel
theorem dL_refuses_937 : decode cL_refuses 937 = .ok (.iload_n 2, 1) := by decide +kernel
theorem dL_refuses_938 : decode cL_refuses 938 = .ok (.iadd, 1) := by decide +kernel
theorem dL_refuses_939 : decode cL_refuses 939 = .ok (.invokestatic 266, 3) := by decide +kernel
theorem dL_refuses_942 : decode cL_refuses 942 = .ok (.ldc 18, 2) := by decide +kernel
theorem dL_refuses_944 : decode cL_refuses 944 = .ok (.if_icmp .ne 97, 3) := by decide +kernel
theorem dL_refuses_947 : decode cL_refuses 947 = .ok (.aload_n 0, 1) := by decide +kernel
theorem dL_refuses_948 : decode cL_refuses 948 = .ok (.iload 6, 2) := by decide +kernel
theorem dL_refuses_950 : decode cL_refuses 950 = .ok (.invokestatic 269, 3) := by decide +kernel
theorem dL_refuses_953 : decode cL_refuses 953 = .ok (.ldc 18, 2) := by decide +kernel
theorem dL_refuses_955 : decode cL_refuses 955 = .ok (.if_icmp .ne 86, 3) := by decide +kernel
theorem dL_refuses_958 : decode cL_refuses 958 = .ok (.aload_n 0, 1) := by decide +kernel
theorem dL_refuses_959 : decode cL_refuses 959 = .ok (.iload_n 2, 1) := by decide +kernel
theorem dL_refuses_960 : decode cL_refuses 960 = .ok (.sipush 1000, 3) := by decide +kernel
theorem dL_refuses_963 : decode cL_refuses 963 = .ok (.irem, 1) := by decide +kernel
theorem dL_refuses_964 : decode cL_refuses 964 = .ok (.iconst (-1), 1) := by decide +kernel
theorem dL_refuses_965 : decode cL_refuses 965 = .ok (.iload_n 2, 1) := by decide +kernel
theorem dL_refuses_966 : decode cL_refuses 966 = .ok (.isub, 1) := by decide +kernel
theorem dL_refuses_967 : decode cL_refuses 967 = .ok (.invokestatic 271, 3) := by decide +kernel
theorem dL_refuses_970 : decode cL_refuses 970 = .ok (.ldc 15, 2) := by decide +kernel
theorem dL_refuses_972 : decode cL_refuses 972 = .ok (.if_icmp .ne 69, 3) := by decide +kernel
theorem dL_refuses_975 : decode cL_refuses 975 = .ok (.aload_n 0, 1) := by decide +kernel
theorem dL_refuses_976 : decode cL_refuses 976 = .ok (.iload_n 3, 1) := by decide +kernel
theorem dL_refuses_977 : decode cL_refuses 977 = .ok (.ifCond .eq 9, 3) := by decide +kernel
theorem dL_refuses_980 : decode cL_refuses 980 = .ok (.iconst (-1), 1) := by decide +kernel
theorem dL_refuses_981 : decode cL_refuses 981 = .ok (.iload_n 2, 1) := by decide +kernel
theorem dL_refuses_982 : decode cL_refuses 982 = .ok (.isub, 1) := by decide +kernel
theorem dL_refuses_983 : decode cL_refuses 983 = .ok (.goto 8, 3) := by decide +kernel
theorem dL_refuses_986 : decode cL_refuses 986 = .ok (.sipush 1000, 3) := by decide +kernel
theorem dL_refuses_989 : decode cL_refuses 989 = .ok (.iload_n 2, 1) := by decide +kernel
theorem dL_refuses_990 : decode cL_refuses 990 = .ok (.iadd, 1) := by decide +kernel
theorem dL_refuses_991 : decode cL_refuses 991 = .ok (.iconst 0, 1) := by decide +kernel
theorem dL_refuses_992 : decode cL_refuses 992 = .ok (.invokestatic 271, 3) := by decide +kernel
theorem dL_refuses_995 : decode cL_refuses 995 = .ok (.ldc 18, 2) := by decide +kernel
theorem dL_refuses_997 : decode cL_refuses 997 = .ok (.if_icmp .ne 44, 3) := by decide +kernel
theorem dL_refuses_1000 : decode cL_refuses 1000 = .ok (.aload_n 0, 1) := by decide +kernel
theorem dL_refuses_1001 : decode cL_refuses 1001 = .ok (.iload 8, 2) := by decide +kernel
theorem dL_refuses_1003 : decode cL_refuses 1003 = .ok (.invokestatic 273, 3) := by decide +kernel
theorem dL_refuses_1006 : decode cL_refuses 1006 = .ok (.ldc 15, 2) := by decide +kernel
theorem dL_refuses_1008 : decode cL_refuses 1008 = .ok (.if_icmp .ne 33, 3) := by decide +kernel
theorem dL_refuses_1011 : decode cL_refuses 1011 = .ok (.aload_n 0, 1) := by decide +kernel
theorem dL_refuses_1012 : decode cL_refuses 1012 = .ok (.iload 8, 2) := by decide +kernel
theorem dL_refuses_1014 : decode cL_refuses 1014 = .ok (.iload 8, 2) := by decide +kernel
theorem dL_refuses_1016 : decode cL_refuses 1016 = .ok (.invokestatic 275, 3) := by decide +kernel
theorem dL_refuses_1019 : decode cL_refuses 1019 = .ok (.ldc 15, 2) := by decide +kernel
theorem dL_refuses_1021 : decode cL_refuses 1021 = .ok (.if_icmp .ne 20, 3) := by decide +kernel
theorem dL_refuses_1024 : decode cL_refuses 1024 = .ok (.aload_n 0, 1) := by decide +kernel
theorem dL_refuses_1025 : decode cL_refuses 1025 = .ok (.iload 8, 2) := by decide +kernel
theorem dL_refuses_1027 : decode cL_refuses 1027 = .ok (.iconst 0, 1) := by decide +kernel
theorem dL_refuses_1028 : decode cL_refuses 1028 = .ok (.iconst 0, 1) := by decide +kernel
theorem dL_refuses_1029 : decode cL_refuses 1029 = .ok (.invokestatic 277, 3) := by decide +kernel
theorem dL_refuses_1032 : decode cL_refuses 1032 = .ok (.ldc 15, 2) := by decide +kernel
theorem dL_refuses_1034 : decode cL_refuses 1034 = .ok (.if_icmp .ne 7, 3) := by decide +kernel
theorem dL_refuses_1037 : decode cL_refuses 1037 = .ok (.iconst 1, 1) := by decide +kernel
theorem dL_refuses_1038 : decode cL_refuses 1038 = .ok (.goto 4, 3) := by decide +kernel
theorem dL_refuses_1041 : decode cL_refuses 1041 = .ok (.iconst 0, 1) := by decide +kernel
theorem dL_refuses_1042 : decode cL_refuses 1042 = .ok (.istore 10, 2) := by decide +kernel
theorem dL_refuses_1044 : decode cL_refuses 1044 = .ok (.iload 10, 2) := by decide +kernel
theorem dL_refuses_1046 : decode cL_refuses 1046 = .ok (.ifCond .eq 274, 3) := by decide +kernel
theorem dL_refuses_1049 : decode cL_refuses 1049 = .ok (.aload_n 0, 1) := by decide +kernel
theorem dL_refuses_1050 : decode cL_refuses 1050 = .ok (.invokevirtual 175, 3) := by decide +kernel
theorem dL_refuses_1053 : decode cL_refuses 1053 = .ok (.ifCond .le 267, 3) := by decide +kernel
theorem dL_refuses_1056 : decode cL_refuses 1056 = .ok (.iload_n 2, 1) := by decide +kernel
theorem dL_refuses_1057 : decode cL_refuses 1057 = .ok (.bipush 50, 2) := by decide +kernel
theorem dL_refuses_1059 : decode cL_refuses 1059 = .ok (.idiv, 1) := by decide +kernel
theorem dL_refuses_1060 : decode cL_refuses 1060 = .ok (.aload_n 0, 1) := by decide +kernel
theorem dL_refuses_1061 : decode cL_refuses 1061 = .ok (.invokevirtual 175, 3) := by decide +kernel
theorem dL_refuses_1064 : decode cL_refuses 1064 = .ok (.irem, 1) := by decide +kernel
theorem dL_refuses_1065 : decode cL_refuses 1065 = .ok (.istore 11, 2) := by decide +kernel
theorem dL_refuses_1067 : decode cL_refuses 1067 = .ok (.aload_n 0, 1) := by decide +kernel
theorem dL_refuses_1068 : decode cL_refuses 1068 = .ok (.iload 11, 2) := by decide +kernel
theorem dL_refuses_1070 : decode cL_refuses 1070 = .ok (.bipush 12, 2) := by decide +kernel
theorem dL_refuses_1072 : decode cL_refuses 1072 = .ok (.bipush 8, 2) := by decide +kernel
theorem dL_refuses_1074 : decode cL_refuses 1074 = .ok (.iload 11, 2) := by decide +kernel
theorem dL_refuses_1076 : decode cL_refuses 1076 = .ok (.invokestatic 221, 3) := by decide +kernel
theorem dL_refuses_1079 : decode cL_refuses 1079 = .ok (.ldc 15, 2) := by decide +kernel
theorem dL_refuses_1081 : decode cL_refuses 1081 = .ok (.if_icmp .ne 236, 3) := by decide +kernel
theorem dL_refuses_1084 : decode cL_refuses 1084 = .ok (.aload_n 0, 1) := by decide +kernel
theorem dL_refuses_1085 : decode cL_refuses 1085 = .ok (.iload 11, 2) := by decide +kernel
theorem dL_refuses_1087 : decode cL_refuses 1087 = .ok (.iload_n 3, 1) := by decide +kernel
theorem dL_refuses_1088 : decode cL_refuses 1088 = .ok (.ifCond .eq 9, 3) := by decide +kernel
theorem dL_refuses_1091 : decode cL_refuses 1091 = .ok (.iconst (-1), 1) := by decide +kernel
theorem dL_refuses_1092 : decode cL_refuses 1092 = .ok (.iload_n 2, 1) := by decide +kernel
theorem dL_refuses_1093 : decode cL_refuses 1093 = .ok (.isub, 1) := by decide +kernel
theorem dL_refuses_1094 : decode cL_refuses 1094 = .ok (.goto 7, 3) := by decide +kernel
theorem dL_refuses_1097 : decode cL_refuses 1097 = .ok (.bipush 13, 2) := by decide +kernel
theorem dL_refuses_1099 : decode cL_refuses 1099 = .ok (.iload_n 2, 1) := by decide +kernel
theorem dL_refuses_1100 : decode cL_refuses 1100 = .ok (.iadd, 1) := by decide +kernel
theorem dL_refuses_1101 : decode cL_refuses 1101 = .ok (.bipush 8, 2) := by decide +kernel
theorem dL_refuses_1103 : decode cL_refuses 1103 = .ok (.iconst (-1), 1) := by decide +kernel
theorem dL_refuses_1104 : decode cL_refuses 1104 = .ok (.invokestatic 221, 3) := by decide +kernel
theorem dL_refuses_1107 : decode cL_refuses 1107 = .ok (.ldc 18, 2) := by decide +kernel
theorem dL_refuses_1109 : decode cL_refuses 1109 = .ok (.if_icmp .ne 208, 3) := by decide +kernel
theorem dL_refuses_1112 : decode cL_refuses 1112 = .ok (.aload_n 0, 1) := by decide +kernel
theorem dL_refuses_1113 : decode cL_refuses 1113 = .ok (.iload 11, 2) := by decide +kernel
theorem dL_refuses_1115 : decode cL_refuses 1115 = .ok (.iconst 0, 1) := by decide +kernel
theorem dL_refuses_1116 : decode cL_refuses 1116 = .ok (.iload_n 3, 1) := by decide +kernel
theorem dL_refuses_1117 : decode cL_refuses 1117 = .ok (.ifCond .eq 9, 3) := by decide +kernel
theorem dL_refuses_1120 : decode cL_refuses 1120 = .ok (.iconst (-1), 1) := by decide +kernel
theorem dL_refuses_1121 : decode cL_refuses 1121 = .ok (.iload_n 2, 1) := by decide +kernel
theorem dL_refuses_1122 : decode cL_refuses 1122 = .ok (.isub, 1) := by decide +kernel
theorem dL_refuses_1123 : decode cL_refuses 1123 = .ok (.goto 7, 3) := by decide +kernel
theorem dL_refuses_1126 : decode cL_refuses 1126 = .ok (.bipush 14, 2) := by decide +kernel
theorem dL_refuses_1128 : decode cL_refuses 1128 = .ok (.iload_n 2, 1) := by decide +kernel
theorem dL_refuses_1129 : decode cL_refuses 1129 = .ok (.iadd, 1) := by decide +kernel
theorem dL_refuses_1130 : decode cL_refuses 1130 = .ok (.iconst (-1), 1) := by decide +kernel
theorem dL_refuses_1131 : decode cL_refuses 1131 = .ok (.invokestatic 221, 3) := by decide +kernel
theorem dL_refuses_1134 : decode cL_refuses 1134 = .ok (.ldc 18, 2) := by decide +kernel
theorem dL_refuses_1136 : decode cL_refuses 1136 = .ok (.if_icmp .ne 181, 3) := by decide +kernel
theorem dL_refuses_1139 : decode cL_refuses 1139 = .ok (.aload_n 0, 1) := by decide +kernel
theorem dL_refuses_1140 : decode cL_refuses 1140 = .ok (.iload 11, 2) := by decide +kernel
theorem dL_refuses_1142 : decode cL_refuses 1142 = .ok (.iconst 0, 1) := by decide +kernel
theorem dL_refuses_1143 : decode cL_refuses 1143 = .ok (.bipush 8, 2) := by decide +kernel
theorem dL_refuses_1145 : decode cL_refuses 1145 = .ok (.iconst 0, 1) := by decide +kernel
theorem dL_refuses_1146 : decode cL_refuses 1146 = .ok (.invokestatic 221, 3) := by decide +kernel
theorem dL_refuses_1149 : decode cL_refuses 1149 = .ok (.ldc 18, 2) := by decide +kernel
theorem dL_refuses_1151 : decode cL_refuses 1151 = .ok (.if_icmp .ne 166, 3) := by decide +kernel
theorem dL_refuses_1154 : decode cL_refuses 1154 = .ok (.aload_n 0, 1) := by decide +kernel
theorem dL_refuses_1155 : decode cL_refuses 1155 = .ok (.iload 11, 2) := by decide +kernel
theorem dL_refuses_1157 : decode cL_refuses 1157 = .ok (.iload_n 3, 1) := by decide +kernel
theorem dL_refuses_1158 : decode cL_refuses 1158 = .ok (.ifCond .eq 9, 3) := by decide +kernel
theorem dL_refuses_1161 : decode cL_refuses 1161 = .ok (.iconst (-1), 1) := by decide +kernel
theorem dL_refuses_1162 : decode cL_refuses 1162 = .ok (.iload_n 2, 1) := by decide +kernel
theorem dL_refuses_1163 : decode cL_refuses 1163 = .ok (.isub, 1) := by decide +kernel
theorem dL_refuses_1164 : decode cL_refuses 1164 = .ok (.goto 6, 3) := by decide +kernel
theorem dL_refuses_1167 : decode cL_refuses 1167 = .ok (.iconst 3, 1) := by decide +kernel
theorem dL_refuses_1168 : decode cL_refuses 1168 = .ok (.iload_n 2, 1) := by decide +kernel
theorem dL_refuses_1169 : decode cL_refuses 1169 = .ok (.iadd, 1) := by decide +kernel
theorem dL_refuses_1170 : decode cL_refuses 1170 = .ok (.iconst 1, 1) := by decide +kernel
theorem dL_refuses_1171 : decode cL_refuses 1171 = .ok (.invokestatic 224, 3) := by decide +kernel
theorem dL_refuses_1174 : decode cL_refuses 1174 = .ok (.ldc 18, 2) := by decide +kernel
theorem dL_refuses_1176 : decode cL_refuses 1176 = .ok (.if_icmp .ne 141, 3) := by decide +kernel
theorem dL_refuses_1179 : decode cL_refuses 1179 = .ok (.aload_n 0, 1) := by decide +kernel
theorem dL_refuses_1180 : decode cL_refuses 1180 = .ok (.iload 11, 2) := by decide +kernel
theorem dL_refuses_1182 : decode cL_refuses 1182 = .ok (.iconst 0, 1) := by decide +kernel
theorem dL_refuses_1183 : decode cL_refuses 1183 = .ok (.iload_n 3, 1) := by decide +kernel
theorem dL_refuses_1184 : decode cL_refuses 1184 = .ok (.ifCond .eq 9, 3) := by decide +kernel
theorem dL_refuses_1187 : decode cL_refuses 1187 = .ok (.iconst (-1), 1) := by decide +kernel
theorem dL_refuses_1188 : decode cL_refuses 1188 = .ok (.iload_n 2, 1) := by decide +kernel
theorem dL_refuses_1189 : decode cL_refuses 1189 = .ok (.isub, 1) := by decide +kernel
theorem dL_refuses_1190 : decode cL_refuses 1190 = .ok (.goto 7, 3) := by decide +kernel
theorem dL_refuses_1193 : decode cL_refuses 1193 = .ok (.bipush 100, 2) := by decide +kernel
theorem dL_refuses_1195 : decode cL_refuses 1195 = .ok (.iload_n 2, 1) := by decide +kernel
theorem dL_refuses_1196 : decode cL_refuses 1196 = .ok (.iadd, 1) := by decide +kernel
theorem dL_refuses_1197 : decode cL_refuses 1197 = .ok (.invokestatic 224, 3) := by decide +kernel
theorem dL_refuses_1200 : decode cL_refuses 1200 = .ok (.ldc 18, 2) := by decide +kernel
theorem dL_refuses_1202 : decode cL_refuses 1202 = .ok (.if_icmp .ne 115, 3) := by decide +kernel
theorem dL_refuses_1205 : decode cL_refuses 1205 = .ok (.aload_n 0, 1) := by decide +kernel
theorem dL_refuses_1206 : decode cL_refuses 1206 = .ok (.iload 11, 2) := by decide +kernel
theorem dL_refuses_1208 : decode cL_refuses 1208 = .ok (.iload 11, 2) := by decide +kernel
theorem dL_refuses_1210 : decode cL_refuses 1210 = .ok (.iconst 1, 1) := by decide +kernel
theorem dL_refuses_1211 : decode cL_refuses 1211 = .ok (.invokestatic 228, 3) := by decide +kernel
theorem dL_refuses_1214 : decode cL_refuses 1214 = .ok (.ldc 15, 2) := by decide +kernel
theorem dL_refuses_1216 : decode cL_refuses 1216 = .ok (.if_icmp .ne 101, 3) := by decide +kernel
theorem dL_refuses_1219 : decode cL_refuses 1219 = .ok (.aload_n 0, 1) := by decide +kernel
theorem dL_refuses_1220 : decode cL_refuses 1220 = .ok (.iload 11, 2) := by decide +kernel
theorem dL_refuses_1222 : decode cL_refuses 1222 = .ok (.iload 11, 2) := by decide +kernel
theorem dL_refuses_1224 : decode cL_refuses 1224 = .ok (.iconst 0, 1) := by decide +kernel
theorem dL_refuses_1225 : decode cL_refuses 1225 = .ok (.iconst 0, 1) := by decide +kernel
theorem dL_refuses_1226 : decode cL_refuses 1226 = .ok (.invokestatic 231, 3) := by decide +kernel
theorem dL_refuses_1229 : decode cL_refuses 1229 = .ok (.ldc 15, 2) := by decide +kernel
theorem dL_refuses_1231 : decode cL_refuses 1231 = .ok (.if_icmp .ne 86, 3) := by decide +kernel
theorem dL_refuses_1234 : decode cL_refuses 1234 = .ok (.aload_n 0, 1) := by decide +kernel
theorem dL_refuses_1235 : decode cL_refuses 1235 = .ok (.iload 11, 2) := by decide +kernel
theorem dL_refuses_1237 : decode cL_refuses 1237 = .ok (.iload 4, 2) := by decide +kernel
theorem dL_refuses_1239 : decode cL_refuses 1239 = .ok (.invokestatic 233, 3) := by decide +kernel
theorem dL_refuses_1242 : decode cL_refuses 1242 = .ok (.ldc 15, 2) := by decide +kernel
theorem dL_refuses_1244 : decode cL_refuses 1244 = .ok (.if_icmp .ne 73, 3) := by decide +kernel
theorem dL_refuses_1247 : decode cL_refuses 1247 = .ok (.aload_n 0, 1) := by decide +kernel
theorem dL_refuses_1248 : decode cL_refuses 1248 = .ok (.iload 11, 2) := by decide +kernel
theorem dL_refuses_1250 : decode cL_refuses 1250 = .ok (.iconst (-1), 1) := by decide +kernel
theorem dL_refuses_1251 : decode cL_refuses 1251 = .ok (.iload_n 2, 1) := by decide +kernel
theorem dL_refuses_1252 : decode cL_refuses 1252 = .ok (.isub, 1) := by decide +kernel
theorem dL_refuses_1253 : decode cL_refuses 1253 = .ok (.invokestatic 237, 3) := by decide +kernel
theorem dL_refuses_1256 : decode cL_refuses 1256 = .ok (.ldc 15, 2) := by decide +kernel
theorem dL_refuses_1258 : decode cL_refuses 1258 = .ok (.if_icmp .ne 59, 3) := by decide +kernel
theorem dL_refuses_1261 : decode cL_refuses 1261 = .ok (.aload_n 0, 1) := by decide +kernel
theorem dL_refuses_1262 : decode cL_refuses 1262 = .ok (.iload 11, 2) := by decide +kernel
theorem dL_refuses_1264 : decode cL_refuses 1264 = .ok (.bipush 60, 2) := by decide +kernel
theorem dL_refuses_1266 : decode cL_refuses 1266 = .ok (.iload_n 2, 1) := by decide +kernel
theorem dL_refuses_1267 : decode cL_refuses 1267 = .ok (.iadd, 1) := by decide +kernel
theorem dL_refuses_1268 : decode cL_refuses 1268 = .ok (.invokestatic 239, 3) := by decide +kernel
theorem dL_refuses_1271 : decode cL_refuses 1271 = .ok (.ldc 15, 2) := by decide +kernel
theorem dL_refuses_1273 : decode cL_refuses 1273 = .ok (.if_icmp .ne 44, 3) := by decide +kernel
theorem dL_refuses_1276 : decode cL_refuses 1276 = .ok (.iload 11, 2) := by decide +kernel
theorem dL_refuses_1278 : decode cL_refuses 1278 = .ok (.aload_n 0, 1) := by decide +kernel
theorem dL_refuses_1279 : decode cL_refuses 1279 = .ok (.invokevirtual 175, 3) := by decide +kernel
theorem dL_refuses_1282 : decode cL_refuses 1282 = .ok (.iconst 1, 1) := by decide +kernel
theorem dL_refuses_1283 : decode cL_refuses 1283 = .ok (.isub, 1) := by decide +kernel
theorem dL_refuses_1284 : decode cL_refuses 1284 = .ok (.if_icmp .eq 29, 3) := by decide +kernel
theorem dL_refuses_1287 : decode cL_refuses 1287 = .ok (.aload_n 0, 1) := by decide +kernel
theorem dL_refuses_1288 : decode cL_refuses 1288 = .ok (.iload 11, 2) := by decide +kernel
theorem dL_refuses_1290 : decode cL_refuses 1290 = .ok (.iconst 0, 1) := by decide +kernel
theorem dL_refuses_1291 : decode cL_refuses 1291 = .ok (.bipush 8, 2) := by decide +kernel
theorem dL_refuses_1293 : decode cL_refuses 1293 = .ok (.iconst (-1), 1) := by decide +kernel
theorem dL_refuses_1294 : decode cL_refuses 1294 = .ok (.invokestatic 221, 3) := by decide +kernel
theorem dL_refuses_1297 : decode cL_refuses 1297 = .ok (.ldc 21, 2) := by decide +kernel
theorem dL_refuses_1299 : decode cL_refuses 1299 = .ok (.if_icmp .ne 18, 3) := by decide +kernel
theorem dL_refuses_1302 : decode cL_refuses 1302 = .ok (.aload_n 0, 1) := by decide +kernel
theorem dL_refuses_1303 : decode cL_refuses 1303 = .ok (.iload 11, 2) := by decide +kernel
theorem dL_refuses_1305 : decode cL_refuses 1305 = .ok (.invokestatic 226, 3) := by decide +kernel
theorem dL_refuses_1308 : decode cL_refuses 1308 = .ok (.ldc 21, 2) := by decide +kernel
theorem dL_refuses_1310 : decode cL_refuses 1310 = .ok (.if_icmp .ne 7, 3) := by decide +kernel
theorem dL_refuses_1313 : decode cL_refuses 1313 = .ok (.iconst 1, 1) := by decide +kernel
theorem dL_refuses_1314 : decode cL_refuses 1314 = .ok (.goto 4, 3) := by decide +kernel
theorem dL_refuses_1317 : decode cL_refuses 1317 = .ok (.iconst 0, 1) := by decide +kernel
theorem dL_refuses_1318 : decode cL_refuses 1318 = .ok (.istore 10, 2) := by decide +kernel
theorem dL_refuses_1320 : decode cL_refuses 1320 = .ok (.iload 10, 2) := by decide +kernel
theorem dL_refuses_1322 : decode cL_refuses 1322 = .ok (.ireturn, 1) := by decide +kernel
theorem tk_kb_50 : (Int8.ofInt (50)).toInt32 = (50 : Int32) := by decide +kernel
theorem tk_kb_m2 : (Int8.ofInt (-2)).toInt32 = (-2 : Int32) := by decide +kernel
theorem tk_RL_216 : Cond.methodLink RL 216 yL_seen ∈ tq_G := tq_g (i := 1194) (by decide +kernel) rfl
theorem tk_w_L_seen : Cond.codeWith yL_seen cL_seen 3 (some .int) [(0, 13, 14, 13)] ∈ tq_G ∧ Cond.initialized yL_seen.cls ∈ tq_G ∧ (yL_seen.cls ≠ "java/lang/invoke/MethodHandle" ∧ yL_seen.cls ≠ "java/lang/invoke/VarHandle") ∧ (parseMethodDescriptor yL_seen.desc).map (fun q => q.parameters.length) = some 2 ∧ 3 ≤ 19 := ⟨tq_g (i := 1196) (by decide +kernel) rfl, tq_g (i := 52) (by decide +kernel) rfl, ⟨by decide +kernel, by decide +kernel⟩, by decide +kernel, by decide⟩
theorem tk_s_L_seen : Cond.static yL_seen ∈ tq_G := tq_g (i := 1195) (by decide +kernel) rfl
theorem tk_RL_275 : Cond.methodLink RL 275 yL_distance ∈ tq_G := tq_g (i := 957) (by decide +kernel) rfl
theorem tk_RL_277 : Cond.methodLink RL 277 yL_odds ∈ tq_G := tq_g (i := 1039) (by decide +kernel) rfl
theorem tk_w_L_odds : Cond.codeWith yL_odds cL_odds 5 (some .int) [(0, 7, 8, 13)] ∈ tq_G ∧ Cond.initialized yL_odds.cls ∈ tq_G ∧ (yL_odds.cls ≠ "java/lang/invoke/MethodHandle" ∧ yL_odds.cls ≠ "java/lang/invoke/VarHandle") ∧ (parseMethodDescriptor yL_odds.desc).map (fun q => q.parameters.length) = some 4 ∧ 5 ≤ 19 := ⟨tq_g (i := 1041) (by decide +kernel) rfl, tq_g (i := 52) (by decide +kernel) rfl, ⟨by decide +kernel, by decide +kernel⟩, by decide +kernel, by decide⟩
theorem tk_s_L_odds : Cond.static yL_odds ∈ tq_G := tq_g (i := 1040) (by decide +kernel) rfl
theorem tk_w_L_distance : Cond.codeWith yL_distance cL_distance 4 (some .int) [(0, 6, 7, 13)] ∈ tq_G ∧ Cond.initialized yL_distance.cls ∈ tq_G ∧ (yL_distance.cls ≠ "java/lang/invoke/MethodHandle" ∧ yL_distance.cls ≠ "java/lang/invoke/VarHandle") ∧ (parseMethodDescriptor yL_distance.desc).map (fun q => q.parameters.length) = some 3 ∧ 4 ≤ 19 := ⟨tq_g (i := 959) (by decide +kernel) rfl, tq_g (i := 52) (by decide +kernel) rfl, ⟨by decide +kernel, by decide +kernel⟩, by decide +kernel, by decide⟩
theorem tk_s_L_distance : Cond.static yL_distance ∈ tq_G := tq_g (i := 958) (by decide +kernel) rfl
abbrev mL_refuses : tq_M := (RL, cL_refuses, 12, (some .boolean), false, [], none)
def f_L_refuses (a0 : Nat) (a1 : Nat) (a2 : Int32) (h : tq_H) : Option (Int32 × tq_H) :=
  tq_let (if (a2 - a2 / (2 : Int32) * (2 : Int32)) = 0 then (1 : Int32) else (0 : Int32)) fun p1 =>
  (if p1 = 0 then
    (tq_is h a0 10).bind fun _ =>
    (f_X10_made a0 h).bind fun v2 =>
    some (v2 + (a2 - a2 / (50 : Int32) * (50 : Int32)))
  else
    some ((-1 : Int32) - (a2 - a2 / (50 : Int32) * (50 : Int32)))).bind fun p4 =>
  (if p1 = 0 then
    (tq_is h a0 10).bind fun _ =>
    (f_X10_paths a0 h).bind fun v5 =>
    some (v5 + (a2 - a2 / (50 : Int32) * (50 : Int32)))
  else
    some ((-1 : Int32) - (a2 - a2 / (50 : Int32) * (50 : Int32)))).bind fun p7 =>
  tq_let (if p1 = 0 then ((8 : Int32) + a2) else ((-1 : Int32) - a2)) fun p8 =>
  tq_let (if p1 = 0 then ((6 : Int32) + a2) else ((-1 : Int32) - a2)) fun p9 =>
  tq_let (if p1 = 0 then ((6 : Int32) + a2) else ((-1 : Int32) - a2)) fun p10 =>
  (tq_ai h a1 (0 : Int32)).bind fun x11 =>
  tq_let (if x11 = (20 : Int32) then (1 : Int32) else (0 : Int32)) fun p12 =>
  (f_L_element a0 p4 (0 : Int32) (0 : Int32) h).bind fun v13 =>
  (if v13.1 = (-2000000001 : Int32) then
    tq_let (if p1 = 0 then ((60 : Int32) + a2) else ((-1 : Int32) - a2)) fun p14 =>
    (f_L_element a0 (0 : Int32) p14 (0 : Int32) v13.2).bind fun v15 =>
    if v15.1 = (-2000000001 : Int32) then
      (f_L_element a0 (0 : Int32) (0 : Int32) p8 v15.2).bind fun v16 =>
      if v16.1 = (-2000000002 : Int32) then
        tq_let (if p1 = 0 then ((1000 : Int32) + a2) else ((-1 : Int32) - a2)) fun p17 =>
        (f_L_text a0 (0 : Int32) (0 : Int32) p17 v16.2).bind fun v18 =>
        if v18.1 = (-2000000002 : Int32) then
          (f_L_attribute a0 (0 : Int32) p8 (0 : Int32) v18.2).bind fun v19 =>
          if v19.1 = (-2000000002 : Int32) then
            (f_L_attribute a0 p4 (0 : Int32) (0 : Int32) v19.2).bind fun v20 =>
            if v20.1 = (-2000000001 : Int32) then
              if p12 = 0 then
                (f_L_remove a0 p4 v20.2).bind fun v21 =>
                if v21.1 = (-2000000001 : Int32) then
                  (f_L_remove a0 (0 : Int32) v21.2).bind fun v22 =>
                  if v22.1 = (-2000000003 : Int32) then
                    (f_L_rename a0 p4 (0 : Int32) v22.2).bind fun v23 =>
                    if v23.1 = (-2000000001 : Int32) then
                      (f_L_rename a0 (0 : Int32) p8 v23.2).bind fun v24 =>
                      if v24.1 = (-2000000002 : Int32) then
                        (f_L_revalue a0 p4 (0 : Int32) v24.2).bind fun v25 =>
                        if v25.1 = (-2000000001 : Int32) then
                          tq_let (if p1 = 0 then ((1000 : Int32) + a2) else ((-1 : Int32) - a2)) fun p26 =>
                          (f_L_revalue a0 (0 : Int32) p26 v25.2).bind fun v27 =>
                          if v27.1 = (-2000000002 : Int32) then
                            (f_L_revalue a0 (0 : Int32) (a2 - a2 / (1000 : Int32) * (1000 : Int32)) v27.2).bind fun v28 =>
                            if v28.1 = (-2000000003 : Int32) then
                              (f_L_move a0 p4 (0 : Int32) (0 : Int32) v28.2).bind fun v29 =>
                              if v29.1 = (-2000000001 : Int32) then
                                (f_L_move a0 (0 : Int32) p4 (0 : Int32) v29.2).bind fun v30 =>
                                if v30.1 = (-2000000001 : Int32) then
                                  (f_L_move a0 (0 : Int32) (0 : Int32) (0 : Int32) v30.2).bind fun v31 =>
                                  if v31.1 = (-2000000003 : Int32) then
                                    (f_L_declare a0 p4 (0 : Int32) v31.2).bind fun v32 =>
                                    if v32.1 = (-2000000001 : Int32) then
                                      tq_let (if p1 = 0 then ((4 : Int32) + a2) else ((-2 : Int32) - a2)) fun p33 =>
                                      (f_L_declare a0 (0 : Int32) p33 v32.2).bind fun v34 =>
                                      if v34.1 = (-2000000002 : Int32) then
                                        some ((1 : Int32), v34.2)
                                      else
                                        some ((0 : Int32), v34.2)
                                    else
                                      some ((0 : Int32), v32.2)
                                  else
                                    some ((0 : Int32), v31.2)
                                else
                                  some ((0 : Int32), v30.2)
                              else
                                some ((0 : Int32), v29.2)
                            else
                              some ((0 : Int32), v28.2)
                          else
                            some ((0 : Int32), v27.2)
                        else
                          some ((0 : Int32), v25.2)
                      else
                        some ((0 : Int32), v24.2)
                    else
                      some ((0 : Int32), v23.2)
                  else
                    some ((0 : Int32), v22.2)
                else
                  some ((0 : Int32), v21.2)
              else
                (f_L_attribute a0 (0 : Int32) (0 : Int32) (0 : Int32) v20.2).bind fun v35 =>
                if v35.1 = (-2000000003 : Int32) then
                  (f_L_rename a0 (0 : Int32) (0 : Int32) v35.2).bind fun v36 =>
                  if v36.1 = (-2000000003 : Int32) then
                    (f_L_declare a0 (0 : Int32) (0 : Int32) v36.2).bind fun v37 =>
                    if v37.1 = (-2000000003 : Int32) then
                      (f_L_remove a0 p4 v37.2).bind fun v38 =>
                      if v38.1 = (-2000000001 : Int32) then
                        (f_L_remove a0 (0 : Int32) v38.2).bind fun v39 =>
                        if v39.1 = (-2000000003 : Int32) then
                          (f_L_rename a0 p4 (0 : Int32) v39.2).bind fun v40 =>
                          if v40.1 = (-2000000001 : Int32) then
                            (f_L_rename a0 (0 : Int32) p8 v40.2).bind fun v41 =>
                            if v41.1 = (-2000000002 : Int32) then
                              (f_L_revalue a0 p4 (0 : Int32) v41.2).bind fun v42 =>
                              if v42.1 = (-2000000001 : Int32) then
                                tq_let (if p1 = 0 then ((1000 : Int32) + a2) else ((-1 : Int32) - a2)) fun p43 =>
                                (f_L_revalue a0 (0 : Int32) p43 v42.2).bind fun v44 =>
                                if v44.1 = (-2000000002 : Int32) then
                                  (f_L_revalue a0 (0 : Int32) (a2 - a2 / (1000 : Int32) * (1000 : Int32)) v44.2).bind fun v45 =>
                                  if v45.1 = (-2000000003 : Int32) then
                                    (f_L_move a0 p4 (0 : Int32) (0 : Int32) v45.2).bind fun v46 =>
                                    if v46.1 = (-2000000001 : Int32) then
                                      (f_L_move a0 (0 : Int32) p4 (0 : Int32) v46.2).bind fun v47 =>
                                      if v47.1 = (-2000000001 : Int32) then
                                        (f_L_move a0 (0 : Int32) (0 : Int32) (0 : Int32) v47.2).bind fun v48 =>
                                        if v48.1 = (-2000000003 : Int32) then
                                          (f_L_declare a0 p4 (0 : Int32) v48.2).bind fun v49 =>
                                          if v49.1 = (-2000000001 : Int32) then
                                            tq_let (if p1 = 0 then ((4 : Int32) + a2) else ((-2 : Int32) - a2)) fun p50 =>
                                            (f_L_declare a0 (0 : Int32) p50 v49.2).bind fun v51 =>
                                            if v51.1 = (-2000000002 : Int32) then
                                              some ((1 : Int32), v51.2)
                                            else
                                              some ((0 : Int32), v51.2)
                                          else
                                            some ((0 : Int32), v49.2)
                                        else
                                          some ((0 : Int32), v48.2)
                                      else
                                        some ((0 : Int32), v47.2)
                                    else
                                      some ((0 : Int32), v46.2)
                                  else
                                    some ((0 : Int32), v45.2)
                                else
                                  some ((0 : Int32), v44.2)
                              else
                                some ((0 : Int32), v42.2)
                            else
                              some ((0 : Int32), v41.2)
                          else
                            some ((0 : Int32), v40.2)
                        else
                          some ((0 : Int32), v39.2)
                      else
                        some ((0 : Int32), v38.2)
                    else
                      some ((0 : Int32), v37.2)
                  else
                    some ((0 : Int32), v36.2)
                else
                  some ((0 : Int32), v35.2)
            else
              some ((0 : Int32), v20.2)
          else
            some ((0 : Int32), v19.2)
        else
          some ((0 : Int32), v18.2)
      else
        some ((0 : Int32), v16.2)
    else
      some ((0 : Int32), v15.2)
  else
    some ((0 : Int32), v13.2)).bind fun p52 =>
  (if p52.1 = 0 then
    some ((0 : Int32), p52.2)
  else
    (f_L_kind a0 p4 p52.2).bind fun v53 =>
    if v53.1 = (-2000000001 : Int32) then
      (f_L_name a0 p4 v53.2).bind fun v54 =>
      if v54.1 = (-2000000001 : Int32) then
        (f_L_value a0 p4 v54.2).bind fun v55 =>
        if v55.1 = (-2000000001 : Int32) then
          (f_L_parent a0 p4 v55.2).bind fun v56 =>
          if v56.1 = (-2000000001 : Int32) then
            (f_L_child a0 p4 (0 : Int32) v56.2).bind fun v57 =>
            if v57.1 = (-2000000001 : Int32) then
              (f_L_child a0 (0 : Int32) ((-1 : Int32) - a2) v57.2).bind fun v58 =>
              if v58.1 = (-2000000001 : Int32) then
                (f_L_space a0 p4 v58.2).bind fun v59 =>
                if v59.1 = (-2000000001 : Int32) then
                  (f_L_number a0 p4 v59.2).bind fun v60 =>
                  if v60.1 = (-2000000001 : Int32) then
                    (f_L_seen a0 p4 v60.2).bind fun v61 =>
                    if v61.1 = (-2000000001 : Int32) then
                      (f_L_types a0 p4 v61.2).bind fun v62 =>
                      if v62.1 = (-2000000001 : Int32) then
                        (f_L_step a0 p7 (0 : Int32) (8 : Int32) (-1 : Int32) v62.2).bind fun v63 =>
                        if v63.1 = (-2000000001 : Int32) then
                          (f_L_place a0 p7 (0 : Int32) (1 : Int32) v63.2).bind fun v64 =>
                          if v64.1 = (-2000000001 : Int32) then
                            (f_L_last a0 p7 v64.2).bind fun v65 =>
                            if v65.1 = (-2000000001 : Int32) then
                              (f_L_has a0 p7 (0 : Int32) (1 : Int32) v65.2).bind fun v66 =>
                              if v66.1 = (-2000000001 : Int32) then
                                (f_L_worth a0 p7 (0 : Int32) (0 : Int32) (0 : Int32) v66.2).bind fun v67 =>
                                if v67.1 = (-2000000001 : Int32) then
                                  (f_L_found a0 p7 (0 : Int32) v67.2).bind fun v68 =>
                                  if v68.1 = (-2000000001 : Int32) then
                                    (f_L_foundAnew a0 p7 (0 : Int32) v68.2).bind fun v69 =>
                                    if v69.1 = (-2000000001 : Int32) then
                                      (f_L_foundAt a0 p7 (0 : Int32) v69.2).bind fun v70 =>
                                      if v70.1 = (-2000000001 : Int32) then
                                        (f_L_ordered a0 p7 (0 : Int32) v70.2).bind fun v71 =>
                                        if v71.1 = (-2000000001 : Int32) then
                                          (f_L_groups a0 p7 v71.2).bind fun v72 =>
                                          if v72.1 = (-2000000001 : Int32) then
                                            (f_L_infer a0 p7 v72.2).bind fun v73 =>
                                            if v73.1 = (-2000000001 : Int32) then
                                              (f_L_plan a0 p7 v73.2).bind fun v74 =>
                                              if v74.1 = (-2000000001 : Int32) then
                                                (f_L_view a0 p7 v74.2).bind fun v75 =>
                                                if v75.1 = (-2000000001 : Int32) then
                                                  (f_L_hide a0 p7 v75.2).bind fun v76 =>
                                                  if v76.1 = (-2000000001 : Int32) then
                                                    tq_let (if p1 = 0 then ((5 : Int32) + a2) else ((-1 : Int32) - a2)) fun p77 =>
                                                    (f_L_viewed a0 p77 (0 : Int32) v76.2).bind fun v78 =>
                                                    if v78.1 = (-2000000001 : Int32) then
                                                      tq_let (if p1 = 0 then ((5 : Int32) + a2) else ((-1 : Int32) - a2)) fun p79 =>
                                                      (f_L_changed a0 p79 v78.2).bind fun v80 =>
                                                      if v80.1 = (-2000000001 : Int32) then
                                                        some ((1 : Int32), v80.2)
                                                      else
                                                        some ((0 : Int32), v80.2)
                                                    else
                                                      some ((0 : Int32), v78.2)
                                                  else
                                                    some ((0 : Int32), v76.2)
                                                else
                                                  some ((0 : Int32), v75.2)
                                              else
                                                some ((0 : Int32), v74.2)
                                            else
                                              some ((0 : Int32), v73.2)
                                          else
                                            some ((0 : Int32), v72.2)
                                        else
                                          some ((0 : Int32), v71.2)
                                      else
                                        some ((0 : Int32), v70.2)
                                    else
                                      some ((0 : Int32), v69.2)
                                  else
                                    some ((0 : Int32), v68.2)
                                else
                                  some ((0 : Int32), v67.2)
                              else
                                some ((0 : Int32), v66.2)
                            else
                              some ((0 : Int32), v65.2)
                          else
                            some ((0 : Int32), v64.2)
                        else
                          some ((0 : Int32), v63.2)
                      else
                        some ((0 : Int32), v62.2)
                    else
                      some ((0 : Int32), v61.2)
                  else
                    some ((0 : Int32), v60.2)
                else
                  some ((0 : Int32), v59.2)
              else
                some ((0 : Int32), v58.2)
            else
              some ((0 : Int32), v57.2)
          else
            some ((0 : Int32), v56.2)
        else
          some ((0 : Int32), v55.2)
      else
        some ((0 : Int32), v54.2)
    else
      some ((0 : Int32), v53.2)).bind fun p81 =>
  (if p81.1 = 0 then
    some ((0 : Int32), p81.2)
  else
    (f_L_nameType a0 p9 (0 : Int32) p81.2).bind fun v82 =>
    if v82.1 = (-2000000001 : Int32) then
      tq_let (if p1 = 0 then ((8 : Int32) + a2) else ((-2 : Int32) - a2)) fun p83 =>
      (f_L_nameType a0 (a2 - a2 / (6 : Int32) * (6 : Int32)) p83 v82.2).bind fun v84 =>
      if v84.1 = (-2000000002 : Int32) then
        (f_L_arc a0 p9 (0 : Int32) (0 : Int32) (0 : Int32) v84.2).bind fun v85 =>
        if v85.1 = (-2000000001 : Int32) then
          tq_let (if p1 = 0 then ((4 : Int32) + a2) else ((-1 : Int32) - a2)) fun p86 =>
          (f_L_arc a0 (0 : Int32) p86 (0 : Int32) (0 : Int32) v85.2).bind fun v87 =>
          if v87.1 = (-2000000001 : Int32) then
            (f_L_fin a0 p9 (0 : Int32) (1 : Int32) v87.2).bind fun v88 =>
            if v88.1 = (-2000000001 : Int32) then
              (f_L_texts a0 p9 (1 : Int32) v88.2).bind fun v89 =>
              if v89.1 = (-2000000001 : Int32) then
                (f_L_says a0 p9 (0 : Int32) (0 : Int32) v89.2).bind fun v90 =>
                if v90.1 = (-2000000001 : Int32) then
                  (f_L_says a0 (a2 - a2 / (6 : Int32) * (6 : Int32)) p8 (0 : Int32) v90.2).bind fun v91 =>
                  if v91.1 = (-2000000002 : Int32) then
                    tq_let (if p1 = 0 then ((3 : Int32) + a2) else ((-1 : Int32) - a2)) fun p92 =>
                    (f_L_says a0 (a2 - a2 / (6 : Int32) * (6 : Int32)) (0 : Int32) p92 v91.2).bind fun v93 =>
                    if v93.1 = (-2000000002 : Int32) then
                      (f_L_index a0 p8 v93.2).bind fun v94 =>
                      if v94.1 = (-2000000002 : Int32) then
                        (f_L_ranked a0 (a2 - a2 / (1000 : Int32) * (1000 : Int32)) ((-1 : Int32) - a2) v94.2).bind fun v95 =>
                        if v95.1 = (-2000000001 : Int32) then
                          tq_let (if p1 = 0 then ((1000 : Int32) + a2) else ((-1 : Int32) - a2)) fun p96 =>
                          (f_L_ranked a0 p96 (0 : Int32) v95.2).bind fun v97 =>
                          if v97.1 = (-2000000002 : Int32) then
                            (f_L_take a0 p10 v97.2).bind fun v98 =>
                            if v98.1 = (-2000000001 : Int32) then
                              (f_L_distance a0 p10 p10 v98.2).bind fun v99 =>
                              if v99.1 = (-2000000001 : Int32) then
                                (f_L_odds a0 p10 (0 : Int32) (0 : Int32) v99.2).bind fun v100 =>
                                if v100.1 = (-2000000001 : Int32) then
                                  some ((1 : Int32), v100.2)
                                else
                                  some ((0 : Int32), v100.2)
                              else
                                some ((0 : Int32), v99.2)
                            else
                              some ((0 : Int32), v98.2)
                          else
                            some ((0 : Int32), v97.2)
                        else
                          some ((0 : Int32), v95.2)
                      else
                        some ((0 : Int32), v94.2)
                    else
                      some ((0 : Int32), v93.2)
                  else
                    some ((0 : Int32), v91.2)
                else
                  some ((0 : Int32), v90.2)
              else
                some ((0 : Int32), v89.2)
            else
              some ((0 : Int32), v88.2)
          else
            some ((0 : Int32), v87.2)
        else
          some ((0 : Int32), v85.2)
      else
        some ((0 : Int32), v84.2)
    else
      some ((0 : Int32), v82.2)).bind fun p101 =>
  (if p101.1 = 0 then
    some (p101.1, p101.2)
  else
    (tq_is p101.2 a0 10).bind fun _ =>
    (f_X10_paths a0 p101.2).bind fun v102 =>
    if v102 ≤ 0 then
      some (p101.1, p101.2)
    else
      (tq_is p101.2 a0 10).bind fun _ =>
      (f_X10_paths a0 p101.2).bind fun v104 =>
      (tq_nz v104).bind fun _ =>
      tq_let (((a2 / (50 : Int32)) - (a2 / (50 : Int32)) / v104 * v104)) fun x106 =>
      (f_L_step a0 x106 (12 : Int32) (8 : Int32) x106 p101.2).bind fun v107 =>
      (if v107.1 = (-2000000001 : Int32) then
        tq_let (if p1 = 0 then ((13 : Int32) + a2) else ((-1 : Int32) - a2)) fun p108 =>
        (f_L_step a0 x106 p108 (8 : Int32) (-1 : Int32) v107.2).bind fun v109 =>
        if v109.1 = (-2000000002 : Int32) then
          tq_let (if p1 = 0 then ((14 : Int32) + a2) else ((-1 : Int32) - a2)) fun p110 =>
          (f_L_step a0 x106 (0 : Int32) p110 (-1 : Int32) v109.2).bind fun v111 =>
          if v111.1 = (-2000000002 : Int32) then
            (f_L_step a0 x106 (0 : Int32) (8 : Int32) (0 : Int32) v111.2).bind fun v112 =>
            if v112.1 = (-2000000002 : Int32) then
              tq_let (if p1 = 0 then ((3 : Int32) + a2) else ((-1 : Int32) - a2)) fun p113 =>
              (f_L_place a0 x106 p113 (1 : Int32) v112.2).bind fun v114 =>
              if v114.1 = (-2000000002 : Int32) then
                tq_let (if p1 = 0 then ((100 : Int32) + a2) else ((-1 : Int32) - a2)) fun p115 =>
                (f_L_place a0 x106 (0 : Int32) p115 v114.2).bind fun v116 =>
                if v116.1 = (-2000000002 : Int32) then
                  (f_L_has a0 x106 x106 (1 : Int32) v116.2).bind fun v117 =>
                  if v117.1 = (-2000000001 : Int32) then
                    (f_L_worth a0 x106 x106 (0 : Int32) (0 : Int32) v117.2).bind fun v118 =>
                    if v118.1 = (-2000000001 : Int32) then
                      (f_L_found a0 x106 p4 v118.2).bind fun v119 =>
                      if v119.1 = (-2000000001 : Int32) then
                        (f_L_foundAt a0 x106 ((-1 : Int32) - a2) v119.2).bind fun v120 =>
                        if v120.1 = (-2000000001 : Int32) then
                          (f_L_ordered a0 x106 ((60 : Int32) + a2) v120.2).bind fun v121 =>
                          if v121.1 = (-2000000001 : Int32) then
                            (tq_is v121.2 a0 10).bind fun _ =>
                            (f_X10_paths a0 v121.2).bind fun v122 =>
                            if x106 = (v122 - (1 : Int32)) then
                              some ((1 : Int32), v121.2)
                            else
                              (f_L_step a0 x106 (0 : Int32) (8 : Int32) (-1 : Int32) v121.2).bind fun v124 =>
                              if v124.1 = (-2000000003 : Int32) then
                                (f_L_last a0 x106 v124.2).bind fun v125 =>
                                if v125.1 = (-2000000003 : Int32) then
                                  some ((1 : Int32), v125.2)
                                else
                                  some ((0 : Int32), v125.2)
                              else
                                some ((0 : Int32), v124.2)
                          else
                            some ((0 : Int32), v121.2)
                        else
                          some ((0 : Int32), v120.2)
                      else
                        some ((0 : Int32), v119.2)
                    else
                      some ((0 : Int32), v118.2)
                  else
                    some ((0 : Int32), v117.2)
                else
                  some ((0 : Int32), v116.2)
              else
                some ((0 : Int32), v114.2)
            else
              some ((0 : Int32), v112.2)
          else
            some ((0 : Int32), v111.2)
        else
          some ((0 : Int32), v109.2)
      else
        some ((0 : Int32), v107.2)).bind fun p126 =>
      some (p126.1, p126.2)).bind fun p128 =>
  (tq_bz p128.1).bind fun z129 =>
  some (z129, p128.2)
set_option maxHeartbeats 4000000 in
set_option maxRecDepth 20000 in
theorem w_L_refuses {l : Launch} {d : Nat} (hd9 : 10 ≤ d) {a0 : Nat} {a1 : Nat} {a2 : Int32} {h : tq_H} {o : Int32 × tq_H} {Q : tq_R → tq_H → Prop} (hf : f_L_refuses a0 a1 a2 h = some o) (hQ : ∀ r h9, r = .inl (some (.int o.1)) ∧ o.2 = h9 → Q r h9) : tq_C l yL_refuses cL_refuses 12 (some .boolean) d 90 8182 [.ref a0, .ref a1, .int a2] h Q := by
  refine tq_body (y := yL_refuses) false (by decide +kernel) (fun z => by cases z) (Nat.le_of_ble_eq_true rfl) ?_
  show tq_W l mL_refuses d 90 8182 Q 0 [(0, .ref a0), (1, .ref a1), (2, .int a2)] [] h
  refine tq_iload_n (M := mL_refuses) (pc := 0) dL_refuses_0 rfl ?_
  refine tq_iconst (M := mL_refuses) (pc := 1) dL_refuses_1 tk_ki_2 ?_
  refine tq_irem (M := mL_refuses) (pc := 2) dL_refuses_2 (by decide +kernel) ?_
  obtain ⟨p1, ep1, hf⟩ := tq_le hf
  have HJ3 : tq_W l mL_refuses d 90 8182 Q 11 [(0, .ref a0), (1, .ref a1), (2, .int a2)] [.int p1] h := by
    refine tq_istore_n (M := mL_refuses) (pc := 11) rfl dL_refuses_11 (L2 := [(3, .int p1), (0, .ref a0), (1, .ref a1), (2, .int a2)]) (by decide) rfl ?_
    refine tq_iload_n (M := mL_refuses) (pc := 12) dL_refuses_12 rfl ?_
    obtain ⟨p4, ep4, hf⟩ := tq_be hf
    have HJ13 : tq_W l mL_refuses d 90 8182 Q 34 [(0, .ref a0), (1, .ref a1), (2, .int a2), (3, .int p1)] [.int p4] h := by
      refine tq_istore (M := mL_refuses) (pc := 34) dL_refuses_34 (L2 := [(4, .int p4), (0, .ref a0), (1, .ref a1), (2, .int a2), (3, .int p1)]) (by decide) rfl ?_
      refine tq_iload_n (M := mL_refuses) (pc := 36) dL_refuses_36 rfl ?_
      obtain ⟨p7, ep7, hf⟩ := tq_be hf
      have HJ37 : tq_W l mL_refuses d 90 8182 Q 58 [(0, .ref a0), (1, .ref a1), (2, .int a2), (3, .int p1), (4, .int p4)] [.int p7] h := by
        refine tq_istore (M := mL_refuses) (pc := 58) dL_refuses_58 (L2 := [(5, .int p7), (0, .ref a0), (1, .ref a1), (2, .int a2), (3, .int p1), (4, .int p4)]) (by decide) rfl ?_
        refine tq_iload_n (M := mL_refuses) (pc := 60) dL_refuses_60 rfl ?_
        obtain ⟨p8, ep8, hf⟩ := tq_le hf
        have HJ61 : tq_W l mL_refuses d 90 8182 Q 74 [(0, .ref a0), (1, .ref a1), (2, .int a2), (3, .int p1), (4, .int p4), (5, .int p7)] [.int p8] h := by
          refine tq_istore (M := mL_refuses) (pc := 74) dL_refuses_74 (L2 := [(6, .int p8), (0, .ref a0), (1, .ref a1), (2, .int a2), (3, .int p1), (4, .int p4), (5, .int p7)]) (by decide) rfl ?_
          refine tq_iload_n (M := mL_refuses) (pc := 76) dL_refuses_76 rfl ?_
          obtain ⟨p9, ep9, hf⟩ := tq_le hf
          have HJ77 : tq_W l mL_refuses d 90 8182 Q 90 [(0, .ref a0), (1, .ref a1), (2, .int a2), (3, .int p1), (4, .int p4), (5, .int p7), (6, .int p8)] [.int p9] h := by
            refine tq_istore (M := mL_refuses) (pc := 90) dL_refuses_90 (L2 := [(7, .int p9), (0, .ref a0), (1, .ref a1), (2, .int a2), (3, .int p1), (4, .int p4), (5, .int p7), (6, .int p8)]) (by decide) rfl ?_
            refine tq_iload_n (M := mL_refuses) (pc := 92) dL_refuses_92 rfl ?_
            obtain ⟨p10, ep10, hf⟩ := tq_le hf
            have HJ93 : tq_W l mL_refuses d 90 8182 Q 106 [(0, .ref a0), (1, .ref a1), (2, .int a2), (3, .int p1), (4, .int p4), (5, .int p7), (6, .int p8), (7, .int p9)] [.int p10] h := by
              refine tq_istore (M := mL_refuses) (pc := 106) dL_refuses_106 (L2 := [(8, .int p10), (0, .ref a0), (1, .ref a1), (2, .int a2), (3, .int p1), (4, .int p4), (5, .int p7), (6, .int p8), (7, .int p9)]) (by decide) rfl ?_
              refine tq_aload_n (M := mL_refuses) (pc := 108) dL_refuses_108 rfl ?_
              refine tq_iconst (M := mL_refuses) (pc := 109) dL_refuses_109 tk_ki_0 ?_
              obtain ⟨x11, ex11, hf⟩ := tq_be hf
              refine tq_ialdF (M := mL_refuses) (pc := 110) dL_refuses_110 ex11 ?_
              refine tq_bipush (M := mL_refuses) (pc := 111) dL_refuses_111 tk_kb_20 ?_
              obtain ⟨p12, ep12, hf⟩ := tq_le hf
              have HJ113 : tq_W l mL_refuses d 90 8182 Q 121 [(0, .ref a0), (2, .int a2), (3, .int p1), (4, .int p4), (5, .int p7), (6, .int p8), (7, .int p9), (8, .int p10)] [.int p12] h := by
                refine tq_istore (M := mL_refuses) (pc := 121) dL_refuses_121 (L2 := [(9, .int p12), (0, .ref a0), (2, .int a2), (3, .int p1), (4, .int p4), (5, .int p7), (6, .int p8), (7, .int p9), (8, .int p10)]) (by decide) rfl ?_
                refine tq_aload_n (M := mL_refuses) (pc := 123) dL_refuses_123 rfl ?_
                refine tq_iload (M := mL_refuses) (pc := 124) dL_refuses_124 rfl ?_
                refine tq_iconst (M := mL_refuses) (pc := 126) dL_refuses_126 tk_ki_0 ?_
                refine tq_iconst (M := mL_refuses) (pc := 127) dL_refuses_127 tk_ki_0 ?_
                obtain ⟨v13, ev13, hf⟩ := tq_be hf
                refine tq_calSW (M := mL_refuses) (pc := 128) (S := []) tk_w_L_element.1 tk_w_L_element.2.1 tk_w_L_element.2.2.1 tk_w_L_element.2.2.2.1 tk_w_L_element.2.2.2.2 tk_s_L_element tk_RL_178 dL_refuses_128 [.ref a0, .int p4, .int (0 : Int32), .int (0 : Int32)] rfl (Nat.le_of_ble_eq_true rfl) (d1 := d - 1) (b1 := 1) (s1 := 6) (bc' := 89) (bs' := 8176) (Q1 := fun r h9 => r = .inl (some (.int v13.1)) ∧ v13.2 = h9) (by omega) rfl rfl (w_L_element (bc := 1) (bs := 6) (by omega) ev13 (fun _ _ _ => ⟨by decide, by decide⟩) (fun _ _ q => q)) (fun E h9 q => nomatch (show (Sum.inr E : tq_R) = Sum.inl _ from q.1)) (fun r9 h9 q => ?_)
                obtain ⟨q1, rfl⟩ := q
                cases (show (Sum.inl r9 : tq_R) = Sum.inl (some (.int v13.1)) from q1)
                refine tq_ldc (M := mL_refuses) (pc := 131) dL_refuses_131 tk_RL_15 ?_
                obtain ⟨p52, ep52, hf⟩ := tq_be hf
                have HJ133 : tq_W l mL_refuses d 69 8056 Q 441 [(0, .ref a0), (2, .int a2), (3, .int p1), (4, .int p4), (5, .int p7), (6, .int p8), (7, .int p9), (8, .int p10)] [.int p52.1] p52.2 := by
                  refine tq_istore (M := mL_refuses) (pc := 441) dL_refuses_441 (L2 := [(10, .int p52.1), (0, .ref a0), (2, .int a2), (3, .int p1), (4, .int p4), (5, .int p7), (6, .int p8), (7, .int p9), (8, .int p10)]) (by decide) rfl ?_
                  refine tq_iload (M := mL_refuses) (pc := 443) dL_refuses_443 rfl ?_
                  obtain ⟨p81, ep81, hf⟩ := tq_be hf
                  have HJ445 : tq_W l mL_refuses d 43 7900 Q 780 [(0, .ref a0), (2, .int a2), (3, .int p1), (4, .int p4), (6, .int p8), (7, .int p9), (8, .int p10)] [.int p81.1] p81.2 := by
                    refine tq_istore (M := mL_refuses) (pc := 780) dL_refuses_780 (L2 := [(10, .int p81.1), (0, .ref a0), (2, .int a2), (3, .int p1), (4, .int p4), (6, .int p8), (7, .int p9), (8, .int p10)]) (by decide) rfl ?_
                    refine tq_iload (M := mL_refuses) (pc := 782) dL_refuses_782 rfl ?_
                    obtain ⟨p101, ep101, hf⟩ := tq_be hf
                    have HJ784 : tq_W l mL_refuses d 13 78 Q 1042 [(0, .ref a0), (2, .int a2), (3, .int p1), (4, .int p4)] [.int p101.1] p101.2 := by
                      refine tq_istore (M := mL_refuses) (pc := 1042) dL_refuses_1042 (L2 := [(10, .int p101.1), (0, .ref a0), (2, .int a2), (3, .int p1), (4, .int p4)]) (by decide) rfl ?_
                      refine tq_iload (M := mL_refuses) (pc := 1044) dL_refuses_1044 rfl ?_
                      obtain ⟨p128, ep128, hf⟩ := tq_be hf
                      have HJ1046 : tq_W l mL_refuses d 0 0 Q 1320 [(10, .int p128.1)] [] p128.2 := by
                        refine tq_iload (M := mL_refuses) (pc := 1320) dL_refuses_1320 rfl ?_
                        obtain ⟨z129, ez129, hf⟩ := tq_be hf
                        refine tq_zretB (M := mL_refuses) (pc := 1322) dL_refuses_1322 rfl ez129 ?_
                        cases (Option.some.inj hf)
                        exact hQ _ _ ⟨rfl, rfl⟩
                      refine tq_if_eq (M := mL_refuses) (pc := 1046) (tgt := 1320) dL_refuses_1046 (by decide) (fun cc => ?_) (fun cc => ?_)
                      · have hf := tq_ifp ep128 cc
                        refine tq_pick (L2 := [(10, .int p101.1)]) [0] rfl ?_
                        refine tq_more (bc := 0) (bs := 0) (by omega) (by omega) ?_
                        cases (Option.some.inj hf)
                        exact HJ1046
                      · have hf := tq_ifn ep128 cc
                        refine tq_aload_n (M := mL_refuses) (pc := 1049) dL_refuses_1049 rfl ?_
                        obtain ⟨⟨⟩, eu103, hf⟩ := tq_be hf
                        obtain ⟨fsu103, eu103⟩ := tq_is_s eu103
                        obtain ⟨v102, ev102, hf⟩ := tq_be hf
                        refine tq_calV (M := mL_refuses) (pc := 1050) (S := []) tk_y_X10_paths tk_v_X10_paths tk_RL_175 dL_refuses_1050 [] rfl (S0 := _) rfl eu103 rfl (Nat.le_of_ble_eq_true rfl) (d1 := d - 1) (b1 := 0) (s1 := 0) (bc' := 13) (bs' := 78) (Q1 := fun r h9 => r = .inl (some (.int v102)) ∧ p101.2 = h9) (by omega) rfl rfl (w_X10_paths (by omega) ev102 (fun _ _ q => q)) (fun E h9 q => nomatch (show (Sum.inr E : tq_R) = Sum.inl _ from q.1)) (fun r9 h9 q => ?_)
                        obtain ⟨q1, rfl⟩ := q
                        cases (show (Sum.inl r9 : tq_R) = Sum.inl (some (.int v102)) from q1)
                        refine tq_if_le (M := mL_refuses) (pc := 1053) (tgt := 1320) dL_refuses_1053 (by decide) (fun cc => ?_) (fun cc => ?_)
                        · have hf := tq_ifp hf cc
                          refine tq_pick (L2 := [(10, .int p101.1)]) [0] rfl ?_
                          refine tq_more (bc := 0) (bs := 0) (by omega) (by omega) ?_
                          cases (Option.some.inj hf)
                          exact HJ1046
                        · have hf := tq_ifn hf cc
                          refine tq_iload_n (M := mL_refuses) (pc := 1056) dL_refuses_1056 rfl ?_
                          refine tq_bipush (M := mL_refuses) (pc := 1057) dL_refuses_1057 tk_kb_50 ?_
                          refine tq_idiv (M := mL_refuses) (pc := 1059) dL_refuses_1059 (by decide +kernel) ?_
                          refine tq_aload_n (M := mL_refuses) (pc := 1060) dL_refuses_1060 rfl ?_
                          obtain ⟨⟨⟩, eu105, hf⟩ := tq_be hf
                          obtain ⟨fsu105, eu105⟩ := tq_is_s eu105
                          obtain ⟨v104, ev104, hf⟩ := tq_be hf
                          refine tq_calV (M := mL_refuses) (pc := 1061) (S := [.int ((a2 / (50 : Int32)))]) tk_y_X10_paths tk_v_X10_paths tk_RL_175 dL_refuses_1061 [] rfl (S0 := _) rfl eu105 rfl (Nat.le_of_ble_eq_true rfl) (d1 := d - 1) (b1 := 0) (s1 := 0) (bc' := 13) (bs' := 78) (Q1 := fun r h9 => r = .inl (some (.int v104)) ∧ p101.2 = h9) (by omega) rfl rfl (w_X10_paths (by omega) ev104 (fun _ _ q => q)) (fun E h9 q => nomatch (show (Sum.inr E : tq_R) = Sum.inl _ from q.1)) (fun r9 h9 q => ?_)
                          obtain ⟨q1, rfl⟩ := q
                          cases (show (Sum.inl r9 : tq_R) = Sum.inl (some (.int v104)) from q1)
                          obtain ⟨u127, eu127, hf⟩ := tq_be hf
                          refine tq_irem (M := mL_refuses) (pc := 1064) dL_refuses_1064 (tq_nz_s eu127) ?_
                          obtain ⟨x106, ex106, hf⟩ := tq_le hf
                          refine tq_istore (M := mL_refuses) (pc := 1065) dL_refuses_1065 (L2 := [(11, .int x106), (10, .int p101.1), (0, .ref a0), (2, .int a2), (3, .int p1), (4, .int p4)]) (by decide) (by rw [ex106]; rfl) ?_
                          refine tq_aload_n (M := mL_refuses) (pc := 1067) dL_refuses_1067 rfl ?_
                          refine tq_iload (M := mL_refuses) (pc := 1068) dL_refuses_1068 rfl ?_
                          refine tq_bipush (M := mL_refuses) (pc := 1070) dL_refuses_1070 tk_kb_12 ?_
                          refine tq_bipush (M := mL_refuses) (pc := 1072) dL_refuses_1072 tk_kb_8 ?_
                          refine tq_iload (M := mL_refuses) (pc := 1074) dL_refuses_1074 rfl ?_
                          obtain ⟨v107, ev107, hf⟩ := tq_be hf
                          refine tq_calSW (M := mL_refuses) (pc := 1076) (S := []) tk_w_L_step.1 tk_w_L_step.2.1 tk_w_L_step.2.2.1 tk_w_L_step.2.2.2.1 tk_w_L_step.2.2.2.2 tk_s_L_step tk_RL_221 dL_refuses_1076 [.ref a0, .int x106, .int (12 : Int32), .int (8 : Int32), .int x106] rfl (Nat.le_of_ble_eq_true rfl) (d1 := d - 1) (b1 := 1) (s1 := 6) (bc' := 12) (bs' := 72) (Q1 := fun r h9 => r = .inl (some (.int v107.1)) ∧ v107.2 = h9) (by omega) rfl rfl (w_L_step (bc := 1) (bs := 6) (by omega) ev107 (fun _ _ _ => ⟨by decide, by decide⟩) (fun _ _ q => q)) (fun E h9 q => nomatch (show (Sum.inr E : tq_R) = Sum.inl _ from q.1)) (fun r9 h9 q => ?_)
                          obtain ⟨q1, rfl⟩ := q
                          cases (show (Sum.inl r9 : tq_R) = Sum.inl (some (.int v107.1)) from q1)
                          refine tq_ldc (M := mL_refuses) (pc := 1079) dL_refuses_1079 tk_RL_15 ?_
                          obtain ⟨p126, ep126, hf⟩ := tq_be hf
                          have HJ1081 : tq_W l mL_refuses d 0 0 Q 1318 [] [.int p126.1] p126.2 := by
                            refine tq_istore (M := mL_refuses) (pc := 1318) dL_refuses_1318 (L2 := [(10, .int p126.1)]) (by decide) rfl ?_
                            cases (Option.some.inj hf)
                            exact HJ1046
                          refine tq_icmp_ne (M := mL_refuses) (pc := 1081) (tgt := 1317) dL_refuses_1081 (by decide) (fun cc => ?_) (fun cc => ?_)
                          · have hf := tq_ifn ep126 cc
                            refine tq_iconst (M := mL_refuses) (pc := 1317) dL_refuses_1317 tk_ki_0 ?_
                            refine tq_pick (L2 := []) [] rfl ?_
                            refine tq_more (bc := 0) (bs := 0) (by omega) (by omega) ?_
                            cases (Option.some.inj hf)
                            exact HJ1081
                          · have hf := tq_ifp ep126 cc
                            refine tq_aload_n (M := mL_refuses) (pc := 1084) dL_refuses_1084 rfl ?_
                            refine tq_iload (M := mL_refuses) (pc := 1085) dL_refuses_1085 rfl ?_
                            refine tq_iload_n (M := mL_refuses) (pc := 1087) dL_refuses_1087 rfl ?_
                            obtain ⟨p108, ep108, hf⟩ := tq_le hf
                            have HJ1088 : tq_W l mL_refuses d 12 72 Q 1101 [(0, .ref a0), (2, .int a2), (3, .int p1), (4, .int p4), (11, .int x106)] [.int p108, .int x106, .ref a0] v107.2 := by
                              refine tq_bipush (M := mL_refuses) (pc := 1101) dL_refuses_1101 tk_kb_8 ?_
                              refine tq_iconst (M := mL_refuses) (pc := 1103) dL_refuses_1103 tk_ki_m1 ?_
                              obtain ⟨v109, ev109, hf⟩ := tq_be hf
                              refine tq_calSW (M := mL_refuses) (pc := 1104) (S := []) tk_w_L_step.1 tk_w_L_step.2.1 tk_w_L_step.2.2.1 tk_w_L_step.2.2.2.1 tk_w_L_step.2.2.2.2 tk_s_L_step tk_RL_221 dL_refuses_1104 [.ref a0, .int x106, .int p108, .int (8 : Int32), .int (-1 : Int32)] rfl (Nat.le_of_ble_eq_true rfl) (d1 := d - 1) (b1 := 1) (s1 := 6) (bc' := 11) (bs' := 66) (Q1 := fun r h9 => r = .inl (some (.int v109.1)) ∧ v109.2 = h9) (by omega) rfl rfl (w_L_step (bc := 1) (bs := 6) (by omega) ev109 (fun _ _ _ => ⟨by decide, by decide⟩) (fun _ _ q => q)) (fun E h9 q => nomatch (show (Sum.inr E : tq_R) = Sum.inl _ from q.1)) (fun r9 h9 q => ?_)
                              obtain ⟨q1, rfl⟩ := q
                              cases (show (Sum.inl r9 : tq_R) = Sum.inl (some (.int v109.1)) from q1)
                              refine tq_ldc (M := mL_refuses) (pc := 1107) dL_refuses_1107 tk_RL_18 ?_
                              refine tq_icmp_ne (M := mL_refuses) (pc := 1109) (tgt := 1317) dL_refuses_1109 (by decide) (fun cc => ?_) (fun cc => ?_)
                              · have hf := tq_ifn hf cc
                                refine tq_iconst (M := mL_refuses) (pc := 1317) dL_refuses_1317 tk_ki_0 ?_
                                refine tq_pick (L2 := []) [] rfl ?_
                                refine tq_more (bc := 0) (bs := 0) (by omega) (by omega) ?_
                                cases (Option.some.inj hf)
                                exact HJ1081
                              · have hf := tq_ifp hf cc
                                refine tq_aload_n (M := mL_refuses) (pc := 1112) dL_refuses_1112 rfl ?_
                                refine tq_iload (M := mL_refuses) (pc := 1113) dL_refuses_1113 rfl ?_
                                refine tq_iconst (M := mL_refuses) (pc := 1115) dL_refuses_1115 tk_ki_0 ?_
                                refine tq_iload_n (M := mL_refuses) (pc := 1116) dL_refuses_1116 rfl ?_
                                obtain ⟨p110, ep110, hf⟩ := tq_le hf
                                have HJ1117 : tq_W l mL_refuses d 11 66 Q 1130 [(0, .ref a0), (2, .int a2), (3, .int p1), (4, .int p4), (11, .int x106)] [.int p110, .int (0 : Int32), .int x106, .ref a0] v109.2 := by
                                  refine tq_iconst (M := mL_refuses) (pc := 1130) dL_refuses_1130 tk_ki_m1 ?_
                                  obtain ⟨v111, ev111, hf⟩ := tq_be hf
                                  refine tq_calSW (M := mL_refuses) (pc := 1131) (S := []) tk_w_L_step.1 tk_w_L_step.2.1 tk_w_L_step.2.2.1 tk_w_L_step.2.2.2.1 tk_w_L_step.2.2.2.2 tk_s_L_step tk_RL_221 dL_refuses_1131 [.ref a0, .int x106, .int (0 : Int32), .int p110, .int (-1 : Int32)] rfl (Nat.le_of_ble_eq_true rfl) (d1 := d - 1) (b1 := 1) (s1 := 6) (bc' := 10) (bs' := 60) (Q1 := fun r h9 => r = .inl (some (.int v111.1)) ∧ v111.2 = h9) (by omega) rfl rfl (w_L_step (bc := 1) (bs := 6) (by omega) ev111 (fun _ _ _ => ⟨by decide, by decide⟩) (fun _ _ q => q)) (fun E h9 q => nomatch (show (Sum.inr E : tq_R) = Sum.inl _ from q.1)) (fun r9 h9 q => ?_)
                                  obtain ⟨q1, rfl⟩ := q
                                  cases (show (Sum.inl r9 : tq_R) = Sum.inl (some (.int v111.1)) from q1)
                                  refine tq_ldc (M := mL_refuses) (pc := 1134) dL_refuses_1134 tk_RL_18 ?_
                                  refine tq_icmp_ne (M := mL_refuses) (pc := 1136) (tgt := 1317) dL_refuses_1136 (by decide) (fun cc => ?_) (fun cc => ?_)
                                  · have hf := tq_ifn hf cc
                                    refine tq_iconst (M := mL_refuses) (pc := 1317) dL_refuses_1317 tk_ki_0 ?_
                                    refine tq_pick (L2 := []) [] rfl ?_
                                    refine tq_more (bc := 0) (bs := 0) (by omega) (by omega) ?_
                                    cases (Option.some.inj hf)
                                    exact HJ1081
                                  · have hf := tq_ifp hf cc
                                    refine tq_aload_n (M := mL_refuses) (pc := 1139) dL_refuses_1139 rfl ?_
                                    refine tq_iload (M := mL_refuses) (pc := 1140) dL_refuses_1140 rfl ?_
                                    refine tq_iconst (M := mL_refuses) (pc := 1142) dL_refuses_1142 tk_ki_0 ?_
                                    refine tq_bipush (M := mL_refuses) (pc := 1143) dL_refuses_1143 tk_kb_8 ?_
                                    refine tq_iconst (M := mL_refuses) (pc := 1145) dL_refuses_1145 tk_ki_0 ?_
                                    obtain ⟨v112, ev112, hf⟩ := tq_be hf
                                    refine tq_calSW (M := mL_refuses) (pc := 1146) (S := []) tk_w_L_step.1 tk_w_L_step.2.1 tk_w_L_step.2.2.1 tk_w_L_step.2.2.2.1 tk_w_L_step.2.2.2.2 tk_s_L_step tk_RL_221 dL_refuses_1146 [.ref a0, .int x106, .int (0 : Int32), .int (8 : Int32), .int (0 : Int32)] rfl (Nat.le_of_ble_eq_true rfl) (d1 := d - 1) (b1 := 1) (s1 := 6) (bc' := 9) (bs' := 54) (Q1 := fun r h9 => r = .inl (some (.int v112.1)) ∧ v112.2 = h9) (by omega) rfl rfl (w_L_step (bc := 1) (bs := 6) (by omega) ev112 (fun _ _ _ => ⟨by decide, by decide⟩) (fun _ _ q => q)) (fun E h9 q => nomatch (show (Sum.inr E : tq_R) = Sum.inl _ from q.1)) (fun r9 h9 q => ?_)
                                    obtain ⟨q1, rfl⟩ := q
                                    cases (show (Sum.inl r9 : tq_R) = Sum.inl (some (.int v112.1)) from q1)
                                    refine tq_ldc (M := mL_refuses) (pc := 1149) dL_refuses_1149 tk_RL_18 ?_
                                    refine tq_icmp_ne (M := mL_refuses) (pc := 1151) (tgt := 1317) dL_refuses_1151 (by decide) (fun cc => ?_) (fun cc => ?_)
                                    · have hf := tq_ifn hf cc
                                      refine tq_iconst (M := mL_refuses) (pc := 1317) dL_refuses_1317 tk_ki_0 ?_
                                      refine tq_pick (L2 := []) [] rfl ?_
                                      refine tq_more (bc := 0) (bs := 0) (by omega) (by omega) ?_
                                      cases (Option.some.inj hf)
                                      exact HJ1081
                                    · have hf := tq_ifp hf cc
                                      refine tq_aload_n (M := mL_refuses) (pc := 1154) dL_refuses_1154 rfl ?_
                                      refine tq_iload (M := mL_refuses) (pc := 1155) dL_refuses_1155 rfl ?_
                                      refine tq_iload_n (M := mL_refuses) (pc := 1157) dL_refuses_1157 rfl ?_
                                      obtain ⟨p113, ep113, hf⟩ := tq_le hf
                                      have HJ1158 : tq_W l mL_refuses d 9 54 Q 1170 [(0, .ref a0), (2, .int a2), (3, .int p1), (4, .int p4), (11, .int x106)] [.int p113, .int x106, .ref a0] v112.2 := by
                                        refine tq_iconst (M := mL_refuses) (pc := 1170) dL_refuses_1170 tk_ki_1 ?_
                                        obtain ⟨v114, ev114, hf⟩ := tq_be hf
                                        refine tq_calSW (M := mL_refuses) (pc := 1171) (S := []) tk_w_L_place.1 tk_w_L_place.2.1 tk_w_L_place.2.2.1 tk_w_L_place.2.2.2.1 tk_w_L_place.2.2.2.2 tk_s_L_place tk_RL_224 dL_refuses_1171 [.ref a0, .int x106, .int p113, .int (1 : Int32)] rfl (Nat.le_of_ble_eq_true rfl) (d1 := d - 1) (b1 := 1) (s1 := 6) (bc' := 8) (bs' := 48) (Q1 := fun r h9 => r = .inl (some (.int v114.1)) ∧ v114.2 = h9) (by omega) rfl rfl (w_L_place (bc := 1) (bs := 6) (by omega) ev114 (fun _ _ _ => ⟨by decide, by decide⟩) (fun _ _ q => q)) (fun E h9 q => nomatch (show (Sum.inr E : tq_R) = Sum.inl _ from q.1)) (fun r9 h9 q => ?_)
                                        obtain ⟨q1, rfl⟩ := q
                                        cases (show (Sum.inl r9 : tq_R) = Sum.inl (some (.int v114.1)) from q1)
                                        refine tq_ldc (M := mL_refuses) (pc := 1174) dL_refuses_1174 tk_RL_18 ?_
                                        refine tq_icmp_ne (M := mL_refuses) (pc := 1176) (tgt := 1317) dL_refuses_1176 (by decide) (fun cc => ?_) (fun cc => ?_)
                                        · have hf := tq_ifn hf cc
                                          refine tq_iconst (M := mL_refuses) (pc := 1317) dL_refuses_1317 tk_ki_0 ?_
                                          refine tq_pick (L2 := []) [] rfl ?_
                                          refine tq_more (bc := 0) (bs := 0) (by omega) (by omega) ?_
                                          cases (Option.some.inj hf)
                                          exact HJ1081
                                        · have hf := tq_ifp hf cc
                                          refine tq_aload_n (M := mL_refuses) (pc := 1179) dL_refuses_1179 rfl ?_
                                          refine tq_iload (M := mL_refuses) (pc := 1180) dL_refuses_1180 rfl ?_
                                          refine tq_iconst (M := mL_refuses) (pc := 1182) dL_refuses_1182 tk_ki_0 ?_
                                          refine tq_iload_n (M := mL_refuses) (pc := 1183) dL_refuses_1183 rfl ?_
                                          obtain ⟨p115, ep115, hf⟩ := tq_le hf
                                          have HJ1184 : tq_W l mL_refuses d 8 48 Q 1197 [(0, .ref a0), (2, .int a2), (4, .int p4), (11, .int x106)] [.int p115, .int (0 : Int32), .int x106, .ref a0] v114.2 := by
                                            obtain ⟨v116, ev116, hf⟩ := tq_be hf
                                            refine tq_calSW (M := mL_refuses) (pc := 1197) (S := []) tk_w_L_place.1 tk_w_L_place.2.1 tk_w_L_place.2.2.1 tk_w_L_place.2.2.2.1 tk_w_L_place.2.2.2.2 tk_s_L_place tk_RL_224 dL_refuses_1197 [.ref a0, .int x106, .int (0 : Int32), .int p115] rfl (Nat.le_of_ble_eq_true rfl) (d1 := d - 1) (b1 := 1) (s1 := 6) (bc' := 7) (bs' := 42) (Q1 := fun r h9 => r = .inl (some (.int v116.1)) ∧ v116.2 = h9) (by omega) rfl rfl (w_L_place (bc := 1) (bs := 6) (by omega) ev116 (fun _ _ _ => ⟨by decide, by decide⟩) (fun _ _ q => q)) (fun E h9 q => nomatch (show (Sum.inr E : tq_R) = Sum.inl _ from q.1)) (fun r9 h9 q => ?_)
                                            obtain ⟨q1, rfl⟩ := q
                                            cases (show (Sum.inl r9 : tq_R) = Sum.inl (some (.int v116.1)) from q1)
                                            refine tq_ldc (M := mL_refuses) (pc := 1200) dL_refuses_1200 tk_RL_18 ?_
                                            refine tq_icmp_ne (M := mL_refuses) (pc := 1202) (tgt := 1317) dL_refuses_1202 (by decide) (fun cc => ?_) (fun cc => ?_)
                                            · have hf := tq_ifn hf cc
                                              refine tq_iconst (M := mL_refuses) (pc := 1317) dL_refuses_1317 tk_ki_0 ?_
                                              refine tq_pick (L2 := []) [] rfl ?_
                                              refine tq_more (bc := 0) (bs := 0) (by omega) (by omega) ?_
                                              cases (Option.some.inj hf)
                                              exact HJ1081
                                            · have hf := tq_ifp hf cc
                                              refine tq_aload_n (M := mL_refuses) (pc := 1205) dL_refuses_1205 rfl ?_
                                              refine tq_iload (M := mL_refuses) (pc := 1206) dL_refuses_1206 rfl ?_
                                              refine tq_iload (M := mL_refuses) (pc := 1208) dL_refuses_1208 rfl ?_
                                              refine tq_iconst (M := mL_refuses) (pc := 1210) dL_refuses_1210 tk_ki_1 ?_
                                              obtain ⟨v117, ev117, hf⟩ := tq_be hf
                                              refine tq_calSW (M := mL_refuses) (pc := 1211) (S := []) tk_w_L_has.1 tk_w_L_has.2.1 tk_w_L_has.2.2.1 tk_w_L_has.2.2.2.1 tk_w_L_has.2.2.2.2 tk_s_L_has tk_RL_228 dL_refuses_1211 [.ref a0, .int x106, .int x106, .int (1 : Int32)] rfl (Nat.le_of_ble_eq_true rfl) (d1 := d - 1) (b1 := 1) (s1 := 6) (bc' := 6) (bs' := 36) (Q1 := fun r h9 => r = .inl (some (.int v117.1)) ∧ v117.2 = h9) (by omega) rfl rfl (w_L_has (bc := 1) (bs := 6) (by omega) ev117 (fun _ _ _ => ⟨by decide, by decide⟩) (fun _ _ q => q)) (fun E h9 q => nomatch (show (Sum.inr E : tq_R) = Sum.inl _ from q.1)) (fun r9 h9 q => ?_)
                                              obtain ⟨q1, rfl⟩ := q
                                              cases (show (Sum.inl r9 : tq_R) = Sum.inl (some (.int v117.1)) from q1)
                                              refine tq_ldc (M := mL_refuses) (pc := 1214) dL_refuses_1214 tk_RL_15 ?_
                                              refine tq_icmp_ne (M := mL_refuses) (pc := 1216) (tgt := 1317) dL_refuses_1216 (by decide) (fun cc => ?_) (fun cc => ?_)
                                              · have hf := tq_ifn hf cc
                                                refine tq_iconst (M := mL_refuses) (pc := 1317) dL_refuses_1317 tk_ki_0 ?_
                                                refine tq_pick (L2 := []) [] rfl ?_
                                                refine tq_more (bc := 0) (bs := 0) (by omega) (by omega) ?_
                                                cases (Option.some.inj hf)
                                                exact HJ1081
                                              · have hf := tq_ifp hf cc
                                                refine tq_aload_n (M := mL_refuses) (pc := 1219) dL_refuses_1219 rfl ?_
                                                refine tq_iload (M := mL_refuses) (pc := 1220) dL_refuses_1220 rfl ?_
                                                refine tq_iload (M := mL_refuses) (pc := 1222) dL_refuses_1222 rfl ?_
                                                refine tq_iconst (M := mL_refuses) (pc := 1224) dL_refuses_1224 tk_ki_0 ?_
                                                refine tq_iconst (M := mL_refuses) (pc := 1225) dL_refuses_1225 tk_ki_0 ?_
                                                obtain ⟨v118, ev118, hf⟩ := tq_be hf
                                                refine tq_calSW (M := mL_refuses) (pc := 1226) (S := []) tk_w_L_worth.1 tk_w_L_worth.2.1 tk_w_L_worth.2.2.1 tk_w_L_worth.2.2.2.1 tk_w_L_worth.2.2.2.2 tk_s_L_worth tk_RL_231 dL_refuses_1226 [.ref a0, .int x106, .int x106, .int (0 : Int32), .int (0 : Int32)] rfl (Nat.le_of_ble_eq_true rfl) (d1 := d - 1) (b1 := 1) (s1 := 6) (bc' := 5) (bs' := 30) (Q1 := fun r h9 => r = .inl (some (.int v118.1)) ∧ v118.2 = h9) (by omega) rfl rfl (w_L_worth (bc := 1) (bs := 6) (by omega) ev118 (fun _ _ _ => ⟨by decide, by decide⟩) (fun _ _ q => q)) (fun E h9 q => nomatch (show (Sum.inr E : tq_R) = Sum.inl _ from q.1)) (fun r9 h9 q => ?_)
                                                obtain ⟨q1, rfl⟩ := q
                                                cases (show (Sum.inl r9 : tq_R) = Sum.inl (some (.int v118.1)) from q1)
                                                refine tq_ldc (M := mL_refuses) (pc := 1229) dL_refuses_1229 tk_RL_15 ?_
                                                refine tq_icmp_ne (M := mL_refuses) (pc := 1231) (tgt := 1317) dL_refuses_1231 (by decide) (fun cc => ?_) (fun cc => ?_)
                                                · have hf := tq_ifn hf cc
                                                  refine tq_iconst (M := mL_refuses) (pc := 1317) dL_refuses_1317 tk_ki_0 ?_
                                                  refine tq_pick (L2 := []) [] rfl ?_
                                                  refine tq_more (bc := 0) (bs := 0) (by omega) (by omega) ?_
                                                  cases (Option.some.inj hf)
                                                  exact HJ1081
                                                · have hf := tq_ifp hf cc
                                                  refine tq_aload_n (M := mL_refuses) (pc := 1234) dL_refuses_1234 rfl ?_
                                                  refine tq_iload (M := mL_refuses) (pc := 1235) dL_refuses_1235 rfl ?_
                                                  refine tq_iload (M := mL_refuses) (pc := 1237) dL_refuses_1237 rfl ?_
                                                  obtain ⟨v119, ev119, hf⟩ := tq_be hf
                                                  refine tq_calSW (M := mL_refuses) (pc := 1239) (S := []) tk_w_L_found.1 tk_w_L_found.2.1 tk_w_L_found.2.2.1 tk_w_L_found.2.2.2.1 tk_w_L_found.2.2.2.2 tk_s_L_found tk_RL_233 dL_refuses_1239 [.ref a0, .int x106, .int p4] rfl (Nat.le_of_ble_eq_true rfl) (d1 := d - 1) (b1 := 1) (s1 := 6) (bc' := 4) (bs' := 24) (Q1 := fun r h9 => r = .inl (some (.int v119.1)) ∧ v119.2 = h9) (by omega) rfl rfl (w_L_found (bc := 1) (bs := 6) (by omega) ev119 (fun _ _ _ => ⟨by decide, by decide⟩) (fun _ _ q => q)) (fun E h9 q => nomatch (show (Sum.inr E : tq_R) = Sum.inl _ from q.1)) (fun r9 h9 q => ?_)
                                                  obtain ⟨q1, rfl⟩ := q
                                                  cases (show (Sum.inl r9 : tq_R) = Sum.inl (some (.int v119.1)) from q1)
                                                  refine tq_ldc (M := mL_refuses) (pc := 1242) dL_refuses_1242 tk_RL_15 ?_
                                                  refine tq_icmp_ne (M := mL_refuses) (pc := 1244) (tgt := 1317) dL_refuses_1244 (by decide) (fun cc => ?_) (fun cc => ?_)
                                                  · have hf := tq_ifn hf cc
                                                    refine tq_iconst (M := mL_refuses) (pc := 1317) dL_refuses_1317 tk_ki_0 ?_
                                                    refine tq_pick (L2 := []) [] rfl ?_
                                                    refine tq_more (bc := 0) (bs := 0) (by omega) (by omega) ?_
                                                    cases (Option.some.inj hf)
                                                    exact HJ1081
                                                  · have hf := tq_ifp hf cc
                                                    refine tq_aload_n (M := mL_refuses) (pc := 1247) dL_refuses_1247 rfl ?_
                                                    refine tq_iload (M := mL_refuses) (pc := 1248) dL_refuses_1248 rfl ?_
                                                    refine tq_iconst (M := mL_refuses) (pc := 1250) dL_refuses_1250 tk_ki_m1 ?_
                                                    refine tq_iload_n (M := mL_refuses) (pc := 1251) dL_refuses_1251 rfl ?_
                                                    refine tq_isub (M := mL_refuses) (pc := 1252) dL_refuses_1252 ?_
                                                    obtain ⟨v120, ev120, hf⟩ := tq_be hf
                                                    refine tq_calSW (M := mL_refuses) (pc := 1253) (S := []) tk_w_L_foundAt.1 tk_w_L_foundAt.2.1 tk_w_L_foundAt.2.2.1 tk_w_L_foundAt.2.2.2.1 tk_w_L_foundAt.2.2.2.2 tk_s_L_foundAt tk_RL_237 dL_refuses_1253 [.ref a0, .int x106, .int (((-1 : Int32) - a2))] rfl (Nat.le_of_ble_eq_true rfl) (d1 := d - 1) (b1 := 1) (s1 := 6) (bc' := 3) (bs' := 18) (Q1 := fun r h9 => r = .inl (some (.int v120.1)) ∧ v120.2 = h9) (by omega) rfl rfl (w_L_foundAt (bc := 1) (bs := 6) (by omega) ev120 (fun _ _ _ => ⟨by decide, by decide⟩) (fun _ _ q => q)) (fun E h9 q => nomatch (show (Sum.inr E : tq_R) = Sum.inl _ from q.1)) (fun r9 h9 q => ?_)
                                                    obtain ⟨q1, rfl⟩ := q
                                                    cases (show (Sum.inl r9 : tq_R) = Sum.inl (some (.int v120.1)) from q1)
                                                    refine tq_ldc (M := mL_refuses) (pc := 1256) dL_refuses_1256 tk_RL_15 ?_
                                                    refine tq_icmp_ne (M := mL_refuses) (pc := 1258) (tgt := 1317) dL_refuses_1258 (by decide) (fun cc => ?_) (fun cc => ?_)
                                                    · have hf := tq_ifn hf cc
                                                      refine tq_iconst (M := mL_refuses) (pc := 1317) dL_refuses_1317 tk_ki_0 ?_
                                                      refine tq_pick (L2 := []) [] rfl ?_
                                                      refine tq_more (bc := 0) (bs := 0) (by omega) (by omega) ?_
                                                      cases (Option.some.inj hf)
                                                      exact HJ1081
                                                    · have hf := tq_ifp hf cc
                                                      refine tq_aload_n (M := mL_refuses) (pc := 1261) dL_refuses_1261 rfl ?_
                                                      refine tq_iload (M := mL_refuses) (pc := 1262) dL_refuses_1262 rfl ?_
                                                      refine tq_bipush (M := mL_refuses) (pc := 1264) dL_refuses_1264 tk_kb_60 ?_
                                                      refine tq_iload_n (M := mL_refuses) (pc := 1266) dL_refuses_1266 rfl ?_
                                                      refine tq_iadd (M := mL_refuses) (pc := 1267) dL_refuses_1267 ?_
                                                      obtain ⟨v121, ev121, hf⟩ := tq_be hf
                                                      refine tq_calSW (M := mL_refuses) (pc := 1268) (S := []) tk_w_L_ordered.1 tk_w_L_ordered.2.1 tk_w_L_ordered.2.2.1 tk_w_L_ordered.2.2.2.1 tk_w_L_ordered.2.2.2.2 tk_s_L_ordered tk_RL_239 dL_refuses_1268 [.ref a0, .int x106, .int (((60 : Int32) + a2))] rfl (Nat.le_of_ble_eq_true rfl) (d1 := d - 1) (b1 := 1) (s1 := 6) (bc' := 2) (bs' := 12) (Q1 := fun r h9 => r = .inl (some (.int v121.1)) ∧ v121.2 = h9) (by omega) rfl rfl (w_L_ordered (bc := 1) (bs := 6) (by omega) ev121 (fun _ _ _ => ⟨by decide, by decide⟩) (fun _ _ q => q)) (fun E h9 q => nomatch (show (Sum.inr E : tq_R) = Sum.inl _ from q.1)) (fun r9 h9 q => ?_)
                                                      obtain ⟨q1, rfl⟩ := q
                                                      cases (show (Sum.inl r9 : tq_R) = Sum.inl (some (.int v121.1)) from q1)
                                                      refine tq_ldc (M := mL_refuses) (pc := 1271) dL_refuses_1271 tk_RL_15 ?_
                                                      refine tq_icmp_ne (M := mL_refuses) (pc := 1273) (tgt := 1317) dL_refuses_1273 (by decide) (fun cc => ?_) (fun cc => ?_)
                                                      · have hf := tq_ifn hf cc
                                                        refine tq_iconst (M := mL_refuses) (pc := 1317) dL_refuses_1317 tk_ki_0 ?_
                                                        refine tq_pick (L2 := []) [] rfl ?_
                                                        refine tq_more (bc := 0) (bs := 0) (by omega) (by omega) ?_
                                                        cases (Option.some.inj hf)
                                                        exact HJ1081
                                                      · have hf := tq_ifp hf cc
                                                        refine tq_iload (M := mL_refuses) (pc := 1276) dL_refuses_1276 rfl ?_
                                                        refine tq_aload_n (M := mL_refuses) (pc := 1278) dL_refuses_1278 rfl ?_
                                                        obtain ⟨⟨⟩, eu123, hf⟩ := tq_be hf
                                                        obtain ⟨fsu123, eu123⟩ := tq_is_s eu123
                                                        obtain ⟨v122, ev122, hf⟩ := tq_be hf
                                                        refine tq_calV (M := mL_refuses) (pc := 1279) (S := [.int x106]) tk_y_X10_paths tk_v_X10_paths tk_RL_175 dL_refuses_1279 [] rfl (S0 := _) rfl eu123 rfl (Nat.le_of_ble_eq_true rfl) (d1 := d - 1) (b1 := 0) (s1 := 0) (bc' := 2) (bs' := 12) (Q1 := fun r h9 => r = .inl (some (.int v122)) ∧ v121.2 = h9) (by omega) rfl rfl (w_X10_paths (by omega) ev122 (fun _ _ q => q)) (fun E h9 q => nomatch (show (Sum.inr E : tq_R) = Sum.inl _ from q.1)) (fun r9 h9 q => ?_)
                                                        obtain ⟨q1, rfl⟩ := q
                                                        cases (show (Sum.inl r9 : tq_R) = Sum.inl (some (.int v122)) from q1)
                                                        refine tq_iconst (M := mL_refuses) (pc := 1282) dL_refuses_1282 tk_ki_1 ?_
                                                        refine tq_isub (M := mL_refuses) (pc := 1283) dL_refuses_1283 ?_
                                                        refine tq_icmp_eq (M := mL_refuses) (pc := 1284) (tgt := 1313) dL_refuses_1284 (by decide) (fun cc => ?_) (fun cc => ?_)
                                                        · have hf := tq_ifp hf cc
                                                          refine tq_iconst (M := mL_refuses) (pc := 1313) dL_refuses_1313 tk_ki_1 ?_
                                                          refine tq_goto (M := mL_refuses) (pc := 1314) (tgt := 1318) dL_refuses_1314 (by decide) ?_
                                                          refine tq_pick (L2 := []) [] rfl ?_
                                                          refine tq_more (bc := 0) (bs := 0) (by omega) (by omega) ?_
                                                          cases (Option.some.inj hf)
                                                          exact HJ1081
                                                        · have hf := tq_ifn hf cc
                                                          refine tq_aload_n (M := mL_refuses) (pc := 1287) dL_refuses_1287 rfl ?_
                                                          refine tq_iload (M := mL_refuses) (pc := 1288) dL_refuses_1288 rfl ?_
                                                          refine tq_iconst (M := mL_refuses) (pc := 1290) dL_refuses_1290 tk_ki_0 ?_
                                                          refine tq_bipush (M := mL_refuses) (pc := 1291) dL_refuses_1291 tk_kb_8 ?_
                                                          refine tq_iconst (M := mL_refuses) (pc := 1293) dL_refuses_1293 tk_ki_m1 ?_
                                                          obtain ⟨v124, ev124, hf⟩ := tq_be hf
                                                          refine tq_calSW (M := mL_refuses) (pc := 1294) (S := []) tk_w_L_step.1 tk_w_L_step.2.1 tk_w_L_step.2.2.1 tk_w_L_step.2.2.2.1 tk_w_L_step.2.2.2.2 tk_s_L_step tk_RL_221 dL_refuses_1294 [.ref a0, .int x106, .int (0 : Int32), .int (8 : Int32), .int (-1 : Int32)] rfl (Nat.le_of_ble_eq_true rfl) (d1 := d - 1) (b1 := 1) (s1 := 6) (bc' := 1) (bs' := 6) (Q1 := fun r h9 => r = .inl (some (.int v124.1)) ∧ v124.2 = h9) (by omega) rfl rfl (w_L_step (bc := 1) (bs := 6) (by omega) ev124 (fun _ _ _ => ⟨by decide, by decide⟩) (fun _ _ q => q)) (fun E h9 q => nomatch (show (Sum.inr E : tq_R) = Sum.inl _ from q.1)) (fun r9 h9 q => ?_)
                                                          obtain ⟨q1, rfl⟩ := q
                                                          cases (show (Sum.inl r9 : tq_R) = Sum.inl (some (.int v124.1)) from q1)
                                                          refine tq_ldc (M := mL_refuses) (pc := 1297) dL_refuses_1297 tk_RL_21 ?_
                                                          refine tq_icmp_ne (M := mL_refuses) (pc := 1299) (tgt := 1317) dL_refuses_1299 (by decide) (fun cc => ?_) (fun cc => ?_)
                                                          · have hf := tq_ifn hf cc
                                                            refine tq_iconst (M := mL_refuses) (pc := 1317) dL_refuses_1317 tk_ki_0 ?_
                                                            refine tq_pick (L2 := []) [] rfl ?_
                                                            refine tq_more (bc := 0) (bs := 0) (by omega) (by omega) ?_
                                                            cases (Option.some.inj hf)
                                                            exact HJ1081
                                                          · have hf := tq_ifp hf cc
                                                            refine tq_aload_n (M := mL_refuses) (pc := 1302) dL_refuses_1302 rfl ?_
                                                            refine tq_iload (M := mL_refuses) (pc := 1303) dL_refuses_1303 rfl ?_
                                                            obtain ⟨v125, ev125, hf⟩ := tq_be hf
                                                            refine tq_calSW (M := mL_refuses) (pc := 1305) (S := []) tk_w_L_last.1 tk_w_L_last.2.1 tk_w_L_last.2.2.1 tk_w_L_last.2.2.2.1 tk_w_L_last.2.2.2.2 tk_s_L_last tk_RL_226 dL_refuses_1305 [.ref a0, .int x106] rfl (Nat.le_of_ble_eq_true rfl) (d1 := d - 1) (b1 := 1) (s1 := 6) (bc' := 0) (bs' := 0) (Q1 := fun r h9 => r = .inl (some (.int v125.1)) ∧ v125.2 = h9) (by omega) rfl rfl (w_L_last (bc := 1) (bs := 6) (by omega) ev125 (fun _ _ _ => ⟨by decide, by decide⟩) (fun _ _ q => q)) (fun E h9 q => nomatch (show (Sum.inr E : tq_R) = Sum.inl _ from q.1)) (fun r9 h9 q => ?_)
                                                            obtain ⟨q1, rfl⟩ := q
                                                            cases (show (Sum.inl r9 : tq_R) = Sum.inl (some (.int v125.1)) from q1)
                                                            refine tq_ldc (M := mL_refuses) (pc := 1308) dL_refuses_1308 tk_RL_21 ?_
                                                            refine tq_icmp_ne (M := mL_refuses) (pc := 1310) (tgt := 1317) dL_refuses_1310 (by decide) (fun cc => ?_) (fun cc => ?_)
                                                            · have hf := tq_ifn hf cc
                                                              refine tq_iconst (M := mL_refuses) (pc := 1317) dL_refuses_1317 tk_ki_0 ?_
                                                              refine tq_pick (L2 := []) [] rfl ?_
                                                              cases (Option.some.inj hf)
                                                              exact HJ1081
                                                            · have hf := tq_ifp hf cc
                                                              refine tq_iconst (M := mL_refuses) (pc := 1313) dL_refuses_1313 tk_ki_1 ?_
                                                              refine tq_goto (M := mL_refuses) (pc := 1314) (tgt := 1318) dL_refuses_1314 (by decide) ?_
                                                              refine tq_pick (L2 := []) [] rfl ?_
                                                              cases (Option.some.inj hf)
                                                              exact HJ1081
                                          refine tq_if_eq (M := mL_refuses) (pc := 1184) (tgt := 1193) dL_refuses_1184 (by decide) (fun cc => ?_) (fun cc => ?_)
                                          · have hf := tq_ifp ep115.symm cc
                                            refine tq_bipush (M := mL_refuses) (pc := 1193) dL_refuses_1193 tk_kb_100 ?_
                                            refine tq_iload_n (M := mL_refuses) (pc := 1195) dL_refuses_1195 rfl ?_
                                            refine tq_iadd (M := mL_refuses) (pc := 1196) dL_refuses_1196 ?_
                                            refine tq_pick (L2 := [(0, .ref a0), (2, .int a2), (4, .int p4), (11, .int x106)]) [0, 1, 3, 4] rfl ?_
                                            cases hf
                                            exact HJ1184
                                          · have hf := tq_ifn ep115.symm cc
                                            refine tq_iconst (M := mL_refuses) (pc := 1187) dL_refuses_1187 tk_ki_m1 ?_
                                            refine tq_iload_n (M := mL_refuses) (pc := 1188) dL_refuses_1188 rfl ?_
                                            refine tq_isub (M := mL_refuses) (pc := 1189) dL_refuses_1189 ?_
                                            refine tq_goto (M := mL_refuses) (pc := 1190) (tgt := 1197) dL_refuses_1190 (by decide) ?_
                                            refine tq_pick (L2 := [(0, .ref a0), (2, .int a2), (4, .int p4), (11, .int x106)]) [0, 1, 3, 4] rfl ?_
                                            cases hf
                                            exact HJ1184
                                      refine tq_if_eq (M := mL_refuses) (pc := 1158) (tgt := 1167) dL_refuses_1158 (by decide) (fun cc => ?_) (fun cc => ?_)
                                      · have hf := tq_ifp ep113.symm cc
                                        refine tq_iconst (M := mL_refuses) (pc := 1167) dL_refuses_1167 tk_ki_3 ?_
                                        refine tq_iload_n (M := mL_refuses) (pc := 1168) dL_refuses_1168 rfl ?_
                                        refine tq_iadd (M := mL_refuses) (pc := 1169) dL_refuses_1169 ?_
                                        cases hf
                                        exact HJ1158
                                      · have hf := tq_ifn ep113.symm cc
                                        refine tq_iconst (M := mL_refuses) (pc := 1161) dL_refuses_1161 tk_ki_m1 ?_
                                        refine tq_iload_n (M := mL_refuses) (pc := 1162) dL_refuses_1162 rfl ?_
                                        refine tq_isub (M := mL_refuses) (pc := 1163) dL_refuses_1163 ?_
                                        refine tq_goto (M := mL_refuses) (pc := 1164) (tgt := 1170) dL_refuses_1164 (by decide) ?_
                                        cases hf
                                        exact HJ1158
                                refine tq_if_eq (M := mL_refuses) (pc := 1117) (tgt := 1126) dL_refuses_1117 (by decide) (fun cc => ?_) (fun cc => ?_)
                                · have hf := tq_ifp ep110.symm cc
                                  refine tq_bipush (M := mL_refuses) (pc := 1126) dL_refuses_1126 tk_kb_14 ?_
                                  refine tq_iload_n (M := mL_refuses) (pc := 1128) dL_refuses_1128 rfl ?_
                                  refine tq_iadd (M := mL_refuses) (pc := 1129) dL_refuses_1129 ?_
                                  cases hf
                                  exact HJ1117
                                · have hf := tq_ifn ep110.symm cc
                                  refine tq_iconst (M := mL_refuses) (pc := 1120) dL_refuses_1120 tk_ki_m1 ?_
                                  refine tq_iload_n (M := mL_refuses) (pc := 1121) dL_refuses_1121 rfl ?_
                                  refine tq_isub (M := mL_refuses) (pc := 1122) dL_refuses_1122 ?_
                                  refine tq_goto (M := mL_refuses) (pc := 1123) (tgt := 1130) dL_refuses_1123 (by decide) ?_
                                  cases hf
                                  exact HJ1117
                            refine tq_if_eq (M := mL_refuses) (pc := 1088) (tgt := 1097) dL_refuses_1088 (by decide) (fun cc => ?_) (fun cc => ?_)
                            · have hf := tq_ifp ep108.symm cc
                              refine tq_bipush (M := mL_refuses) (pc := 1097) dL_refuses_1097 tk_kb_13 ?_
                              refine tq_iload_n (M := mL_refuses) (pc := 1099) dL_refuses_1099 rfl ?_
                              refine tq_iadd (M := mL_refuses) (pc := 1100) dL_refuses_1100 ?_
                              refine tq_pick (L2 := [(0, .ref a0), (2, .int a2), (3, .int p1), (4, .int p4), (11, .int x106)]) [2, 3, 4, 5, 0] rfl ?_
                              cases hf
                              exact HJ1088
                            · have hf := tq_ifn ep108.symm cc
                              refine tq_iconst (M := mL_refuses) (pc := 1091) dL_refuses_1091 tk_ki_m1 ?_
                              refine tq_iload_n (M := mL_refuses) (pc := 1092) dL_refuses_1092 rfl ?_
                              refine tq_isub (M := mL_refuses) (pc := 1093) dL_refuses_1093 ?_
                              refine tq_goto (M := mL_refuses) (pc := 1094) (tgt := 1101) dL_refuses_1094 (by decide) ?_
                              refine tq_pick (L2 := [(0, .ref a0), (2, .int a2), (3, .int p1), (4, .int p4), (11, .int x106)]) [2, 3, 4, 5, 0] rfl ?_
                              cases hf
                              exact HJ1088
                    refine tq_if_eq (M := mL_refuses) (pc := 784) (tgt := 1041) dL_refuses_784 (by decide) (fun cc => ?_) (fun cc => ?_)
                    · have hf := tq_ifp ep101 cc
                      refine tq_iconst (M := mL_refuses) (pc := 1041) dL_refuses_1041 tk_ki_0 ?_
                      refine tq_pick (L2 := [(0, .ref a0), (2, .int a2), (3, .int p1), (4, .int p4)]) [1, 2, 3, 4] rfl ?_
                      refine tq_more (bc := 13) (bs := 78) (by omega) (by omega) ?_
                      cases (Option.some.inj hf)
                      exact HJ784
                    · have hf := tq_ifn ep101 cc
                      refine tq_aload_n (M := mL_refuses) (pc := 787) dL_refuses_787 rfl ?_
                      refine tq_iload (M := mL_refuses) (pc := 788) dL_refuses_788 rfl ?_
                      refine tq_iconst (M := mL_refuses) (pc := 790) dL_refuses_790 tk_ki_0 ?_
                      obtain ⟨v82, ev82, hf⟩ := tq_be hf
                      refine tq_calSW (M := mL_refuses) (pc := 791) (S := []) tk_w_L_nameType.1 tk_w_L_nameType.2.1 tk_w_L_nameType.2.2.1 tk_w_L_nameType.2.2.2.1 tk_w_L_nameType.2.2.2.2 tk_s_L_nameType tk_RL_255 dL_refuses_791 [.ref a0, .int p9, .int (0 : Int32)] rfl (Nat.le_of_ble_eq_true rfl) (d1 := d - 1) (b1 := 1) (s1 := 6) (bc' := 42) (bs' := 7894) (Q1 := fun r h9 => r = .inl (some (.int v82.1)) ∧ v82.2 = h9) (by omega) rfl rfl (w_L_nameType (bc := 1) (bs := 6) (by omega) ev82 (fun _ _ _ => ⟨by decide, by decide⟩) (fun _ _ q => q)) (fun E h9 q => nomatch (show (Sum.inr E : tq_R) = Sum.inl _ from q.1)) (fun r9 h9 q => ?_)
                      obtain ⟨q1, rfl⟩ := q
                      cases (show (Sum.inl r9 : tq_R) = Sum.inl (some (.int v82.1)) from q1)
                      refine tq_ldc (M := mL_refuses) (pc := 794) dL_refuses_794 tk_RL_15 ?_
                      refine tq_icmp_ne (M := mL_refuses) (pc := 796) (tgt := 1041) dL_refuses_796 (by decide) (fun cc => ?_) (fun cc => ?_)
                      · have hf := tq_ifn hf cc
                        refine tq_iconst (M := mL_refuses) (pc := 1041) dL_refuses_1041 tk_ki_0 ?_
                        refine tq_pick (L2 := [(0, .ref a0), (2, .int a2), (3, .int p1), (4, .int p4)]) [1, 2, 3, 4] rfl ?_
                        refine tq_more (bc := 13) (bs := 78) (by omega) (by omega) ?_
                        cases (Option.some.inj hf)
                        exact HJ784
                      · have hf := tq_ifp hf cc
                        refine tq_aload_n (M := mL_refuses) (pc := 799) dL_refuses_799 rfl ?_
                        refine tq_iload_n (M := mL_refuses) (pc := 800) dL_refuses_800 rfl ?_
                        refine tq_bipush (M := mL_refuses) (pc := 801) dL_refuses_801 tk_kb_6 ?_
                        refine tq_irem (M := mL_refuses) (pc := 803) dL_refuses_803 (by decide +kernel) ?_
                        refine tq_iload_n (M := mL_refuses) (pc := 804) dL_refuses_804 rfl ?_
                        obtain ⟨p83, ep83, hf⟩ := tq_le hf
                        have HJ805 : tq_W l mL_refuses d 42 7894 Q 819 [(0, .ref a0), (2, .int a2), (3, .int p1), (4, .int p4), (6, .int p8), (7, .int p9), (8, .int p10)] [.int p83, .int ((a2 - a2 / (6 : Int32) * (6 : Int32))), .ref a0] v82.2 := by
                          obtain ⟨v84, ev84, hf⟩ := tq_be hf
                          refine tq_calSW (M := mL_refuses) (pc := 819) (S := []) tk_w_L_nameType.1 tk_w_L_nameType.2.1 tk_w_L_nameType.2.2.1 tk_w_L_nameType.2.2.2.1 tk_w_L_nameType.2.2.2.2 tk_s_L_nameType tk_RL_255 dL_refuses_819 [.ref a0, .int ((a2 - a2 / (6 : Int32) * (6 : Int32))), .int p83] rfl (Nat.le_of_ble_eq_true rfl) (d1 := d - 1) (b1 := 1) (s1 := 6) (bc' := 41) (bs' := 7888) (Q1 := fun r h9 => r = .inl (some (.int v84.1)) ∧ v84.2 = h9) (by omega) rfl rfl (w_L_nameType (bc := 1) (bs := 6) (by omega) ev84 (fun _ _ _ => ⟨by decide, by decide⟩) (fun _ _ q => q)) (fun E h9 q => nomatch (show (Sum.inr E : tq_R) = Sum.inl _ from q.1)) (fun r9 h9 q => ?_)
                          obtain ⟨q1, rfl⟩ := q
                          cases (show (Sum.inl r9 : tq_R) = Sum.inl (some (.int v84.1)) from q1)
                          refine tq_ldc (M := mL_refuses) (pc := 822) dL_refuses_822 tk_RL_18 ?_
                          refine tq_icmp_ne (M := mL_refuses) (pc := 824) (tgt := 1041) dL_refuses_824 (by decide) (fun cc => ?_) (fun cc => ?_)
                          · have hf := tq_ifn hf cc
                            refine tq_iconst (M := mL_refuses) (pc := 1041) dL_refuses_1041 tk_ki_0 ?_
                            refine tq_pick (L2 := [(0, .ref a0), (2, .int a2), (3, .int p1), (4, .int p4)]) [0, 1, 2, 3] rfl ?_
                            refine tq_more (bc := 13) (bs := 78) (by omega) (by omega) ?_
                            cases (Option.some.inj hf)
                            exact HJ784
                          · have hf := tq_ifp hf cc
                            refine tq_aload_n (M := mL_refuses) (pc := 827) dL_refuses_827 rfl ?_
                            refine tq_iload (M := mL_refuses) (pc := 828) dL_refuses_828 rfl ?_
                            refine tq_iconst (M := mL_refuses) (pc := 830) dL_refuses_830 tk_ki_0 ?_
                            refine tq_iconst (M := mL_refuses) (pc := 831) dL_refuses_831 tk_ki_0 ?_
                            refine tq_iconst (M := mL_refuses) (pc := 832) dL_refuses_832 tk_ki_0 ?_
                            obtain ⟨v85, ev85, hf⟩ := tq_be hf
                            refine tq_calSW (M := mL_refuses) (pc := 833) (S := []) tk_w_L_arc.1 tk_w_L_arc.2.1 tk_w_L_arc.2.2.1 tk_w_L_arc.2.2.2.1 tk_w_L_arc.2.2.2.2 tk_s_L_arc tk_RL_257 dL_refuses_833 [.ref a0, .int p9, .int (0 : Int32), .int (0 : Int32), .int (0 : Int32)] rfl (Nat.le_of_ble_eq_true rfl) (d1 := d - 1) (b1 := 1) (s1 := 6) (bc' := 40) (bs' := 7882) (Q1 := fun r h9 => r = .inl (some (.int v85.1)) ∧ v85.2 = h9) (by omega) rfl rfl (w_L_arc (bc := 1) (bs := 6) (by omega) ev85 (fun _ _ _ => ⟨by decide, by decide⟩) (fun _ _ q => q)) (fun E h9 q => nomatch (show (Sum.inr E : tq_R) = Sum.inl _ from q.1)) (fun r9 h9 q => ?_)
                            obtain ⟨q1, rfl⟩ := q
                            cases (show (Sum.inl r9 : tq_R) = Sum.inl (some (.int v85.1)) from q1)
                            refine tq_ldc (M := mL_refuses) (pc := 836) dL_refuses_836 tk_RL_15 ?_
                            refine tq_icmp_ne (M := mL_refuses) (pc := 838) (tgt := 1041) dL_refuses_838 (by decide) (fun cc => ?_) (fun cc => ?_)
                            · have hf := tq_ifn hf cc
                              refine tq_iconst (M := mL_refuses) (pc := 1041) dL_refuses_1041 tk_ki_0 ?_
                              refine tq_pick (L2 := [(0, .ref a0), (2, .int a2), (3, .int p1), (4, .int p4)]) [0, 1, 2, 3] rfl ?_
                              refine tq_more (bc := 13) (bs := 78) (by omega) (by omega) ?_
                              cases (Option.some.inj hf)
                              exact HJ784
                            · have hf := tq_ifp hf cc
                              refine tq_aload_n (M := mL_refuses) (pc := 841) dL_refuses_841 rfl ?_
                              refine tq_iconst (M := mL_refuses) (pc := 842) dL_refuses_842 tk_ki_0 ?_
                              refine tq_iload_n (M := mL_refuses) (pc := 843) dL_refuses_843 rfl ?_
                              obtain ⟨p86, ep86, hf⟩ := tq_le hf
                              have HJ844 : tq_W l mL_refuses d 40 7882 Q 856 [(0, .ref a0), (2, .int a2), (3, .int p1), (4, .int p4), (6, .int p8), (7, .int p9), (8, .int p10)] [.int p86, .int (0 : Int32), .ref a0] v85.2 := by
                                refine tq_iconst (M := mL_refuses) (pc := 856) dL_refuses_856 tk_ki_0 ?_
                                refine tq_iconst (M := mL_refuses) (pc := 857) dL_refuses_857 tk_ki_0 ?_
                                obtain ⟨v87, ev87, hf⟩ := tq_be hf
                                refine tq_calSW (M := mL_refuses) (pc := 858) (S := []) tk_w_L_arc.1 tk_w_L_arc.2.1 tk_w_L_arc.2.2.1 tk_w_L_arc.2.2.2.1 tk_w_L_arc.2.2.2.2 tk_s_L_arc tk_RL_257 dL_refuses_858 [.ref a0, .int (0 : Int32), .int p86, .int (0 : Int32), .int (0 : Int32)] rfl (Nat.le_of_ble_eq_true rfl) (d1 := d - 1) (b1 := 1) (s1 := 6) (bc' := 39) (bs' := 7876) (Q1 := fun r h9 => r = .inl (some (.int v87.1)) ∧ v87.2 = h9) (by omega) rfl rfl (w_L_arc (bc := 1) (bs := 6) (by omega) ev87 (fun _ _ _ => ⟨by decide, by decide⟩) (fun _ _ q => q)) (fun E h9 q => nomatch (show (Sum.inr E : tq_R) = Sum.inl _ from q.1)) (fun r9 h9 q => ?_)
                                obtain ⟨q1, rfl⟩ := q
                                cases (show (Sum.inl r9 : tq_R) = Sum.inl (some (.int v87.1)) from q1)
                                refine tq_ldc (M := mL_refuses) (pc := 861) dL_refuses_861 tk_RL_15 ?_
                                refine tq_icmp_ne (M := mL_refuses) (pc := 863) (tgt := 1041) dL_refuses_863 (by decide) (fun cc => ?_) (fun cc => ?_)
                                · have hf := tq_ifn hf cc
                                  refine tq_iconst (M := mL_refuses) (pc := 1041) dL_refuses_1041 tk_ki_0 ?_
                                  refine tq_pick (L2 := [(0, .ref a0), (2, .int a2), (3, .int p1), (4, .int p4)]) [0, 1, 2, 3] rfl ?_
                                  refine tq_more (bc := 13) (bs := 78) (by omega) (by omega) ?_
                                  cases (Option.some.inj hf)
                                  exact HJ784
                                · have hf := tq_ifp hf cc
                                  refine tq_aload_n (M := mL_refuses) (pc := 866) dL_refuses_866 rfl ?_
                                  refine tq_iload (M := mL_refuses) (pc := 867) dL_refuses_867 rfl ?_
                                  refine tq_iconst (M := mL_refuses) (pc := 869) dL_refuses_869 tk_ki_0 ?_
                                  refine tq_iconst (M := mL_refuses) (pc := 870) dL_refuses_870 tk_ki_1 ?_
                                  obtain ⟨v88, ev88, hf⟩ := tq_be hf
                                  refine tq_calSW (M := mL_refuses) (pc := 871) (S := []) tk_w_L_fin.1 tk_w_L_fin.2.1 tk_w_L_fin.2.2.1 tk_w_L_fin.2.2.2.1 tk_w_L_fin.2.2.2.2 tk_s_L_fin tk_RL_259 dL_refuses_871 [.ref a0, .int p9, .int (0 : Int32), .int (1 : Int32)] rfl (Nat.le_of_ble_eq_true rfl) (d1 := d - 1) (b1 := 1) (s1 := 6) (bc' := 38) (bs' := 7870) (Q1 := fun r h9 => r = .inl (some (.int v88.1)) ∧ v88.2 = h9) (by omega) rfl rfl (w_L_fin (bc := 1) (bs := 6) (by omega) ev88 (fun _ _ _ => ⟨by decide, by decide⟩) (fun _ _ q => q)) (fun E h9 q => nomatch (show (Sum.inr E : tq_R) = Sum.inl _ from q.1)) (fun r9 h9 q => ?_)
                                  obtain ⟨q1, rfl⟩ := q
                                  cases (show (Sum.inl r9 : tq_R) = Sum.inl (some (.int v88.1)) from q1)
                                  refine tq_ldc (M := mL_refuses) (pc := 874) dL_refuses_874 tk_RL_15 ?_
                                  refine tq_icmp_ne (M := mL_refuses) (pc := 876) (tgt := 1041) dL_refuses_876 (by decide) (fun cc => ?_) (fun cc => ?_)
                                  · have hf := tq_ifn hf cc
                                    refine tq_iconst (M := mL_refuses) (pc := 1041) dL_refuses_1041 tk_ki_0 ?_
                                    refine tq_pick (L2 := [(0, .ref a0), (2, .int a2), (3, .int p1), (4, .int p4)]) [0, 1, 2, 3] rfl ?_
                                    refine tq_more (bc := 13) (bs := 78) (by omega) (by omega) ?_
                                    cases (Option.some.inj hf)
                                    exact HJ784
                                  · have hf := tq_ifp hf cc
                                    refine tq_aload_n (M := mL_refuses) (pc := 879) dL_refuses_879 rfl ?_
                                    refine tq_iload (M := mL_refuses) (pc := 880) dL_refuses_880 rfl ?_
                                    refine tq_iconst (M := mL_refuses) (pc := 882) dL_refuses_882 tk_ki_1 ?_
                                    obtain ⟨v89, ev89, hf⟩ := tq_be hf
                                    refine tq_calSW (M := mL_refuses) (pc := 883) (S := []) tk_w_L_texts.1 tk_w_L_texts.2.1 tk_w_L_texts.2.2.1 tk_w_L_texts.2.2.2.1 tk_w_L_texts.2.2.2.2 tk_s_L_texts tk_RL_262 dL_refuses_883 [.ref a0, .int p9, .int (1 : Int32)] rfl (Nat.le_of_ble_eq_true rfl) (d1 := d - 1) (b1 := 1) (s1 := 6) (bc' := 37) (bs' := 7864) (Q1 := fun r h9 => r = .inl (some (.int v89.1)) ∧ v89.2 = h9) (by omega) rfl rfl (w_L_texts (bc := 1) (bs := 6) (by omega) ev89 (fun _ _ _ => ⟨by decide, by decide⟩) (fun _ _ q => q)) (fun E h9 q => nomatch (show (Sum.inr E : tq_R) = Sum.inl _ from q.1)) (fun r9 h9 q => ?_)
                                    obtain ⟨q1, rfl⟩ := q
                                    cases (show (Sum.inl r9 : tq_R) = Sum.inl (some (.int v89.1)) from q1)
                                    refine tq_ldc (M := mL_refuses) (pc := 886) dL_refuses_886 tk_RL_15 ?_
                                    refine tq_icmp_ne (M := mL_refuses) (pc := 888) (tgt := 1041) dL_refuses_888 (by decide) (fun cc => ?_) (fun cc => ?_)
                                    · have hf := tq_ifn hf cc
                                      refine tq_iconst (M := mL_refuses) (pc := 1041) dL_refuses_1041 tk_ki_0 ?_
                                      refine tq_pick (L2 := [(0, .ref a0), (2, .int a2), (3, .int p1), (4, .int p4)]) [0, 1, 2, 3] rfl ?_
                                      refine tq_more (bc := 13) (bs := 78) (by omega) (by omega) ?_
                                      cases (Option.some.inj hf)
                                      exact HJ784
                                    · have hf := tq_ifp hf cc
                                      refine tq_aload_n (M := mL_refuses) (pc := 891) dL_refuses_891 rfl ?_
                                      refine tq_iload (M := mL_refuses) (pc := 892) dL_refuses_892 rfl ?_
                                      refine tq_iconst (M := mL_refuses) (pc := 894) dL_refuses_894 tk_ki_0 ?_
                                      refine tq_iconst (M := mL_refuses) (pc := 895) dL_refuses_895 tk_ki_0 ?_
                                      obtain ⟨v90, ev90, hf⟩ := tq_be hf
                                      refine tq_calSW (M := mL_refuses) (pc := 896) (S := []) tk_w_L_says.1 tk_w_L_says.2.1 tk_w_L_says.2.2.1 tk_w_L_says.2.2.2.1 tk_w_L_says.2.2.2.2 tk_s_L_says tk_RL_266 dL_refuses_896 [.ref a0, .int p9, .int (0 : Int32), .int (0 : Int32)] rfl (Nat.le_of_ble_eq_true rfl) (d1 := d - 1) (b1 := 1) (s1 := 6) (bc' := 36) (bs' := 7858) (Q1 := fun r h9 => r = .inl (some (.int v90.1)) ∧ v90.2 = h9) (by omega) rfl rfl (w_L_says (bc := 1) (bs := 6) (by omega) ev90 (fun _ _ _ => ⟨by decide, by decide⟩) (fun _ _ q => q)) (fun E h9 q => nomatch (show (Sum.inr E : tq_R) = Sum.inl _ from q.1)) (fun r9 h9 q => ?_)
                                      obtain ⟨q1, rfl⟩ := q
                                      cases (show (Sum.inl r9 : tq_R) = Sum.inl (some (.int v90.1)) from q1)
                                      refine tq_ldc (M := mL_refuses) (pc := 899) dL_refuses_899 tk_RL_15 ?_
                                      refine tq_icmp_ne (M := mL_refuses) (pc := 901) (tgt := 1041) dL_refuses_901 (by decide) (fun cc => ?_) (fun cc => ?_)
                                      · have hf := tq_ifn hf cc
                                        refine tq_iconst (M := mL_refuses) (pc := 1041) dL_refuses_1041 tk_ki_0 ?_
                                        refine tq_pick (L2 := [(0, .ref a0), (2, .int a2), (3, .int p1), (4, .int p4)]) [0, 1, 2, 3] rfl ?_
                                        refine tq_more (bc := 13) (bs := 78) (by omega) (by omega) ?_
                                        cases (Option.some.inj hf)
                                        exact HJ784
                                      · have hf := tq_ifp hf cc
                                        refine tq_aload_n (M := mL_refuses) (pc := 904) dL_refuses_904 rfl ?_
                                        refine tq_iload_n (M := mL_refuses) (pc := 905) dL_refuses_905 rfl ?_
                                        refine tq_bipush (M := mL_refuses) (pc := 906) dL_refuses_906 tk_kb_6 ?_
                                        refine tq_irem (M := mL_refuses) (pc := 908) dL_refuses_908 (by decide +kernel) ?_
                                        refine tq_iload (M := mL_refuses) (pc := 909) dL_refuses_909 rfl ?_
                                        refine tq_iconst (M := mL_refuses) (pc := 911) dL_refuses_911 tk_ki_0 ?_
                                        obtain ⟨v91, ev91, hf⟩ := tq_be hf
                                        refine tq_calSW (M := mL_refuses) (pc := 912) (S := []) tk_w_L_says.1 tk_w_L_says.2.1 tk_w_L_says.2.2.1 tk_w_L_says.2.2.2.1 tk_w_L_says.2.2.2.2 tk_s_L_says tk_RL_266 dL_refuses_912 [.ref a0, .int ((a2 - a2 / (6 : Int32) * (6 : Int32))), .int p8, .int (0 : Int32)] rfl (Nat.le_of_ble_eq_true rfl) (d1 := d - 1) (b1 := 1) (s1 := 6) (bc' := 35) (bs' := 7852) (Q1 := fun r h9 => r = .inl (some (.int v91.1)) ∧ v91.2 = h9) (by omega) rfl rfl (w_L_says (bc := 1) (bs := 6) (by omega) ev91 (fun _ _ _ => ⟨by decide, by decide⟩) (fun _ _ q => q)) (fun E h9 q => nomatch (show (Sum.inr E : tq_R) = Sum.inl _ from q.1)) (fun r9 h9 q => ?_)
                                        obtain ⟨q1, rfl⟩ := q
                                        cases (show (Sum.inl r9 : tq_R) = Sum.inl (some (.int v91.1)) from q1)
                                        refine tq_ldc (M := mL_refuses) (pc := 915) dL_refuses_915 tk_RL_18 ?_
                                        refine tq_icmp_ne (M := mL_refuses) (pc := 917) (tgt := 1041) dL_refuses_917 (by decide) (fun cc => ?_) (fun cc => ?_)
                                        · have hf := tq_ifn hf cc
                                          refine tq_iconst (M := mL_refuses) (pc := 1041) dL_refuses_1041 tk_ki_0 ?_
                                          refine tq_pick (L2 := [(0, .ref a0), (2, .int a2), (3, .int p1), (4, .int p4)]) [0, 1, 2, 3] rfl ?_
                                          refine tq_more (bc := 13) (bs := 78) (by omega) (by omega) ?_
                                          cases (Option.some.inj hf)
                                          exact HJ784
                                        · have hf := tq_ifp hf cc
                                          refine tq_aload_n (M := mL_refuses) (pc := 920) dL_refuses_920 rfl ?_
                                          refine tq_iload_n (M := mL_refuses) (pc := 921) dL_refuses_921 rfl ?_
                                          refine tq_bipush (M := mL_refuses) (pc := 922) dL_refuses_922 tk_kb_6 ?_
                                          refine tq_irem (M := mL_refuses) (pc := 924) dL_refuses_924 (by decide +kernel) ?_
                                          refine tq_iconst (M := mL_refuses) (pc := 925) dL_refuses_925 tk_ki_0 ?_
                                          refine tq_iload_n (M := mL_refuses) (pc := 926) dL_refuses_926 rfl ?_
                                          obtain ⟨p92, ep92, hf⟩ := tq_le hf
                                          have HJ927 : tq_W l mL_refuses d 35 7852 Q 939 [(0, .ref a0), (2, .int a2), (3, .int p1), (4, .int p4), (6, .int p8), (8, .int p10)] [.int p92, .int (0 : Int32), .int ((a2 - a2 / (6 : Int32) * (6 : Int32))), .ref a0] v91.2 := by
                                            obtain ⟨v93, ev93, hf⟩ := tq_be hf
                                            refine tq_calSW (M := mL_refuses) (pc := 939) (S := []) tk_w_L_says.1 tk_w_L_says.2.1 tk_w_L_says.2.2.1 tk_w_L_says.2.2.2.1 tk_w_L_says.2.2.2.2 tk_s_L_says tk_RL_266 dL_refuses_939 [.ref a0, .int ((a2 - a2 / (6 : Int32) * (6 : Int32))), .int (0 : Int32), .int p92] rfl (Nat.le_of_ble_eq_true rfl) (d1 := d - 1) (b1 := 1) (s1 := 6) (bc' := 34) (bs' := 7846) (Q1 := fun r h9 => r = .inl (some (.int v93.1)) ∧ v93.2 = h9) (by omega) rfl rfl (w_L_says (bc := 1) (bs := 6) (by omega) ev93 (fun _ _ _ => ⟨by decide, by decide⟩) (fun _ _ q => q)) (fun E h9 q => nomatch (show (Sum.inr E : tq_R) = Sum.inl _ from q.1)) (fun r9 h9 q => ?_)
                                            obtain ⟨q1, rfl⟩ := q
                                            cases (show (Sum.inl r9 : tq_R) = Sum.inl (some (.int v93.1)) from q1)
                                            refine tq_ldc (M := mL_refuses) (pc := 942) dL_refuses_942 tk_RL_18 ?_
                                            refine tq_icmp_ne (M := mL_refuses) (pc := 944) (tgt := 1041) dL_refuses_944 (by decide) (fun cc => ?_) (fun cc => ?_)
                                            · have hf := tq_ifn hf cc
                                              refine tq_iconst (M := mL_refuses) (pc := 1041) dL_refuses_1041 tk_ki_0 ?_
                                              refine tq_pick (L2 := [(0, .ref a0), (2, .int a2), (3, .int p1), (4, .int p4)]) [0, 1, 2, 3] rfl ?_
                                              refine tq_more (bc := 13) (bs := 78) (by omega) (by omega) ?_
                                              cases (Option.some.inj hf)
                                              exact HJ784
                                            · have hf := tq_ifp hf cc
                                              refine tq_aload_n (M := mL_refuses) (pc := 947) dL_refuses_947 rfl ?_
                                              refine tq_iload (M := mL_refuses) (pc := 948) dL_refuses_948 rfl ?_
                                              obtain ⟨v94, ev94, hf⟩ := tq_be hf
                                              refine tq_calSW (M := mL_refuses) (pc := 950) (S := []) tk_w_L_index.1 tk_w_L_index.2.1 tk_w_L_index.2.2.1 tk_w_L_index.2.2.2.1 tk_w_L_index.2.2.2.2 tk_s_L_index tk_RL_269 dL_refuses_950 [.ref a0, .int p8] rfl (Nat.le_of_ble_eq_true rfl) (d1 := d - 1) (b1 := 1) (s1 := 6) (bc' := 33) (bs' := 7840) (Q1 := fun r h9 => r = .inl (some (.int v94.1)) ∧ v94.2 = h9) (by omega) rfl rfl (w_L_index (bc := 1) (bs := 6) (by omega) ev94 (fun _ _ _ => ⟨by decide, by decide⟩) (fun _ _ q => q)) (fun E h9 q => nomatch (show (Sum.inr E : tq_R) = Sum.inl _ from q.1)) (fun r9 h9 q => ?_)
                                              obtain ⟨q1, rfl⟩ := q
                                              cases (show (Sum.inl r9 : tq_R) = Sum.inl (some (.int v94.1)) from q1)
                                              refine tq_ldc (M := mL_refuses) (pc := 953) dL_refuses_953 tk_RL_18 ?_
                                              refine tq_icmp_ne (M := mL_refuses) (pc := 955) (tgt := 1041) dL_refuses_955 (by decide) (fun cc => ?_) (fun cc => ?_)
                                              · have hf := tq_ifn hf cc
                                                refine tq_iconst (M := mL_refuses) (pc := 1041) dL_refuses_1041 tk_ki_0 ?_
                                                refine tq_pick (L2 := [(0, .ref a0), (2, .int a2), (3, .int p1), (4, .int p4)]) [0, 1, 2, 3] rfl ?_
                                                refine tq_more (bc := 13) (bs := 78) (by omega) (by omega) ?_
                                                cases (Option.some.inj hf)
                                                exact HJ784
                                              · have hf := tq_ifp hf cc
                                                refine tq_aload_n (M := mL_refuses) (pc := 958) dL_refuses_958 rfl ?_
                                                refine tq_iload_n (M := mL_refuses) (pc := 959) dL_refuses_959 rfl ?_
                                                refine tq_sipush (M := mL_refuses) (pc := 960) dL_refuses_960 tk_ks_1000 ?_
                                                refine tq_irem (M := mL_refuses) (pc := 963) dL_refuses_963 (by decide +kernel) ?_
                                                refine tq_iconst (M := mL_refuses) (pc := 964) dL_refuses_964 tk_ki_m1 ?_
                                                refine tq_iload_n (M := mL_refuses) (pc := 965) dL_refuses_965 rfl ?_
                                                refine tq_isub (M := mL_refuses) (pc := 966) dL_refuses_966 ?_
                                                obtain ⟨v95, ev95, hf⟩ := tq_be hf
                                                refine tq_calSW (M := mL_refuses) (pc := 967) (S := []) tk_w_L_ranked.1 tk_w_L_ranked.2.1 tk_w_L_ranked.2.2.1 tk_w_L_ranked.2.2.2.1 tk_w_L_ranked.2.2.2.2 tk_s_L_ranked tk_RL_271 dL_refuses_967 [.ref a0, .int ((a2 - a2 / (1000 : Int32) * (1000 : Int32))), .int (((-1 : Int32) - a2))] rfl (Nat.le_of_ble_eq_true rfl) (d1 := d - 1) (b1 := 1) (s1 := 6) (bc' := 32) (bs' := 7834) (Q1 := fun r h9 => r = .inl (some (.int v95.1)) ∧ v95.2 = h9) (by omega) rfl rfl (w_L_ranked (bc := 1) (bs := 6) (by omega) ev95 (fun _ _ _ => ⟨by decide, by decide⟩) (fun _ _ q => q)) (fun E h9 q => nomatch (show (Sum.inr E : tq_R) = Sum.inl _ from q.1)) (fun r9 h9 q => ?_)
                                                obtain ⟨q1, rfl⟩ := q
                                                cases (show (Sum.inl r9 : tq_R) = Sum.inl (some (.int v95.1)) from q1)
                                                refine tq_ldc (M := mL_refuses) (pc := 970) dL_refuses_970 tk_RL_15 ?_
                                                refine tq_icmp_ne (M := mL_refuses) (pc := 972) (tgt := 1041) dL_refuses_972 (by decide) (fun cc => ?_) (fun cc => ?_)
                                                · have hf := tq_ifn hf cc
                                                  refine tq_iconst (M := mL_refuses) (pc := 1041) dL_refuses_1041 tk_ki_0 ?_
                                                  refine tq_pick (L2 := [(0, .ref a0), (2, .int a2), (3, .int p1), (4, .int p4)]) [0, 1, 2, 3] rfl ?_
                                                  refine tq_more (bc := 13) (bs := 78) (by omega) (by omega) ?_
                                                  cases (Option.some.inj hf)
                                                  exact HJ784
                                                · have hf := tq_ifp hf cc
                                                  refine tq_aload_n (M := mL_refuses) (pc := 975) dL_refuses_975 rfl ?_
                                                  refine tq_iload_n (M := mL_refuses) (pc := 976) dL_refuses_976 rfl ?_
                                                  obtain ⟨p96, ep96, hf⟩ := tq_le hf
                                                  have HJ977 : tq_W l mL_refuses d 32 7834 Q 991 [(0, .ref a0), (2, .int a2), (3, .int p1), (4, .int p4), (8, .int p10)] [.int p96, .ref a0] v95.2 := by
                                                    refine tq_iconst (M := mL_refuses) (pc := 991) dL_refuses_991 tk_ki_0 ?_
                                                    obtain ⟨v97, ev97, hf⟩ := tq_be hf
                                                    refine tq_calSW (M := mL_refuses) (pc := 992) (S := []) tk_w_L_ranked.1 tk_w_L_ranked.2.1 tk_w_L_ranked.2.2.1 tk_w_L_ranked.2.2.2.1 tk_w_L_ranked.2.2.2.2 tk_s_L_ranked tk_RL_271 dL_refuses_992 [.ref a0, .int p96, .int (0 : Int32)] rfl (Nat.le_of_ble_eq_true rfl) (d1 := d - 1) (b1 := 1) (s1 := 6) (bc' := 31) (bs' := 7828) (Q1 := fun r h9 => r = .inl (some (.int v97.1)) ∧ v97.2 = h9) (by omega) rfl rfl (w_L_ranked (bc := 1) (bs := 6) (by omega) ev97 (fun _ _ _ => ⟨by decide, by decide⟩) (fun _ _ q => q)) (fun E h9 q => nomatch (show (Sum.inr E : tq_R) = Sum.inl _ from q.1)) (fun r9 h9 q => ?_)
                                                    obtain ⟨q1, rfl⟩ := q
                                                    cases (show (Sum.inl r9 : tq_R) = Sum.inl (some (.int v97.1)) from q1)
                                                    refine tq_ldc (M := mL_refuses) (pc := 995) dL_refuses_995 tk_RL_18 ?_
                                                    refine tq_icmp_ne (M := mL_refuses) (pc := 997) (tgt := 1041) dL_refuses_997 (by decide) (fun cc => ?_) (fun cc => ?_)
                                                    · have hf := tq_ifn hf cc
                                                      refine tq_iconst (M := mL_refuses) (pc := 1041) dL_refuses_1041 tk_ki_0 ?_
                                                      refine tq_pick (L2 := [(0, .ref a0), (2, .int a2), (3, .int p1), (4, .int p4)]) [0, 1, 2, 3] rfl ?_
                                                      refine tq_more (bc := 13) (bs := 78) (by omega) (by omega) ?_
                                                      cases (Option.some.inj hf)
                                                      exact HJ784
                                                    · have hf := tq_ifp hf cc
                                                      refine tq_aload_n (M := mL_refuses) (pc := 1000) dL_refuses_1000 rfl ?_
                                                      refine tq_iload (M := mL_refuses) (pc := 1001) dL_refuses_1001 rfl ?_
                                                      obtain ⟨v98, ev98, hf⟩ := tq_be hf
                                                      refine tq_calSW (M := mL_refuses) (pc := 1003) (S := []) tk_w_L_take.1 tk_w_L_take.2.1 tk_w_L_take.2.2.1 tk_w_L_take.2.2.2.1 tk_w_L_take.2.2.2.2 tk_s_L_take tk_RL_273 dL_refuses_1003 [.ref a0, .int p10] rfl (Nat.le_of_ble_eq_true rfl) (d1 := d - 1) (b1 := 1) (s1 := 6) (bc' := 30) (bs' := 7822) (Q1 := fun r h9 => r = .inl (some (.int v98.1)) ∧ v98.2 = h9) (by omega) rfl rfl (w_L_take (bc := 1) (bs := 6) (by omega) ev98 (fun _ _ _ => ⟨by decide, by decide⟩) (fun _ _ q => q)) (fun E h9 q => nomatch (show (Sum.inr E : tq_R) = Sum.inl _ from q.1)) (fun r9 h9 q => ?_)
                                                      obtain ⟨q1, rfl⟩ := q
                                                      cases (show (Sum.inl r9 : tq_R) = Sum.inl (some (.int v98.1)) from q1)
                                                      refine tq_ldc (M := mL_refuses) (pc := 1006) dL_refuses_1006 tk_RL_15 ?_
                                                      refine tq_icmp_ne (M := mL_refuses) (pc := 1008) (tgt := 1041) dL_refuses_1008 (by decide) (fun cc => ?_) (fun cc => ?_)
                                                      · have hf := tq_ifn hf cc
                                                        refine tq_iconst (M := mL_refuses) (pc := 1041) dL_refuses_1041 tk_ki_0 ?_
                                                        refine tq_pick (L2 := [(0, .ref a0), (2, .int a2), (3, .int p1), (4, .int p4)]) [0, 1, 2, 3] rfl ?_
                                                        refine tq_more (bc := 13) (bs := 78) (by omega) (by omega) ?_
                                                        cases (Option.some.inj hf)
                                                        exact HJ784
                                                      · have hf := tq_ifp hf cc
                                                        refine tq_aload_n (M := mL_refuses) (pc := 1011) dL_refuses_1011 rfl ?_
                                                        refine tq_iload (M := mL_refuses) (pc := 1012) dL_refuses_1012 rfl ?_
                                                        refine tq_iload (M := mL_refuses) (pc := 1014) dL_refuses_1014 rfl ?_
                                                        obtain ⟨v99, ev99, hf⟩ := tq_be hf
                                                        refine tq_calSW (M := mL_refuses) (pc := 1016) (S := []) tk_w_L_distance.1 tk_w_L_distance.2.1 tk_w_L_distance.2.2.1 tk_w_L_distance.2.2.2.1 tk_w_L_distance.2.2.2.2 tk_s_L_distance tk_RL_275 dL_refuses_1016 [.ref a0, .int p10, .int p10] rfl (Nat.le_of_ble_eq_true rfl) (d1 := d - 1) (b1 := 16) (s1 := 7738) (bc' := 14) (bs' := 84) (Q1 := fun r h9 => r = .inl (some (.int v99.1)) ∧ v99.2 = h9) (by omega) rfl rfl (w_L_distance (bc := 1) (bs := 6) (by omega) ev99 (fun _ _ _ => ⟨by decide, by decide⟩) (fun _ _ q => q)) (fun E h9 q => nomatch (show (Sum.inr E : tq_R) = Sum.inl _ from q.1)) (fun r9 h9 q => ?_)
                                                        obtain ⟨q1, rfl⟩ := q
                                                        cases (show (Sum.inl r9 : tq_R) = Sum.inl (some (.int v99.1)) from q1)
                                                        refine tq_ldc (M := mL_refuses) (pc := 1019) dL_refuses_1019 tk_RL_15 ?_
                                                        refine tq_icmp_ne (M := mL_refuses) (pc := 1021) (tgt := 1041) dL_refuses_1021 (by decide) (fun cc => ?_) (fun cc => ?_)
                                                        · have hf := tq_ifn hf cc
                                                          refine tq_iconst (M := mL_refuses) (pc := 1041) dL_refuses_1041 tk_ki_0 ?_
                                                          refine tq_pick (L2 := [(0, .ref a0), (2, .int a2), (3, .int p1), (4, .int p4)]) [0, 1, 2, 3] rfl ?_
                                                          refine tq_more (bc := 13) (bs := 78) (by omega) (by omega) ?_
                                                          cases (Option.some.inj hf)
                                                          exact HJ784
                                                        · have hf := tq_ifp hf cc
                                                          refine tq_aload_n (M := mL_refuses) (pc := 1024) dL_refuses_1024 rfl ?_
                                                          refine tq_iload (M := mL_refuses) (pc := 1025) dL_refuses_1025 rfl ?_
                                                          refine tq_iconst (M := mL_refuses) (pc := 1027) dL_refuses_1027 tk_ki_0 ?_
                                                          refine tq_iconst (M := mL_refuses) (pc := 1028) dL_refuses_1028 tk_ki_0 ?_
                                                          obtain ⟨v100, ev100, hf⟩ := tq_be hf
                                                          refine tq_calSW (M := mL_refuses) (pc := 1029) (S := []) tk_w_L_odds.1 tk_w_L_odds.2.1 tk_w_L_odds.2.2.1 tk_w_L_odds.2.2.2.1 tk_w_L_odds.2.2.2.2 tk_s_L_odds tk_RL_277 dL_refuses_1029 [.ref a0, .int p10, .int (0 : Int32), .int (0 : Int32)] rfl (Nat.le_of_ble_eq_true rfl) (d1 := d - 1) (b1 := 1) (s1 := 6) (bc' := 13) (bs' := 78) (Q1 := fun r h9 => r = .inl (some (.int v100.1)) ∧ v100.2 = h9) (by omega) rfl rfl (w_L_odds (bc := 1) (bs := 6) (by omega) ev100 (fun _ _ _ => ⟨by decide, by decide⟩) (fun _ _ q => q)) (fun E h9 q => nomatch (show (Sum.inr E : tq_R) = Sum.inl _ from q.1)) (fun r9 h9 q => ?_)
                                                          obtain ⟨q1, rfl⟩ := q
                                                          cases (show (Sum.inl r9 : tq_R) = Sum.inl (some (.int v100.1)) from q1)
                                                          refine tq_ldc (M := mL_refuses) (pc := 1032) dL_refuses_1032 tk_RL_15 ?_
                                                          refine tq_icmp_ne (M := mL_refuses) (pc := 1034) (tgt := 1041) dL_refuses_1034 (by decide) (fun cc => ?_) (fun cc => ?_)
                                                          · have hf := tq_ifn hf cc
                                                            refine tq_iconst (M := mL_refuses) (pc := 1041) dL_refuses_1041 tk_ki_0 ?_
                                                            refine tq_pick (L2 := [(0, .ref a0), (2, .int a2), (3, .int p1), (4, .int p4)]) [0, 1, 2, 3] rfl ?_
                                                            cases (Option.some.inj hf)
                                                            exact HJ784
                                                          · have hf := tq_ifp hf cc
                                                            refine tq_iconst (M := mL_refuses) (pc := 1037) dL_refuses_1037 tk_ki_1 ?_
                                                            refine tq_goto (M := mL_refuses) (pc := 1038) (tgt := 1042) dL_refuses_1038 (by decide) ?_
                                                            refine tq_pick (L2 := [(0, .ref a0), (2, .int a2), (3, .int p1), (4, .int p4)]) [0, 1, 2, 3] rfl ?_
                                                            cases (Option.some.inj hf)
                                                            exact HJ784
                                                  refine tq_if_eq (M := mL_refuses) (pc := 977) (tgt := 986) dL_refuses_977 (by decide) (fun cc => ?_) (fun cc => ?_)
                                                  · have hf := tq_ifp ep96.symm cc
                                                    refine tq_sipush (M := mL_refuses) (pc := 986) dL_refuses_986 tk_ks_1000 ?_
                                                    refine tq_iload_n (M := mL_refuses) (pc := 989) dL_refuses_989 rfl ?_
                                                    refine tq_iadd (M := mL_refuses) (pc := 990) dL_refuses_990 ?_
                                                    refine tq_pick (L2 := [(0, .ref a0), (2, .int a2), (3, .int p1), (4, .int p4), (8, .int p10)]) [0, 1, 2, 3, 5] rfl ?_
                                                    cases hf
                                                    exact HJ977
                                                  · have hf := tq_ifn ep96.symm cc
                                                    refine tq_iconst (M := mL_refuses) (pc := 980) dL_refuses_980 tk_ki_m1 ?_
                                                    refine tq_iload_n (M := mL_refuses) (pc := 981) dL_refuses_981 rfl ?_
                                                    refine tq_isub (M := mL_refuses) (pc := 982) dL_refuses_982 ?_
                                                    refine tq_goto (M := mL_refuses) (pc := 983) (tgt := 991) dL_refuses_983 (by decide) ?_
                                                    refine tq_pick (L2 := [(0, .ref a0), (2, .int a2), (3, .int p1), (4, .int p4), (8, .int p10)]) [0, 1, 2, 3, 5] rfl ?_
                                                    cases hf
                                                    exact HJ977
                                          refine tq_if_eq (M := mL_refuses) (pc := 927) (tgt := 936) dL_refuses_927 (by decide) (fun cc => ?_) (fun cc => ?_)
                                          · have hf := tq_ifp ep92.symm cc
                                            refine tq_iconst (M := mL_refuses) (pc := 936) dL_refuses_936 tk_ki_3 ?_
                                            refine tq_iload_n (M := mL_refuses) (pc := 937) dL_refuses_937 rfl ?_
                                            refine tq_iadd (M := mL_refuses) (pc := 938) dL_refuses_938 ?_
                                            refine tq_pick (L2 := [(0, .ref a0), (2, .int a2), (3, .int p1), (4, .int p4), (6, .int p8), (8, .int p10)]) [0, 1, 2, 3, 4, 6] rfl ?_
                                            cases hf
                                            exact HJ927
                                          · have hf := tq_ifn ep92.symm cc
                                            refine tq_iconst (M := mL_refuses) (pc := 930) dL_refuses_930 tk_ki_m1 ?_
                                            refine tq_iload_n (M := mL_refuses) (pc := 931) dL_refuses_931 rfl ?_
                                            refine tq_isub (M := mL_refuses) (pc := 932) dL_refuses_932 ?_
                                            refine tq_goto (M := mL_refuses) (pc := 933) (tgt := 939) dL_refuses_933 (by decide) ?_
                                            refine tq_pick (L2 := [(0, .ref a0), (2, .int a2), (3, .int p1), (4, .int p4), (6, .int p8), (8, .int p10)]) [0, 1, 2, 3, 4, 6] rfl ?_
                                            cases hf
                                            exact HJ927
                              refine tq_if_eq (M := mL_refuses) (pc := 844) (tgt := 853) dL_refuses_844 (by decide) (fun cc => ?_) (fun cc => ?_)
                              · have hf := tq_ifp ep86.symm cc
                                refine tq_iconst (M := mL_refuses) (pc := 853) dL_refuses_853 tk_ki_4 ?_
                                refine tq_iload_n (M := mL_refuses) (pc := 854) dL_refuses_854 rfl ?_
                                refine tq_iadd (M := mL_refuses) (pc := 855) dL_refuses_855 ?_
                                cases hf
                                exact HJ844
                              · have hf := tq_ifn ep86.symm cc
                                refine tq_iconst (M := mL_refuses) (pc := 847) dL_refuses_847 tk_ki_m1 ?_
                                refine tq_iload_n (M := mL_refuses) (pc := 848) dL_refuses_848 rfl ?_
                                refine tq_isub (M := mL_refuses) (pc := 849) dL_refuses_849 ?_
                                refine tq_goto (M := mL_refuses) (pc := 850) (tgt := 856) dL_refuses_850 (by decide) ?_
                                cases hf
                                exact HJ844
                        refine tq_if_eq (M := mL_refuses) (pc := 805) (tgt := 815) dL_refuses_805 (by decide) (fun cc => ?_) (fun cc => ?_)
                        · have hf := tq_ifp ep83.symm cc
                          refine tq_bipush (M := mL_refuses) (pc := 815) dL_refuses_815 tk_kb_8 ?_
                          refine tq_iload_n (M := mL_refuses) (pc := 817) dL_refuses_817 rfl ?_
                          refine tq_iadd (M := mL_refuses) (pc := 818) dL_refuses_818 ?_
                          refine tq_pick (L2 := [(0, .ref a0), (2, .int a2), (3, .int p1), (4, .int p4), (6, .int p8), (7, .int p9), (8, .int p10)]) [1, 2, 3, 4, 5, 6, 7] rfl ?_
                          cases hf
                          exact HJ805
                        · have hf := tq_ifn ep83.symm cc
                          refine tq_bipush (M := mL_refuses) (pc := 808) dL_refuses_808 tk_kb_m2 ?_
                          refine tq_iload_n (M := mL_refuses) (pc := 810) dL_refuses_810 rfl ?_
                          refine tq_isub (M := mL_refuses) (pc := 811) dL_refuses_811 ?_
                          refine tq_goto (M := mL_refuses) (pc := 812) (tgt := 819) dL_refuses_812 (by decide) ?_
                          refine tq_pick (L2 := [(0, .ref a0), (2, .int a2), (3, .int p1), (4, .int p4), (6, .int p8), (7, .int p9), (8, .int p10)]) [1, 2, 3, 4, 5, 6, 7] rfl ?_
                          cases hf
                          exact HJ805
                  refine tq_if_eq (M := mL_refuses) (pc := 445) (tgt := 779) dL_refuses_445 (by decide) (fun cc => ?_) (fun cc => ?_)
                  · have hf := tq_ifp ep81 cc
                    refine tq_iconst (M := mL_refuses) (pc := 779) dL_refuses_779 tk_ki_0 ?_
                    refine tq_pick (L2 := [(0, .ref a0), (2, .int a2), (3, .int p1), (4, .int p4), (6, .int p8), (7, .int p9), (8, .int p10)]) [1, 2, 3, 4, 6, 7, 8] rfl ?_
                    refine tq_more (bc := 43) (bs := 7900) (by omega) (by omega) ?_
                    cases (Option.some.inj hf)
                    exact HJ445
                  · have hf := tq_ifn ep81 cc
                    refine tq_aload_n (M := mL_refuses) (pc := 448) dL_refuses_448 rfl ?_
                    refine tq_iload (M := mL_refuses) (pc := 449) dL_refuses_449 rfl ?_
                    obtain ⟨v53, ev53, hf⟩ := tq_be hf
                    refine tq_calSW (M := mL_refuses) (pc := 451) (S := []) tk_w_L_kind.1 tk_w_L_kind.2.1 tk_w_L_kind.2.2.1 tk_w_L_kind.2.2.2.1 tk_w_L_kind.2.2.2.2 tk_s_L_kind tk_RL_202 dL_refuses_451 [.ref a0, .int p4] rfl (Nat.le_of_ble_eq_true rfl) (d1 := d - 1) (b1 := 1) (s1 := 6) (bc' := 68) (bs' := 8050) (Q1 := fun r h9 => r = .inl (some (.int v53.1)) ∧ v53.2 = h9) (by omega) rfl rfl (w_L_kind (bc := 1) (bs := 6) (by omega) ev53 (fun _ _ _ => ⟨by decide, by decide⟩) (fun _ _ q => q)) (fun E h9 q => nomatch (show (Sum.inr E : tq_R) = Sum.inl _ from q.1)) (fun r9 h9 q => ?_)
                    obtain ⟨q1, rfl⟩ := q
                    cases (show (Sum.inl r9 : tq_R) = Sum.inl (some (.int v53.1)) from q1)
                    refine tq_ldc (M := mL_refuses) (pc := 454) dL_refuses_454 tk_RL_15 ?_
                    refine tq_icmp_ne (M := mL_refuses) (pc := 456) (tgt := 779) dL_refuses_456 (by decide) (fun cc => ?_) (fun cc => ?_)
                    · have hf := tq_ifn hf cc
                      refine tq_iconst (M := mL_refuses) (pc := 779) dL_refuses_779 tk_ki_0 ?_
                      refine tq_pick (L2 := [(0, .ref a0), (2, .int a2), (3, .int p1), (4, .int p4), (6, .int p8), (7, .int p9), (8, .int p10)]) [1, 2, 3, 4, 6, 7, 8] rfl ?_
                      refine tq_more (bc := 43) (bs := 7900) (by omega) (by omega) ?_
                      cases (Option.some.inj hf)
                      exact HJ445
                    · have hf := tq_ifp hf cc
                      refine tq_aload_n (M := mL_refuses) (pc := 459) dL_refuses_459 rfl ?_
                      refine tq_iload (M := mL_refuses) (pc := 460) dL_refuses_460 rfl ?_
                      obtain ⟨v54, ev54, hf⟩ := tq_be hf
                      refine tq_calSW (M := mL_refuses) (pc := 462) (S := []) tk_w_L_name.1 tk_w_L_name.2.1 tk_w_L_name.2.2.1 tk_w_L_name.2.2.2.1 tk_w_L_name.2.2.2.2 tk_s_L_name tk_RL_204 dL_refuses_462 [.ref a0, .int p4] rfl (Nat.le_of_ble_eq_true rfl) (d1 := d - 1) (b1 := 1) (s1 := 6) (bc' := 67) (bs' := 8044) (Q1 := fun r h9 => r = .inl (some (.int v54.1)) ∧ v54.2 = h9) (by omega) rfl rfl (w_L_name (bc := 1) (bs := 6) (by omega) ev54 (fun _ _ _ => ⟨by decide, by decide⟩) (fun _ _ q => q)) (fun E h9 q => nomatch (show (Sum.inr E : tq_R) = Sum.inl _ from q.1)) (fun r9 h9 q => ?_)
                      obtain ⟨q1, rfl⟩ := q
                      cases (show (Sum.inl r9 : tq_R) = Sum.inl (some (.int v54.1)) from q1)
                      refine tq_ldc (M := mL_refuses) (pc := 465) dL_refuses_465 tk_RL_15 ?_
                      refine tq_icmp_ne (M := mL_refuses) (pc := 467) (tgt := 779) dL_refuses_467 (by decide) (fun cc => ?_) (fun cc => ?_)
                      · have hf := tq_ifn hf cc
                        refine tq_iconst (M := mL_refuses) (pc := 779) dL_refuses_779 tk_ki_0 ?_
                        refine tq_pick (L2 := [(0, .ref a0), (2, .int a2), (3, .int p1), (4, .int p4), (6, .int p8), (7, .int p9), (8, .int p10)]) [1, 2, 3, 4, 6, 7, 8] rfl ?_
                        refine tq_more (bc := 43) (bs := 7900) (by omega) (by omega) ?_
                        cases (Option.some.inj hf)
                        exact HJ445
                      · have hf := tq_ifp hf cc
                        refine tq_aload_n (M := mL_refuses) (pc := 470) dL_refuses_470 rfl ?_
                        refine tq_iload (M := mL_refuses) (pc := 471) dL_refuses_471 rfl ?_
                        obtain ⟨v55, ev55, hf⟩ := tq_be hf
                        refine tq_calSW (M := mL_refuses) (pc := 473) (S := []) tk_w_L_value.1 tk_w_L_value.2.1 tk_w_L_value.2.2.1 tk_w_L_value.2.2.2.1 tk_w_L_value.2.2.2.2 tk_s_L_value tk_RL_206 dL_refuses_473 [.ref a0, .int p4] rfl (Nat.le_of_ble_eq_true rfl) (d1 := d - 1) (b1 := 1) (s1 := 6) (bc' := 66) (bs' := 8038) (Q1 := fun r h9 => r = .inl (some (.int v55.1)) ∧ v55.2 = h9) (by omega) rfl rfl (w_L_value (bc := 1) (bs := 6) (by omega) ev55 (fun _ _ _ => ⟨by decide, by decide⟩) (fun _ _ q => q)) (fun E h9 q => nomatch (show (Sum.inr E : tq_R) = Sum.inl _ from q.1)) (fun r9 h9 q => ?_)
                        obtain ⟨q1, rfl⟩ := q
                        cases (show (Sum.inl r9 : tq_R) = Sum.inl (some (.int v55.1)) from q1)
                        refine tq_ldc (M := mL_refuses) (pc := 476) dL_refuses_476 tk_RL_15 ?_
                        refine tq_icmp_ne (M := mL_refuses) (pc := 478) (tgt := 779) dL_refuses_478 (by decide) (fun cc => ?_) (fun cc => ?_)
                        · have hf := tq_ifn hf cc
                          refine tq_iconst (M := mL_refuses) (pc := 779) dL_refuses_779 tk_ki_0 ?_
                          refine tq_pick (L2 := [(0, .ref a0), (2, .int a2), (3, .int p1), (4, .int p4), (6, .int p8), (7, .int p9), (8, .int p10)]) [1, 2, 3, 4, 6, 7, 8] rfl ?_
                          refine tq_more (bc := 43) (bs := 7900) (by omega) (by omega) ?_
                          cases (Option.some.inj hf)
                          exact HJ445
                        · have hf := tq_ifp hf cc
                          refine tq_aload_n (M := mL_refuses) (pc := 481) dL_refuses_481 rfl ?_
                          refine tq_iload (M := mL_refuses) (pc := 482) dL_refuses_482 rfl ?_
                          obtain ⟨v56, ev56, hf⟩ := tq_be hf
                          refine tq_calSW (M := mL_refuses) (pc := 484) (S := []) tk_w_L_parent.1 tk_w_L_parent.2.1 tk_w_L_parent.2.2.1 tk_w_L_parent.2.2.2.1 tk_w_L_parent.2.2.2.2 tk_s_L_parent tk_RL_208 dL_refuses_484 [.ref a0, .int p4] rfl (Nat.le_of_ble_eq_true rfl) (d1 := d - 1) (b1 := 1) (s1 := 6) (bc' := 65) (bs' := 8032) (Q1 := fun r h9 => r = .inl (some (.int v56.1)) ∧ v56.2 = h9) (by omega) rfl rfl (w_L_parent (bc := 1) (bs := 6) (by omega) ev56 (fun _ _ _ => ⟨by decide, by decide⟩) (fun _ _ q => q)) (fun E h9 q => nomatch (show (Sum.inr E : tq_R) = Sum.inl _ from q.1)) (fun r9 h9 q => ?_)
                          obtain ⟨q1, rfl⟩ := q
                          cases (show (Sum.inl r9 : tq_R) = Sum.inl (some (.int v56.1)) from q1)
                          refine tq_ldc (M := mL_refuses) (pc := 487) dL_refuses_487 tk_RL_15 ?_
                          refine tq_icmp_ne (M := mL_refuses) (pc := 489) (tgt := 779) dL_refuses_489 (by decide) (fun cc => ?_) (fun cc => ?_)
                          · have hf := tq_ifn hf cc
                            refine tq_iconst (M := mL_refuses) (pc := 779) dL_refuses_779 tk_ki_0 ?_
                            refine tq_pick (L2 := [(0, .ref a0), (2, .int a2), (3, .int p1), (4, .int p4), (6, .int p8), (7, .int p9), (8, .int p10)]) [1, 2, 3, 4, 6, 7, 8] rfl ?_
                            refine tq_more (bc := 43) (bs := 7900) (by omega) (by omega) ?_
                            cases (Option.some.inj hf)
                            exact HJ445
                          · have hf := tq_ifp hf cc
                            refine tq_aload_n (M := mL_refuses) (pc := 492) dL_refuses_492 rfl ?_
                            refine tq_iload (M := mL_refuses) (pc := 493) dL_refuses_493 rfl ?_
                            refine tq_iconst (M := mL_refuses) (pc := 495) dL_refuses_495 tk_ki_0 ?_
                            obtain ⟨v57, ev57, hf⟩ := tq_be hf
                            refine tq_calSW (M := mL_refuses) (pc := 496) (S := []) tk_w_L_child.1 tk_w_L_child.2.1 tk_w_L_child.2.2.1 tk_w_L_child.2.2.2.1 tk_w_L_child.2.2.2.2 tk_s_L_child tk_RL_210 dL_refuses_496 [.ref a0, .int p4, .int (0 : Int32)] rfl (Nat.le_of_ble_eq_true rfl) (d1 := d - 1) (b1 := 1) (s1 := 6) (bc' := 64) (bs' := 8026) (Q1 := fun r h9 => r = .inl (some (.int v57.1)) ∧ v57.2 = h9) (by omega) rfl rfl (w_L_child (bc := 1) (bs := 6) (by omega) ev57 (fun _ _ _ => ⟨by decide, by decide⟩) (fun _ _ q => q)) (fun E h9 q => nomatch (show (Sum.inr E : tq_R) = Sum.inl _ from q.1)) (fun r9 h9 q => ?_)
                            obtain ⟨q1, rfl⟩ := q
                            cases (show (Sum.inl r9 : tq_R) = Sum.inl (some (.int v57.1)) from q1)
                            refine tq_ldc (M := mL_refuses) (pc := 499) dL_refuses_499 tk_RL_15 ?_
                            refine tq_icmp_ne (M := mL_refuses) (pc := 501) (tgt := 779) dL_refuses_501 (by decide) (fun cc => ?_) (fun cc => ?_)
                            · have hf := tq_ifn hf cc
                              refine tq_iconst (M := mL_refuses) (pc := 779) dL_refuses_779 tk_ki_0 ?_
                              refine tq_pick (L2 := [(0, .ref a0), (2, .int a2), (3, .int p1), (4, .int p4), (6, .int p8), (7, .int p9), (8, .int p10)]) [1, 2, 3, 4, 6, 7, 8] rfl ?_
                              refine tq_more (bc := 43) (bs := 7900) (by omega) (by omega) ?_
                              cases (Option.some.inj hf)
                              exact HJ445
                            · have hf := tq_ifp hf cc
                              refine tq_aload_n (M := mL_refuses) (pc := 504) dL_refuses_504 rfl ?_
                              refine tq_iconst (M := mL_refuses) (pc := 505) dL_refuses_505 tk_ki_0 ?_
                              refine tq_iconst (M := mL_refuses) (pc := 506) dL_refuses_506 tk_ki_m1 ?_
                              refine tq_iload_n (M := mL_refuses) (pc := 507) dL_refuses_507 rfl ?_
                              refine tq_isub (M := mL_refuses) (pc := 508) dL_refuses_508 ?_
                              obtain ⟨v58, ev58, hf⟩ := tq_be hf
                              refine tq_calSW (M := mL_refuses) (pc := 509) (S := []) tk_w_L_child.1 tk_w_L_child.2.1 tk_w_L_child.2.2.1 tk_w_L_child.2.2.2.1 tk_w_L_child.2.2.2.2 tk_s_L_child tk_RL_210 dL_refuses_509 [.ref a0, .int (0 : Int32), .int (((-1 : Int32) - a2))] rfl (Nat.le_of_ble_eq_true rfl) (d1 := d - 1) (b1 := 1) (s1 := 6) (bc' := 63) (bs' := 8020) (Q1 := fun r h9 => r = .inl (some (.int v58.1)) ∧ v58.2 = h9) (by omega) rfl rfl (w_L_child (bc := 1) (bs := 6) (by omega) ev58 (fun _ _ _ => ⟨by decide, by decide⟩) (fun _ _ q => q)) (fun E h9 q => nomatch (show (Sum.inr E : tq_R) = Sum.inl _ from q.1)) (fun r9 h9 q => ?_)
                              obtain ⟨q1, rfl⟩ := q
                              cases (show (Sum.inl r9 : tq_R) = Sum.inl (some (.int v58.1)) from q1)
                              refine tq_ldc (M := mL_refuses) (pc := 512) dL_refuses_512 tk_RL_15 ?_
                              refine tq_icmp_ne (M := mL_refuses) (pc := 514) (tgt := 779) dL_refuses_514 (by decide) (fun cc => ?_) (fun cc => ?_)
                              · have hf := tq_ifn hf cc
                                refine tq_iconst (M := mL_refuses) (pc := 779) dL_refuses_779 tk_ki_0 ?_
                                refine tq_pick (L2 := [(0, .ref a0), (2, .int a2), (3, .int p1), (4, .int p4), (6, .int p8), (7, .int p9), (8, .int p10)]) [1, 2, 3, 4, 6, 7, 8] rfl ?_
                                refine tq_more (bc := 43) (bs := 7900) (by omega) (by omega) ?_
                                cases (Option.some.inj hf)
                                exact HJ445
                              · have hf := tq_ifp hf cc
                                refine tq_aload_n (M := mL_refuses) (pc := 517) dL_refuses_517 rfl ?_
                                refine tq_iload (M := mL_refuses) (pc := 518) dL_refuses_518 rfl ?_
                                obtain ⟨v59, ev59, hf⟩ := tq_be hf
                                refine tq_calSW (M := mL_refuses) (pc := 520) (S := []) tk_w_L_space.1 tk_w_L_space.2.1 tk_w_L_space.2.2.1 tk_w_L_space.2.2.2.1 tk_w_L_space.2.2.2.2 tk_s_L_space tk_RL_212 dL_refuses_520 [.ref a0, .int p4] rfl (Nat.le_of_ble_eq_true rfl) (d1 := d - 1) (b1 := 1) (s1 := 6) (bc' := 62) (bs' := 8014) (Q1 := fun r h9 => r = .inl (some (.int v59.1)) ∧ v59.2 = h9) (by omega) rfl rfl (w_L_space (bc := 1) (bs := 6) (by omega) ev59 (fun _ _ _ => ⟨by decide, by decide⟩) (fun _ _ q => q)) (fun E h9 q => nomatch (show (Sum.inr E : tq_R) = Sum.inl _ from q.1)) (fun r9 h9 q => ?_)
                                obtain ⟨q1, rfl⟩ := q
                                cases (show (Sum.inl r9 : tq_R) = Sum.inl (some (.int v59.1)) from q1)
                                refine tq_ldc (M := mL_refuses) (pc := 523) dL_refuses_523 tk_RL_15 ?_
                                refine tq_icmp_ne (M := mL_refuses) (pc := 525) (tgt := 779) dL_refuses_525 (by decide) (fun cc => ?_) (fun cc => ?_)
                                · have hf := tq_ifn hf cc
                                  refine tq_iconst (M := mL_refuses) (pc := 779) dL_refuses_779 tk_ki_0 ?_
                                  refine tq_pick (L2 := [(0, .ref a0), (2, .int a2), (3, .int p1), (4, .int p4), (6, .int p8), (7, .int p9), (8, .int p10)]) [1, 2, 3, 4, 6, 7, 8] rfl ?_
                                  refine tq_more (bc := 43) (bs := 7900) (by omega) (by omega) ?_
                                  cases (Option.some.inj hf)
                                  exact HJ445
                                · have hf := tq_ifp hf cc
                                  refine tq_aload_n (M := mL_refuses) (pc := 528) dL_refuses_528 rfl ?_
                                  refine tq_iload (M := mL_refuses) (pc := 529) dL_refuses_529 rfl ?_
                                  obtain ⟨v60, ev60, hf⟩ := tq_be hf
                                  refine tq_calSW (M := mL_refuses) (pc := 531) (S := []) tk_w_L_number.1 tk_w_L_number.2.1 tk_w_L_number.2.2.1 tk_w_L_number.2.2.2.1 tk_w_L_number.2.2.2.2 tk_s_L_number tk_RL_214 dL_refuses_531 [.ref a0, .int p4] rfl (Nat.le_of_ble_eq_true rfl) (d1 := d - 1) (b1 := 1) (s1 := 6) (bc' := 61) (bs' := 8008) (Q1 := fun r h9 => r = .inl (some (.int v60.1)) ∧ v60.2 = h9) (by omega) rfl rfl (w_L_number (bc := 1) (bs := 6) (by omega) ev60 (fun _ _ _ => ⟨by decide, by decide⟩) (fun _ _ q => q)) (fun E h9 q => nomatch (show (Sum.inr E : tq_R) = Sum.inl _ from q.1)) (fun r9 h9 q => ?_)
                                  obtain ⟨q1, rfl⟩ := q
                                  cases (show (Sum.inl r9 : tq_R) = Sum.inl (some (.int v60.1)) from q1)
                                  refine tq_ldc (M := mL_refuses) (pc := 534) dL_refuses_534 tk_RL_15 ?_
                                  refine tq_icmp_ne (M := mL_refuses) (pc := 536) (tgt := 779) dL_refuses_536 (by decide) (fun cc => ?_) (fun cc => ?_)
                                  · have hf := tq_ifn hf cc
                                    refine tq_iconst (M := mL_refuses) (pc := 779) dL_refuses_779 tk_ki_0 ?_
                                    refine tq_pick (L2 := [(0, .ref a0), (2, .int a2), (3, .int p1), (4, .int p4), (6, .int p8), (7, .int p9), (8, .int p10)]) [1, 2, 3, 4, 6, 7, 8] rfl ?_
                                    refine tq_more (bc := 43) (bs := 7900) (by omega) (by omega) ?_
                                    cases (Option.some.inj hf)
                                    exact HJ445
                                  · have hf := tq_ifp hf cc
                                    refine tq_aload_n (M := mL_refuses) (pc := 539) dL_refuses_539 rfl ?_
                                    refine tq_iload (M := mL_refuses) (pc := 540) dL_refuses_540 rfl ?_
                                    obtain ⟨v61, ev61, hf⟩ := tq_be hf
                                    refine tq_calSW (M := mL_refuses) (pc := 542) (S := []) tk_w_L_seen.1 tk_w_L_seen.2.1 tk_w_L_seen.2.2.1 tk_w_L_seen.2.2.2.1 tk_w_L_seen.2.2.2.2 tk_s_L_seen tk_RL_216 dL_refuses_542 [.ref a0, .int p4] rfl (Nat.le_of_ble_eq_true rfl) (d1 := d - 1) (b1 := 1) (s1 := 6) (bc' := 60) (bs' := 8002) (Q1 := fun r h9 => r = .inl (some (.int v61.1)) ∧ v61.2 = h9) (by omega) rfl rfl (w_L_seen (bc := 1) (bs := 6) (by omega) ev61 (fun _ _ _ => ⟨by decide, by decide⟩) (fun _ _ q => q)) (fun E h9 q => nomatch (show (Sum.inr E : tq_R) = Sum.inl _ from q.1)) (fun r9 h9 q => ?_)
                                    obtain ⟨q1, rfl⟩ := q
                                    cases (show (Sum.inl r9 : tq_R) = Sum.inl (some (.int v61.1)) from q1)
                                    refine tq_ldc (M := mL_refuses) (pc := 545) dL_refuses_545 tk_RL_15 ?_
                                    refine tq_icmp_ne (M := mL_refuses) (pc := 547) (tgt := 779) dL_refuses_547 (by decide) (fun cc => ?_) (fun cc => ?_)
                                    · have hf := tq_ifn hf cc
                                      refine tq_iconst (M := mL_refuses) (pc := 779) dL_refuses_779 tk_ki_0 ?_
                                      refine tq_pick (L2 := [(0, .ref a0), (2, .int a2), (3, .int p1), (4, .int p4), (6, .int p8), (7, .int p9), (8, .int p10)]) [1, 2, 3, 4, 6, 7, 8] rfl ?_
                                      refine tq_more (bc := 43) (bs := 7900) (by omega) (by omega) ?_
                                      cases (Option.some.inj hf)
                                      exact HJ445
                                    · have hf := tq_ifp hf cc
                                      refine tq_aload_n (M := mL_refuses) (pc := 550) dL_refuses_550 rfl ?_
                                      refine tq_iload (M := mL_refuses) (pc := 551) dL_refuses_551 rfl ?_
                                      obtain ⟨v62, ev62, hf⟩ := tq_be hf
                                      refine tq_calSW (M := mL_refuses) (pc := 553) (S := []) tk_w_L_types.1 tk_w_L_types.2.1 tk_w_L_types.2.2.1 tk_w_L_types.2.2.2.1 tk_w_L_types.2.2.2.2 tk_s_L_types tk_RL_219 dL_refuses_553 [.ref a0, .int p4] rfl (Nat.le_of_ble_eq_true rfl) (d1 := d - 1) (b1 := 1) (s1 := 6) (bc' := 59) (bs' := 7996) (Q1 := fun r h9 => r = .inl (some (.int v62.1)) ∧ v62.2 = h9) (by omega) rfl rfl (w_L_types (bc := 1) (bs := 6) (by omega) ev62 (fun _ _ _ => ⟨by decide, by decide⟩) (fun _ _ q => q)) (fun E h9 q => nomatch (show (Sum.inr E : tq_R) = Sum.inl _ from q.1)) (fun r9 h9 q => ?_)
                                      obtain ⟨q1, rfl⟩ := q
                                      cases (show (Sum.inl r9 : tq_R) = Sum.inl (some (.int v62.1)) from q1)
                                      refine tq_ldc (M := mL_refuses) (pc := 556) dL_refuses_556 tk_RL_15 ?_
                                      refine tq_icmp_ne (M := mL_refuses) (pc := 558) (tgt := 779) dL_refuses_558 (by decide) (fun cc => ?_) (fun cc => ?_)
                                      · have hf := tq_ifn hf cc
                                        refine tq_iconst (M := mL_refuses) (pc := 779) dL_refuses_779 tk_ki_0 ?_
                                        refine tq_pick (L2 := [(0, .ref a0), (2, .int a2), (3, .int p1), (4, .int p4), (6, .int p8), (7, .int p9), (8, .int p10)]) [1, 2, 3, 4, 6, 7, 8] rfl ?_
                                        refine tq_more (bc := 43) (bs := 7900) (by omega) (by omega) ?_
                                        cases (Option.some.inj hf)
                                        exact HJ445
                                      · have hf := tq_ifp hf cc
                                        refine tq_aload_n (M := mL_refuses) (pc := 561) dL_refuses_561 rfl ?_
                                        refine tq_iload (M := mL_refuses) (pc := 562) dL_refuses_562 rfl ?_
                                        refine tq_iconst (M := mL_refuses) (pc := 564) dL_refuses_564 tk_ki_0 ?_
                                        refine tq_bipush (M := mL_refuses) (pc := 565) dL_refuses_565 tk_kb_8 ?_
                                        refine tq_iconst (M := mL_refuses) (pc := 567) dL_refuses_567 tk_ki_m1 ?_
                                        obtain ⟨v63, ev63, hf⟩ := tq_be hf
                                        refine tq_calSW (M := mL_refuses) (pc := 568) (S := []) tk_w_L_step.1 tk_w_L_step.2.1 tk_w_L_step.2.2.1 tk_w_L_step.2.2.2.1 tk_w_L_step.2.2.2.2 tk_s_L_step tk_RL_221 dL_refuses_568 [.ref a0, .int p7, .int (0 : Int32), .int (8 : Int32), .int (-1 : Int32)] rfl (Nat.le_of_ble_eq_true rfl) (d1 := d - 1) (b1 := 1) (s1 := 6) (bc' := 58) (bs' := 7990) (Q1 := fun r h9 => r = .inl (some (.int v63.1)) ∧ v63.2 = h9) (by omega) rfl rfl (w_L_step (bc := 1) (bs := 6) (by omega) ev63 (fun _ _ _ => ⟨by decide, by decide⟩) (fun _ _ q => q)) (fun E h9 q => nomatch (show (Sum.inr E : tq_R) = Sum.inl _ from q.1)) (fun r9 h9 q => ?_)
                                        obtain ⟨q1, rfl⟩ := q
                                        cases (show (Sum.inl r9 : tq_R) = Sum.inl (some (.int v63.1)) from q1)
                                        refine tq_ldc (M := mL_refuses) (pc := 571) dL_refuses_571 tk_RL_15 ?_
                                        refine tq_icmp_ne (M := mL_refuses) (pc := 573) (tgt := 779) dL_refuses_573 (by decide) (fun cc => ?_) (fun cc => ?_)
                                        · have hf := tq_ifn hf cc
                                          refine tq_iconst (M := mL_refuses) (pc := 779) dL_refuses_779 tk_ki_0 ?_
                                          refine tq_pick (L2 := [(0, .ref a0), (2, .int a2), (3, .int p1), (4, .int p4), (6, .int p8), (7, .int p9), (8, .int p10)]) [1, 2, 3, 4, 6, 7, 8] rfl ?_
                                          refine tq_more (bc := 43) (bs := 7900) (by omega) (by omega) ?_
                                          cases (Option.some.inj hf)
                                          exact HJ445
                                        · have hf := tq_ifp hf cc
                                          refine tq_aload_n (M := mL_refuses) (pc := 576) dL_refuses_576 rfl ?_
                                          refine tq_iload (M := mL_refuses) (pc := 577) dL_refuses_577 rfl ?_
                                          refine tq_iconst (M := mL_refuses) (pc := 579) dL_refuses_579 tk_ki_0 ?_
                                          refine tq_iconst (M := mL_refuses) (pc := 580) dL_refuses_580 tk_ki_1 ?_
                                          obtain ⟨v64, ev64, hf⟩ := tq_be hf
                                          refine tq_calSW (M := mL_refuses) (pc := 581) (S := []) tk_w_L_place.1 tk_w_L_place.2.1 tk_w_L_place.2.2.1 tk_w_L_place.2.2.2.1 tk_w_L_place.2.2.2.2 tk_s_L_place tk_RL_224 dL_refuses_581 [.ref a0, .int p7, .int (0 : Int32), .int (1 : Int32)] rfl (Nat.le_of_ble_eq_true rfl) (d1 := d - 1) (b1 := 1) (s1 := 6) (bc' := 57) (bs' := 7984) (Q1 := fun r h9 => r = .inl (some (.int v64.1)) ∧ v64.2 = h9) (by omega) rfl rfl (w_L_place (bc := 1) (bs := 6) (by omega) ev64 (fun _ _ _ => ⟨by decide, by decide⟩) (fun _ _ q => q)) (fun E h9 q => nomatch (show (Sum.inr E : tq_R) = Sum.inl _ from q.1)) (fun r9 h9 q => ?_)
                                          obtain ⟨q1, rfl⟩ := q
                                          cases (show (Sum.inl r9 : tq_R) = Sum.inl (some (.int v64.1)) from q1)
                                          refine tq_ldc (M := mL_refuses) (pc := 584) dL_refuses_584 tk_RL_15 ?_
                                          refine tq_icmp_ne (M := mL_refuses) (pc := 586) (tgt := 779) dL_refuses_586 (by decide) (fun cc => ?_) (fun cc => ?_)
                                          · have hf := tq_ifn hf cc
                                            refine tq_iconst (M := mL_refuses) (pc := 779) dL_refuses_779 tk_ki_0 ?_
                                            refine tq_pick (L2 := [(0, .ref a0), (2, .int a2), (3, .int p1), (4, .int p4), (6, .int p8), (7, .int p9), (8, .int p10)]) [1, 2, 3, 4, 6, 7, 8] rfl ?_
                                            refine tq_more (bc := 43) (bs := 7900) (by omega) (by omega) ?_
                                            cases (Option.some.inj hf)
                                            exact HJ445
                                          · have hf := tq_ifp hf cc
                                            refine tq_aload_n (M := mL_refuses) (pc := 589) dL_refuses_589 rfl ?_
                                            refine tq_iload (M := mL_refuses) (pc := 590) dL_refuses_590 rfl ?_
                                            obtain ⟨v65, ev65, hf⟩ := tq_be hf
                                            refine tq_calSW (M := mL_refuses) (pc := 592) (S := []) tk_w_L_last.1 tk_w_L_last.2.1 tk_w_L_last.2.2.1 tk_w_L_last.2.2.2.1 tk_w_L_last.2.2.2.2 tk_s_L_last tk_RL_226 dL_refuses_592 [.ref a0, .int p7] rfl (Nat.le_of_ble_eq_true rfl) (d1 := d - 1) (b1 := 1) (s1 := 6) (bc' := 56) (bs' := 7978) (Q1 := fun r h9 => r = .inl (some (.int v65.1)) ∧ v65.2 = h9) (by omega) rfl rfl (w_L_last (bc := 1) (bs := 6) (by omega) ev65 (fun _ _ _ => ⟨by decide, by decide⟩) (fun _ _ q => q)) (fun E h9 q => nomatch (show (Sum.inr E : tq_R) = Sum.inl _ from q.1)) (fun r9 h9 q => ?_)
                                            obtain ⟨q1, rfl⟩ := q
                                            cases (show (Sum.inl r9 : tq_R) = Sum.inl (some (.int v65.1)) from q1)
                                            refine tq_ldc (M := mL_refuses) (pc := 595) dL_refuses_595 tk_RL_15 ?_
                                            refine tq_icmp_ne (M := mL_refuses) (pc := 597) (tgt := 779) dL_refuses_597 (by decide) (fun cc => ?_) (fun cc => ?_)
                                            · have hf := tq_ifn hf cc
                                              refine tq_iconst (M := mL_refuses) (pc := 779) dL_refuses_779 tk_ki_0 ?_
                                              refine tq_pick (L2 := [(0, .ref a0), (2, .int a2), (3, .int p1), (4, .int p4), (6, .int p8), (7, .int p9), (8, .int p10)]) [1, 2, 3, 4, 6, 7, 8] rfl ?_
                                              refine tq_more (bc := 43) (bs := 7900) (by omega) (by omega) ?_
                                              cases (Option.some.inj hf)
                                              exact HJ445
                                            · have hf := tq_ifp hf cc
                                              refine tq_aload_n (M := mL_refuses) (pc := 600) dL_refuses_600 rfl ?_
                                              refine tq_iload (M := mL_refuses) (pc := 601) dL_refuses_601 rfl ?_
                                              refine tq_iconst (M := mL_refuses) (pc := 603) dL_refuses_603 tk_ki_0 ?_
                                              refine tq_iconst (M := mL_refuses) (pc := 604) dL_refuses_604 tk_ki_1 ?_
                                              obtain ⟨v66, ev66, hf⟩ := tq_be hf
                                              refine tq_calSW (M := mL_refuses) (pc := 605) (S := []) tk_w_L_has.1 tk_w_L_has.2.1 tk_w_L_has.2.2.1 tk_w_L_has.2.2.2.1 tk_w_L_has.2.2.2.2 tk_s_L_has tk_RL_228 dL_refuses_605 [.ref a0, .int p7, .int (0 : Int32), .int (1 : Int32)] rfl (Nat.le_of_ble_eq_true rfl) (d1 := d - 1) (b1 := 1) (s1 := 6) (bc' := 55) (bs' := 7972) (Q1 := fun r h9 => r = .inl (some (.int v66.1)) ∧ v66.2 = h9) (by omega) rfl rfl (w_L_has (bc := 1) (bs := 6) (by omega) ev66 (fun _ _ _ => ⟨by decide, by decide⟩) (fun _ _ q => q)) (fun E h9 q => nomatch (show (Sum.inr E : tq_R) = Sum.inl _ from q.1)) (fun r9 h9 q => ?_)
                                              obtain ⟨q1, rfl⟩ := q
                                              cases (show (Sum.inl r9 : tq_R) = Sum.inl (some (.int v66.1)) from q1)
                                              refine tq_ldc (M := mL_refuses) (pc := 608) dL_refuses_608 tk_RL_15 ?_
                                              refine tq_icmp_ne (M := mL_refuses) (pc := 610) (tgt := 779) dL_refuses_610 (by decide) (fun cc => ?_) (fun cc => ?_)
                                              · have hf := tq_ifn hf cc
                                                refine tq_iconst (M := mL_refuses) (pc := 779) dL_refuses_779 tk_ki_0 ?_
                                                refine tq_pick (L2 := [(0, .ref a0), (2, .int a2), (3, .int p1), (4, .int p4), (6, .int p8), (7, .int p9), (8, .int p10)]) [1, 2, 3, 4, 6, 7, 8] rfl ?_
                                                refine tq_more (bc := 43) (bs := 7900) (by omega) (by omega) ?_
                                                cases (Option.some.inj hf)
                                                exact HJ445
                                              · have hf := tq_ifp hf cc
                                                refine tq_aload_n (M := mL_refuses) (pc := 613) dL_refuses_613 rfl ?_
                                                refine tq_iload (M := mL_refuses) (pc := 614) dL_refuses_614 rfl ?_
                                                refine tq_iconst (M := mL_refuses) (pc := 616) dL_refuses_616 tk_ki_0 ?_
                                                refine tq_iconst (M := mL_refuses) (pc := 617) dL_refuses_617 tk_ki_0 ?_
                                                refine tq_iconst (M := mL_refuses) (pc := 618) dL_refuses_618 tk_ki_0 ?_
                                                obtain ⟨v67, ev67, hf⟩ := tq_be hf
                                                refine tq_calSW (M := mL_refuses) (pc := 619) (S := []) tk_w_L_worth.1 tk_w_L_worth.2.1 tk_w_L_worth.2.2.1 tk_w_L_worth.2.2.2.1 tk_w_L_worth.2.2.2.2 tk_s_L_worth tk_RL_231 dL_refuses_619 [.ref a0, .int p7, .int (0 : Int32), .int (0 : Int32), .int (0 : Int32)] rfl (Nat.le_of_ble_eq_true rfl) (d1 := d - 1) (b1 := 1) (s1 := 6) (bc' := 54) (bs' := 7966) (Q1 := fun r h9 => r = .inl (some (.int v67.1)) ∧ v67.2 = h9) (by omega) rfl rfl (w_L_worth (bc := 1) (bs := 6) (by omega) ev67 (fun _ _ _ => ⟨by decide, by decide⟩) (fun _ _ q => q)) (fun E h9 q => nomatch (show (Sum.inr E : tq_R) = Sum.inl _ from q.1)) (fun r9 h9 q => ?_)
                                                obtain ⟨q1, rfl⟩ := q
                                                cases (show (Sum.inl r9 : tq_R) = Sum.inl (some (.int v67.1)) from q1)
                                                refine tq_ldc (M := mL_refuses) (pc := 622) dL_refuses_622 tk_RL_15 ?_
                                                refine tq_icmp_ne (M := mL_refuses) (pc := 624) (tgt := 779) dL_refuses_624 (by decide) (fun cc => ?_) (fun cc => ?_)
                                                · have hf := tq_ifn hf cc
                                                  refine tq_iconst (M := mL_refuses) (pc := 779) dL_refuses_779 tk_ki_0 ?_
                                                  refine tq_pick (L2 := [(0, .ref a0), (2, .int a2), (3, .int p1), (4, .int p4), (6, .int p8), (7, .int p9), (8, .int p10)]) [1, 2, 3, 4, 6, 7, 8] rfl ?_
                                                  refine tq_more (bc := 43) (bs := 7900) (by omega) (by omega) ?_
                                                  cases (Option.some.inj hf)
                                                  exact HJ445
                                                · have hf := tq_ifp hf cc
                                                  refine tq_aload_n (M := mL_refuses) (pc := 627) dL_refuses_627 rfl ?_
                                                  refine tq_iload (M := mL_refuses) (pc := 628) dL_refuses_628 rfl ?_
                                                  refine tq_iconst (M := mL_refuses) (pc := 630) dL_refuses_630 tk_ki_0 ?_
                                                  obtain ⟨v68, ev68, hf⟩ := tq_be hf
                                                  refine tq_calSW (M := mL_refuses) (pc := 631) (S := []) tk_w_L_found.1 tk_w_L_found.2.1 tk_w_L_found.2.2.1 tk_w_L_found.2.2.2.1 tk_w_L_found.2.2.2.2 tk_s_L_found tk_RL_233 dL_refuses_631 [.ref a0, .int p7, .int (0 : Int32)] rfl (Nat.le_of_ble_eq_true rfl) (d1 := d - 1) (b1 := 1) (s1 := 6) (bc' := 53) (bs' := 7960) (Q1 := fun r h9 => r = .inl (some (.int v68.1)) ∧ v68.2 = h9) (by omega) rfl rfl (w_L_found (bc := 1) (bs := 6) (by omega) ev68 (fun _ _ _ => ⟨by decide, by decide⟩) (fun _ _ q => q)) (fun E h9 q => nomatch (show (Sum.inr E : tq_R) = Sum.inl _ from q.1)) (fun r9 h9 q => ?_)
                                                  obtain ⟨q1, rfl⟩ := q
                                                  cases (show (Sum.inl r9 : tq_R) = Sum.inl (some (.int v68.1)) from q1)
                                                  refine tq_ldc (M := mL_refuses) (pc := 634) dL_refuses_634 tk_RL_15 ?_
                                                  refine tq_icmp_ne (M := mL_refuses) (pc := 636) (tgt := 779) dL_refuses_636 (by decide) (fun cc => ?_) (fun cc => ?_)
                                                  · have hf := tq_ifn hf cc
                                                    refine tq_iconst (M := mL_refuses) (pc := 779) dL_refuses_779 tk_ki_0 ?_
                                                    refine tq_pick (L2 := [(0, .ref a0), (2, .int a2), (3, .int p1), (4, .int p4), (6, .int p8), (7, .int p9), (8, .int p10)]) [1, 2, 3, 4, 6, 7, 8] rfl ?_
                                                    refine tq_more (bc := 43) (bs := 7900) (by omega) (by omega) ?_
                                                    cases (Option.some.inj hf)
                                                    exact HJ445
                                                  · have hf := tq_ifp hf cc
                                                    refine tq_aload_n (M := mL_refuses) (pc := 639) dL_refuses_639 rfl ?_
                                                    refine tq_iload (M := mL_refuses) (pc := 640) dL_refuses_640 rfl ?_
                                                    refine tq_iconst (M := mL_refuses) (pc := 642) dL_refuses_642 tk_ki_0 ?_
                                                    obtain ⟨v69, ev69, hf⟩ := tq_be hf
                                                    refine tq_calSW (M := mL_refuses) (pc := 643) (S := []) tk_w_L_foundAnew.1 tk_w_L_foundAnew.2.1 tk_w_L_foundAnew.2.2.1 tk_w_L_foundAnew.2.2.2.1 tk_w_L_foundAnew.2.2.2.2 tk_s_L_foundAnew tk_RL_235 dL_refuses_643 [.ref a0, .int p7, .int (0 : Int32)] rfl (Nat.le_of_ble_eq_true rfl) (d1 := d - 1) (b1 := 1) (s1 := 6) (bc' := 52) (bs' := 7954) (Q1 := fun r h9 => r = .inl (some (.int v69.1)) ∧ v69.2 = h9) (by omega) rfl rfl (w_L_foundAnew (bc := 1) (bs := 6) (by omega) ev69 (fun _ _ _ => ⟨by decide, by decide⟩) (fun _ _ q => q)) (fun E h9 q => nomatch (show (Sum.inr E : tq_R) = Sum.inl _ from q.1)) (fun r9 h9 q => ?_)
                                                    obtain ⟨q1, rfl⟩ := q
                                                    cases (show (Sum.inl r9 : tq_R) = Sum.inl (some (.int v69.1)) from q1)
                                                    refine tq_ldc (M := mL_refuses) (pc := 646) dL_refuses_646 tk_RL_15 ?_
                                                    refine tq_icmp_ne (M := mL_refuses) (pc := 648) (tgt := 779) dL_refuses_648 (by decide) (fun cc => ?_) (fun cc => ?_)
                                                    · have hf := tq_ifn hf cc
                                                      refine tq_iconst (M := mL_refuses) (pc := 779) dL_refuses_779 tk_ki_0 ?_
                                                      refine tq_pick (L2 := [(0, .ref a0), (2, .int a2), (3, .int p1), (4, .int p4), (6, .int p8), (7, .int p9), (8, .int p10)]) [1, 2, 3, 4, 6, 7, 8] rfl ?_
                                                      refine tq_more (bc := 43) (bs := 7900) (by omega) (by omega) ?_
                                                      cases (Option.some.inj hf)
                                                      exact HJ445
                                                    · have hf := tq_ifp hf cc
                                                      refine tq_aload_n (M := mL_refuses) (pc := 651) dL_refuses_651 rfl ?_
                                                      refine tq_iload (M := mL_refuses) (pc := 652) dL_refuses_652 rfl ?_
                                                      refine tq_iconst (M := mL_refuses) (pc := 654) dL_refuses_654 tk_ki_0 ?_
                                                      obtain ⟨v70, ev70, hf⟩ := tq_be hf
                                                      refine tq_calSW (M := mL_refuses) (pc := 655) (S := []) tk_w_L_foundAt.1 tk_w_L_foundAt.2.1 tk_w_L_foundAt.2.2.1 tk_w_L_foundAt.2.2.2.1 tk_w_L_foundAt.2.2.2.2 tk_s_L_foundAt tk_RL_237 dL_refuses_655 [.ref a0, .int p7, .int (0 : Int32)] rfl (Nat.le_of_ble_eq_true rfl) (d1 := d - 1) (b1 := 1) (s1 := 6) (bc' := 51) (bs' := 7948) (Q1 := fun r h9 => r = .inl (some (.int v70.1)) ∧ v70.2 = h9) (by omega) rfl rfl (w_L_foundAt (bc := 1) (bs := 6) (by omega) ev70 (fun _ _ _ => ⟨by decide, by decide⟩) (fun _ _ q => q)) (fun E h9 q => nomatch (show (Sum.inr E : tq_R) = Sum.inl _ from q.1)) (fun r9 h9 q => ?_)
                                                      obtain ⟨q1, rfl⟩ := q
                                                      cases (show (Sum.inl r9 : tq_R) = Sum.inl (some (.int v70.1)) from q1)
                                                      refine tq_ldc (M := mL_refuses) (pc := 658) dL_refuses_658 tk_RL_15 ?_
                                                      refine tq_icmp_ne (M := mL_refuses) (pc := 660) (tgt := 779) dL_refuses_660 (by decide) (fun cc => ?_) (fun cc => ?_)
                                                      · have hf := tq_ifn hf cc
                                                        refine tq_iconst (M := mL_refuses) (pc := 779) dL_refuses_779 tk_ki_0 ?_
                                                        refine tq_pick (L2 := [(0, .ref a0), (2, .int a2), (3, .int p1), (4, .int p4), (6, .int p8), (7, .int p9), (8, .int p10)]) [1, 2, 3, 4, 6, 7, 8] rfl ?_
                                                        refine tq_more (bc := 43) (bs := 7900) (by omega) (by omega) ?_
                                                        cases (Option.some.inj hf)
                                                        exact HJ445
                                                      · have hf := tq_ifp hf cc
                                                        refine tq_aload_n (M := mL_refuses) (pc := 663) dL_refuses_663 rfl ?_
                                                        refine tq_iload (M := mL_refuses) (pc := 664) dL_refuses_664 rfl ?_
                                                        refine tq_iconst (M := mL_refuses) (pc := 666) dL_refuses_666 tk_ki_0 ?_
                                                        obtain ⟨v71, ev71, hf⟩ := tq_be hf
                                                        refine tq_calSW (M := mL_refuses) (pc := 667) (S := []) tk_w_L_ordered.1 tk_w_L_ordered.2.1 tk_w_L_ordered.2.2.1 tk_w_L_ordered.2.2.2.1 tk_w_L_ordered.2.2.2.2 tk_s_L_ordered tk_RL_239 dL_refuses_667 [.ref a0, .int p7, .int (0 : Int32)] rfl (Nat.le_of_ble_eq_true rfl) (d1 := d - 1) (b1 := 1) (s1 := 6) (bc' := 50) (bs' := 7942) (Q1 := fun r h9 => r = .inl (some (.int v71.1)) ∧ v71.2 = h9) (by omega) rfl rfl (w_L_ordered (bc := 1) (bs := 6) (by omega) ev71 (fun _ _ _ => ⟨by decide, by decide⟩) (fun _ _ q => q)) (fun E h9 q => nomatch (show (Sum.inr E : tq_R) = Sum.inl _ from q.1)) (fun r9 h9 q => ?_)
                                                        obtain ⟨q1, rfl⟩ := q
                                                        cases (show (Sum.inl r9 : tq_R) = Sum.inl (some (.int v71.1)) from q1)
                                                        refine tq_ldc (M := mL_refuses) (pc := 670) dL_refuses_670 tk_RL_15 ?_
                                                        refine tq_icmp_ne (M := mL_refuses) (pc := 672) (tgt := 779) dL_refuses_672 (by decide) (fun cc => ?_) (fun cc => ?_)
                                                        · have hf := tq_ifn hf cc
                                                          refine tq_iconst (M := mL_refuses) (pc := 779) dL_refuses_779 tk_ki_0 ?_
                                                          refine tq_pick (L2 := [(0, .ref a0), (2, .int a2), (3, .int p1), (4, .int p4), (6, .int p8), (7, .int p9), (8, .int p10)]) [1, 2, 3, 4, 6, 7, 8] rfl ?_
                                                          refine tq_more (bc := 43) (bs := 7900) (by omega) (by omega) ?_
                                                          cases (Option.some.inj hf)
                                                          exact HJ445
                                                        · have hf := tq_ifp hf cc
                                                          refine tq_aload_n (M := mL_refuses) (pc := 675) dL_refuses_675 rfl ?_
                                                          refine tq_iload (M := mL_refuses) (pc := 676) dL_refuses_676 rfl ?_
                                                          obtain ⟨v72, ev72, hf⟩ := tq_be hf
                                                          refine tq_calSW (M := mL_refuses) (pc := 678) (S := []) tk_w_L_groups.1 tk_w_L_groups.2.1 tk_w_L_groups.2.2.1 tk_w_L_groups.2.2.2.1 tk_w_L_groups.2.2.2.2 tk_s_L_groups tk_RL_241 dL_refuses_678 [.ref a0, .int p7] rfl (Nat.le_of_ble_eq_true rfl) (d1 := d - 1) (b1 := 1) (s1 := 6) (bc' := 49) (bs' := 7936) (Q1 := fun r h9 => r = .inl (some (.int v72.1)) ∧ v72.2 = h9) (by omega) rfl rfl (w_L_groups (bc := 1) (bs := 6) (by omega) ev72 (fun _ _ _ => ⟨by decide, by decide⟩) (fun _ _ q => q)) (fun E h9 q => nomatch (show (Sum.inr E : tq_R) = Sum.inl _ from q.1)) (fun r9 h9 q => ?_)
                                                          obtain ⟨q1, rfl⟩ := q
                                                          cases (show (Sum.inl r9 : tq_R) = Sum.inl (some (.int v72.1)) from q1)
                                                          refine tq_ldc (M := mL_refuses) (pc := 681) dL_refuses_681 tk_RL_15 ?_
                                                          refine tq_icmp_ne (M := mL_refuses) (pc := 683) (tgt := 779) dL_refuses_683 (by decide) (fun cc => ?_) (fun cc => ?_)
                                                          · have hf := tq_ifn hf cc
                                                            refine tq_iconst (M := mL_refuses) (pc := 779) dL_refuses_779 tk_ki_0 ?_
                                                            refine tq_pick (L2 := [(0, .ref a0), (2, .int a2), (3, .int p1), (4, .int p4), (6, .int p8), (7, .int p9), (8, .int p10)]) [1, 2, 3, 4, 6, 7, 8] rfl ?_
                                                            refine tq_more (bc := 43) (bs := 7900) (by omega) (by omega) ?_
                                                            cases (Option.some.inj hf)
                                                            exact HJ445
                                                          · have hf := tq_ifp hf cc
                                                            refine tq_aload_n (M := mL_refuses) (pc := 686) dL_refuses_686 rfl ?_
                                                            refine tq_iload (M := mL_refuses) (pc := 687) dL_refuses_687 rfl ?_
                                                            obtain ⟨v73, ev73, hf⟩ := tq_be hf
                                                            refine tq_calSW (M := mL_refuses) (pc := 689) (S := []) tk_w_L_infer.1 tk_w_L_infer.2.1 tk_w_L_infer.2.2.1 tk_w_L_infer.2.2.2.1 tk_w_L_infer.2.2.2.2 tk_s_L_infer tk_RL_243 dL_refuses_689 [.ref a0, .int p7] rfl (Nat.le_of_ble_eq_true rfl) (d1 := d - 1) (b1 := 1) (s1 := 6) (bc' := 48) (bs' := 7930) (Q1 := fun r h9 => r = .inl (some (.int v73.1)) ∧ v73.2 = h9) (by omega) rfl rfl (w_L_infer (bc := 1) (bs := 6) (by omega) ev73 (fun _ _ _ => ⟨by decide, by decide⟩) (fun _ _ q => q)) (fun E h9 q => nomatch (show (Sum.inr E : tq_R) = Sum.inl _ from q.1)) (fun r9 h9 q => ?_)
                                                            obtain ⟨q1, rfl⟩ := q
                                                            cases (show (Sum.inl r9 : tq_R) = Sum.inl (some (.int v73.1)) from q1)
                                                            refine tq_ldc (M := mL_refuses) (pc := 692) dL_refuses_692 tk_RL_15 ?_
                                                            refine tq_icmp_ne (M := mL_refuses) (pc := 694) (tgt := 779) dL_refuses_694 (by decide) (fun cc => ?_) (fun cc => ?_)
                                                            · have hf := tq_ifn hf cc
                                                              refine tq_iconst (M := mL_refuses) (pc := 779) dL_refuses_779 tk_ki_0 ?_
                                                              refine tq_pick (L2 := [(0, .ref a0), (2, .int a2), (3, .int p1), (4, .int p4), (6, .int p8), (7, .int p9), (8, .int p10)]) [1, 2, 3, 4, 6, 7, 8] rfl ?_
                                                              refine tq_more (bc := 43) (bs := 7900) (by omega) (by omega) ?_
                                                              cases (Option.some.inj hf)
                                                              exact HJ445
                                                            · have hf := tq_ifp hf cc
                                                              refine tq_aload_n (M := mL_refuses) (pc := 697) dL_refuses_697 rfl ?_
                                                              refine tq_iload (M := mL_refuses) (pc := 698) dL_refuses_698 rfl ?_
                                                              obtain ⟨v74, ev74, hf⟩ := tq_be hf
                                                              refine tq_calSW (M := mL_refuses) (pc := 700) (S := []) tk_w_L_plan.1 tk_w_L_plan.2.1 tk_w_L_plan.2.2.1 tk_w_L_plan.2.2.2.1 tk_w_L_plan.2.2.2.2 tk_s_L_plan tk_RL_245 dL_refuses_700 [.ref a0, .int p7] rfl (Nat.le_of_ble_eq_true rfl) (d1 := d - 1) (b1 := 1) (s1 := 6) (bc' := 47) (bs' := 7924) (Q1 := fun r h9 => r = .inl (some (.int v74.1)) ∧ v74.2 = h9) (by omega) rfl rfl (w_L_plan (bc := 1) (bs := 6) (by omega) ev74 (fun _ _ _ => ⟨by decide, by decide⟩) (fun _ _ q => q)) (fun E h9 q => nomatch (show (Sum.inr E : tq_R) = Sum.inl _ from q.1)) (fun r9 h9 q => ?_)
                                                              obtain ⟨q1, rfl⟩ := q
                                                              cases (show (Sum.inl r9 : tq_R) = Sum.inl (some (.int v74.1)) from q1)
                                                              refine tq_ldc (M := mL_refuses) (pc := 703) dL_refuses_703 tk_RL_15 ?_
                                                              refine tq_icmp_ne (M := mL_refuses) (pc := 705) (tgt := 779) dL_refuses_705 (by decide) (fun cc => ?_) (fun cc => ?_)
                                                              · have hf := tq_ifn hf cc
                                                                refine tq_iconst (M := mL_refuses) (pc := 779) dL_refuses_779 tk_ki_0 ?_
                                                                refine tq_pick (L2 := [(0, .ref a0), (2, .int a2), (3, .int p1), (4, .int p4), (6, .int p8), (7, .int p9), (8, .int p10)]) [1, 2, 3, 4, 6, 7, 8] rfl ?_
                                                                refine tq_more (bc := 43) (bs := 7900) (by omega) (by omega) ?_
                                                                cases (Option.some.inj hf)
                                                                exact HJ445
                                                              · have hf := tq_ifp hf cc
                                                                refine tq_aload_n (M := mL_refuses) (pc := 708) dL_refuses_708 rfl ?_
                                                                refine tq_iload (M := mL_refuses) (pc := 709) dL_refuses_709 rfl ?_
                                                                obtain ⟨v75, ev75, hf⟩ := tq_be hf
                                                                refine tq_calSW (M := mL_refuses) (pc := 711) (S := []) tk_w_L_view.1 tk_w_L_view.2.1 tk_w_L_view.2.2.1 tk_w_L_view.2.2.2.1 tk_w_L_view.2.2.2.2 tk_s_L_view tk_RL_247 dL_refuses_711 [.ref a0, .int p7] rfl (Nat.le_of_ble_eq_true rfl) (d1 := d - 1) (b1 := 1) (s1 := 6) (bc' := 46) (bs' := 7918) (Q1 := fun r h9 => r = .inl (some (.int v75.1)) ∧ v75.2 = h9) (by omega) rfl rfl (w_L_view (bc := 1) (bs := 6) (by omega) ev75 (fun _ _ _ => ⟨by decide, by decide⟩) (fun _ _ q => q)) (fun E h9 q => nomatch (show (Sum.inr E : tq_R) = Sum.inl _ from q.1)) (fun r9 h9 q => ?_)
                                                                obtain ⟨q1, rfl⟩ := q
                                                                cases (show (Sum.inl r9 : tq_R) = Sum.inl (some (.int v75.1)) from q1)
                                                                refine tq_ldc (M := mL_refuses) (pc := 714) dL_refuses_714 tk_RL_15 ?_
                                                                refine tq_icmp_ne (M := mL_refuses) (pc := 716) (tgt := 779) dL_refuses_716 (by decide) (fun cc => ?_) (fun cc => ?_)
                                                                · have hf := tq_ifn hf cc
                                                                  refine tq_iconst (M := mL_refuses) (pc := 779) dL_refuses_779 tk_ki_0 ?_
                                                                  refine tq_pick (L2 := [(0, .ref a0), (2, .int a2), (3, .int p1), (4, .int p4), (6, .int p8), (7, .int p9), (8, .int p10)]) [1, 2, 3, 4, 6, 7, 8] rfl ?_
                                                                  refine tq_more (bc := 43) (bs := 7900) (by omega) (by omega) ?_
                                                                  cases (Option.some.inj hf)
                                                                  exact HJ445
                                                                · have hf := tq_ifp hf cc
                                                                  refine tq_aload_n (M := mL_refuses) (pc := 719) dL_refuses_719 rfl ?_
                                                                  refine tq_iload (M := mL_refuses) (pc := 720) dL_refuses_720 rfl ?_
                                                                  obtain ⟨v76, ev76, hf⟩ := tq_be hf
                                                                  refine tq_calSW (M := mL_refuses) (pc := 722) (S := []) tk_w_L_hide.1 tk_w_L_hide.2.1 tk_w_L_hide.2.2.1 tk_w_L_hide.2.2.2.1 tk_w_L_hide.2.2.2.2 tk_s_L_hide tk_RL_249 dL_refuses_722 [.ref a0, .int p7] rfl (Nat.le_of_ble_eq_true rfl) (d1 := d - 1) (b1 := 1) (s1 := 6) (bc' := 45) (bs' := 7912) (Q1 := fun r h9 => r = .inl (some (.int v76.1)) ∧ v76.2 = h9) (by omega) rfl rfl (w_L_hide (bc := 1) (bs := 6) (by omega) ev76 (fun _ _ _ => ⟨by decide, by decide⟩) (fun _ _ q => q)) (fun E h9 q => nomatch (show (Sum.inr E : tq_R) = Sum.inl _ from q.1)) (fun r9 h9 q => ?_)
                                                                  obtain ⟨q1, rfl⟩ := q
                                                                  cases (show (Sum.inl r9 : tq_R) = Sum.inl (some (.int v76.1)) from q1)
                                                                  refine tq_ldc (M := mL_refuses) (pc := 725) dL_refuses_725 tk_RL_15 ?_
                                                                  refine tq_icmp_ne (M := mL_refuses) (pc := 727) (tgt := 779) dL_refuses_727 (by decide) (fun cc => ?_) (fun cc => ?_)
                                                                  · have hf := tq_ifn hf cc
                                                                    refine tq_iconst (M := mL_refuses) (pc := 779) dL_refuses_779 tk_ki_0 ?_
                                                                    refine tq_pick (L2 := [(0, .ref a0), (2, .int a2), (3, .int p1), (4, .int p4), (6, .int p8), (7, .int p9), (8, .int p10)]) [1, 2, 3, 4, 6, 7, 8] rfl ?_
                                                                    refine tq_more (bc := 43) (bs := 7900) (by omega) (by omega) ?_
                                                                    cases (Option.some.inj hf)
                                                                    exact HJ445
                                                                  · have hf := tq_ifp hf cc
                                                                    refine tq_aload_n (M := mL_refuses) (pc := 730) dL_refuses_730 rfl ?_
                                                                    refine tq_iload_n (M := mL_refuses) (pc := 731) dL_refuses_731 rfl ?_
                                                                    obtain ⟨p77, ep77, hf⟩ := tq_le hf
                                                                    have HJ732 : tq_W l mL_refuses d 45 7912 Q 744 [(0, .ref a0), (2, .int a2), (3, .int p1), (4, .int p4), (6, .int p8), (7, .int p9), (8, .int p10)] [.int p77, .ref a0] v76.2 := by
                                                                      refine tq_iconst (M := mL_refuses) (pc := 744) dL_refuses_744 tk_ki_0 ?_
                                                                      obtain ⟨v78, ev78, hf⟩ := tq_be hf
                                                                      refine tq_calSW (M := mL_refuses) (pc := 745) (S := []) tk_w_L_viewed.1 tk_w_L_viewed.2.1 tk_w_L_viewed.2.2.1 tk_w_L_viewed.2.2.2.1 tk_w_L_viewed.2.2.2.2 tk_s_L_viewed tk_RL_251 dL_refuses_745 [.ref a0, .int p77, .int (0 : Int32)] rfl (Nat.le_of_ble_eq_true rfl) (d1 := d - 1) (b1 := 1) (s1 := 6) (bc' := 44) (bs' := 7906) (Q1 := fun r h9 => r = .inl (some (.int v78.1)) ∧ v78.2 = h9) (by omega) rfl rfl (w_L_viewed (bc := 1) (bs := 6) (by omega) ev78 (fun _ _ _ => ⟨by decide, by decide⟩) (fun _ _ q => q)) (fun E h9 q => nomatch (show (Sum.inr E : tq_R) = Sum.inl _ from q.1)) (fun r9 h9 q => ?_)
                                                                      obtain ⟨q1, rfl⟩ := q
                                                                      cases (show (Sum.inl r9 : tq_R) = Sum.inl (some (.int v78.1)) from q1)
                                                                      refine tq_ldc (M := mL_refuses) (pc := 748) dL_refuses_748 tk_RL_15 ?_
                                                                      refine tq_icmp_ne (M := mL_refuses) (pc := 750) (tgt := 779) dL_refuses_750 (by decide) (fun cc => ?_) (fun cc => ?_)
                                                                      · have hf := tq_ifn hf cc
                                                                        refine tq_iconst (M := mL_refuses) (pc := 779) dL_refuses_779 tk_ki_0 ?_
                                                                        refine tq_more (bc := 43) (bs := 7900) (by omega) (by omega) ?_
                                                                        cases (Option.some.inj hf)
                                                                        exact HJ445
                                                                      · have hf := tq_ifp hf cc
                                                                        refine tq_aload_n (M := mL_refuses) (pc := 753) dL_refuses_753 rfl ?_
                                                                        refine tq_iload_n (M := mL_refuses) (pc := 754) dL_refuses_754 rfl ?_
                                                                        obtain ⟨p79, ep79, hf⟩ := tq_le hf
                                                                        have HJ755 : tq_W l mL_refuses d 44 7906 Q 767 [(0, .ref a0), (2, .int a2), (3, .int p1), (4, .int p4), (6, .int p8), (7, .int p9), (8, .int p10)] [.int p79, .ref a0] v78.2 := by
                                                                          obtain ⟨v80, ev80, hf⟩ := tq_be hf
                                                                          refine tq_calSW (M := mL_refuses) (pc := 767) (S := []) tk_w_L_changed.1 tk_w_L_changed.2.1 tk_w_L_changed.2.2.1 tk_w_L_changed.2.2.2.1 tk_w_L_changed.2.2.2.2 tk_s_L_changed tk_RL_253 dL_refuses_767 [.ref a0, .int p79] rfl (Nat.le_of_ble_eq_true rfl) (d1 := d - 1) (b1 := 1) (s1 := 6) (bc' := 43) (bs' := 7900) (Q1 := fun r h9 => r = .inl (some (.int v80.1)) ∧ v80.2 = h9) (by omega) rfl rfl (w_L_changed (bc := 1) (bs := 6) (by omega) ev80 (fun _ _ _ => ⟨by decide, by decide⟩) (fun _ _ q => q)) (fun E h9 q => nomatch (show (Sum.inr E : tq_R) = Sum.inl _ from q.1)) (fun r9 h9 q => ?_)
                                                                          obtain ⟨q1, rfl⟩ := q
                                                                          cases (show (Sum.inl r9 : tq_R) = Sum.inl (some (.int v80.1)) from q1)
                                                                          refine tq_ldc (M := mL_refuses) (pc := 770) dL_refuses_770 tk_RL_15 ?_
                                                                          refine tq_icmp_ne (M := mL_refuses) (pc := 772) (tgt := 779) dL_refuses_772 (by decide) (fun cc => ?_) (fun cc => ?_)
                                                                          · have hf := tq_ifn hf cc
                                                                            refine tq_iconst (M := mL_refuses) (pc := 779) dL_refuses_779 tk_ki_0 ?_
                                                                            cases (Option.some.inj hf)
                                                                            exact HJ445
                                                                          · have hf := tq_ifp hf cc
                                                                            refine tq_iconst (M := mL_refuses) (pc := 775) dL_refuses_775 tk_ki_1 ?_
                                                                            refine tq_goto (M := mL_refuses) (pc := 776) (tgt := 780) dL_refuses_776 (by decide) ?_
                                                                            cases (Option.some.inj hf)
                                                                            exact HJ445
                                                                        refine tq_if_eq (M := mL_refuses) (pc := 755) (tgt := 764) dL_refuses_755 (by decide) (fun cc => ?_) (fun cc => ?_)
                                                                        · have hf := tq_ifp ep79.symm cc
                                                                          refine tq_iconst (M := mL_refuses) (pc := 764) dL_refuses_764 tk_ki_5 ?_
                                                                          refine tq_iload_n (M := mL_refuses) (pc := 765) dL_refuses_765 rfl ?_
                                                                          refine tq_iadd (M := mL_refuses) (pc := 766) dL_refuses_766 ?_
                                                                          cases hf
                                                                          exact HJ755
                                                                        · have hf := tq_ifn ep79.symm cc
                                                                          refine tq_iconst (M := mL_refuses) (pc := 758) dL_refuses_758 tk_ki_m1 ?_
                                                                          refine tq_iload_n (M := mL_refuses) (pc := 759) dL_refuses_759 rfl ?_
                                                                          refine tq_isub (M := mL_refuses) (pc := 760) dL_refuses_760 ?_
                                                                          refine tq_goto (M := mL_refuses) (pc := 761) (tgt := 767) dL_refuses_761 (by decide) ?_
                                                                          cases hf
                                                                          exact HJ755
                                                                    refine tq_if_eq (M := mL_refuses) (pc := 732) (tgt := 741) dL_refuses_732 (by decide) (fun cc => ?_) (fun cc => ?_)
                                                                    · have hf := tq_ifp ep77.symm cc
                                                                      refine tq_iconst (M := mL_refuses) (pc := 741) dL_refuses_741 tk_ki_5 ?_
                                                                      refine tq_iload_n (M := mL_refuses) (pc := 742) dL_refuses_742 rfl ?_
                                                                      refine tq_iadd (M := mL_refuses) (pc := 743) dL_refuses_743 ?_
                                                                      refine tq_pick (L2 := [(0, .ref a0), (2, .int a2), (3, .int p1), (4, .int p4), (6, .int p8), (7, .int p9), (8, .int p10)]) [1, 2, 3, 4, 6, 7, 8] rfl ?_
                                                                      cases hf
                                                                      exact HJ732
                                                                    · have hf := tq_ifn ep77.symm cc
                                                                      refine tq_iconst (M := mL_refuses) (pc := 735) dL_refuses_735 tk_ki_m1 ?_
                                                                      refine tq_iload_n (M := mL_refuses) (pc := 736) dL_refuses_736 rfl ?_
                                                                      refine tq_isub (M := mL_refuses) (pc := 737) dL_refuses_737 ?_
                                                                      refine tq_goto (M := mL_refuses) (pc := 738) (tgt := 744) dL_refuses_738 (by decide) ?_
                                                                      refine tq_pick (L2 := [(0, .ref a0), (2, .int a2), (3, .int p1), (4, .int p4), (6, .int p8), (7, .int p9), (8, .int p10)]) [1, 2, 3, 4, 6, 7, 8] rfl ?_
                                                                      cases hf
                                                                      exact HJ732
                refine tq_icmp_ne (M := mL_refuses) (pc := 133) (tgt := 440) dL_refuses_133 (by decide) (fun cc => ?_) (fun cc => ?_)
                · have hf := tq_ifn ep52 cc
                  refine tq_iconst (M := mL_refuses) (pc := 440) dL_refuses_440 tk_ki_0 ?_
                  refine tq_pick (L2 := [(0, .ref a0), (2, .int a2), (3, .int p1), (4, .int p4), (5, .int p7), (6, .int p8), (7, .int p9), (8, .int p10)]) [1, 2, 3, 4, 5, 6, 7, 8] rfl ?_
                  refine tq_more (bc := 69) (bs := 8056) (by omega) (by omega) ?_
                  cases (Option.some.inj hf)
                  exact HJ133
                · have hf := tq_ifp ep52 cc
                  refine tq_aload_n (M := mL_refuses) (pc := 136) dL_refuses_136 rfl ?_
                  refine tq_iconst (M := mL_refuses) (pc := 137) dL_refuses_137 tk_ki_0 ?_
                  refine tq_iload_n (M := mL_refuses) (pc := 138) dL_refuses_138 rfl ?_
                  obtain ⟨p14, ep14, hf⟩ := tq_le hf
                  have HJ139 : tq_W l mL_refuses d 89 8176 Q 152 [(0, .ref a0), (2, .int a2), (3, .int p1), (4, .int p4), (5, .int p7), (6, .int p8), (7, .int p9), (8, .int p10), (9, .int p12)] [.int p14, .int (0 : Int32), .ref a0] v13.2 := by
                    refine tq_iconst (M := mL_refuses) (pc := 152) dL_refuses_152 tk_ki_0 ?_
                    obtain ⟨v15, ev15, hf⟩ := tq_be hf
                    refine tq_calSW (M := mL_refuses) (pc := 153) (S := []) tk_w_L_element.1 tk_w_L_element.2.1 tk_w_L_element.2.2.1 tk_w_L_element.2.2.2.1 tk_w_L_element.2.2.2.2 tk_s_L_element tk_RL_178 dL_refuses_153 [.ref a0, .int (0 : Int32), .int p14, .int (0 : Int32)] rfl (Nat.le_of_ble_eq_true rfl) (d1 := d - 1) (b1 := 1) (s1 := 6) (bc' := 88) (bs' := 8170) (Q1 := fun r h9 => r = .inl (some (.int v15.1)) ∧ v15.2 = h9) (by omega) rfl rfl (w_L_element (bc := 1) (bs := 6) (by omega) ev15 (fun _ _ _ => ⟨by decide, by decide⟩) (fun _ _ q => q)) (fun E h9 q => nomatch (show (Sum.inr E : tq_R) = Sum.inl _ from q.1)) (fun r9 h9 q => ?_)
                    obtain ⟨q1, rfl⟩ := q
                    cases (show (Sum.inl r9 : tq_R) = Sum.inl (some (.int v15.1)) from q1)
                    refine tq_ldc (M := mL_refuses) (pc := 156) dL_refuses_156 tk_RL_15 ?_
                    refine tq_icmp_ne (M := mL_refuses) (pc := 158) (tgt := 440) dL_refuses_158 (by decide) (fun cc => ?_) (fun cc => ?_)
                    · have hf := tq_ifn hf cc
                      refine tq_iconst (M := mL_refuses) (pc := 440) dL_refuses_440 tk_ki_0 ?_
                      refine tq_pick (L2 := [(0, .ref a0), (2, .int a2), (3, .int p1), (4, .int p4), (5, .int p7), (6, .int p8), (7, .int p9), (8, .int p10)]) [0, 1, 2, 3, 4, 5, 6, 7] rfl ?_
                      refine tq_more (bc := 69) (bs := 8056) (by omega) (by omega) ?_
                      cases (Option.some.inj hf)
                      exact HJ133
                    · have hf := tq_ifp hf cc
                      refine tq_aload_n (M := mL_refuses) (pc := 161) dL_refuses_161 rfl ?_
                      refine tq_iconst (M := mL_refuses) (pc := 162) dL_refuses_162 tk_ki_0 ?_
                      refine tq_iconst (M := mL_refuses) (pc := 163) dL_refuses_163 tk_ki_0 ?_
                      refine tq_iload (M := mL_refuses) (pc := 164) dL_refuses_164 rfl ?_
                      obtain ⟨v16, ev16, hf⟩ := tq_be hf
                      refine tq_calSW (M := mL_refuses) (pc := 166) (S := []) tk_w_L_element.1 tk_w_L_element.2.1 tk_w_L_element.2.2.1 tk_w_L_element.2.2.2.1 tk_w_L_element.2.2.2.2 tk_s_L_element tk_RL_178 dL_refuses_166 [.ref a0, .int (0 : Int32), .int (0 : Int32), .int p8] rfl (Nat.le_of_ble_eq_true rfl) (d1 := d - 1) (b1 := 1) (s1 := 6) (bc' := 87) (bs' := 8164) (Q1 := fun r h9 => r = .inl (some (.int v16.1)) ∧ v16.2 = h9) (by omega) rfl rfl (w_L_element (bc := 1) (bs := 6) (by omega) ev16 (fun _ _ _ => ⟨by decide, by decide⟩) (fun _ _ q => q)) (fun E h9 q => nomatch (show (Sum.inr E : tq_R) = Sum.inl _ from q.1)) (fun r9 h9 q => ?_)
                      obtain ⟨q1, rfl⟩ := q
                      cases (show (Sum.inl r9 : tq_R) = Sum.inl (some (.int v16.1)) from q1)
                      refine tq_ldc (M := mL_refuses) (pc := 169) dL_refuses_169 tk_RL_18 ?_
                      refine tq_icmp_ne (M := mL_refuses) (pc := 171) (tgt := 440) dL_refuses_171 (by decide) (fun cc => ?_) (fun cc => ?_)
                      · have hf := tq_ifn hf cc
                        refine tq_iconst (M := mL_refuses) (pc := 440) dL_refuses_440 tk_ki_0 ?_
                        refine tq_pick (L2 := [(0, .ref a0), (2, .int a2), (3, .int p1), (4, .int p4), (5, .int p7), (6, .int p8), (7, .int p9), (8, .int p10)]) [0, 1, 2, 3, 4, 5, 6, 7] rfl ?_
                        refine tq_more (bc := 69) (bs := 8056) (by omega) (by omega) ?_
                        cases (Option.some.inj hf)
                        exact HJ133
                      · have hf := tq_ifp hf cc
                        refine tq_aload_n (M := mL_refuses) (pc := 174) dL_refuses_174 rfl ?_
                        refine tq_iconst (M := mL_refuses) (pc := 175) dL_refuses_175 tk_ki_0 ?_
                        refine tq_iconst (M := mL_refuses) (pc := 176) dL_refuses_176 tk_ki_0 ?_
                        refine tq_iload_n (M := mL_refuses) (pc := 177) dL_refuses_177 rfl ?_
                        obtain ⟨p17, ep17, hf⟩ := tq_le hf
                        have HJ178 : tq_W l mL_refuses d 87 8164 Q 192 [(0, .ref a0), (2, .int a2), (3, .int p1), (4, .int p4), (5, .int p7), (6, .int p8), (7, .int p9), (8, .int p10), (9, .int p12)] [.int p17, .int (0 : Int32), .int (0 : Int32), .ref a0] v16.2 := by
                          obtain ⟨v18, ev18, hf⟩ := tq_be hf
                          refine tq_calSW (M := mL_refuses) (pc := 192) (S := []) tk_w_L_text.1 tk_w_L_text.2.1 tk_w_L_text.2.2.1 tk_w_L_text.2.2.2.1 tk_w_L_text.2.2.2.2 tk_s_L_text tk_RL_184 dL_refuses_192 [.ref a0, .int (0 : Int32), .int (0 : Int32), .int p17] rfl (Nat.le_of_ble_eq_true rfl) (d1 := d - 1) (b1 := 1) (s1 := 6) (bc' := 86) (bs' := 8158) (Q1 := fun r h9 => r = .inl (some (.int v18.1)) ∧ v18.2 = h9) (by omega) rfl rfl (w_L_text (bc := 1) (bs := 6) (by omega) ev18 (fun _ _ _ => ⟨by decide, by decide⟩) (fun _ _ q => q)) (fun E h9 q => nomatch (show (Sum.inr E : tq_R) = Sum.inl _ from q.1)) (fun r9 h9 q => ?_)
                          obtain ⟨q1, rfl⟩ := q
                          cases (show (Sum.inl r9 : tq_R) = Sum.inl (some (.int v18.1)) from q1)
                          refine tq_ldc (M := mL_refuses) (pc := 195) dL_refuses_195 tk_RL_18 ?_
                          refine tq_icmp_ne (M := mL_refuses) (pc := 197) (tgt := 440) dL_refuses_197 (by decide) (fun cc => ?_) (fun cc => ?_)
                          · have hf := tq_ifn hf cc
                            refine tq_iconst (M := mL_refuses) (pc := 440) dL_refuses_440 tk_ki_0 ?_
                            refine tq_pick (L2 := [(0, .ref a0), (2, .int a2), (3, .int p1), (4, .int p4), (5, .int p7), (6, .int p8), (7, .int p9), (8, .int p10)]) [0, 1, 2, 3, 4, 5, 6, 7] rfl ?_
                            refine tq_more (bc := 69) (bs := 8056) (by omega) (by omega) ?_
                            cases (Option.some.inj hf)
                            exact HJ133
                          · have hf := tq_ifp hf cc
                            refine tq_aload_n (M := mL_refuses) (pc := 200) dL_refuses_200 rfl ?_
                            refine tq_iconst (M := mL_refuses) (pc := 201) dL_refuses_201 tk_ki_0 ?_
                            refine tq_iload (M := mL_refuses) (pc := 202) dL_refuses_202 rfl ?_
                            refine tq_iconst (M := mL_refuses) (pc := 204) dL_refuses_204 tk_ki_0 ?_
                            obtain ⟨v19, ev19, hf⟩ := tq_be hf
                            refine tq_calSW (M := mL_refuses) (pc := 205) (S := []) tk_w_L_attribute.1 tk_w_L_attribute.2.1 tk_w_L_attribute.2.2.1 tk_w_L_attribute.2.2.2.1 tk_w_L_attribute.2.2.2.2 tk_s_L_attribute tk_RL_187 dL_refuses_205 [.ref a0, .int (0 : Int32), .int p8, .int (0 : Int32)] rfl (Nat.le_of_ble_eq_true rfl) (d1 := d - 1) (b1 := 1) (s1 := 6) (bc' := 85) (bs' := 8152) (Q1 := fun r h9 => r = .inl (some (.int v19.1)) ∧ v19.2 = h9) (by omega) rfl rfl (w_L_attribute (bc := 1) (bs := 6) (by omega) ev19 (fun _ _ _ => ⟨by decide, by decide⟩) (fun _ _ q => q)) (fun E h9 q => nomatch (show (Sum.inr E : tq_R) = Sum.inl _ from q.1)) (fun r9 h9 q => ?_)
                            obtain ⟨q1, rfl⟩ := q
                            cases (show (Sum.inl r9 : tq_R) = Sum.inl (some (.int v19.1)) from q1)
                            refine tq_ldc (M := mL_refuses) (pc := 208) dL_refuses_208 tk_RL_18 ?_
                            refine tq_icmp_ne (M := mL_refuses) (pc := 210) (tgt := 440) dL_refuses_210 (by decide) (fun cc => ?_) (fun cc => ?_)
                            · have hf := tq_ifn hf cc
                              refine tq_iconst (M := mL_refuses) (pc := 440) dL_refuses_440 tk_ki_0 ?_
                              refine tq_pick (L2 := [(0, .ref a0), (2, .int a2), (3, .int p1), (4, .int p4), (5, .int p7), (6, .int p8), (7, .int p9), (8, .int p10)]) [0, 1, 2, 3, 4, 5, 6, 7] rfl ?_
                              refine tq_more (bc := 69) (bs := 8056) (by omega) (by omega) ?_
                              cases (Option.some.inj hf)
                              exact HJ133
                            · have hf := tq_ifp hf cc
                              refine tq_aload_n (M := mL_refuses) (pc := 213) dL_refuses_213 rfl ?_
                              refine tq_iload (M := mL_refuses) (pc := 214) dL_refuses_214 rfl ?_
                              refine tq_iconst (M := mL_refuses) (pc := 216) dL_refuses_216 tk_ki_0 ?_
                              refine tq_iconst (M := mL_refuses) (pc := 217) dL_refuses_217 tk_ki_0 ?_
                              obtain ⟨v20, ev20, hf⟩ := tq_be hf
                              refine tq_calSW (M := mL_refuses) (pc := 218) (S := []) tk_w_L_attribute.1 tk_w_L_attribute.2.1 tk_w_L_attribute.2.2.1 tk_w_L_attribute.2.2.2.1 tk_w_L_attribute.2.2.2.2 tk_s_L_attribute tk_RL_187 dL_refuses_218 [.ref a0, .int p4, .int (0 : Int32), .int (0 : Int32)] rfl (Nat.le_of_ble_eq_true rfl) (d1 := d - 1) (b1 := 1) (s1 := 6) (bc' := 84) (bs' := 8146) (Q1 := fun r h9 => r = .inl (some (.int v20.1)) ∧ v20.2 = h9) (by omega) rfl rfl (w_L_attribute (bc := 1) (bs := 6) (by omega) ev20 (fun _ _ _ => ⟨by decide, by decide⟩) (fun _ _ q => q)) (fun E h9 q => nomatch (show (Sum.inr E : tq_R) = Sum.inl _ from q.1)) (fun r9 h9 q => ?_)
                              obtain ⟨q1, rfl⟩ := q
                              cases (show (Sum.inl r9 : tq_R) = Sum.inl (some (.int v20.1)) from q1)
                              refine tq_ldc (M := mL_refuses) (pc := 221) dL_refuses_221 tk_RL_15 ?_
                              refine tq_icmp_ne (M := mL_refuses) (pc := 223) (tgt := 440) dL_refuses_223 (by decide) (fun cc => ?_) (fun cc => ?_)
                              · have hf := tq_ifn hf cc
                                refine tq_iconst (M := mL_refuses) (pc := 440) dL_refuses_440 tk_ki_0 ?_
                                refine tq_pick (L2 := [(0, .ref a0), (2, .int a2), (3, .int p1), (4, .int p4), (5, .int p7), (6, .int p8), (7, .int p9), (8, .int p10)]) [0, 1, 2, 3, 4, 5, 6, 7] rfl ?_
                                refine tq_more (bc := 69) (bs := 8056) (by omega) (by omega) ?_
                                cases (Option.some.inj hf)
                                exact HJ133
                              · have hf := tq_ifp hf cc
                                refine tq_iload (M := mL_refuses) (pc := 226) dL_refuses_226 rfl ?_
                                refine tq_if_eq (M := mL_refuses) (pc := 228) (tgt := 265) dL_refuses_228 (by decide) (fun cc => ?_) (fun cc => ?_)
                                · have hf := tq_ifp hf cc
                                  refine tq_aload_n (M := mL_refuses) (pc := 265) dL_refuses_265 rfl ?_
                                  refine tq_iload (M := mL_refuses) (pc := 266) dL_refuses_266 rfl ?_
                                  obtain ⟨v21, ev21, hf⟩ := tq_be hf
                                  refine tq_calSW (M := mL_refuses) (pc := 268) (S := []) tk_w_L_remove.1 tk_w_L_remove.2.1 tk_w_L_remove.2.2.1 tk_w_L_remove.2.2.2.1 tk_w_L_remove.2.2.2.2 tk_s_L_remove tk_RL_194 dL_refuses_268 [.ref a0, .int p4] rfl (Nat.le_of_ble_eq_true rfl) (d1 := d - 1) (b1 := 1) (s1 := 6) (bc' := 83) (bs' := 8140) (Q1 := fun r h9 => r = .inl (some (.int v21.1)) ∧ v21.2 = h9) (by omega) rfl rfl (w_L_remove (bc := 1) (bs := 6) (by omega) ev21 (fun _ _ _ => ⟨by decide, by decide⟩) (fun _ _ q => q)) (fun E h9 q => nomatch (show (Sum.inr E : tq_R) = Sum.inl _ from q.1)) (fun r9 h9 q => ?_)
                                  obtain ⟨q1, rfl⟩ := q
                                  cases (show (Sum.inl r9 : tq_R) = Sum.inl (some (.int v21.1)) from q1)
                                  refine tq_ldc (M := mL_refuses) (pc := 271) dL_refuses_271 tk_RL_15 ?_
                                  refine tq_icmp_ne (M := mL_refuses) (pc := 273) (tgt := 440) dL_refuses_273 (by decide) (fun cc => ?_) (fun cc => ?_)
                                  · have hf := tq_ifn hf cc
                                    refine tq_iconst (M := mL_refuses) (pc := 440) dL_refuses_440 tk_ki_0 ?_
                                    refine tq_pick (L2 := [(0, .ref a0), (2, .int a2), (3, .int p1), (4, .int p4), (5, .int p7), (6, .int p8), (7, .int p9), (8, .int p10)]) [0, 1, 2, 3, 4, 5, 6, 7] rfl ?_
                                    refine tq_more (bc := 69) (bs := 8056) (by omega) (by omega) ?_
                                    cases (Option.some.inj hf)
                                    exact HJ133
                                  · have hf := tq_ifp hf cc
                                    refine tq_aload_n (M := mL_refuses) (pc := 276) dL_refuses_276 rfl ?_
                                    refine tq_iconst (M := mL_refuses) (pc := 277) dL_refuses_277 tk_ki_0 ?_
                                    obtain ⟨v22, ev22, hf⟩ := tq_be hf
                                    refine tq_calSW (M := mL_refuses) (pc := 278) (S := []) tk_w_L_remove.1 tk_w_L_remove.2.1 tk_w_L_remove.2.2.1 tk_w_L_remove.2.2.2.1 tk_w_L_remove.2.2.2.2 tk_s_L_remove tk_RL_194 dL_refuses_278 [.ref a0, .int (0 : Int32)] rfl (Nat.le_of_ble_eq_true rfl) (d1 := d - 1) (b1 := 1) (s1 := 6) (bc' := 82) (bs' := 8134) (Q1 := fun r h9 => r = .inl (some (.int v22.1)) ∧ v22.2 = h9) (by omega) rfl rfl (w_L_remove (bc := 1) (bs := 6) (by omega) ev22 (fun _ _ _ => ⟨by decide, by decide⟩) (fun _ _ q => q)) (fun E h9 q => nomatch (show (Sum.inr E : tq_R) = Sum.inl _ from q.1)) (fun r9 h9 q => ?_)
                                    obtain ⟨q1, rfl⟩ := q
                                    cases (show (Sum.inl r9 : tq_R) = Sum.inl (some (.int v22.1)) from q1)
                                    refine tq_ldc (M := mL_refuses) (pc := 281) dL_refuses_281 tk_RL_21 ?_
                                    refine tq_icmp_ne (M := mL_refuses) (pc := 283) (tgt := 440) dL_refuses_283 (by decide) (fun cc => ?_) (fun cc => ?_)
                                    · have hf := tq_ifn hf cc
                                      refine tq_iconst (M := mL_refuses) (pc := 440) dL_refuses_440 tk_ki_0 ?_
                                      refine tq_pick (L2 := [(0, .ref a0), (2, .int a2), (3, .int p1), (4, .int p4), (5, .int p7), (6, .int p8), (7, .int p9), (8, .int p10)]) [0, 1, 2, 3, 4, 5, 6, 7] rfl ?_
                                      refine tq_more (bc := 69) (bs := 8056) (by omega) (by omega) ?_
                                      cases (Option.some.inj hf)
                                      exact HJ133
                                    · have hf := tq_ifp hf cc
                                      refine tq_aload_n (M := mL_refuses) (pc := 286) dL_refuses_286 rfl ?_
                                      refine tq_iload (M := mL_refuses) (pc := 287) dL_refuses_287 rfl ?_
                                      refine tq_iconst (M := mL_refuses) (pc := 289) dL_refuses_289 tk_ki_0 ?_
                                      obtain ⟨v23, ev23, hf⟩ := tq_be hf
                                      refine tq_calSW (M := mL_refuses) (pc := 290) (S := []) tk_w_L_rename.1 tk_w_L_rename.2.1 tk_w_L_rename.2.2.1 tk_w_L_rename.2.2.2.1 tk_w_L_rename.2.2.2.2 tk_s_L_rename tk_RL_189 dL_refuses_290 [.ref a0, .int p4, .int (0 : Int32)] rfl (Nat.le_of_ble_eq_true rfl) (d1 := d - 1) (b1 := 1) (s1 := 6) (bc' := 81) (bs' := 8128) (Q1 := fun r h9 => r = .inl (some (.int v23.1)) ∧ v23.2 = h9) (by omega) rfl rfl (w_L_rename (bc := 1) (bs := 6) (by omega) ev23 (fun _ _ _ => ⟨by decide, by decide⟩) (fun _ _ q => q)) (fun E h9 q => nomatch (show (Sum.inr E : tq_R) = Sum.inl _ from q.1)) (fun r9 h9 q => ?_)
                                      obtain ⟨q1, rfl⟩ := q
                                      cases (show (Sum.inl r9 : tq_R) = Sum.inl (some (.int v23.1)) from q1)
                                      refine tq_ldc (M := mL_refuses) (pc := 293) dL_refuses_293 tk_RL_15 ?_
                                      refine tq_icmp_ne (M := mL_refuses) (pc := 295) (tgt := 440) dL_refuses_295 (by decide) (fun cc => ?_) (fun cc => ?_)
                                      · have hf := tq_ifn hf cc
                                        refine tq_iconst (M := mL_refuses) (pc := 440) dL_refuses_440 tk_ki_0 ?_
                                        refine tq_pick (L2 := [(0, .ref a0), (2, .int a2), (3, .int p1), (4, .int p4), (5, .int p7), (6, .int p8), (7, .int p9), (8, .int p10)]) [0, 1, 2, 3, 4, 5, 6, 7] rfl ?_
                                        refine tq_more (bc := 69) (bs := 8056) (by omega) (by omega) ?_
                                        cases (Option.some.inj hf)
                                        exact HJ133
                                      · have hf := tq_ifp hf cc
                                        refine tq_aload_n (M := mL_refuses) (pc := 298) dL_refuses_298 rfl ?_
                                        refine tq_iconst (M := mL_refuses) (pc := 299) dL_refuses_299 tk_ki_0 ?_
                                        refine tq_iload (M := mL_refuses) (pc := 300) dL_refuses_300 rfl ?_
                                        obtain ⟨v24, ev24, hf⟩ := tq_be hf
                                        refine tq_calSW (M := mL_refuses) (pc := 302) (S := []) tk_w_L_rename.1 tk_w_L_rename.2.1 tk_w_L_rename.2.2.1 tk_w_L_rename.2.2.2.1 tk_w_L_rename.2.2.2.2 tk_s_L_rename tk_RL_189 dL_refuses_302 [.ref a0, .int (0 : Int32), .int p8] rfl (Nat.le_of_ble_eq_true rfl) (d1 := d - 1) (b1 := 1) (s1 := 6) (bc' := 80) (bs' := 8122) (Q1 := fun r h9 => r = .inl (some (.int v24.1)) ∧ v24.2 = h9) (by omega) rfl rfl (w_L_rename (bc := 1) (bs := 6) (by omega) ev24 (fun _ _ _ => ⟨by decide, by decide⟩) (fun _ _ q => q)) (fun E h9 q => nomatch (show (Sum.inr E : tq_R) = Sum.inl _ from q.1)) (fun r9 h9 q => ?_)
                                        obtain ⟨q1, rfl⟩ := q
                                        cases (show (Sum.inl r9 : tq_R) = Sum.inl (some (.int v24.1)) from q1)
                                        refine tq_ldc (M := mL_refuses) (pc := 305) dL_refuses_305 tk_RL_18 ?_
                                        refine tq_icmp_ne (M := mL_refuses) (pc := 307) (tgt := 440) dL_refuses_307 (by decide) (fun cc => ?_) (fun cc => ?_)
                                        · have hf := tq_ifn hf cc
                                          refine tq_iconst (M := mL_refuses) (pc := 440) dL_refuses_440 tk_ki_0 ?_
                                          refine tq_pick (L2 := [(0, .ref a0), (2, .int a2), (3, .int p1), (4, .int p4), (5, .int p7), (6, .int p8), (7, .int p9), (8, .int p10)]) [0, 1, 2, 3, 4, 5, 6, 7] rfl ?_
                                          refine tq_more (bc := 69) (bs := 8056) (by omega) (by omega) ?_
                                          cases (Option.some.inj hf)
                                          exact HJ133
                                        · have hf := tq_ifp hf cc
                                          refine tq_aload_n (M := mL_refuses) (pc := 310) dL_refuses_310 rfl ?_
                                          refine tq_iload (M := mL_refuses) (pc := 311) dL_refuses_311 rfl ?_
                                          refine tq_iconst (M := mL_refuses) (pc := 313) dL_refuses_313 tk_ki_0 ?_
                                          obtain ⟨v25, ev25, hf⟩ := tq_be hf
                                          refine tq_calSW (M := mL_refuses) (pc := 314) (S := []) tk_w_L_revalue.1 tk_w_L_revalue.2.1 tk_w_L_revalue.2.2.1 tk_w_L_revalue.2.2.2.1 tk_w_L_revalue.2.2.2.2 tk_s_L_revalue tk_RL_197 dL_refuses_314 [.ref a0, .int p4, .int (0 : Int32)] rfl (Nat.le_of_ble_eq_true rfl) (d1 := d - 1) (b1 := 1) (s1 := 6) (bc' := 79) (bs' := 8116) (Q1 := fun r h9 => r = .inl (some (.int v25.1)) ∧ v25.2 = h9) (by omega) rfl rfl (w_L_revalue (bc := 1) (bs := 6) (by omega) ev25 (fun _ _ _ => ⟨by decide, by decide⟩) (fun _ _ q => q)) (fun E h9 q => nomatch (show (Sum.inr E : tq_R) = Sum.inl _ from q.1)) (fun r9 h9 q => ?_)
                                          obtain ⟨q1, rfl⟩ := q
                                          cases (show (Sum.inl r9 : tq_R) = Sum.inl (some (.int v25.1)) from q1)
                                          refine tq_ldc (M := mL_refuses) (pc := 317) dL_refuses_317 tk_RL_15 ?_
                                          refine tq_icmp_ne (M := mL_refuses) (pc := 319) (tgt := 440) dL_refuses_319 (by decide) (fun cc => ?_) (fun cc => ?_)
                                          · have hf := tq_ifn hf cc
                                            refine tq_iconst (M := mL_refuses) (pc := 440) dL_refuses_440 tk_ki_0 ?_
                                            refine tq_pick (L2 := [(0, .ref a0), (2, .int a2), (3, .int p1), (4, .int p4), (5, .int p7), (6, .int p8), (7, .int p9), (8, .int p10)]) [0, 1, 2, 3, 4, 5, 6, 7] rfl ?_
                                            refine tq_more (bc := 69) (bs := 8056) (by omega) (by omega) ?_
                                            cases (Option.some.inj hf)
                                            exact HJ133
                                          · have hf := tq_ifp hf cc
                                            refine tq_aload_n (M := mL_refuses) (pc := 322) dL_refuses_322 rfl ?_
                                            refine tq_iconst (M := mL_refuses) (pc := 323) dL_refuses_323 tk_ki_0 ?_
                                            refine tq_iload_n (M := mL_refuses) (pc := 324) dL_refuses_324 rfl ?_
                                            obtain ⟨p26, ep26, hf⟩ := tq_le hf
                                            have HJ325 : tq_W l mL_refuses d 79 8116 Q 339 [(0, .ref a0), (2, .int a2), (3, .int p1), (4, .int p4), (5, .int p7), (6, .int p8), (7, .int p9), (8, .int p10)] [.int p26, .int (0 : Int32), .ref a0] v25.2 := by
                                              obtain ⟨v27, ev27, hf⟩ := tq_be hf
                                              refine tq_calSW (M := mL_refuses) (pc := 339) (S := []) tk_w_L_revalue.1 tk_w_L_revalue.2.1 tk_w_L_revalue.2.2.1 tk_w_L_revalue.2.2.2.1 tk_w_L_revalue.2.2.2.2 tk_s_L_revalue tk_RL_197 dL_refuses_339 [.ref a0, .int (0 : Int32), .int p26] rfl (Nat.le_of_ble_eq_true rfl) (d1 := d - 1) (b1 := 1) (s1 := 6) (bc' := 78) (bs' := 8110) (Q1 := fun r h9 => r = .inl (some (.int v27.1)) ∧ v27.2 = h9) (by omega) rfl rfl (w_L_revalue (bc := 1) (bs := 6) (by omega) ev27 (fun _ _ _ => ⟨by decide, by decide⟩) (fun _ _ q => q)) (fun E h9 q => nomatch (show (Sum.inr E : tq_R) = Sum.inl _ from q.1)) (fun r9 h9 q => ?_)
                                              obtain ⟨q1, rfl⟩ := q
                                              cases (show (Sum.inl r9 : tq_R) = Sum.inl (some (.int v27.1)) from q1)
                                              refine tq_ldc (M := mL_refuses) (pc := 342) dL_refuses_342 tk_RL_18 ?_
                                              refine tq_icmp_ne (M := mL_refuses) (pc := 344) (tgt := 440) dL_refuses_344 (by decide) (fun cc => ?_) (fun cc => ?_)
                                              · have hf := tq_ifn hf cc
                                                refine tq_iconst (M := mL_refuses) (pc := 440) dL_refuses_440 tk_ki_0 ?_
                                                refine tq_more (bc := 69) (bs := 8056) (by omega) (by omega) ?_
                                                cases (Option.some.inj hf)
                                                exact HJ133
                                              · have hf := tq_ifp hf cc
                                                refine tq_aload_n (M := mL_refuses) (pc := 347) dL_refuses_347 rfl ?_
                                                refine tq_iconst (M := mL_refuses) (pc := 348) dL_refuses_348 tk_ki_0 ?_
                                                refine tq_iload_n (M := mL_refuses) (pc := 349) dL_refuses_349 rfl ?_
                                                refine tq_sipush (M := mL_refuses) (pc := 350) dL_refuses_350 tk_ks_1000 ?_
                                                refine tq_irem (M := mL_refuses) (pc := 353) dL_refuses_353 (by decide +kernel) ?_
                                                obtain ⟨v28, ev28, hf⟩ := tq_be hf
                                                refine tq_calSW (M := mL_refuses) (pc := 354) (S := []) tk_w_L_revalue.1 tk_w_L_revalue.2.1 tk_w_L_revalue.2.2.1 tk_w_L_revalue.2.2.2.1 tk_w_L_revalue.2.2.2.2 tk_s_L_revalue tk_RL_197 dL_refuses_354 [.ref a0, .int (0 : Int32), .int ((a2 - a2 / (1000 : Int32) * (1000 : Int32)))] rfl (Nat.le_of_ble_eq_true rfl) (d1 := d - 1) (b1 := 1) (s1 := 6) (bc' := 77) (bs' := 8104) (Q1 := fun r h9 => r = .inl (some (.int v28.1)) ∧ v28.2 = h9) (by omega) rfl rfl (w_L_revalue (bc := 1) (bs := 6) (by omega) ev28 (fun _ _ _ => ⟨by decide, by decide⟩) (fun _ _ q => q)) (fun E h9 q => nomatch (show (Sum.inr E : tq_R) = Sum.inl _ from q.1)) (fun r9 h9 q => ?_)
                                                obtain ⟨q1, rfl⟩ := q
                                                cases (show (Sum.inl r9 : tq_R) = Sum.inl (some (.int v28.1)) from q1)
                                                refine tq_ldc (M := mL_refuses) (pc := 357) dL_refuses_357 tk_RL_21 ?_
                                                refine tq_icmp_ne (M := mL_refuses) (pc := 359) (tgt := 440) dL_refuses_359 (by decide) (fun cc => ?_) (fun cc => ?_)
                                                · have hf := tq_ifn hf cc
                                                  refine tq_iconst (M := mL_refuses) (pc := 440) dL_refuses_440 tk_ki_0 ?_
                                                  refine tq_more (bc := 69) (bs := 8056) (by omega) (by omega) ?_
                                                  cases (Option.some.inj hf)
                                                  exact HJ133
                                                · have hf := tq_ifp hf cc
                                                  refine tq_aload_n (M := mL_refuses) (pc := 362) dL_refuses_362 rfl ?_
                                                  refine tq_iload (M := mL_refuses) (pc := 363) dL_refuses_363 rfl ?_
                                                  refine tq_iconst (M := mL_refuses) (pc := 365) dL_refuses_365 tk_ki_0 ?_
                                                  refine tq_iconst (M := mL_refuses) (pc := 366) dL_refuses_366 tk_ki_0 ?_
                                                  obtain ⟨v29, ev29, hf⟩ := tq_be hf
                                                  refine tq_calSW (M := mL_refuses) (pc := 367) (S := []) tk_w_L_move.1 tk_w_L_move.2.1 tk_w_L_move.2.2.1 tk_w_L_move.2.2.2.1 tk_w_L_move.2.2.2.2 tk_s_L_move tk_RL_200 dL_refuses_367 [.ref a0, .int p4, .int (0 : Int32), .int (0 : Int32)] rfl (Nat.le_of_ble_eq_true rfl) (d1 := d - 1) (b1 := 1) (s1 := 6) (bc' := 76) (bs' := 8098) (Q1 := fun r h9 => r = .inl (some (.int v29.1)) ∧ v29.2 = h9) (by omega) rfl rfl (w_L_move (bc := 1) (bs := 6) (by omega) ev29 (fun _ _ _ => ⟨by decide, by decide⟩) (fun _ _ q => q)) (fun E h9 q => nomatch (show (Sum.inr E : tq_R) = Sum.inl _ from q.1)) (fun r9 h9 q => ?_)
                                                  obtain ⟨q1, rfl⟩ := q
                                                  cases (show (Sum.inl r9 : tq_R) = Sum.inl (some (.int v29.1)) from q1)
                                                  refine tq_ldc (M := mL_refuses) (pc := 370) dL_refuses_370 tk_RL_15 ?_
                                                  refine tq_icmp_ne (M := mL_refuses) (pc := 372) (tgt := 440) dL_refuses_372 (by decide) (fun cc => ?_) (fun cc => ?_)
                                                  · have hf := tq_ifn hf cc
                                                    refine tq_iconst (M := mL_refuses) (pc := 440) dL_refuses_440 tk_ki_0 ?_
                                                    refine tq_more (bc := 69) (bs := 8056) (by omega) (by omega) ?_
                                                    cases (Option.some.inj hf)
                                                    exact HJ133
                                                  · have hf := tq_ifp hf cc
                                                    refine tq_aload_n (M := mL_refuses) (pc := 375) dL_refuses_375 rfl ?_
                                                    refine tq_iconst (M := mL_refuses) (pc := 376) dL_refuses_376 tk_ki_0 ?_
                                                    refine tq_iload (M := mL_refuses) (pc := 377) dL_refuses_377 rfl ?_
                                                    refine tq_iconst (M := mL_refuses) (pc := 379) dL_refuses_379 tk_ki_0 ?_
                                                    obtain ⟨v30, ev30, hf⟩ := tq_be hf
                                                    refine tq_calSW (M := mL_refuses) (pc := 380) (S := []) tk_w_L_move.1 tk_w_L_move.2.1 tk_w_L_move.2.2.1 tk_w_L_move.2.2.2.1 tk_w_L_move.2.2.2.2 tk_s_L_move tk_RL_200 dL_refuses_380 [.ref a0, .int (0 : Int32), .int p4, .int (0 : Int32)] rfl (Nat.le_of_ble_eq_true rfl) (d1 := d - 1) (b1 := 1) (s1 := 6) (bc' := 75) (bs' := 8092) (Q1 := fun r h9 => r = .inl (some (.int v30.1)) ∧ v30.2 = h9) (by omega) rfl rfl (w_L_move (bc := 1) (bs := 6) (by omega) ev30 (fun _ _ _ => ⟨by decide, by decide⟩) (fun _ _ q => q)) (fun E h9 q => nomatch (show (Sum.inr E : tq_R) = Sum.inl _ from q.1)) (fun r9 h9 q => ?_)
                                                    obtain ⟨q1, rfl⟩ := q
                                                    cases (show (Sum.inl r9 : tq_R) = Sum.inl (some (.int v30.1)) from q1)
                                                    refine tq_ldc (M := mL_refuses) (pc := 383) dL_refuses_383 tk_RL_15 ?_
                                                    refine tq_icmp_ne (M := mL_refuses) (pc := 385) (tgt := 440) dL_refuses_385 (by decide) (fun cc => ?_) (fun cc => ?_)
                                                    · have hf := tq_ifn hf cc
                                                      refine tq_iconst (M := mL_refuses) (pc := 440) dL_refuses_440 tk_ki_0 ?_
                                                      refine tq_more (bc := 69) (bs := 8056) (by omega) (by omega) ?_
                                                      cases (Option.some.inj hf)
                                                      exact HJ133
                                                    · have hf := tq_ifp hf cc
                                                      refine tq_aload_n (M := mL_refuses) (pc := 388) dL_refuses_388 rfl ?_
                                                      refine tq_iconst (M := mL_refuses) (pc := 389) dL_refuses_389 tk_ki_0 ?_
                                                      refine tq_iconst (M := mL_refuses) (pc := 390) dL_refuses_390 tk_ki_0 ?_
                                                      refine tq_iconst (M := mL_refuses) (pc := 391) dL_refuses_391 tk_ki_0 ?_
                                                      obtain ⟨v31, ev31, hf⟩ := tq_be hf
                                                      refine tq_calSW (M := mL_refuses) (pc := 392) (S := []) tk_w_L_move.1 tk_w_L_move.2.1 tk_w_L_move.2.2.1 tk_w_L_move.2.2.2.1 tk_w_L_move.2.2.2.2 tk_s_L_move tk_RL_200 dL_refuses_392 [.ref a0, .int (0 : Int32), .int (0 : Int32), .int (0 : Int32)] rfl (Nat.le_of_ble_eq_true rfl) (d1 := d - 1) (b1 := 1) (s1 := 6) (bc' := 74) (bs' := 8086) (Q1 := fun r h9 => r = .inl (some (.int v31.1)) ∧ v31.2 = h9) (by omega) rfl rfl (w_L_move (bc := 1) (bs := 6) (by omega) ev31 (fun _ _ _ => ⟨by decide, by decide⟩) (fun _ _ q => q)) (fun E h9 q => nomatch (show (Sum.inr E : tq_R) = Sum.inl _ from q.1)) (fun r9 h9 q => ?_)
                                                      obtain ⟨q1, rfl⟩ := q
                                                      cases (show (Sum.inl r9 : tq_R) = Sum.inl (some (.int v31.1)) from q1)
                                                      refine tq_ldc (M := mL_refuses) (pc := 395) dL_refuses_395 tk_RL_21 ?_
                                                      refine tq_icmp_ne (M := mL_refuses) (pc := 397) (tgt := 440) dL_refuses_397 (by decide) (fun cc => ?_) (fun cc => ?_)
                                                      · have hf := tq_ifn hf cc
                                                        refine tq_iconst (M := mL_refuses) (pc := 440) dL_refuses_440 tk_ki_0 ?_
                                                        refine tq_more (bc := 69) (bs := 8056) (by omega) (by omega) ?_
                                                        cases (Option.some.inj hf)
                                                        exact HJ133
                                                      · have hf := tq_ifp hf cc
                                                        refine tq_aload_n (M := mL_refuses) (pc := 400) dL_refuses_400 rfl ?_
                                                        refine tq_iload (M := mL_refuses) (pc := 401) dL_refuses_401 rfl ?_
                                                        refine tq_iconst (M := mL_refuses) (pc := 403) dL_refuses_403 tk_ki_0 ?_
                                                        obtain ⟨v32, ev32, hf⟩ := tq_be hf
                                                        refine tq_calSW (M := mL_refuses) (pc := 404) (S := []) tk_w_L_declare.1 tk_w_L_declare.2.1 tk_w_L_declare.2.2.1 tk_w_L_declare.2.2.2.1 tk_w_L_declare.2.2.2.2 tk_s_L_declare tk_RL_192 dL_refuses_404 [.ref a0, .int p4, .int (0 : Int32)] rfl (Nat.le_of_ble_eq_true rfl) (d1 := d - 1) (b1 := 1) (s1 := 6) (bc' := 73) (bs' := 8080) (Q1 := fun r h9 => r = .inl (some (.int v32.1)) ∧ v32.2 = h9) (by omega) rfl rfl (w_L_declare (bc := 1) (bs := 6) (by omega) ev32 (fun _ _ _ => ⟨by decide, by decide⟩) (fun _ _ q => q)) (fun E h9 q => nomatch (show (Sum.inr E : tq_R) = Sum.inl _ from q.1)) (fun r9 h9 q => ?_)
                                                        obtain ⟨q1, rfl⟩ := q
                                                        cases (show (Sum.inl r9 : tq_R) = Sum.inl (some (.int v32.1)) from q1)
                                                        refine tq_ldc (M := mL_refuses) (pc := 407) dL_refuses_407 tk_RL_15 ?_
                                                        refine tq_icmp_ne (M := mL_refuses) (pc := 409) (tgt := 440) dL_refuses_409 (by decide) (fun cc => ?_) (fun cc => ?_)
                                                        · have hf := tq_ifn hf cc
                                                          refine tq_iconst (M := mL_refuses) (pc := 440) dL_refuses_440 tk_ki_0 ?_
                                                          refine tq_more (bc := 69) (bs := 8056) (by omega) (by omega) ?_
                                                          cases (Option.some.inj hf)
                                                          exact HJ133
                                                        · have hf := tq_ifp hf cc
                                                          refine tq_aload_n (M := mL_refuses) (pc := 412) dL_refuses_412 rfl ?_
                                                          refine tq_iconst (M := mL_refuses) (pc := 413) dL_refuses_413 tk_ki_0 ?_
                                                          refine tq_iload_n (M := mL_refuses) (pc := 414) dL_refuses_414 rfl ?_
                                                          obtain ⟨p33, ep33, hf⟩ := tq_le hf
                                                          have HJ415 : tq_W l mL_refuses d 73 8080 Q 428 [(0, .ref a0), (2, .int a2), (3, .int p1), (4, .int p4), (5, .int p7), (6, .int p8), (7, .int p9), (8, .int p10)] [.int p33, .int (0 : Int32), .ref a0] v32.2 := by
                                                            obtain ⟨v34, ev34, hf⟩ := tq_be hf
                                                            refine tq_calSW (M := mL_refuses) (pc := 428) (S := []) tk_w_L_declare.1 tk_w_L_declare.2.1 tk_w_L_declare.2.2.1 tk_w_L_declare.2.2.2.1 tk_w_L_declare.2.2.2.2 tk_s_L_declare tk_RL_192 dL_refuses_428 [.ref a0, .int (0 : Int32), .int p33] rfl (Nat.le_of_ble_eq_true rfl) (d1 := d - 1) (b1 := 1) (s1 := 6) (bc' := 72) (bs' := 8074) (Q1 := fun r h9 => r = .inl (some (.int v34.1)) ∧ v34.2 = h9) (by omega) rfl rfl (w_L_declare (bc := 1) (bs := 6) (by omega) ev34 (fun _ _ _ => ⟨by decide, by decide⟩) (fun _ _ q => q)) (fun E h9 q => nomatch (show (Sum.inr E : tq_R) = Sum.inl _ from q.1)) (fun r9 h9 q => ?_)
                                                            obtain ⟨q1, rfl⟩ := q
                                                            cases (show (Sum.inl r9 : tq_R) = Sum.inl (some (.int v34.1)) from q1)
                                                            refine tq_ldc (M := mL_refuses) (pc := 431) dL_refuses_431 tk_RL_18 ?_
                                                            refine tq_icmp_ne (M := mL_refuses) (pc := 433) (tgt := 440) dL_refuses_433 (by decide) (fun cc => ?_) (fun cc => ?_)
                                                            · have hf := tq_ifn hf cc
                                                              refine tq_iconst (M := mL_refuses) (pc := 440) dL_refuses_440 tk_ki_0 ?_
                                                              refine tq_more (bc := 69) (bs := 8056) (by omega) (by omega) ?_
                                                              cases (Option.some.inj hf)
                                                              exact HJ133
                                                            · have hf := tq_ifp hf cc
                                                              refine tq_iconst (M := mL_refuses) (pc := 436) dL_refuses_436 tk_ki_1 ?_
                                                              refine tq_goto (M := mL_refuses) (pc := 437) (tgt := 441) dL_refuses_437 (by decide) ?_
                                                              refine tq_more (bc := 69) (bs := 8056) (by omega) (by omega) ?_
                                                              cases (Option.some.inj hf)
                                                              exact HJ133
                                                          refine tq_if_eq (M := mL_refuses) (pc := 415) (tgt := 425) dL_refuses_415 (by decide) (fun cc => ?_) (fun cc => ?_)
                                                          · have hf := tq_ifp ep33.symm cc
                                                            refine tq_iconst (M := mL_refuses) (pc := 425) dL_refuses_425 tk_ki_4 ?_
                                                            refine tq_iload_n (M := mL_refuses) (pc := 426) dL_refuses_426 rfl ?_
                                                            refine tq_iadd (M := mL_refuses) (pc := 427) dL_refuses_427 ?_
                                                            cases hf
                                                            exact HJ415
                                                          · have hf := tq_ifn ep33.symm cc
                                                            refine tq_bipush (M := mL_refuses) (pc := 418) dL_refuses_418 tk_kb_m2 ?_
                                                            refine tq_iload_n (M := mL_refuses) (pc := 420) dL_refuses_420 rfl ?_
                                                            refine tq_isub (M := mL_refuses) (pc := 421) dL_refuses_421 ?_
                                                            refine tq_goto (M := mL_refuses) (pc := 422) (tgt := 428) dL_refuses_422 (by decide) ?_
                                                            cases hf
                                                            exact HJ415
                                            refine tq_if_eq (M := mL_refuses) (pc := 325) (tgt := 334) dL_refuses_325 (by decide) (fun cc => ?_) (fun cc => ?_)
                                            · have hf := tq_ifp ep26.symm cc
                                              refine tq_sipush (M := mL_refuses) (pc := 334) dL_refuses_334 tk_ks_1000 ?_
                                              refine tq_iload_n (M := mL_refuses) (pc := 337) dL_refuses_337 rfl ?_
                                              refine tq_iadd (M := mL_refuses) (pc := 338) dL_refuses_338 ?_
                                              refine tq_pick (L2 := [(0, .ref a0), (2, .int a2), (3, .int p1), (4, .int p4), (5, .int p7), (6, .int p8), (7, .int p9), (8, .int p10)]) [0, 1, 2, 3, 4, 5, 6, 7] rfl ?_
                                              cases hf
                                              exact HJ325
                                            · have hf := tq_ifn ep26.symm cc
                                              refine tq_iconst (M := mL_refuses) (pc := 328) dL_refuses_328 tk_ki_m1 ?_
                                              refine tq_iload_n (M := mL_refuses) (pc := 329) dL_refuses_329 rfl ?_
                                              refine tq_isub (M := mL_refuses) (pc := 330) dL_refuses_330 ?_
                                              refine tq_goto (M := mL_refuses) (pc := 331) (tgt := 339) dL_refuses_331 (by decide) ?_
                                              refine tq_pick (L2 := [(0, .ref a0), (2, .int a2), (3, .int p1), (4, .int p4), (5, .int p7), (6, .int p8), (7, .int p9), (8, .int p10)]) [0, 1, 2, 3, 4, 5, 6, 7] rfl ?_
                                              cases hf
                                              exact HJ325
                                · have hf := tq_ifn hf cc
                                  refine tq_aload_n (M := mL_refuses) (pc := 231) dL_refuses_231 rfl ?_
                                  refine tq_iconst (M := mL_refuses) (pc := 232) dL_refuses_232 tk_ki_0 ?_
                                  refine tq_iconst (M := mL_refuses) (pc := 233) dL_refuses_233 tk_ki_0 ?_
                                  refine tq_iconst (M := mL_refuses) (pc := 234) dL_refuses_234 tk_ki_0 ?_
                                  obtain ⟨v35, ev35, hf⟩ := tq_be hf
                                  refine tq_calSW (M := mL_refuses) (pc := 235) (S := []) tk_w_L_attribute.1 tk_w_L_attribute.2.1 tk_w_L_attribute.2.2.1 tk_w_L_attribute.2.2.2.1 tk_w_L_attribute.2.2.2.2 tk_s_L_attribute tk_RL_187 dL_refuses_235 [.ref a0, .int (0 : Int32), .int (0 : Int32), .int (0 : Int32)] rfl (Nat.le_of_ble_eq_true rfl) (d1 := d - 1) (b1 := 1) (s1 := 6) (bc' := 83) (bs' := 8140) (Q1 := fun r h9 => r = .inl (some (.int v35.1)) ∧ v35.2 = h9) (by omega) rfl rfl (w_L_attribute (bc := 1) (bs := 6) (by omega) ev35 (fun _ _ _ => ⟨by decide, by decide⟩) (fun _ _ q => q)) (fun E h9 q => nomatch (show (Sum.inr E : tq_R) = Sum.inl _ from q.1)) (fun r9 h9 q => ?_)
                                  obtain ⟨q1, rfl⟩ := q
                                  cases (show (Sum.inl r9 : tq_R) = Sum.inl (some (.int v35.1)) from q1)
                                  refine tq_ldc (M := mL_refuses) (pc := 238) dL_refuses_238 tk_RL_21 ?_
                                  refine tq_icmp_ne (M := mL_refuses) (pc := 240) (tgt := 440) dL_refuses_240 (by decide) (fun cc => ?_) (fun cc => ?_)
                                  · have hf := tq_ifn hf cc
                                    refine tq_iconst (M := mL_refuses) (pc := 440) dL_refuses_440 tk_ki_0 ?_
                                    refine tq_pick (L2 := [(0, .ref a0), (2, .int a2), (3, .int p1), (4, .int p4), (5, .int p7), (6, .int p8), (7, .int p9), (8, .int p10)]) [0, 1, 2, 3, 4, 5, 6, 7] rfl ?_
                                    refine tq_more (bc := 69) (bs := 8056) (by omega) (by omega) ?_
                                    cases (Option.some.inj hf)
                                    exact HJ133
                                  · have hf := tq_ifp hf cc
                                    refine tq_aload_n (M := mL_refuses) (pc := 243) dL_refuses_243 rfl ?_
                                    refine tq_iconst (M := mL_refuses) (pc := 244) dL_refuses_244 tk_ki_0 ?_
                                    refine tq_iconst (M := mL_refuses) (pc := 245) dL_refuses_245 tk_ki_0 ?_
                                    obtain ⟨v36, ev36, hf⟩ := tq_be hf
                                    refine tq_calSW (M := mL_refuses) (pc := 246) (S := []) tk_w_L_rename.1 tk_w_L_rename.2.1 tk_w_L_rename.2.2.1 tk_w_L_rename.2.2.2.1 tk_w_L_rename.2.2.2.2 tk_s_L_rename tk_RL_189 dL_refuses_246 [.ref a0, .int (0 : Int32), .int (0 : Int32)] rfl (Nat.le_of_ble_eq_true rfl) (d1 := d - 1) (b1 := 1) (s1 := 6) (bc' := 82) (bs' := 8134) (Q1 := fun r h9 => r = .inl (some (.int v36.1)) ∧ v36.2 = h9) (by omega) rfl rfl (w_L_rename (bc := 1) (bs := 6) (by omega) ev36 (fun _ _ _ => ⟨by decide, by decide⟩) (fun _ _ q => q)) (fun E h9 q => nomatch (show (Sum.inr E : tq_R) = Sum.inl _ from q.1)) (fun r9 h9 q => ?_)
                                    obtain ⟨q1, rfl⟩ := q
                                    cases (show (Sum.inl r9 : tq_R) = Sum.inl (some (.int v36.1)) from q1)
                                    refine tq_ldc (M := mL_refuses) (pc := 249) dL_refuses_249 tk_RL_21 ?_
                                    refine tq_icmp_ne (M := mL_refuses) (pc := 251) (tgt := 440) dL_refuses_251 (by decide) (fun cc => ?_) (fun cc => ?_)
                                    · have hf := tq_ifn hf cc
                                      refine tq_iconst (M := mL_refuses) (pc := 440) dL_refuses_440 tk_ki_0 ?_
                                      refine tq_pick (L2 := [(0, .ref a0), (2, .int a2), (3, .int p1), (4, .int p4), (5, .int p7), (6, .int p8), (7, .int p9), (8, .int p10)]) [0, 1, 2, 3, 4, 5, 6, 7] rfl ?_
                                      refine tq_more (bc := 69) (bs := 8056) (by omega) (by omega) ?_
                                      cases (Option.some.inj hf)
                                      exact HJ133
                                    · have hf := tq_ifp hf cc
                                      refine tq_aload_n (M := mL_refuses) (pc := 254) dL_refuses_254 rfl ?_
                                      refine tq_iconst (M := mL_refuses) (pc := 255) dL_refuses_255 tk_ki_0 ?_
                                      refine tq_iconst (M := mL_refuses) (pc := 256) dL_refuses_256 tk_ki_0 ?_
                                      obtain ⟨v37, ev37, hf⟩ := tq_be hf
                                      refine tq_calSW (M := mL_refuses) (pc := 257) (S := []) tk_w_L_declare.1 tk_w_L_declare.2.1 tk_w_L_declare.2.2.1 tk_w_L_declare.2.2.2.1 tk_w_L_declare.2.2.2.2 tk_s_L_declare tk_RL_192 dL_refuses_257 [.ref a0, .int (0 : Int32), .int (0 : Int32)] rfl (Nat.le_of_ble_eq_true rfl) (d1 := d - 1) (b1 := 1) (s1 := 6) (bc' := 81) (bs' := 8128) (Q1 := fun r h9 => r = .inl (some (.int v37.1)) ∧ v37.2 = h9) (by omega) rfl rfl (w_L_declare (bc := 1) (bs := 6) (by omega) ev37 (fun _ _ _ => ⟨by decide, by decide⟩) (fun _ _ q => q)) (fun E h9 q => nomatch (show (Sum.inr E : tq_R) = Sum.inl _ from q.1)) (fun r9 h9 q => ?_)
                                      obtain ⟨q1, rfl⟩ := q
                                      cases (show (Sum.inl r9 : tq_R) = Sum.inl (some (.int v37.1)) from q1)
                                      refine tq_ldc (M := mL_refuses) (pc := 260) dL_refuses_260 tk_RL_21 ?_
                                      refine tq_icmp_ne (M := mL_refuses) (pc := 262) (tgt := 440) dL_refuses_262 (by decide) (fun cc => ?_) (fun cc => ?_)
                                      · have hf := tq_ifn hf cc
                                        refine tq_iconst (M := mL_refuses) (pc := 440) dL_refuses_440 tk_ki_0 ?_
                                        refine tq_pick (L2 := [(0, .ref a0), (2, .int a2), (3, .int p1), (4, .int p4), (5, .int p7), (6, .int p8), (7, .int p9), (8, .int p10)]) [0, 1, 2, 3, 4, 5, 6, 7] rfl ?_
                                        refine tq_more (bc := 69) (bs := 8056) (by omega) (by omega) ?_
                                        cases (Option.some.inj hf)
                                        exact HJ133
                                      · have hf := tq_ifp hf cc
                                        refine tq_aload_n (M := mL_refuses) (pc := 265) dL_refuses_265 rfl ?_
                                        refine tq_iload (M := mL_refuses) (pc := 266) dL_refuses_266 rfl ?_
                                        obtain ⟨v38, ev38, hf⟩ := tq_be hf
                                        refine tq_calSW (M := mL_refuses) (pc := 268) (S := []) tk_w_L_remove.1 tk_w_L_remove.2.1 tk_w_L_remove.2.2.1 tk_w_L_remove.2.2.2.1 tk_w_L_remove.2.2.2.2 tk_s_L_remove tk_RL_194 dL_refuses_268 [.ref a0, .int p4] rfl (Nat.le_of_ble_eq_true rfl) (d1 := d - 1) (b1 := 1) (s1 := 6) (bc' := 80) (bs' := 8122) (Q1 := fun r h9 => r = .inl (some (.int v38.1)) ∧ v38.2 = h9) (by omega) rfl rfl (w_L_remove (bc := 1) (bs := 6) (by omega) ev38 (fun _ _ _ => ⟨by decide, by decide⟩) (fun _ _ q => q)) (fun E h9 q => nomatch (show (Sum.inr E : tq_R) = Sum.inl _ from q.1)) (fun r9 h9 q => ?_)
                                        obtain ⟨q1, rfl⟩ := q
                                        cases (show (Sum.inl r9 : tq_R) = Sum.inl (some (.int v38.1)) from q1)
                                        refine tq_ldc (M := mL_refuses) (pc := 271) dL_refuses_271 tk_RL_15 ?_
                                        refine tq_icmp_ne (M := mL_refuses) (pc := 273) (tgt := 440) dL_refuses_273 (by decide) (fun cc => ?_) (fun cc => ?_)
                                        · have hf := tq_ifn hf cc
                                          refine tq_iconst (M := mL_refuses) (pc := 440) dL_refuses_440 tk_ki_0 ?_
                                          refine tq_pick (L2 := [(0, .ref a0), (2, .int a2), (3, .int p1), (4, .int p4), (5, .int p7), (6, .int p8), (7, .int p9), (8, .int p10)]) [0, 1, 2, 3, 4, 5, 6, 7] rfl ?_
                                          refine tq_more (bc := 69) (bs := 8056) (by omega) (by omega) ?_
                                          cases (Option.some.inj hf)
                                          exact HJ133
                                        · have hf := tq_ifp hf cc
                                          refine tq_aload_n (M := mL_refuses) (pc := 276) dL_refuses_276 rfl ?_
                                          refine tq_iconst (M := mL_refuses) (pc := 277) dL_refuses_277 tk_ki_0 ?_
                                          obtain ⟨v39, ev39, hf⟩ := tq_be hf
                                          refine tq_calSW (M := mL_refuses) (pc := 278) (S := []) tk_w_L_remove.1 tk_w_L_remove.2.1 tk_w_L_remove.2.2.1 tk_w_L_remove.2.2.2.1 tk_w_L_remove.2.2.2.2 tk_s_L_remove tk_RL_194 dL_refuses_278 [.ref a0, .int (0 : Int32)] rfl (Nat.le_of_ble_eq_true rfl) (d1 := d - 1) (b1 := 1) (s1 := 6) (bc' := 79) (bs' := 8116) (Q1 := fun r h9 => r = .inl (some (.int v39.1)) ∧ v39.2 = h9) (by omega) rfl rfl (w_L_remove (bc := 1) (bs := 6) (by omega) ev39 (fun _ _ _ => ⟨by decide, by decide⟩) (fun _ _ q => q)) (fun E h9 q => nomatch (show (Sum.inr E : tq_R) = Sum.inl _ from q.1)) (fun r9 h9 q => ?_)
                                          obtain ⟨q1, rfl⟩ := q
                                          cases (show (Sum.inl r9 : tq_R) = Sum.inl (some (.int v39.1)) from q1)
                                          refine tq_ldc (M := mL_refuses) (pc := 281) dL_refuses_281 tk_RL_21 ?_
                                          refine tq_icmp_ne (M := mL_refuses) (pc := 283) (tgt := 440) dL_refuses_283 (by decide) (fun cc => ?_) (fun cc => ?_)
                                          · have hf := tq_ifn hf cc
                                            refine tq_iconst (M := mL_refuses) (pc := 440) dL_refuses_440 tk_ki_0 ?_
                                            refine tq_pick (L2 := [(0, .ref a0), (2, .int a2), (3, .int p1), (4, .int p4), (5, .int p7), (6, .int p8), (7, .int p9), (8, .int p10)]) [0, 1, 2, 3, 4, 5, 6, 7] rfl ?_
                                            refine tq_more (bc := 69) (bs := 8056) (by omega) (by omega) ?_
                                            cases (Option.some.inj hf)
                                            exact HJ133
                                          · have hf := tq_ifp hf cc
                                            refine tq_aload_n (M := mL_refuses) (pc := 286) dL_refuses_286 rfl ?_
                                            refine tq_iload (M := mL_refuses) (pc := 287) dL_refuses_287 rfl ?_
                                            refine tq_iconst (M := mL_refuses) (pc := 289) dL_refuses_289 tk_ki_0 ?_
                                            obtain ⟨v40, ev40, hf⟩ := tq_be hf
                                            refine tq_calSW (M := mL_refuses) (pc := 290) (S := []) tk_w_L_rename.1 tk_w_L_rename.2.1 tk_w_L_rename.2.2.1 tk_w_L_rename.2.2.2.1 tk_w_L_rename.2.2.2.2 tk_s_L_rename tk_RL_189 dL_refuses_290 [.ref a0, .int p4, .int (0 : Int32)] rfl (Nat.le_of_ble_eq_true rfl) (d1 := d - 1) (b1 := 1) (s1 := 6) (bc' := 78) (bs' := 8110) (Q1 := fun r h9 => r = .inl (some (.int v40.1)) ∧ v40.2 = h9) (by omega) rfl rfl (w_L_rename (bc := 1) (bs := 6) (by omega) ev40 (fun _ _ _ => ⟨by decide, by decide⟩) (fun _ _ q => q)) (fun E h9 q => nomatch (show (Sum.inr E : tq_R) = Sum.inl _ from q.1)) (fun r9 h9 q => ?_)
                                            obtain ⟨q1, rfl⟩ := q
                                            cases (show (Sum.inl r9 : tq_R) = Sum.inl (some (.int v40.1)) from q1)
                                            refine tq_ldc (M := mL_refuses) (pc := 293) dL_refuses_293 tk_RL_15 ?_
                                            refine tq_icmp_ne (M := mL_refuses) (pc := 295) (tgt := 440) dL_refuses_295 (by decide) (fun cc => ?_) (fun cc => ?_)
                                            · have hf := tq_ifn hf cc
                                              refine tq_iconst (M := mL_refuses) (pc := 440) dL_refuses_440 tk_ki_0 ?_
                                              refine tq_pick (L2 := [(0, .ref a0), (2, .int a2), (3, .int p1), (4, .int p4), (5, .int p7), (6, .int p8), (7, .int p9), (8, .int p10)]) [0, 1, 2, 3, 4, 5, 6, 7] rfl ?_
                                              refine tq_more (bc := 69) (bs := 8056) (by omega) (by omega) ?_
                                              cases (Option.some.inj hf)
                                              exact HJ133
                                            · have hf := tq_ifp hf cc
                                              refine tq_aload_n (M := mL_refuses) (pc := 298) dL_refuses_298 rfl ?_
                                              refine tq_iconst (M := mL_refuses) (pc := 299) dL_refuses_299 tk_ki_0 ?_
                                              refine tq_iload (M := mL_refuses) (pc := 300) dL_refuses_300 rfl ?_
                                              obtain ⟨v41, ev41, hf⟩ := tq_be hf
                                              refine tq_calSW (M := mL_refuses) (pc := 302) (S := []) tk_w_L_rename.1 tk_w_L_rename.2.1 tk_w_L_rename.2.2.1 tk_w_L_rename.2.2.2.1 tk_w_L_rename.2.2.2.2 tk_s_L_rename tk_RL_189 dL_refuses_302 [.ref a0, .int (0 : Int32), .int p8] rfl (Nat.le_of_ble_eq_true rfl) (d1 := d - 1) (b1 := 1) (s1 := 6) (bc' := 77) (bs' := 8104) (Q1 := fun r h9 => r = .inl (some (.int v41.1)) ∧ v41.2 = h9) (by omega) rfl rfl (w_L_rename (bc := 1) (bs := 6) (by omega) ev41 (fun _ _ _ => ⟨by decide, by decide⟩) (fun _ _ q => q)) (fun E h9 q => nomatch (show (Sum.inr E : tq_R) = Sum.inl _ from q.1)) (fun r9 h9 q => ?_)
                                              obtain ⟨q1, rfl⟩ := q
                                              cases (show (Sum.inl r9 : tq_R) = Sum.inl (some (.int v41.1)) from q1)
                                              refine tq_ldc (M := mL_refuses) (pc := 305) dL_refuses_305 tk_RL_18 ?_
                                              refine tq_icmp_ne (M := mL_refuses) (pc := 307) (tgt := 440) dL_refuses_307 (by decide) (fun cc => ?_) (fun cc => ?_)
                                              · have hf := tq_ifn hf cc
                                                refine tq_iconst (M := mL_refuses) (pc := 440) dL_refuses_440 tk_ki_0 ?_
                                                refine tq_pick (L2 := [(0, .ref a0), (2, .int a2), (3, .int p1), (4, .int p4), (5, .int p7), (6, .int p8), (7, .int p9), (8, .int p10)]) [0, 1, 2, 3, 4, 5, 6, 7] rfl ?_
                                                refine tq_more (bc := 69) (bs := 8056) (by omega) (by omega) ?_
                                                cases (Option.some.inj hf)
                                                exact HJ133
                                              · have hf := tq_ifp hf cc
                                                refine tq_aload_n (M := mL_refuses) (pc := 310) dL_refuses_310 rfl ?_
                                                refine tq_iload (M := mL_refuses) (pc := 311) dL_refuses_311 rfl ?_
                                                refine tq_iconst (M := mL_refuses) (pc := 313) dL_refuses_313 tk_ki_0 ?_
                                                obtain ⟨v42, ev42, hf⟩ := tq_be hf
                                                refine tq_calSW (M := mL_refuses) (pc := 314) (S := []) tk_w_L_revalue.1 tk_w_L_revalue.2.1 tk_w_L_revalue.2.2.1 tk_w_L_revalue.2.2.2.1 tk_w_L_revalue.2.2.2.2 tk_s_L_revalue tk_RL_197 dL_refuses_314 [.ref a0, .int p4, .int (0 : Int32)] rfl (Nat.le_of_ble_eq_true rfl) (d1 := d - 1) (b1 := 1) (s1 := 6) (bc' := 76) (bs' := 8098) (Q1 := fun r h9 => r = .inl (some (.int v42.1)) ∧ v42.2 = h9) (by omega) rfl rfl (w_L_revalue (bc := 1) (bs := 6) (by omega) ev42 (fun _ _ _ => ⟨by decide, by decide⟩) (fun _ _ q => q)) (fun E h9 q => nomatch (show (Sum.inr E : tq_R) = Sum.inl _ from q.1)) (fun r9 h9 q => ?_)
                                                obtain ⟨q1, rfl⟩ := q
                                                cases (show (Sum.inl r9 : tq_R) = Sum.inl (some (.int v42.1)) from q1)
                                                refine tq_ldc (M := mL_refuses) (pc := 317) dL_refuses_317 tk_RL_15 ?_
                                                refine tq_icmp_ne (M := mL_refuses) (pc := 319) (tgt := 440) dL_refuses_319 (by decide) (fun cc => ?_) (fun cc => ?_)
                                                · have hf := tq_ifn hf cc
                                                  refine tq_iconst (M := mL_refuses) (pc := 440) dL_refuses_440 tk_ki_0 ?_
                                                  refine tq_pick (L2 := [(0, .ref a0), (2, .int a2), (3, .int p1), (4, .int p4), (5, .int p7), (6, .int p8), (7, .int p9), (8, .int p10)]) [0, 1, 2, 3, 4, 5, 6, 7] rfl ?_
                                                  refine tq_more (bc := 69) (bs := 8056) (by omega) (by omega) ?_
                                                  cases (Option.some.inj hf)
                                                  exact HJ133
                                                · have hf := tq_ifp hf cc
                                                  refine tq_aload_n (M := mL_refuses) (pc := 322) dL_refuses_322 rfl ?_
                                                  refine tq_iconst (M := mL_refuses) (pc := 323) dL_refuses_323 tk_ki_0 ?_
                                                  refine tq_iload_n (M := mL_refuses) (pc := 324) dL_refuses_324 rfl ?_
                                                  obtain ⟨p43, ep43, hf⟩ := tq_le hf
                                                  have HJ325 : tq_W l mL_refuses d 76 8098 Q 339 [(0, .ref a0), (2, .int a2), (3, .int p1), (4, .int p4), (5, .int p7), (6, .int p8), (7, .int p9), (8, .int p10)] [.int p43, .int (0 : Int32), .ref a0] v42.2 := by
                                                    obtain ⟨v44, ev44, hf⟩ := tq_be hf
                                                    refine tq_calSW (M := mL_refuses) (pc := 339) (S := []) tk_w_L_revalue.1 tk_w_L_revalue.2.1 tk_w_L_revalue.2.2.1 tk_w_L_revalue.2.2.2.1 tk_w_L_revalue.2.2.2.2 tk_s_L_revalue tk_RL_197 dL_refuses_339 [.ref a0, .int (0 : Int32), .int p43] rfl (Nat.le_of_ble_eq_true rfl) (d1 := d - 1) (b1 := 1) (s1 := 6) (bc' := 75) (bs' := 8092) (Q1 := fun r h9 => r = .inl (some (.int v44.1)) ∧ v44.2 = h9) (by omega) rfl rfl (w_L_revalue (bc := 1) (bs := 6) (by omega) ev44 (fun _ _ _ => ⟨by decide, by decide⟩) (fun _ _ q => q)) (fun E h9 q => nomatch (show (Sum.inr E : tq_R) = Sum.inl _ from q.1)) (fun r9 h9 q => ?_)
                                                    obtain ⟨q1, rfl⟩ := q
                                                    cases (show (Sum.inl r9 : tq_R) = Sum.inl (some (.int v44.1)) from q1)
                                                    refine tq_ldc (M := mL_refuses) (pc := 342) dL_refuses_342 tk_RL_18 ?_
                                                    refine tq_icmp_ne (M := mL_refuses) (pc := 344) (tgt := 440) dL_refuses_344 (by decide) (fun cc => ?_) (fun cc => ?_)
                                                    · have hf := tq_ifn hf cc
                                                      refine tq_iconst (M := mL_refuses) (pc := 440) dL_refuses_440 tk_ki_0 ?_
                                                      refine tq_more (bc := 69) (bs := 8056) (by omega) (by omega) ?_
                                                      cases (Option.some.inj hf)
                                                      exact HJ133
                                                    · have hf := tq_ifp hf cc
                                                      refine tq_aload_n (M := mL_refuses) (pc := 347) dL_refuses_347 rfl ?_
                                                      refine tq_iconst (M := mL_refuses) (pc := 348) dL_refuses_348 tk_ki_0 ?_
                                                      refine tq_iload_n (M := mL_refuses) (pc := 349) dL_refuses_349 rfl ?_
                                                      refine tq_sipush (M := mL_refuses) (pc := 350) dL_refuses_350 tk_ks_1000 ?_
                                                      refine tq_irem (M := mL_refuses) (pc := 353) dL_refuses_353 (by decide +kernel) ?_
                                                      obtain ⟨v45, ev45, hf⟩ := tq_be hf
                                                      refine tq_calSW (M := mL_refuses) (pc := 354) (S := []) tk_w_L_revalue.1 tk_w_L_revalue.2.1 tk_w_L_revalue.2.2.1 tk_w_L_revalue.2.2.2.1 tk_w_L_revalue.2.2.2.2 tk_s_L_revalue tk_RL_197 dL_refuses_354 [.ref a0, .int (0 : Int32), .int ((a2 - a2 / (1000 : Int32) * (1000 : Int32)))] rfl (Nat.le_of_ble_eq_true rfl) (d1 := d - 1) (b1 := 1) (s1 := 6) (bc' := 74) (bs' := 8086) (Q1 := fun r h9 => r = .inl (some (.int v45.1)) ∧ v45.2 = h9) (by omega) rfl rfl (w_L_revalue (bc := 1) (bs := 6) (by omega) ev45 (fun _ _ _ => ⟨by decide, by decide⟩) (fun _ _ q => q)) (fun E h9 q => nomatch (show (Sum.inr E : tq_R) = Sum.inl _ from q.1)) (fun r9 h9 q => ?_)
                                                      obtain ⟨q1, rfl⟩ := q
                                                      cases (show (Sum.inl r9 : tq_R) = Sum.inl (some (.int v45.1)) from q1)
                                                      refine tq_ldc (M := mL_refuses) (pc := 357) dL_refuses_357 tk_RL_21 ?_
                                                      refine tq_icmp_ne (M := mL_refuses) (pc := 359) (tgt := 440) dL_refuses_359 (by decide) (fun cc => ?_) (fun cc => ?_)
                                                      · have hf := tq_ifn hf cc
                                                        refine tq_iconst (M := mL_refuses) (pc := 440) dL_refuses_440 tk_ki_0 ?_
                                                        refine tq_more (bc := 69) (bs := 8056) (by omega) (by omega) ?_
                                                        cases (Option.some.inj hf)
                                                        exact HJ133
                                                      · have hf := tq_ifp hf cc
                                                        refine tq_aload_n (M := mL_refuses) (pc := 362) dL_refuses_362 rfl ?_
                                                        refine tq_iload (M := mL_refuses) (pc := 363) dL_refuses_363 rfl ?_
                                                        refine tq_iconst (M := mL_refuses) (pc := 365) dL_refuses_365 tk_ki_0 ?_
                                                        refine tq_iconst (M := mL_refuses) (pc := 366) dL_refuses_366 tk_ki_0 ?_
                                                        obtain ⟨v46, ev46, hf⟩ := tq_be hf
                                                        refine tq_calSW (M := mL_refuses) (pc := 367) (S := []) tk_w_L_move.1 tk_w_L_move.2.1 tk_w_L_move.2.2.1 tk_w_L_move.2.2.2.1 tk_w_L_move.2.2.2.2 tk_s_L_move tk_RL_200 dL_refuses_367 [.ref a0, .int p4, .int (0 : Int32), .int (0 : Int32)] rfl (Nat.le_of_ble_eq_true rfl) (d1 := d - 1) (b1 := 1) (s1 := 6) (bc' := 73) (bs' := 8080) (Q1 := fun r h9 => r = .inl (some (.int v46.1)) ∧ v46.2 = h9) (by omega) rfl rfl (w_L_move (bc := 1) (bs := 6) (by omega) ev46 (fun _ _ _ => ⟨by decide, by decide⟩) (fun _ _ q => q)) (fun E h9 q => nomatch (show (Sum.inr E : tq_R) = Sum.inl _ from q.1)) (fun r9 h9 q => ?_)
                                                        obtain ⟨q1, rfl⟩ := q
                                                        cases (show (Sum.inl r9 : tq_R) = Sum.inl (some (.int v46.1)) from q1)
                                                        refine tq_ldc (M := mL_refuses) (pc := 370) dL_refuses_370 tk_RL_15 ?_
                                                        refine tq_icmp_ne (M := mL_refuses) (pc := 372) (tgt := 440) dL_refuses_372 (by decide) (fun cc => ?_) (fun cc => ?_)
                                                        · have hf := tq_ifn hf cc
                                                          refine tq_iconst (M := mL_refuses) (pc := 440) dL_refuses_440 tk_ki_0 ?_
                                                          refine tq_more (bc := 69) (bs := 8056) (by omega) (by omega) ?_
                                                          cases (Option.some.inj hf)
                                                          exact HJ133
                                                        · have hf := tq_ifp hf cc
                                                          refine tq_aload_n (M := mL_refuses) (pc := 375) dL_refuses_375 rfl ?_
                                                          refine tq_iconst (M := mL_refuses) (pc := 376) dL_refuses_376 tk_ki_0 ?_
                                                          refine tq_iload (M := mL_refuses) (pc := 377) dL_refuses_377 rfl ?_
                                                          refine tq_iconst (M := mL_refuses) (pc := 379) dL_refuses_379 tk_ki_0 ?_
                                                          obtain ⟨v47, ev47, hf⟩ := tq_be hf
                                                          refine tq_calSW (M := mL_refuses) (pc := 380) (S := []) tk_w_L_move.1 tk_w_L_move.2.1 tk_w_L_move.2.2.1 tk_w_L_move.2.2.2.1 tk_w_L_move.2.2.2.2 tk_s_L_move tk_RL_200 dL_refuses_380 [.ref a0, .int (0 : Int32), .int p4, .int (0 : Int32)] rfl (Nat.le_of_ble_eq_true rfl) (d1 := d - 1) (b1 := 1) (s1 := 6) (bc' := 72) (bs' := 8074) (Q1 := fun r h9 => r = .inl (some (.int v47.1)) ∧ v47.2 = h9) (by omega) rfl rfl (w_L_move (bc := 1) (bs := 6) (by omega) ev47 (fun _ _ _ => ⟨by decide, by decide⟩) (fun _ _ q => q)) (fun E h9 q => nomatch (show (Sum.inr E : tq_R) = Sum.inl _ from q.1)) (fun r9 h9 q => ?_)
                                                          obtain ⟨q1, rfl⟩ := q
                                                          cases (show (Sum.inl r9 : tq_R) = Sum.inl (some (.int v47.1)) from q1)
                                                          refine tq_ldc (M := mL_refuses) (pc := 383) dL_refuses_383 tk_RL_15 ?_
                                                          refine tq_icmp_ne (M := mL_refuses) (pc := 385) (tgt := 440) dL_refuses_385 (by decide) (fun cc => ?_) (fun cc => ?_)
                                                          · have hf := tq_ifn hf cc
                                                            refine tq_iconst (M := mL_refuses) (pc := 440) dL_refuses_440 tk_ki_0 ?_
                                                            refine tq_more (bc := 69) (bs := 8056) (by omega) (by omega) ?_
                                                            cases (Option.some.inj hf)
                                                            exact HJ133
                                                          · have hf := tq_ifp hf cc
                                                            refine tq_aload_n (M := mL_refuses) (pc := 388) dL_refuses_388 rfl ?_
                                                            refine tq_iconst (M := mL_refuses) (pc := 389) dL_refuses_389 tk_ki_0 ?_
                                                            refine tq_iconst (M := mL_refuses) (pc := 390) dL_refuses_390 tk_ki_0 ?_
                                                            refine tq_iconst (M := mL_refuses) (pc := 391) dL_refuses_391 tk_ki_0 ?_
                                                            obtain ⟨v48, ev48, hf⟩ := tq_be hf
                                                            refine tq_calSW (M := mL_refuses) (pc := 392) (S := []) tk_w_L_move.1 tk_w_L_move.2.1 tk_w_L_move.2.2.1 tk_w_L_move.2.2.2.1 tk_w_L_move.2.2.2.2 tk_s_L_move tk_RL_200 dL_refuses_392 [.ref a0, .int (0 : Int32), .int (0 : Int32), .int (0 : Int32)] rfl (Nat.le_of_ble_eq_true rfl) (d1 := d - 1) (b1 := 1) (s1 := 6) (bc' := 71) (bs' := 8068) (Q1 := fun r h9 => r = .inl (some (.int v48.1)) ∧ v48.2 = h9) (by omega) rfl rfl (w_L_move (bc := 1) (bs := 6) (by omega) ev48 (fun _ _ _ => ⟨by decide, by decide⟩) (fun _ _ q => q)) (fun E h9 q => nomatch (show (Sum.inr E : tq_R) = Sum.inl _ from q.1)) (fun r9 h9 q => ?_)
                                                            obtain ⟨q1, rfl⟩ := q
                                                            cases (show (Sum.inl r9 : tq_R) = Sum.inl (some (.int v48.1)) from q1)
                                                            refine tq_ldc (M := mL_refuses) (pc := 395) dL_refuses_395 tk_RL_21 ?_
                                                            refine tq_icmp_ne (M := mL_refuses) (pc := 397) (tgt := 440) dL_refuses_397 (by decide) (fun cc => ?_) (fun cc => ?_)
                                                            · have hf := tq_ifn hf cc
                                                              refine tq_iconst (M := mL_refuses) (pc := 440) dL_refuses_440 tk_ki_0 ?_
                                                              refine tq_more (bc := 69) (bs := 8056) (by omega) (by omega) ?_
                                                              cases (Option.some.inj hf)
                                                              exact HJ133
                                                            · have hf := tq_ifp hf cc
                                                              refine tq_aload_n (M := mL_refuses) (pc := 400) dL_refuses_400 rfl ?_
                                                              refine tq_iload (M := mL_refuses) (pc := 401) dL_refuses_401 rfl ?_
                                                              refine tq_iconst (M := mL_refuses) (pc := 403) dL_refuses_403 tk_ki_0 ?_
                                                              obtain ⟨v49, ev49, hf⟩ := tq_be hf
                                                              refine tq_calSW (M := mL_refuses) (pc := 404) (S := []) tk_w_L_declare.1 tk_w_L_declare.2.1 tk_w_L_declare.2.2.1 tk_w_L_declare.2.2.2.1 tk_w_L_declare.2.2.2.2 tk_s_L_declare tk_RL_192 dL_refuses_404 [.ref a0, .int p4, .int (0 : Int32)] rfl (Nat.le_of_ble_eq_true rfl) (d1 := d - 1) (b1 := 1) (s1 := 6) (bc' := 70) (bs' := 8062) (Q1 := fun r h9 => r = .inl (some (.int v49.1)) ∧ v49.2 = h9) (by omega) rfl rfl (w_L_declare (bc := 1) (bs := 6) (by omega) ev49 (fun _ _ _ => ⟨by decide, by decide⟩) (fun _ _ q => q)) (fun E h9 q => nomatch (show (Sum.inr E : tq_R) = Sum.inl _ from q.1)) (fun r9 h9 q => ?_)
                                                              obtain ⟨q1, rfl⟩ := q
                                                              cases (show (Sum.inl r9 : tq_R) = Sum.inl (some (.int v49.1)) from q1)
                                                              refine tq_ldc (M := mL_refuses) (pc := 407) dL_refuses_407 tk_RL_15 ?_
                                                              refine tq_icmp_ne (M := mL_refuses) (pc := 409) (tgt := 440) dL_refuses_409 (by decide) (fun cc => ?_) (fun cc => ?_)
                                                              · have hf := tq_ifn hf cc
                                                                refine tq_iconst (M := mL_refuses) (pc := 440) dL_refuses_440 tk_ki_0 ?_
                                                                refine tq_more (bc := 69) (bs := 8056) (by omega) (by omega) ?_
                                                                cases (Option.some.inj hf)
                                                                exact HJ133
                                                              · have hf := tq_ifp hf cc
                                                                refine tq_aload_n (M := mL_refuses) (pc := 412) dL_refuses_412 rfl ?_
                                                                refine tq_iconst (M := mL_refuses) (pc := 413) dL_refuses_413 tk_ki_0 ?_
                                                                refine tq_iload_n (M := mL_refuses) (pc := 414) dL_refuses_414 rfl ?_
                                                                obtain ⟨p50, ep50, hf⟩ := tq_le hf
                                                                have HJ415 : tq_W l mL_refuses d 70 8062 Q 428 [(0, .ref a0), (2, .int a2), (3, .int p1), (4, .int p4), (5, .int p7), (6, .int p8), (7, .int p9), (8, .int p10)] [.int p50, .int (0 : Int32), .ref a0] v49.2 := by
                                                                  obtain ⟨v51, ev51, hf⟩ := tq_be hf
                                                                  refine tq_calSW (M := mL_refuses) (pc := 428) (S := []) tk_w_L_declare.1 tk_w_L_declare.2.1 tk_w_L_declare.2.2.1 tk_w_L_declare.2.2.2.1 tk_w_L_declare.2.2.2.2 tk_s_L_declare tk_RL_192 dL_refuses_428 [.ref a0, .int (0 : Int32), .int p50] rfl (Nat.le_of_ble_eq_true rfl) (d1 := d - 1) (b1 := 1) (s1 := 6) (bc' := 69) (bs' := 8056) (Q1 := fun r h9 => r = .inl (some (.int v51.1)) ∧ v51.2 = h9) (by omega) rfl rfl (w_L_declare (bc := 1) (bs := 6) (by omega) ev51 (fun _ _ _ => ⟨by decide, by decide⟩) (fun _ _ q => q)) (fun E h9 q => nomatch (show (Sum.inr E : tq_R) = Sum.inl _ from q.1)) (fun r9 h9 q => ?_)
                                                                  obtain ⟨q1, rfl⟩ := q
                                                                  cases (show (Sum.inl r9 : tq_R) = Sum.inl (some (.int v51.1)) from q1)
                                                                  refine tq_ldc (M := mL_refuses) (pc := 431) dL_refuses_431 tk_RL_18 ?_
                                                                  refine tq_icmp_ne (M := mL_refuses) (pc := 433) (tgt := 440) dL_refuses_433 (by decide) (fun cc => ?_) (fun cc => ?_)
                                                                  · have hf := tq_ifn hf cc
                                                                    refine tq_iconst (M := mL_refuses) (pc := 440) dL_refuses_440 tk_ki_0 ?_
                                                                    cases (Option.some.inj hf)
                                                                    exact HJ133
                                                                  · have hf := tq_ifp hf cc
                                                                    refine tq_iconst (M := mL_refuses) (pc := 436) dL_refuses_436 tk_ki_1 ?_
                                                                    refine tq_goto (M := mL_refuses) (pc := 437) (tgt := 441) dL_refuses_437 (by decide) ?_
                                                                    cases (Option.some.inj hf)
                                                                    exact HJ133
                                                                refine tq_if_eq (M := mL_refuses) (pc := 415) (tgt := 425) dL_refuses_415 (by decide) (fun cc => ?_) (fun cc => ?_)
                                                                · have hf := tq_ifp ep50.symm cc
                                                                  refine tq_iconst (M := mL_refuses) (pc := 425) dL_refuses_425 tk_ki_4 ?_
                                                                  refine tq_iload_n (M := mL_refuses) (pc := 426) dL_refuses_426 rfl ?_
                                                                  refine tq_iadd (M := mL_refuses) (pc := 427) dL_refuses_427 ?_
                                                                  cases hf
                                                                  exact HJ415
                                                                · have hf := tq_ifn ep50.symm cc
                                                                  refine tq_bipush (M := mL_refuses) (pc := 418) dL_refuses_418 tk_kb_m2 ?_
                                                                  refine tq_iload_n (M := mL_refuses) (pc := 420) dL_refuses_420 rfl ?_
                                                                  refine tq_isub (M := mL_refuses) (pc := 421) dL_refuses_421 ?_
                                                                  refine tq_goto (M := mL_refuses) (pc := 422) (tgt := 428) dL_refuses_422 (by decide) ?_
                                                                  cases hf
                                                                  exact HJ415
                                                  refine tq_if_eq (M := mL_refuses) (pc := 325) (tgt := 334) dL_refuses_325 (by decide) (fun cc => ?_) (fun cc => ?_)
                                                  · have hf := tq_ifp ep43.symm cc
                                                    refine tq_sipush (M := mL_refuses) (pc := 334) dL_refuses_334 tk_ks_1000 ?_
                                                    refine tq_iload_n (M := mL_refuses) (pc := 337) dL_refuses_337 rfl ?_
                                                    refine tq_iadd (M := mL_refuses) (pc := 338) dL_refuses_338 ?_
                                                    refine tq_pick (L2 := [(0, .ref a0), (2, .int a2), (3, .int p1), (4, .int p4), (5, .int p7), (6, .int p8), (7, .int p9), (8, .int p10)]) [0, 1, 2, 3, 4, 5, 6, 7] rfl ?_
                                                    cases hf
                                                    exact HJ325
                                                  · have hf := tq_ifn ep43.symm cc
                                                    refine tq_iconst (M := mL_refuses) (pc := 328) dL_refuses_328 tk_ki_m1 ?_
                                                    refine tq_iload_n (M := mL_refuses) (pc := 329) dL_refuses_329 rfl ?_
                                                    refine tq_isub (M := mL_refuses) (pc := 330) dL_refuses_330 ?_
                                                    refine tq_goto (M := mL_refuses) (pc := 331) (tgt := 339) dL_refuses_331 (by decide) ?_
                                                    refine tq_pick (L2 := [(0, .ref a0), (2, .int a2), (3, .int p1), (4, .int p4), (5, .int p7), (6, .int p8), (7, .int p9), (8, .int p10)]) [0, 1, 2, 3, 4, 5, 6, 7] rfl ?_
                                                    cases hf
                                                    exact HJ325
                        refine tq_if_eq (M := mL_refuses) (pc := 178) (tgt := 187) dL_refuses_178 (by decide) (fun cc => ?_) (fun cc => ?_)
                        · have hf := tq_ifp ep17.symm cc
                          refine tq_sipush (M := mL_refuses) (pc := 187) dL_refuses_187 tk_ks_1000 ?_
                          refine tq_iload_n (M := mL_refuses) (pc := 190) dL_refuses_190 rfl ?_
                          refine tq_iadd (M := mL_refuses) (pc := 191) dL_refuses_191 ?_
                          cases hf
                          exact HJ178
                        · have hf := tq_ifn ep17.symm cc
                          refine tq_iconst (M := mL_refuses) (pc := 181) dL_refuses_181 tk_ki_m1 ?_
                          refine tq_iload_n (M := mL_refuses) (pc := 182) dL_refuses_182 rfl ?_
                          refine tq_isub (M := mL_refuses) (pc := 183) dL_refuses_183 ?_
                          refine tq_goto (M := mL_refuses) (pc := 184) (tgt := 192) dL_refuses_184 (by decide) ?_
                          cases hf
                          exact HJ178
                  refine tq_if_eq (M := mL_refuses) (pc := 139) (tgt := 148) dL_refuses_139 (by decide) (fun cc => ?_) (fun cc => ?_)
                  · have hf := tq_ifp ep14.symm cc
                    refine tq_bipush (M := mL_refuses) (pc := 148) dL_refuses_148 tk_kb_60 ?_
                    refine tq_iload_n (M := mL_refuses) (pc := 150) dL_refuses_150 rfl ?_
                    refine tq_iadd (M := mL_refuses) (pc := 151) dL_refuses_151 ?_
                    refine tq_pick (L2 := [(0, .ref a0), (2, .int a2), (3, .int p1), (4, .int p4), (5, .int p7), (6, .int p8), (7, .int p9), (8, .int p10), (9, .int p12)]) [1, 2, 3, 4, 5, 6, 7, 8, 0] rfl ?_
                    cases hf
                    exact HJ139
                  · have hf := tq_ifn ep14.symm cc
                    refine tq_iconst (M := mL_refuses) (pc := 142) dL_refuses_142 tk_ki_m1 ?_
                    refine tq_iload_n (M := mL_refuses) (pc := 143) dL_refuses_143 rfl ?_
                    refine tq_isub (M := mL_refuses) (pc := 144) dL_refuses_144 ?_
                    refine tq_goto (M := mL_refuses) (pc := 145) (tgt := 152) dL_refuses_145 (by decide) ?_
                    refine tq_pick (L2 := [(0, .ref a0), (2, .int a2), (3, .int p1), (4, .int p4), (5, .int p7), (6, .int p8), (7, .int p9), (8, .int p10), (9, .int p12)]) [1, 2, 3, 4, 5, 6, 7, 8, 0] rfl ?_
                    cases hf
                    exact HJ139
              refine tq_icmp_ne (M := mL_refuses) (pc := 113) (tgt := 120) dL_refuses_113 (by decide) (fun cc => ?_) (fun cc => ?_)
              · have hf := tq_ifn ep12.symm cc
                refine tq_iconst (M := mL_refuses) (pc := 120) dL_refuses_120 tk_ki_0 ?_
                refine tq_pick (L2 := [(0, .ref a0), (2, .int a2), (3, .int p1), (4, .int p4), (5, .int p7), (6, .int p8), (7, .int p9), (8, .int p10)]) [1, 3, 4, 5, 6, 7, 8, 0] rfl ?_
                cases hf
                exact HJ113
              · have hf := tq_ifp ep12.symm cc
                refine tq_iconst (M := mL_refuses) (pc := 116) dL_refuses_116 tk_ki_1 ?_
                refine tq_goto (M := mL_refuses) (pc := 117) (tgt := 121) dL_refuses_117 (by decide) ?_
                refine tq_pick (L2 := [(0, .ref a0), (2, .int a2), (3, .int p1), (4, .int p4), (5, .int p7), (6, .int p8), (7, .int p9), (8, .int p10)]) [1, 3, 4, 5, 6, 7, 8, 0] rfl ?_
                cases hf
                exact HJ113
            refine tq_if_eq (M := mL_refuses) (pc := 93) (tgt := 102) dL_refuses_93 (by decide) (fun cc => ?_) (fun cc => ?_)
            · have hf := tq_ifp ep10.symm cc
              refine tq_bipush (M := mL_refuses) (pc := 102) dL_refuses_102 tk_kb_6 ?_
              refine tq_iload_n (M := mL_refuses) (pc := 104) dL_refuses_104 rfl ?_
              refine tq_iadd (M := mL_refuses) (pc := 105) dL_refuses_105 ?_
              refine tq_pick (L2 := [(0, .ref a0), (1, .ref a1), (2, .int a2), (3, .int p1), (4, .int p4), (5, .int p7), (6, .int p8), (7, .int p9)]) [1, 2, 3, 4, 5, 6, 7, 0] rfl ?_
              cases hf
              exact HJ93
            · have hf := tq_ifn ep10.symm cc
              refine tq_iconst (M := mL_refuses) (pc := 96) dL_refuses_96 tk_ki_m1 ?_
              refine tq_iload_n (M := mL_refuses) (pc := 97) dL_refuses_97 rfl ?_
              refine tq_isub (M := mL_refuses) (pc := 98) dL_refuses_98 ?_
              refine tq_goto (M := mL_refuses) (pc := 99) (tgt := 106) dL_refuses_99 (by decide) ?_
              refine tq_pick (L2 := [(0, .ref a0), (1, .ref a1), (2, .int a2), (3, .int p1), (4, .int p4), (5, .int p7), (6, .int p8), (7, .int p9)]) [1, 2, 3, 4, 5, 6, 7, 0] rfl ?_
              cases hf
              exact HJ93
          refine tq_if_eq (M := mL_refuses) (pc := 77) (tgt := 86) dL_refuses_77 (by decide) (fun cc => ?_) (fun cc => ?_)
          · have hf := tq_ifp ep9.symm cc
            refine tq_bipush (M := mL_refuses) (pc := 86) dL_refuses_86 tk_kb_6 ?_
            refine tq_iload_n (M := mL_refuses) (pc := 88) dL_refuses_88 rfl ?_
            refine tq_iadd (M := mL_refuses) (pc := 89) dL_refuses_89 ?_
            refine tq_pick (L2 := [(0, .ref a0), (1, .ref a1), (2, .int a2), (3, .int p1), (4, .int p4), (5, .int p7), (6, .int p8)]) [1, 2, 3, 4, 5, 6, 0] rfl ?_
            cases hf
            exact HJ77
          · have hf := tq_ifn ep9.symm cc
            refine tq_iconst (M := mL_refuses) (pc := 80) dL_refuses_80 tk_ki_m1 ?_
            refine tq_iload_n (M := mL_refuses) (pc := 81) dL_refuses_81 rfl ?_
            refine tq_isub (M := mL_refuses) (pc := 82) dL_refuses_82 ?_
            refine tq_goto (M := mL_refuses) (pc := 83) (tgt := 90) dL_refuses_83 (by decide) ?_
            refine tq_pick (L2 := [(0, .ref a0), (1, .ref a1), (2, .int a2), (3, .int p1), (4, .int p4), (5, .int p7), (6, .int p8)]) [1, 2, 3, 4, 5, 6, 0] rfl ?_
            cases hf
            exact HJ77
        refine tq_if_eq (M := mL_refuses) (pc := 61) (tgt := 70) dL_refuses_61 (by decide) (fun cc => ?_) (fun cc => ?_)
        · have hf := tq_ifp ep8.symm cc
          refine tq_bipush (M := mL_refuses) (pc := 70) dL_refuses_70 tk_kb_8 ?_
          refine tq_iload_n (M := mL_refuses) (pc := 72) dL_refuses_72 rfl ?_
          refine tq_iadd (M := mL_refuses) (pc := 73) dL_refuses_73 ?_
          refine tq_pick (L2 := [(0, .ref a0), (1, .ref a1), (2, .int a2), (3, .int p1), (4, .int p4), (5, .int p7)]) [1, 2, 3, 4, 5, 0] rfl ?_
          cases hf
          exact HJ61
        · have hf := tq_ifn ep8.symm cc
          refine tq_iconst (M := mL_refuses) (pc := 64) dL_refuses_64 tk_ki_m1 ?_
          refine tq_iload_n (M := mL_refuses) (pc := 65) dL_refuses_65 rfl ?_
          refine tq_isub (M := mL_refuses) (pc := 66) dL_refuses_66 ?_
          refine tq_goto (M := mL_refuses) (pc := 67) (tgt := 74) dL_refuses_67 (by decide) ?_
          refine tq_pick (L2 := [(0, .ref a0), (1, .ref a1), (2, .int a2), (3, .int p1), (4, .int p4), (5, .int p7)]) [1, 2, 3, 4, 5, 0] rfl ?_
          cases hf
          exact HJ61
      refine tq_if_eq (M := mL_refuses) (pc := 37) (tgt := 49) dL_refuses_37 (by decide) (fun cc => ?_) (fun cc => ?_)
      · have hf := tq_ifp ep7 cc
        refine tq_aload_n (M := mL_refuses) (pc := 49) dL_refuses_49 rfl ?_
        obtain ⟨⟨⟩, eu6, hf⟩ := tq_be hf
        obtain ⟨fsu6, eu6⟩ := tq_is_s eu6
        obtain ⟨v5, ev5, hf⟩ := tq_be hf
        refine tq_calV (M := mL_refuses) (pc := 50) (S := []) tk_y_X10_paths tk_v_X10_paths tk_RL_175 dL_refuses_50 [] rfl (S0 := _) rfl eu6 rfl (Nat.le_of_ble_eq_true rfl) (d1 := d - 1) (b1 := 0) (s1 := 0) (bc' := 90) (bs' := 8182) (Q1 := fun r h9 => r = .inl (some (.int v5)) ∧ h = h9) (by omega) rfl rfl (w_X10_paths (by omega) ev5 (fun _ _ q => q)) (fun E h9 q => nomatch (show (Sum.inr E : tq_R) = Sum.inl _ from q.1)) (fun r9 h9 q => ?_)
        obtain ⟨q1, rfl⟩ := q
        cases (show (Sum.inl r9 : tq_R) = Sum.inl (some (.int v5)) from q1)
        refine tq_iload_n (M := mL_refuses) (pc := 53) dL_refuses_53 rfl ?_
        refine tq_bipush (M := mL_refuses) (pc := 54) dL_refuses_54 tk_kb_50 ?_
        refine tq_irem (M := mL_refuses) (pc := 56) dL_refuses_56 (by decide +kernel) ?_
        refine tq_iadd (M := mL_refuses) (pc := 57) dL_refuses_57 ?_
        refine tq_pick (L2 := [(0, .ref a0), (1, .ref a1), (2, .int a2), (3, .int p1), (4, .int p4)]) [1, 2, 3, 4, 0] rfl ?_
        cases (Option.some.inj hf)
        exact HJ37
      · have hf := tq_ifn ep7 cc
        refine tq_iconst (M := mL_refuses) (pc := 40) dL_refuses_40 tk_ki_m1 ?_
        refine tq_iload_n (M := mL_refuses) (pc := 41) dL_refuses_41 rfl ?_
        refine tq_bipush (M := mL_refuses) (pc := 42) dL_refuses_42 tk_kb_50 ?_
        refine tq_irem (M := mL_refuses) (pc := 44) dL_refuses_44 (by decide +kernel) ?_
        refine tq_isub (M := mL_refuses) (pc := 45) dL_refuses_45 ?_
        refine tq_goto (M := mL_refuses) (pc := 46) (tgt := 58) dL_refuses_46 (by decide) ?_
        refine tq_pick (L2 := [(0, .ref a0), (1, .ref a1), (2, .int a2), (3, .int p1), (4, .int p4)]) [1, 2, 3, 4, 0] rfl ?_
        cases (Option.some.inj hf)
        exact HJ37
    refine tq_if_eq (M := mL_refuses) (pc := 13) (tgt := 25) dL_refuses_13 (by decide) (fun cc => ?_) (fun cc => ?_)
    · have hf := tq_ifp ep4 cc
      refine tq_aload_n (M := mL_refuses) (pc := 25) dL_refuses_25 rfl ?_
      obtain ⟨⟨⟩, eu3, hf⟩ := tq_be hf
      obtain ⟨fsu3, eu3⟩ := tq_is_s eu3
      obtain ⟨v2, ev2, hf⟩ := tq_be hf
      refine tq_calV (M := mL_refuses) (pc := 26) (S := []) tk_y_X10_made tk_v_X10_made tk_RL_172 dL_refuses_26 [] rfl (S0 := _) rfl eu3 rfl (Nat.le_of_ble_eq_true rfl) (d1 := d - 1) (b1 := 0) (s1 := 0) (bc' := 90) (bs' := 8182) (Q1 := fun r h9 => r = .inl (some (.int v2)) ∧ h = h9) (by omega) rfl rfl (w_X10_made (by omega) ev2 (fun _ _ q => q)) (fun E h9 q => nomatch (show (Sum.inr E : tq_R) = Sum.inl _ from q.1)) (fun r9 h9 q => ?_)
      obtain ⟨q1, rfl⟩ := q
      cases (show (Sum.inl r9 : tq_R) = Sum.inl (some (.int v2)) from q1)
      refine tq_iload_n (M := mL_refuses) (pc := 29) dL_refuses_29 rfl ?_
      refine tq_bipush (M := mL_refuses) (pc := 30) dL_refuses_30 tk_kb_50 ?_
      refine tq_irem (M := mL_refuses) (pc := 32) dL_refuses_32 (by decide +kernel) ?_
      refine tq_iadd (M := mL_refuses) (pc := 33) dL_refuses_33 ?_
      refine tq_pick (L2 := [(0, .ref a0), (1, .ref a1), (2, .int a2), (3, .int p1)]) [1, 2, 3, 0] rfl ?_
      cases (Option.some.inj hf)
      exact HJ13
    · have hf := tq_ifn ep4 cc
      refine tq_iconst (M := mL_refuses) (pc := 16) dL_refuses_16 tk_ki_m1 ?_
      refine tq_iload_n (M := mL_refuses) (pc := 17) dL_refuses_17 rfl ?_
      refine tq_bipush (M := mL_refuses) (pc := 18) dL_refuses_18 tk_kb_50 ?_
      refine tq_irem (M := mL_refuses) (pc := 20) dL_refuses_20 (by decide +kernel) ?_
      refine tq_isub (M := mL_refuses) (pc := 21) dL_refuses_21 ?_
      refine tq_goto (M := mL_refuses) (pc := 22) (tgt := 34) dL_refuses_22 (by decide) ?_
      refine tq_pick (L2 := [(0, .ref a0), (1, .ref a1), (2, .int a2), (3, .int p1)]) [1, 2, 3, 0] rfl ?_
      cases (Option.some.inj hf)
      exact HJ13
  refine tq_if_ne (M := mL_refuses) (pc := 3) (tgt := 10) dL_refuses_3 (by decide) (fun cc => ?_) (fun cc => ?_)
  · have hf := tq_ifn ep1.symm cc
    refine tq_iconst (M := mL_refuses) (pc := 10) dL_refuses_10 tk_ki_0 ?_
    cases hf
    exact HJ3
  · have hf := tq_ifp ep1.symm cc
    refine tq_iconst (M := mL_refuses) (pc := 6) dL_refuses_6 tk_ki_1 ?_
    refine tq_goto (M := mL_refuses) (pc := 7) (tgt := 11) dL_refuses_7 (by decide) ?_
    cases hf
    exact HJ3
