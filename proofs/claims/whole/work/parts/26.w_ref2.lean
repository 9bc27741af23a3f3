/-! ===== printed by wip/whole/tools: TreequeryModel 2 ===== -/
abbrev cX11_repeated : ByteArray := prog_13_method_72_code
def yX11_repeated : MethodName := ⟨RX11, "repeated", "(II)J"⟩
theorem dX11_repeated_0 : decode cX11_repeated 0 = .ok (.aload_n 0, 1) := by decide +kernel
theorem dX11_repeated_1 : decode cX11_repeated 1 = .ok (.getfield 80, 3) := by decide +kernel
theorem dX11_repeated_4 : decode cX11_repeated 4 = .ok (.bipush 60, 2) := by decide +kernel
theorem dX11_repeated_6 : decode cX11_repeated 6 = .ok (.iload_n 1, 1) := by decide +kernel
theorem dX11_repeated_7 : decode cX11_repeated 7 = .ok (.imul, 1) := by decide +kernel
theorem dX11_repeated_8 : decode cX11_repeated 8 = .ok (.iload_n 2, 1) := by decide +kernel
theorem dX11_repeated_9 : decode cX11_repeated 9 = .ok (.iadd, 1) := by decide +kernel
theorem dX11_repeated_10 : decode cX11_repeated 10 = .ok (.laload, 1) := by decide +kernel
theorem dX11_repeated_11 : decode cX11_repeated 11 = .ok (.lstore_n 3, 1) := by decide +kernel
theorem dX11_repeated_12 : decode cX11_repeated 12 = .ok (.iconst 1, 1) := by decide +kernel
theorem dX11_repeated_13 : decode cX11_repeated 13 = .ok (.istore 5, 2) := by decide +kernel
theorem dX11_repeated_15 : decode cX11_repeated 15 = .ok (.iload 5, 2) := by decide +kernel
theorem dX11_repeated_17 : decode cX11_repeated 17 = .ok (.ifCond .eq 86, 3) := by decide +kernel
theorem dX11_repeated_20 : decode cX11_repeated 20 = .ok (.lload_n 3, 1) := by decide +kernel
theorem dX11_repeated_21 : decode cX11_repeated 21 = .ok (.lstore 6, 2) := by decide +kernel
theorem dX11_repeated_23 : decode cX11_repeated 23 = .ok (.iconst 0, 1) := by decide +kernel
theorem dX11_repeated_24 : decode cX11_repeated 24 = .ok (.istore 8, 2) := by decide +kernel
theorem dX11_repeated_26 : decode cX11_repeated 26 = .ok (.iload 8, 2) := by decide +kernel
theorem dX11_repeated_28 : decode cX11_repeated 28 = .ok (.aload_n 0, 1) := by decide +kernel
theorem dX11_repeated_29 : decode cX11_repeated 29 = .ok (.getfield 173, 3) := by decide +kernel
theorem dX11_repeated_32 : decode cX11_repeated 32 = .ok (.if_icmp .ge 51, 3) := by decide +kernel
theorem dX11_repeated_35 : decode cX11_repeated 35 = .ok (.lload 6, 2) := by decide +kernel
theorem dX11_repeated_37 : decode cX11_repeated 37 = .ok (.lload_n 3, 1) := by decide +kernel
theorem dX11_repeated_38 : decode cX11_repeated 38 = .ok (.aload_n 0, 1) := by decide +kernel
theorem dX11_repeated_39 : decode cX11_repeated 39 = .ok (.getfield 35, 3) := by decide +kernel
theorem dX11_repeated_42 : decode cX11_repeated 42 = .ok (.iload 8, 2) := by decide +kernel
theorem dX11_repeated_44 : decode cX11_repeated 44 = .ok (.iaload, 1) := by decide +kernel
theorem dX11_repeated_45 : decode cX11_repeated 45 = .ok (.lshr, 1) := by decide +kernel
theorem dX11_repeated_46 : decode cX11_repeated 46 = .ok (.lconst 1, 1) := by decide +kernel
theorem dX11_repeated_47 : decode cX11_repeated 47 = .ok (.land, 1) := by decide +kernel
theorem dX11_repeated_48 : decode cX11_repeated 48 = .ok (.lconst 1, 1) := by decide +kernel
theorem dX11_repeated_49 : decode cX11_repeated 49 = .ok (.lcmp, 1) := by decide +kernel
theorem dX11_repeated_50 : decode cX11_repeated 50 = .ok (.ifCond .ne 23, 3) := by decide +kernel
theorem dX11_repeated_53 : decode cX11_repeated 53 = .ok (.aload_n 0, 1) := by decide +kernel
theorem dX11_repeated_54 : decode cX11_repeated 54 = .ok (.getfield 80, 3) := by decide +kernel
theorem dX11_repeated_57 : decode cX11_repeated 57 = .ok (.bipush 60, 2) := by decide +kernel
theorem dX11_repeated_59 : decode cX11_repeated 59 = .ok (.iload_n 1, 1) := by decide +kernel
theorem dX11_repeated_60 : decode cX11_repeated 60 = .ok (.imul, 1) := by decide +kernel
theorem dX11_repeated_61 : decode cX11_repeated 61 = .ok (.aload_n 0, 1) := by decide +kernel
theorem dX11_repeated_62 : decode cX11_repeated 62 = .ok (.getfield 35, 3) := by decide +kernel
theorem dX11_repeated_65 : decode cX11_repeated 65 = .ok (.iload 8, 2) := by decide +kernel
theorem dX11_repeated_67 : decode cX11_repeated 67 = .ok (.iaload, 1) := by decide +kernel
theorem dX11_repeated_68 : decode cX11_repeated 68 = .ok (.iadd, 1) := by decide +kernel
theorem dX11_repeated_69 : decode cX11_repeated 69 = .ok (.laload, 1) := by decide +kernel
theorem dX11_repeated_70 : decode cX11_repeated 70 = .ok (.goto 4, 3) := by decide +kernel
theorem dX11_repeated_73 : decode cX11_repeated 73 = .ok (.lconst 0, 1) := by decide +kernel
theorem dX11_repeated_74 : decode cX11_repeated 74 = .ok (.lor, 1) := by decide +kernel
theorem dX11_repeated_75 : decode cX11_repeated 75 = .ok (.lstore 6, 2) := by decide +kernel
theorem dX11_repeated_77 : decode cX11_repeated 77 = .ok (.iinc 8 1, 3) := by decide +kernel
theorem dX11_repeated_80 : decode cX11_repeated 80 = .ok (.goto (-54), 3) := by decide +kernel
theorem dX11_repeated_83 : decode cX11_repeated 83 = .ok (.lload 6, 2) := by decide +kernel
theorem dX11_repeated_85 : decode cX11_repeated 85 = .ok (.lload_n 3, 1) := by decide +kernel
theorem dX11_repeated_86 : decode cX11_repeated 86 = .ok (.lcmp, 1) := by decide +kernel
theorem dX11_repeated_87 : decode cX11_repeated 87 = .ok (.ifCond .eq 7, 3) := by decide +kernel
theorem dX11_repeated_90 : decode cX11_repeated 90 = .ok (.iconst 1, 1) := by decide +kernel
theorem dX11_repeated_91 : decode cX11_repeated 91 = .ok (.goto 4, 3) := by decide +kernel
theorem dX11_repeated_94 : decode cX11_repeated 94 = .ok (.iconst 0, 1) := by decide +kernel
theorem dX11_repeated_95 : decode cX11_repeated 95 = .ok (.istore 5, 2) := by decide +kernel
theorem dX11_repeated_97 : decode cX11_repeated 97 = .ok (.lload 6, 2) := by decide +kernel
theorem dX11_repeated_99 : decode cX11_repeated 99 = .ok (.lstore_n 3, 1) := by decide +kernel
theorem dX11_repeated_100 : decode cX11_repeated 100 = .ok (.goto (-85), 3) := by decide +kernel
theorem dX11_repeated_103 : decode cX11_repeated 103 = .ok (.lload_n 3, 1) := by decide +kernel
theorem dX11_repeated_104 : decode cX11_repeated 104 = .ok (.lreturn, 1) := by decide +kernel
abbrev cX11_axis : ByteArray := prog_13_method_71_code
def yX11_axis : MethodName := ⟨RX11, "axis", "(III)J"⟩
theorem dX11_axis_0 : decode cX11_axis 0 = .ok (.lconst 0, 1) := by decide +kernel
theorem dX11_axis_1 : decode cX11_axis 1 = .ok (.lstore 4, 2) := by decide +kernel
theorem dX11_axis_3 : decode cX11_axis 3 = .ok (.iconst 0, 1) := by decide +kernel
theorem dX11_axis_4 : decode cX11_axis 4 = .ok (.istore 6, 2) := by decide +kernel
theorem dX11_axis_6 : decode cX11_axis 6 = .ok (.iload 6, 2) := by decide +kernel
theorem dX11_axis_8 : decode cX11_axis 8 = .ok (.aload_n 0, 1) := by decide +kernel
theorem dX11_axis_9 : decode cX11_axis 9 = .ok (.getfield 173, 3) := by decide +kernel
theorem dX11_axis_12 : decode cX11_axis 12 = .ok (.if_icmp .ge 492, 3) := by decide +kernel
theorem dX11_axis_15 : decode cX11_axis 15 = .ok (.aload_n 0, 1) := by decide +kernel
theorem dX11_axis_16 : decode cX11_axis 16 = .ok (.getfield 35, 3) := by decide +kernel
theorem dX11_axis_19 : decode cX11_axis 19 = .ok (.iload 6, 2) := by decide +kernel
theorem dX11_axis_21 : decode cX11_axis 21 = .ok (.iaload, 1) := by decide +kernel
theorem dX11_axis_22 : decode cX11_axis 22 = .ok (.istore 7, 2) := by decide +kernel
theorem dX11_axis_24 : decode cX11_axis 24 = .ok (.aload_n 0, 1) := by decide +kernel
theorem dX11_axis_25 : decode cX11_axis 25 = .ok (.getfield 7, 3) := by decide +kernel
theorem dX11_axis_28 : decode cX11_axis 28 = .ok (.iload 7, 2) := by decide +kernel
theorem dX11_axis_30 : decode cX11_axis 30 = .ok (.iaload, 1) := by decide +kernel
theorem dX11_axis_31 : decode cX11_axis 31 = .ok (.iconst 2, 1) := by decide +kernel
theorem dX11_axis_32 : decode cX11_axis 32 = .ok (.if_icmp .eq 7, 3) := by decide +kernel
theorem dX11_axis_35 : decode cX11_axis 35 = .ok (.iconst 1, 1) := by decide +kernel
theorem dX11_axis_36 : decode cX11_axis 36 = .ok (.goto 4, 3) := by decide +kernel
theorem dX11_axis_39 : decode cX11_axis 39 = .ok (.iconst 0, 1) := by decide +kernel
theorem dX11_axis_40 : decode cX11_axis 40 = .ok (.istore 8, 2) := by decide +kernel
theorem dX11_axis_42 : decode cX11_axis 42 = .ok (.aload_n 0, 1) := by decide +kernel
theorem dX11_axis_43 : decode cX11_axis 43 = .ok (.iload 7, 2) := by decide +kernel
theorem dX11_axis_45 : decode cX11_axis 45 = .ok (.iload_n 3, 1) := by decide +kernel
theorem dX11_axis_46 : decode cX11_axis 46 = .ok (.invokevirtual 187, 3) := by decide +kernel
theorem dX11_axis_49 : decode cX11_axis 49 = .ok (.istore 9, 2) := by decide +kernel
theorem dX11_axis_51 : decode cX11_axis 51 = .ok (.aload_n 0, 1) := by decide +kernel
theorem dX11_axis_52 : decode cX11_axis 52 = .ok (.iload_n 3, 1) := by decide +kernel
theorem dX11_axis_53 : decode cX11_axis 53 = .ok (.iload 7, 2) := by decide +kernel
theorem dX11_axis_55 : decode cX11_axis 55 = .ok (.invokevirtual 187, 3) := by decide +kernel
theorem dX11_axis_58 : decode cX11_axis 58 = .ok (.istore 10, 2) := by decide +kernel
theorem dX11_axis_60 : decode cX11_axis 60 = .ok (.iload 8, 2) := by decide +kernel
theorem dX11_axis_62 : decode cX11_axis 62 = .ok (.ifCond .eq 50, 3) := by decide +kernel
theorem dX11_axis_65 : decode cX11_axis 65 = .ok (.aload_n 0, 1) := by decide +kernel
theorem dX11_axis_66 : decode cX11_axis 66 = .ok (.getfield 7, 3) := by decide +kernel
theorem dX11_axis_69 : decode cX11_axis 69 = .ok (.iload_n 3, 1) := by decide +kernel
theorem dX11_axis_70 : decode cX11_axis 70 = .ok (.iaload, 1) := by decide +kernel
theorem dX11_axis_71 : decode cX11_axis 71 = .ok (.iconst 2, 1) := by decide +kernel
theorem dX11_axis_72 : decode cX11_axis 72 = .ok (.if_icmp .eq 40, 3) := by decide +kernel
theorem dX11_axis_75 : decode cX11_axis 75 = .ok (.iload 7, 2) := by decide +kernel
theorem dX11_axis_77 : decode cX11_axis 77 = .ok (.iload_n 3, 1) := by decide +kernel
theorem dX11_axis_78 : decode cX11_axis 78 = .ok (.if_icmp .eq 34, 3) := by decide +kernel
theorem dX11_axis_81 : decode cX11_axis 81 = .ok (.aload_n 0, 1) := by decide +kernel
theorem dX11_axis_82 : decode cX11_axis 82 = .ok (.getfield 22, 3) := by decide +kernel
theorem dX11_axis_85 : decode cX11_axis 85 = .ok (.iload 7, 2) := by decide +kernel
theorem dX11_axis_87 : decode cX11_axis 87 = .ok (.iaload, 1) := by decide +kernel
theorem dX11_axis_88 : decode cX11_axis 88 = .ok (.iconst (-1), 1) := by decide +kernel
theorem dX11_axis_89 : decode cX11_axis 89 = .ok (.if_icmp .eq 23, 3) := by decide +kernel
theorem dX11_axis_92 : decode cX11_axis 92 = .ok (.aload_n 0, 1) := by decide +kernel
theorem dX11_axis_93 : decode cX11_axis 93 = .ok (.getfield 22, 3) := by decide +kernel
theorem dX11_axis_96 : decode cX11_axis 96 = .ok (.iload 7, 2) := by decide +kernel
theorem dX11_axis_98 : decode cX11_axis 98 = .ok (.iaload, 1) := by decide +kernel
theorem dX11_axis_99 : decode cX11_axis 99 = .ok (.aload_n 0, 1) := by decide +kernel
theorem dX11_axis_100 : decode cX11_axis 100 = .ok (.getfield 22, 3) := by decide +kernel
theorem dX11_axis_103 : decode cX11_axis 103 = .ok (.iload_n 3, 1) := by decide +kernel
theorem dX11_axis_104 : decode cX11_axis 104 = .ok (.iaload, 1) := by decide +kernel
theorem dX11_axis_105 : decode cX11_axis 105 = .ok (.if_icmp .ne 7, 3) := by decide +kernel
theorem dX11_axis_108 : decode cX11_axis 108 = .ok (.iconst 1, 1) := by decide +kernel
theorem dX11_axis_109 : decode cX11_axis 109 = .ok (.goto 4, 3) := by decide +kernel
theorem dX11_axis_112 : decode cX11_axis 112 = .ok (.iconst 0, 1) := by decide +kernel
theorem dX11_axis_113 : decode cX11_axis 113 = .ok (.istore 11, 2) := by decide +kernel
theorem dX11_axis_115 : decode cX11_axis 115 = .ok (.iconst 0, 1) := by decide +kernel
theorem dX11_axis_116 : decode cX11_axis 116 = .ok (.istore 12, 2) := by decide +kernel
theorem dX11_axis_118 : decode cX11_axis 118 = .ok (.iload_n 1, 1) := by decide +kernel
theorem dX11_axis_119 : decode cX11_axis 119 = .ok (.tableswitch 358 0 11 #[61, 77, 103, 124, 144, 170, 177, 198, 234, 270, 301, 332], 61) := by decide +kernel
theorem dX11_axis_180 : decode cX11_axis 180 = .ok (.iload 7, 2) := by decide +kernel
theorem dX11_axis_182 : decode cX11_axis 182 = .ok (.iload_n 3, 1) := by decide +kernel
theorem dX11_axis_183 : decode cX11_axis 183 = .ok (.if_icmp .ne 7, 3) := by decide +kernel
theorem dX11_axis_186 : decode cX11_axis 186 = .ok (.iconst 1, 1) := by decide +kernel
theorem dX11_axis_187 : decode cX11_axis 187 = .ok (.goto 4, 3) := by decide +kernel
theorem dX11_axis_190 : decode cX11_axis 190 = .ok (.iconst 0, 1) := by decide +kernel
theorem dX11_axis_191 : decode cX11_axis 191 = .ok (.istore 12, 2) := by decide +kernel
theorem dX11_axis_193 : decode cX11_axis 193 = .ok (.goto 287, 3) := by decide +kernel
theorem dX11_axis_196 : decode cX11_axis 196 = .ok (.iload 8, 2) := by decide +kernel
theorem dX11_axis_198 : decode cX11_axis 198 = .ok (.ifCond .eq 18, 3) := by decide +kernel
theorem dX11_axis_201 : decode cX11_axis 201 = .ok (.aload_n 0, 1) := by decide +kernel
theorem dX11_axis_202 : decode cX11_axis 202 = .ok (.getfield 22, 3) := by decide +kernel
theorem dX11_axis_205 : decode cX11_axis 205 = .ok (.iload 7, 2) := by decide +kernel
theorem dX11_axis_207 : decode cX11_axis 207 = .ok (.iaload, 1) := by decide +kernel
theorem dX11_axis_208 : decode cX11_axis 208 = .ok (.iload_n 3, 1) := by decide +kernel
theorem dX11_axis_209 : decode cX11_axis 209 = .ok (.if_icmp .ne 7, 3) := by decide +kernel
theorem dX11_axis_212 : decode cX11_axis 212 = .ok (.iconst 1, 1) := by decide +kernel
theorem dX11_axis_213 : decode cX11_axis 213 = .ok (.goto 4, 3) := by decide +kernel
theorem dX11_axis_216 : decode cX11_axis 216 = .ok (.iconst 0, 1) := by decide +kernel
theorem dX11_axis_217 : decode cX11_axis 217 = .ok (.istore 12, 2) := by decide +kernel
theorem dX11_axis_219 : decode cX11_axis 219 = .ok (.goto 261, 3) := by decide +kernel
theorem dX11_axis_222 : decode cX11_axis 222 = .ok (.aload_n 0, 1) := by decide +kernel
theorem dX11_axis_223 : decode cX11_axis 223 = .ok (.getfield 22, 3) := by decide +kernel
theorem dX11_axis_226 : decode cX11_axis 226 = .ok (.iload_n 3, 1) := by decide +kernel
theorem dX11_axis_227 : decode cX11_axis 227 = .ok (.iaload, 1) := by decide +kernel
theorem dX11_axis_228 : decode cX11_axis 228 = .ok (.iload 7, 2) := by decide +kernel
theorem dX11_axis_230 : decode cX11_axis 230 = .ok (.if_icmp .ne 7, 3) := by decide +kernel
theorem dX11_axis_233 : decode cX11_axis 233 = .ok (.iconst 1, 1) := by decide +kernel
theorem dX11_axis_234 : decode cX11_axis 234 = .ok (.goto 4, 3) := by decide +kernel
theorem dX11_axis_237 : decode cX11_axis 237 = .ok (.iconst 0, 1) := by decide +kernel
theorem dX11_axis_238 : decode cX11_axis 238 = .ok (.istore 12, 2) := by decide +kernel
theorem dX11_axis_240 : decode cX11_axis 240 = .ok (.goto 240, 3) := by decide +kernel
theorem dX11_axis_243 : decode cX11_axis 243 = .ok (.iload 8, 2) := by decide +kernel
theorem dX11_axis_245 : decode cX11_axis 245 = .ok (.ifCond .eq 12, 3) := by decide +kernel
theorem dX11_axis_248 : decode cX11_axis 248 = .ok (.iload 9, 2) := by decide +kernel
theorem dX11_axis_250 : decode cX11_axis 250 = .ok (.ifCond .eq 7, 3) := by decide +kernel
theorem dX11_axis_253 : decode cX11_axis 253 = .ok (.iconst 1, 1) := by decide +kernel
theorem dX11_axis_254 : decode cX11_axis 254 = .ok (.goto 4, 3) := by decide +kernel
theorem dX11_axis_257 : decode cX11_axis 257 = .ok (.iconst 0, 1) := by decide +kernel
theorem dX11_axis_258 : decode cX11_axis 258 = .ok (.istore 12, 2) := by decide +kernel
theorem dX11_axis_260 : decode cX11_axis 260 = .ok (.goto 220, 3) := by decide +kernel
theorem dX11_axis_263 : decode cX11_axis 263 = .ok (.iload 8, 2) := by decide +kernel
theorem dX11_axis_265 : decode cX11_axis 265 = .ok (.ifCond .eq 8, 3) := by decide +kernel
theorem dX11_axis_268 : decode cX11_axis 268 = .ok (.iload 9, 2) := by decide +kernel
theorem dX11_axis_270 : decode cX11_axis 270 = .ok (.ifCond .ne 9, 3) := by decide +kernel
theorem dX11_axis_273 : decode cX11_axis 273 = .ok (.iload 7, 2) := by decide +kernel
theorem dX11_axis_275 : decode cX11_axis 275 = .ok (.iload_n 3, 1) := by decide +kernel
theorem dX11_axis_276 : decode cX11_axis 276 = .ok (.if_icmp .ne 7, 3) := by decide +kernel
theorem dX11_axis_279 : decode cX11_axis 279 = .ok (.iconst 1, 1) := by decide +kernel
theorem dX11_axis_280 : decode cX11_axis 280 = .ok (.goto 4, 3) := by decide +kernel
theorem dX11_axis_283 : decode cX11_axis 283 = .ok (.iconst 0, 1) := by decide +kernel
theorem dX11_axis_284 : decode cX11_axis 284 = .ok (.istore 12, 2) := by decide +kernel
theorem dX11_axis_286 : decode cX11_axis 286 = .ok (.goto 194, 3) := by decide +kernel
theorem dX11_axis_289 : decode cX11_axis 289 = .ok (.iload 10, 2) := by decide +kernel
theorem dX11_axis_291 : decode cX11_axis 291 = .ok (.istore 12, 2) := by decide +kernel
theorem dX11_axis_293 : decode cX11_axis 293 = .ok (.goto 187, 3) := by decide +kernel
theorem dX11_axis_296 : decode cX11_axis 296 = .ok (.iload 10, 2) := by decide +kernel
theorem dX11_axis_298 : decode cX11_axis 298 = .ok (.ifCond .ne 9, 3) := by decide +kernel
theorem dX11_axis_301 : decode cX11_axis 301 = .ok (.iload 7, 2) := by decide +kernel
theorem dX11_axis_303 : decode cX11_axis 303 = .ok (.iload_n 3, 1) := by decide +kernel
theorem dX11_axis_304 : decode cX11_axis 304 = .ok (.if_icmp .ne 7, 3) := by decide +kernel
theorem dX11_axis_307 : decode cX11_axis 307 = .ok (.iconst 1, 1) := by decide +kernel
theorem dX11_axis_308 : decode cX11_axis 308 = .ok (.goto 4, 3) := by decide +kernel
theorem dX11_axis_311 : decode cX11_axis 311 = .ok (.iconst 0, 1) := by decide +kernel
theorem dX11_axis_312 : decode cX11_axis 312 = .ok (.istore 12, 2) := by decide +kernel
theorem dX11_axis_314 : decode cX11_axis 314 = .ok (.goto 166, 3) := by decide +kernel
theorem dX11_axis_317 : decode cX11_axis 317 = .ok (.iload 8, 2) := by decide +kernel
theorem dX11_axis_319 : decode cX11_axis 319 = .ok (.ifCond .eq 28, 3) := by decide +kernel
theorem dX11_axis_322 : decode cX11_axis 322 = .ok (.aload_n 0, 1) := by decide +kernel
theorem dX11_axis_323 : decode cX11_axis 323 = .ok (.getfield 38, 3) := by decide +kernel
theorem dX11_axis_326 : decode cX11_axis 326 = .ok (.iload 7, 2) := by decide +kernel
theorem dX11_axis_328 : decode cX11_axis 328 = .ok (.iaload, 1) := by decide +kernel
theorem dX11_axis_329 : decode cX11_axis 329 = .ok (.aload_n 0, 1) := by decide +kernel
theorem dX11_axis_330 : decode cX11_axis 330 = .ok (.getfield 38, 3) := by decide +kernel
theorem dX11_axis_333 : decode cX11_axis 333 = .ok (.iload_n 3, 1) := by decide +kernel
theorem dX11_axis_334 : decode cX11_axis 334 = .ok (.iaload, 1) := by decide +kernel
theorem dX11_axis_335 : decode cX11_axis 335 = .ok (.if_icmp .le 12, 3) := by decide +kernel
theorem dX11_axis_338 : decode cX11_axis 338 = .ok (.iload 9, 2) := by decide +kernel
theorem dX11_axis_340 : decode cX11_axis 340 = .ok (.ifCond .ne 7, 3) := by decide +kernel
theorem dX11_axis_343 : decode cX11_axis 343 = .ok (.iconst 1, 1) := by decide +kernel
theorem dX11_axis_344 : decode cX11_axis 344 = .ok (.goto 4, 3) := by decide +kernel
theorem dX11_axis_347 : decode cX11_axis 347 = .ok (.iconst 0, 1) := by decide +kernel
theorem dX11_axis_348 : decode cX11_axis 348 = .ok (.istore 12, 2) := by decide +kernel
theorem dX11_axis_350 : decode cX11_axis 350 = .ok (.goto 130, 3) := by decide +kernel
theorem dX11_axis_353 : decode cX11_axis 353 = .ok (.iload 8, 2) := by decide +kernel
theorem dX11_axis_355 : decode cX11_axis 355 = .ok (.ifCond .eq 28, 3) := by decide +kernel
theorem dX11_axis_358 : decode cX11_axis 358 = .ok (.aload_n 0, 1) := by decide +kernel
theorem dX11_axis_359 : decode cX11_axis 359 = .ok (.getfield 38, 3) := by decide +kernel
theorem dX11_axis_362 : decode cX11_axis 362 = .ok (.iload 7, 2) := by decide +kernel
theorem dX11_axis_364 : decode cX11_axis 364 = .ok (.iaload, 1) := by decide +kernel
theorem dX11_axis_365 : decode cX11_axis 365 = .ok (.aload_n 0, 1) := by decide +kernel
theorem dX11_axis_366 : decode cX11_axis 366 = .ok (.getfield 38, 3) := by decide +kernel
theorem dX11_axis_369 : decode cX11_axis 369 = .ok (.iload_n 3, 1) := by decide +kernel
theorem dX11_axis_370 : decode cX11_axis 370 = .ok (.iaload, 1) := by decide +kernel
theorem dX11_axis_371 : decode cX11_axis 371 = .ok (.if_icmp .ge 12, 3) := by decide +kernel
theorem dX11_axis_374 : decode cX11_axis 374 = .ok (.iload 10, 2) := by decide +kernel
theorem dX11_axis_376 : decode cX11_axis 376 = .ok (.ifCond .ne 7, 3) := by decide +kernel
theorem dX11_axis_379 : decode cX11_axis 379 = .ok (.iconst 1, 1) := by decide +kernel
theorem dX11_axis_380 : decode cX11_axis 380 = .ok (.goto 4, 3) := by decide +kernel
theorem dX11_axis_383 : decode cX11_axis 383 = .ok (.iconst 0, 1) := by decide +kernel
theorem dX11_axis_384 : decode cX11_axis 384 = .ok (.istore 12, 2) := by decide +kernel
theorem dX11_axis_386 : decode cX11_axis 386 = .ok (.goto 94, 3) := by decide +kernel
theorem dX11_axis_389 : decode cX11_axis 389 = .ok (.iload 11, 2) := by decide +kernel
theorem dX11_axis_391 : decode cX11_axis 391 = .ok (.ifCond .eq 23, 3) := by decide +kernel
theorem dX11_axis_394 : decode cX11_axis 394 = .ok (.aload_n 0, 1) := by decide +kernel
theorem dX11_axis_395 : decode cX11_axis 395 = .ok (.getfield 25, 3) := by decide +kernel
theorem dX11_axis_398 : decode cX11_axis 398 = .ok (.iload 7, 2) := by decide +kernel
theorem dX11_axis_400 : decode cX11_axis 400 = .ok (.iaload, 1) := by decide +kernel
theorem dX11_axis_401 : decode cX11_axis 401 = .ok (.aload_n 0, 1) := by decide +kernel
theorem dX11_axis_402 : decode cX11_axis 402 = .ok (.getfield 25, 3) := by decide +kernel
theorem dX11_axis_405 : decode cX11_axis 405 = .ok (.iload_n 3, 1) := by decide +kernel
theorem dX11_axis_406 : decode cX11_axis 406 = .ok (.iaload, 1) := by decide +kernel
theorem dX11_axis_407 : decode cX11_axis 407 = .ok (.if_icmp .le 7, 3) := by decide +kernel
theorem dX11_axis_410 : decode cX11_axis 410 = .ok (.iconst 1, 1) := by decide +kernel
theorem dX11_axis_411 : decode cX11_axis 411 = .ok (.goto 4, 3) := by decide +kernel
theorem dX11_axis_414 : decode cX11_axis 414 = .ok (.iconst 0, 1) := by decide +kernel
theorem dX11_axis_415 : decode cX11_axis 415 = .ok (.istore 12, 2) := by decide +kernel
theorem dX11_axis_417 : decode cX11_axis 417 = .ok (.goto 63, 3) := by decide +kernel
theorem dX11_axis_420 : decode cX11_axis 420 = .ok (.iload 11, 2) := by decide +kernel
theorem dX11_axis_422 : decode cX11_axis 422 = .ok (.ifCond .eq 23, 3) := by decide +kernel
theorem dX11_axis_425 : decode cX11_axis 425 = .ok (.aload_n 0, 1) := by decide +kernel
theorem dX11_axis_426 : decode cX11_axis 426 = .ok (.getfield 25, 3) := by decide +kernel
theorem dX11_axis_429 : decode cX11_axis 429 = .ok (.iload 7, 2) := by decide +kernel
theorem dX11_axis_431 : decode cX11_axis 431 = .ok (.iaload, 1) := by decide +kernel
theorem dX11_axis_432 : decode cX11_axis 432 = .ok (.aload_n 0, 1) := by decide +kernel
theorem dX11_axis_433 : decode cX11_axis 433 = .ok (.getfield 25, 3) := by decide +kernel
theorem dX11_axis_436 : decode cX11_axis 436 = .ok (.iload_n 3, 1) := by decide +kernel
theorem dX11_axis_437 : decode cX11_axis 437 = .ok (.iaload, 1) := by decide +kernel
theorem dX11_axis_438 : decode cX11_axis 438 = .ok (.if_icmp .ge 7, 3) := by decide +kernel
theorem dX11_axis_441 : decode cX11_axis 441 = .ok (.iconst 1, 1) := by decide +kernel
theorem dX11_axis_442 : decode cX11_axis 442 = .ok (.goto 4, 3) := by decide +kernel
theorem dX11_axis_445 : decode cX11_axis 445 = .ok (.iconst 0, 1) := by decide +kernel
theorem dX11_axis_446 : decode cX11_axis 446 = .ok (.istore 12, 2) := by decide +kernel
theorem dX11_axis_448 : decode cX11_axis 448 = .ok (.goto 32, 3) := by decide +kernel
theorem dX11_axis_451 : decode cX11_axis 451 = .ok (.iload 8, 2) := by decide +kernel
theorem dX11_axis_453 : decode cX11_axis 453 = .ok (.ifCond .ne 18, 3) := by decide +kernel
theorem dX11_axis_456 : decode cX11_axis 456 = .ok (.aload_n 0, 1) := by decide +kernel
theorem dX11_axis_457 : decode cX11_axis 457 = .ok (.getfield 22, 3) := by decide +kernel
theorem dX11_axis_460 : decode cX11_axis 460 = .ok (.iload 7, 2) := by decide +kernel
theorem dX11_axis_462 : decode cX11_axis 462 = .ok (.iaload, 1) := by decide +kernel
theorem dX11_axis_463 : decode cX11_axis 463 = .ok (.iload_n 3, 1) := by decide +kernel
theorem dX11_axis_464 : decode cX11_axis 464 = .ok (.if_icmp .ne 7, 3) := by decide +kernel
theorem dX11_axis_467 : decode cX11_axis 467 = .ok (.iconst 1, 1) := by decide +kernel
theorem dX11_axis_468 : decode cX11_axis 468 = .ok (.goto 4, 3) := by decide +kernel
theorem dX11_axis_471 : decode cX11_axis 471 = .ok (.iconst 0, 1) := by decide +kernel
theorem dX11_axis_472 : decode cX11_axis 472 = .ok (.istore 12, 2) := by decide +kernel
theorem dX11_axis_474 : decode cX11_axis 474 = .ok (.goto 6, 3) := by decide +kernel
theorem dX11_axis_477 : decode cX11_axis 477 = .ok (.iconst 0, 1) := by decide +kernel
theorem dX11_axis_478 : decode cX11_axis 478 = .ok (.istore 12, 2) := by decide +kernel
theorem dX11_axis_480 : decode cX11_axis 480 = .ok (.lload 4, 2) := by decide +kernel
theorem dX11_axis_482 : decode cX11_axis 482 = .ok (.iload 12, 2) := by decide +kernel
theorem dX11_axis_484 : decode cX11_axis 484 = .ok (.ifCond .eq 10, 3) := by decide +kernel
theorem dX11_axis_487 : decode cX11_axis 487 = .ok (.lconst 1, 1) := by decide +kernel
theorem dX11_axis_488 : decode cX11_axis 488 = .ok (.iload 7, 2) := by decide +kernel
theorem dX11_axis_490 : decode cX11_axis 490 = .ok (.lshl, 1) := by decide +kernel
theorem dX11_axis_491 : decode cX11_axis 491 = .ok (.goto 4, 3) := by decide +kernel
theorem dX11_axis_494 : decode cX11_axis 494 = .ok (.lconst 0, 1) := by decide +kernel
theorem dX11_axis_495 : decode cX11_axis 495 = .ok (.lor, 1) := by decide +kernel
theorem dX11_axis_496 : decode cX11_axis 496 = .ok (.lstore 4, 2) := by decide +kernel
theorem dX11_axis_498 : decode cX11_axis 498 = .ok (.iinc 6 1, 3) := by decide +kernel
theorem dX11_axis_501 : decode cX11_axis 501 = .ok (.goto (-495), 3) := by decide +kernel
theorem dX11_axis_504 : decode cX11_axis 504 = .ok (.iload_n 1, 1) := by decide +kernel
theorem dX11_axis_505 : decode cX11_axis 505 = .ok (.bipush 12, 2) := by decide +kernel
theorem dX11_axis_507 : decode cX11_axis 507 = .ok (.if_icmp .ne 12, 3) := by decide +kernel
theorem dX11_axis_510 : decode cX11_axis 510 = .ok (.aload_n 0, 1) := by decide +kernel
theorem dX11_axis_511 : decode cX11_axis 511 = .ok (.iload_n 2, 1) := by decide +kernel
theorem dX11_axis_512 : decode cX11_axis 512 = .ok (.iload_n 3, 1) := by decide +kernel
theorem dX11_axis_513 : decode cX11_axis 513 = .ok (.invokevirtual 321, 3) := by decide +kernel
theorem dX11_axis_516 : decode cX11_axis 516 = .ok (.goto 5, 3) := by decide +kernel
theorem dX11_axis_519 : decode cX11_axis 519 = .ok (.lload 4, 2) := by decide +kernel
theorem dX11_axis_521 : decode cX11_axis 521 = .ok (.aload_n 0, 1) := by decide +kernel
theorem dX11_axis_522 : decode cX11_axis 522 = .ok (.getfield 325, 3) := by decide +kernel
theorem dX11_axis_525 : decode cX11_axis 525 = .ok (.land, 1) := by decide +kernel
theorem dX11_axis_526 : decode cX11_axis 526 = .ok (.lreturn, 1) := by decide +kernel
abbrev cX11_passes : ByteArray := prog_13_method_73_code
def yX11_passes : MethodName := ⟨RX11, "passes", "(II)Z"⟩
theorem dX11_passes_0 : decode cX11_passes 0 = .ok (.iload_n 1, 1) := by decide +kernel
theorem dX11_passes_1 : decode cX11_passes 1 = .ok (.bipush 8, 2) := by decide +kernel
theorem dX11_passes_3 : decode cX11_passes 3 = .ok (.if_icmp .ge 31, 3) := by decide +kernel
theorem dX11_passes_6 : decode cX11_passes 6 = .ok (.aload_n 0, 1) := by decide +kernel
theorem dX11_passes_7 : decode cX11_passes 7 = .ok (.getfield 7, 3) := by decide +kernel
theorem dX11_passes_10 : decode cX11_passes 10 = .ok (.iload_n 2, 1) := by decide +kernel
theorem dX11_passes_11 : decode cX11_passes 11 = .ok (.iaload, 1) := by decide +kernel
theorem dX11_passes_12 : decode cX11_passes 12 = .ok (.iconst 1, 1) := by decide +kernel
theorem dX11_passes_13 : decode cX11_passes 13 = .ok (.if_icmp .eq 17, 3) := by decide +kernel
theorem dX11_passes_16 : decode cX11_passes 16 = .ok (.aload_n 0, 1) := by decide +kernel
theorem dX11_passes_17 : decode cX11_passes 17 = .ok (.getfield 13, 3) := by decide +kernel
theorem dX11_passes_20 : decode cX11_passes 20 = .ok (.iload_n 2, 1) := by decide +kernel
theorem dX11_passes_21 : decode cX11_passes 21 = .ok (.iaload, 1) := by decide +kernel
theorem dX11_passes_22 : decode cX11_passes 22 = .ok (.iload_n 1, 1) := by decide +kernel
theorem dX11_passes_23 : decode cX11_passes 23 = .ok (.if_icmp .ne 7, 3) := by decide +kernel
theorem dX11_passes_26 : decode cX11_passes 26 = .ok (.iconst 1, 1) := by decide +kernel
theorem dX11_passes_27 : decode cX11_passes 27 = .ok (.goto 58, 3) := by decide +kernel
theorem dX11_passes_30 : decode cX11_passes 30 = .ok (.iconst 0, 1) := by decide +kernel
theorem dX11_passes_31 : decode cX11_passes 31 = .ok (.goto 54, 3) := by decide +kernel
theorem dX11_passes_34 : decode cX11_passes 34 = .ok (.iload_n 1, 1) := by decide +kernel
theorem dX11_passes_35 : decode cX11_passes 35 = .ok (.bipush 8, 2) := by decide +kernel
theorem dX11_passes_37 : decode cX11_passes 37 = .ok (.if_icmp .eq 43, 3) := by decide +kernel
theorem dX11_passes_40 : decode cX11_passes 40 = .ok (.iload_n 1, 1) := by decide +kernel
theorem dX11_passes_41 : decode cX11_passes 41 = .ok (.bipush 9, 2) := by decide +kernel
theorem dX11_passes_43 : decode cX11_passes 43 = .ok (.if_icmp .ne 16, 3) := by decide +kernel
theorem dX11_passes_46 : decode cX11_passes 46 = .ok (.aload_n 0, 1) := by decide +kernel
theorem dX11_passes_47 : decode cX11_passes 47 = .ok (.getfield 7, 3) := by decide +kernel
theorem dX11_passes_50 : decode cX11_passes 50 = .ok (.iload_n 2, 1) := by decide +kernel
theorem dX11_passes_51 : decode cX11_passes 51 = .ok (.iaload, 1) := by decide +kernel
theorem dX11_passes_52 : decode cX11_passes 52 = .ok (.iconst 1, 1) := by decide +kernel
theorem dX11_passes_53 : decode cX11_passes 53 = .ok (.if_icmp .ne 31, 3) := by decide +kernel
theorem dX11_passes_56 : decode cX11_passes 56 = .ok (.goto 24, 3) := by decide +kernel
theorem dX11_passes_59 : decode cX11_passes 59 = .ok (.aload_n 0, 1) := by decide +kernel
theorem dX11_passes_60 : decode cX11_passes 60 = .ok (.getfield 7, 3) := by decide +kernel
theorem dX11_passes_63 : decode cX11_passes 63 = .ok (.iload_n 2, 1) := by decide +kernel
theorem dX11_passes_64 : decode cX11_passes 64 = .ok (.iaload, 1) := by decide +kernel
theorem dX11_passes_65 : decode cX11_passes 65 = .ok (.ifCond .ne 19, 3) := by decide +kernel
theorem dX11_passes_68 : decode cX11_passes 68 = .ok (.aload_n 0, 1) := by decide +kernel
theorem dX11_passes_69 : decode cX11_passes 69 = .ok (.iload_n 2, 1) := by decide +kernel
theorem dX11_passes_70 : decode cX11_passes 70 = .ok (.invokevirtual 293, 3) := by decide +kernel
theorem dX11_passes_73 : decode cX11_passes 73 = .ok (.iload_n 1, 1) := by decide +kernel
theorem dX11_passes_74 : decode cX11_passes 74 = .ok (.bipush 10, 2) := by decide +kernel
theorem dX11_passes_76 : decode cX11_passes 76 = .ok (.isub, 1) := by decide +kernel
theorem dX11_passes_77 : decode cX11_passes 77 = .ok (.if_icmp .ne 7, 3) := by decide +kernel
theorem dX11_passes_80 : decode cX11_passes 80 = .ok (.iconst 1, 1) := by decide +kernel
theorem dX11_passes_81 : decode cX11_passes 81 = .ok (.goto 4, 3) := by decide +kernel
theorem dX11_passes_84 : decode cX11_passes 84 = .ok (.iconst 0, 1) := by decide +kernel
theorem dX11_passes_85 : decode cX11_passes 85 = .ok (.ireturn, 1) := by decide +kernel
abbrev cX11_compares : ByteArray := prog_13_method_70_code
def yX11_compares : MethodName := ⟨RX11, "compares", "(III)Z"⟩
theorem dX11_compares_0 : decode cX11_compares 0 = .ok (.iload_n 0, 1) := by decide +kernel
theorem dX11_compares_1 : decode cX11_compares 1 = .ok (.ifCond .ne 16, 3) := by decide +kernel
theorem dX11_compares_4 : decode cX11_compares 4 = .ok (.iload_n 1, 1) := by decide +kernel
theorem dX11_compares_5 : decode cX11_compares 5 = .ok (.iload_n 2, 1) := by decide +kernel
theorem dX11_compares_6 : decode cX11_compares 6 = .ok (.if_icmp .ne 7, 3) := by decide +kernel
theorem dX11_compares_9 : decode cX11_compares 9 = .ok (.iconst 1, 1) := by decide +kernel
theorem dX11_compares_10 : decode cX11_compares 10 = .ok (.goto 35, 3) := by decide +kernel
theorem dX11_compares_13 : decode cX11_compares 13 = .ok (.iconst 0, 1) := by decide +kernel
theorem dX11_compares_14 : decode cX11_compares 14 = .ok (.goto 31, 3) := by decide +kernel
theorem dX11_compares_17 : decode cX11_compares 17 = .ok (.iload_n 0, 1) := by decide +kernel
theorem dX11_compares_18 : decode cX11_compares 18 = .ok (.iconst 1, 1) := by decide +kernel
theorem dX11_compares_19 : decode cX11_compares 19 = .ok (.if_icmp .ne 16, 3) := by decide +kernel
theorem dX11_compares_22 : decode cX11_compares 22 = .ok (.iload_n 1, 1) := by decide +kernel
theorem dX11_compares_23 : decode cX11_compares 23 = .ok (.iload_n 2, 1) := by decide +kernel
theorem dX11_compares_24 : decode cX11_compares 24 = .ok (.if_icmp .ge 7, 3) := by decide +kernel
theorem dX11_compares_27 : decode cX11_compares 27 = .ok (.iconst 1, 1) := by decide +kernel
theorem dX11_compares_28 : decode cX11_compares 28 = .ok (.goto 17, 3) := by decide +kernel
theorem dX11_compares_31 : decode cX11_compares 31 = .ok (.iconst 0, 1) := by decide +kernel
theorem dX11_compares_32 : decode cX11_compares 32 = .ok (.goto 13, 3) := by decide +kernel
theorem dX11_compares_35 : decode cX11_compares 35 = .ok (.iload_n 1, 1) := by decide +kernel
theorem dX11_compares_36 : decode cX11_compares 36 = .ok (.iload_n 2, 1) := by decide +kernel
theorem dX11_compares_37 : decode cX11_compares 37 = .ok (.if_icmp .le 7, 3) := by decide +kernel
theorem dX11_compares_40 : decode cX11_compares 40 = .ok (.iconst 1, 1) := by decide +kernel
theorem dX11_compares_41 : decode cX11_compares 41 = .ok (.goto 4, 3) := by decide +kernel
theorem dX11_compares_44 : decode cX11_compares 44 = .ok (.iconst 0, 1) := by decide +kernel
theorem dX11_compares_45 : decode cX11_compares 45 = .ok (.ireturn, 1) := by decide +kernel
abbrev cX11_holds : ByteArray := prog_13_method_74_code
def yX11_holds : MethodName := ⟨RX11, "holds", "(IIII)Z"⟩
theorem dX11_holds_0 : decode cX11_holds 0 = .ok (.aload_n 0, 1) := by decide +kernel
theorem dX11_holds_1 : decode cX11_holds 1 = .ok (.getfield 77, 3) := by decide +kernel
theorem dX11_holds_4 : decode cX11_holds 4 = .ok (.iload_n 1, 1) := by decide +kernel
theorem dX11_holds_5 : decode cX11_holds 5 = .ok (.iaload, 1) := by decide +kernel
theorem dX11_holds_6 : decode cX11_holds 6 = .ok (.istore 5, 2) := by decide +kernel
theorem dX11_holds_8 : decode cX11_holds 8 = .ok (.iload 5, 2) := by decide +kernel
theorem dX11_holds_10 : decode cX11_holds 10 = .ok (.ifCond .ne 24, 3) := by decide +kernel
theorem dX11_holds_13 : decode cX11_holds 13 = .ok (.aload_n 0, 1) := by decide +kernel
theorem dX11_holds_14 : decode cX11_holds 14 = .ok (.getfield 77, 3) := by decide +kernel
theorem dX11_holds_17 : decode cX11_holds 17 = .ok (.iload_n 1, 1) := by decide +kernel
theorem dX11_holds_18 : decode cX11_holds 18 = .ok (.iconst 2, 1) := by decide +kernel
theorem dX11_holds_19 : decode cX11_holds 19 = .ok (.iadd, 1) := by decide +kernel
theorem dX11_holds_20 : decode cX11_holds 20 = .ok (.iaload, 1) := by decide +kernel
theorem dX11_holds_21 : decode cX11_holds 21 = .ok (.iload_n 3, 1) := by decide +kernel
theorem dX11_holds_22 : decode cX11_holds 22 = .ok (.aload_n 0, 1) := by decide +kernel
theorem dX11_holds_23 : decode cX11_holds 23 = .ok (.getfield 77, 3) := by decide +kernel
theorem dX11_holds_26 : decode cX11_holds 26 = .ok (.iload_n 1, 1) := by decide +kernel
theorem dX11_holds_27 : decode cX11_holds 27 = .ok (.iconst 3, 1) := by decide +kernel
theorem dX11_holds_28 : decode cX11_holds 28 = .ok (.iadd, 1) := by decide +kernel
theorem dX11_holds_29 : decode cX11_holds 29 = .ok (.iaload, 1) := by decide +kernel
theorem dX11_holds_30 : decode cX11_holds 30 = .ok (.invokestatic 329, 3) := by decide +kernel
theorem dX11_holds_33 : decode cX11_holds 33 = .ok (.ireturn, 1) := by decide +kernel
theorem dX11_holds_34 : decode cX11_holds 34 = .ok (.iload 5, 2) := by decide +kernel
theorem dX11_holds_36 : decode cX11_holds 36 = .ok (.iconst 1, 1) := by decide +kernel
theorem dX11_holds_37 : decode cX11_holds 37 = .ok (.if_icmp .ne 15, 3) := by decide +kernel
theorem dX11_holds_40 : decode cX11_holds 40 = .ok (.iload_n 3, 1) := by decide +kernel
theorem dX11_holds_41 : decode cX11_holds 41 = .ok (.iload 4, 2) := by decide +kernel
theorem dX11_holds_43 : decode cX11_holds 43 = .ok (.if_icmp .ne 7, 3) := by decide +kernel
theorem dX11_holds_46 : decode cX11_holds 46 = .ok (.iconst 1, 1) := by decide +kernel
theorem dX11_holds_47 : decode cX11_holds 47 = .ok (.goto 4, 3) := by decide +kernel
theorem dX11_holds_50 : decode cX11_holds 50 = .ok (.iconst 0, 1) := by decide +kernel
theorem dX11_holds_51 : decode cX11_holds 51 = .ok (.ireturn, 1) := by decide +kernel
theorem dX11_holds_52 : decode cX11_holds 52 = .ok (.aload_n 0, 1) := by decide +kernel
theorem dX11_holds_53 : decode cX11_holds 53 = .ok (.getfield 80, 3) := by decide +kernel
theorem dX11_holds_56 : decode cX11_holds 56 = .ok (.bipush 60, 2) := by decide +kernel
theorem dX11_holds_58 : decode cX11_holds 58 = .ok (.aload_n 0, 1) := by decide +kernel
theorem dX11_holds_59 : decode cX11_holds 59 = .ok (.getfield 77, 3) := by decide +kernel
theorem dX11_holds_62 : decode cX11_holds 62 = .ok (.iload_n 1, 1) := by decide +kernel
theorem dX11_holds_63 : decode cX11_holds 63 = .ok (.iconst 1, 1) := by decide +kernel
theorem dX11_holds_64 : decode cX11_holds 64 = .ok (.iadd, 1) := by decide +kernel
theorem dX11_holds_65 : decode cX11_holds 65 = .ok (.iaload, 1) := by decide +kernel
theorem dX11_holds_66 : decode cX11_holds 66 = .ok (.imul, 1) := by decide +kernel
theorem dX11_holds_67 : decode cX11_holds 67 = .ok (.iload_n 2, 1) := by decide +kernel
theorem dX11_holds_68 : decode cX11_holds 68 = .ok (.iadd, 1) := by decide +kernel
theorem dX11_holds_69 : decode cX11_holds 69 = .ok (.laload, 1) := by decide +kernel
theorem dX11_holds_70 : decode cX11_holds 70 = .ok (.lstore 6, 2) := by decide +kernel
theorem dX11_holds_72 : decode cX11_holds 72 = .ok (.iload 5, 2) := by decide +kernel
theorem dX11_holds_74 : decode cX11_holds 74 = .ok (.iconst 4, 1) := by decide +kernel
theorem dX11_holds_75 : decode cX11_holds 75 = .ok (.if_icmp .eq 35, 3) := by decide +kernel
theorem dX11_holds_78 : decode cX11_holds 78 = .ok (.lload 6, 2) := by decide +kernel
theorem dX11_holds_80 : decode cX11_holds 80 = .ok (.lconst 0, 1) := by decide +kernel
theorem dX11_holds_81 : decode cX11_holds 81 = .ok (.lcmp, 1) := by decide +kernel
theorem dX11_holds_82 : decode cX11_holds 82 = .ok (.ifCond .eq 7, 3) := by decide +kernel
theorem dX11_holds_85 : decode cX11_holds 85 = .ok (.iconst 1, 1) := by decide +kernel
theorem dX11_holds_86 : decode cX11_holds 86 = .ok (.goto 4, 3) := by decide +kernel
theorem dX11_holds_89 : decode cX11_holds 89 = .ok (.iconst 0, 1) := by decide +kernel
theorem dX11_holds_90 : decode cX11_holds 90 = .ok (.iload 5, 2) := by decide +kernel
theorem dX11_holds_92 : decode cX11_holds 92 = .ok (.iconst 2, 1) := by decide +kernel
theorem dX11_holds_93 : decode cX11_holds 93 = .ok (.if_icmp .ne 7, 3) := by decide +kernel
theorem dX11_holds_96 : decode cX11_holds 96 = .ok (.iconst 1, 1) := by decide +kernel
theorem dX11_holds_97 : decode cX11_holds 97 = .ok (.goto 4, 3) := by decide +kernel
theorem dX11_holds_100 : decode cX11_holds 100 = .ok (.iconst 0, 1) := by decide +kernel
theorem dX11_holds_101 : decode cX11_holds 101 = .ok (.if_icmp .ne 7, 3) := by decide +kernel
theorem dX11_holds_104 : decode cX11_holds 104 = .ok (.iconst 1, 1) := by decide +kernel
theorem dX11_holds_105 : decode cX11_holds 105 = .ok (.goto 4, 3) := by decide +kernel
theorem dX11_holds_108 : decode cX11_holds 108 = .ok (.iconst 0, 1) := by decide +kernel
theorem dX11_holds_109 : decode cX11_holds 109 = .ok (.ireturn, 1) := by decide +kernel
theorem dX11_holds_110 : decode cX11_holds 110 = .ok (.iconst 0, 1) := by decide +kernel
theorem dX11_holds_111 : decode cX11_holds 111 = .ok (.istore 8, 2) := by decide +kernel
theorem dX11_holds_113 : decode cX11_holds 113 = .ok (.iconst 0, 1) := by decide +kernel
theorem dX11_holds_114 : decode cX11_holds 114 = .ok (.istore 9, 2) := by decide +kernel
theorem dX11_holds_116 : decode cX11_holds 116 = .ok (.iload 9, 2) := by decide +kernel
theorem dX11_holds_118 : decode cX11_holds 118 = .ok (.aload_n 0, 1) := by decide +kernel
theorem dX11_holds_119 : decode cX11_holds 119 = .ok (.getfield 173, 3) := by decide +kernel
theorem dX11_holds_122 : decode cX11_holds 122 = .ok (.if_icmp .ge 89, 3) := by decide +kernel
theorem dX11_holds_125 : decode cX11_holds 125 = .ok (.lload 6, 2) := by decide +kernel
theorem dX11_holds_127 : decode cX11_holds 127 = .ok (.aload_n 0, 1) := by decide +kernel
theorem dX11_holds_128 : decode cX11_holds 128 = .ok (.getfield 35, 3) := by decide +kernel
theorem dX11_holds_131 : decode cX11_holds 131 = .ok (.iload 9, 2) := by decide +kernel
theorem dX11_holds_133 : decode cX11_holds 133 = .ok (.iaload, 1) := by decide +kernel
theorem dX11_holds_134 : decode cX11_holds 134 = .ok (.lshr, 1) := by decide +kernel
theorem dX11_holds_135 : decode cX11_holds 135 = .ok (.lconst 1, 1) := by decide +kernel
theorem dX11_holds_136 : decode cX11_holds 136 = .ok (.land, 1) := by decide +kernel
theorem dX11_holds_137 : decode cX11_holds 137 = .ok (.lconst 1, 1) := by decide +kernel
theorem dX11_holds_138 : decode cX11_holds 138 = .ok (.lcmp, 1) := by decide +kernel
theorem dX11_holds_139 : decode cX11_holds 139 = .ok (.ifCond .ne 21, 3) := by decide +kernel
theorem dX11_holds_142 : decode cX11_holds 142 = .ok (.aload_n 0, 1) := by decide +kernel
theorem dX11_holds_143 : decode cX11_holds 143 = .ok (.aload_n 0, 1) := by decide +kernel
theorem dX11_holds_144 : decode cX11_holds 144 = .ok (.getfield 35, 3) := by decide +kernel
theorem dX11_holds_147 : decode cX11_holds 147 = .ok (.iload 9, 2) := by decide +kernel
theorem dX11_holds_149 : decode cX11_holds 149 = .ok (.iaload, 1) := by decide +kernel
theorem dX11_holds_150 : decode cX11_holds 150 = .ok (.aload_n 0, 1) := by decide +kernel
theorem dX11_holds_151 : decode cX11_holds 151 = .ok (.getfield 325, 3) := by decide +kernel
theorem dX11_holds_154 : decode cX11_holds 154 = .ok (.invokevirtual 289, 3) := by decide +kernel
theorem dX11_holds_157 : decode cX11_holds 157 = .ok (.goto 4, 3) := by decide +kernel
theorem dX11_holds_160 : decode cX11_holds 160 = .ok (.iconst (-1), 1) := by decide +kernel
theorem dX11_holds_161 : decode cX11_holds 161 = .ok (.istore 10, 2) := by decide +kernel
theorem dX11_holds_163 : decode cX11_holds 163 = .ok (.iload 8, 2) := by decide +kernel
theorem dX11_holds_165 : decode cX11_holds 165 = .ok (.ifCond .ne 33, 3) := by decide +kernel
theorem dX11_holds_168 : decode cX11_holds 168 = .ok (.iload 10, 2) := by decide +kernel
theorem dX11_holds_170 : decode cX11_holds 170 = .ok (.iconst (-1), 1) := by decide +kernel
theorem dX11_holds_171 : decode cX11_holds 171 = .ok (.if_icmp .eq 31, 3) := by decide +kernel
theorem dX11_holds_174 : decode cX11_holds 174 = .ok (.aload_n 0, 1) := by decide +kernel
theorem dX11_holds_175 : decode cX11_holds 175 = .ok (.getfield 77, 3) := by decide +kernel
theorem dX11_holds_178 : decode cX11_holds 178 = .ok (.iload_n 1, 1) := by decide +kernel
theorem dX11_holds_179 : decode cX11_holds 179 = .ok (.iconst 2, 1) := by decide +kernel
theorem dX11_holds_180 : decode cX11_holds 180 = .ok (.iadd, 1) := by decide +kernel
theorem dX11_holds_181 : decode cX11_holds 181 = .ok (.iaload, 1) := by decide +kernel
theorem dX11_holds_182 : decode cX11_holds 182 = .ok (.iload 10, 2) := by decide +kernel
theorem dX11_holds_184 : decode cX11_holds 184 = .ok (.aload_n 0, 1) := by decide +kernel
theorem dX11_holds_185 : decode cX11_holds 185 = .ok (.getfield 77, 3) := by decide +kernel
theorem dX11_holds_188 : decode cX11_holds 188 = .ok (.iload_n 1, 1) := by decide +kernel
theorem dX11_holds_189 : decode cX11_holds 189 = .ok (.iconst 3, 1) := by decide +kernel
theorem dX11_holds_190 : decode cX11_holds 190 = .ok (.iadd, 1) := by decide +kernel
theorem dX11_holds_191 : decode cX11_holds 191 = .ok (.iaload, 1) := by decide +kernel
theorem dX11_holds_192 : decode cX11_holds 192 = .ok (.invokestatic 329, 3) := by decide +kernel
theorem dX11_holds_195 : decode cX11_holds 195 = .ok (.ifCond .eq 7, 3) := by decide +kernel
theorem dX11_holds_198 : decode cX11_holds 198 = .ok (.iconst 1, 1) := by decide +kernel
theorem dX11_holds_199 : decode cX11_holds 199 = .ok (.goto 4, 3) := by decide +kernel
theorem dX11_holds_202 : decode cX11_holds 202 = .ok (.iconst 0, 1) := by decide +kernel
theorem dX11_holds_203 : decode cX11_holds 203 = .ok (.istore 8, 2) := by decide +kernel
theorem dX11_holds_205 : decode cX11_holds 205 = .ok (.iinc 9 1, 3) := by decide +kernel
theorem dX11_holds_208 : decode cX11_holds 208 = .ok (.goto (-92), 3) := by decide +kernel
theorem dX11_holds_211 : decode cX11_holds 211 = .ok (.iload 8, 2) := by decide +kernel
theorem dX11_holds_213 : decode cX11_holds 213 = .ok (.ireturn, 1) := by decide +kernel
abbrev cX11_stepped : ByteArray := prog_13_method_75_code
def yX11_stepped : MethodName := ⟨RX11, "stepped", "(II)J"⟩
theorem dX11_stepped_0 : decode cX11_stepped 0 = .ok (.aload_n 0, 1) := by decide +kernel
theorem dX11_stepped_1 : decode cX11_stepped 1 = .ok (.getfield 71, 3) := by decide +kernel
theorem dX11_stepped_4 : decode cX11_stepped 4 = .ok (.iconst 3, 1) := by decide +kernel
theorem dX11_stepped_5 : decode cX11_stepped 5 = .ok (.iload_n 1, 1) := by decide +kernel
theorem dX11_stepped_6 : decode cX11_stepped 6 = .ok (.imul, 1) := by decide +kernel
theorem dX11_stepped_7 : decode cX11_stepped 7 = .ok (.iaload, 1) := by decide +kernel
theorem dX11_stepped_8 : decode cX11_stepped 8 = .ok (.istore_n 3, 1) := by decide +kernel
theorem dX11_stepped_9 : decode cX11_stepped 9 = .ok (.aload_n 0, 1) := by decide +kernel
theorem dX11_stepped_10 : decode cX11_stepped 10 = .ok (.iload_n 3, 1) := by decide +kernel
theorem dX11_stepped_11 : decode cX11_stepped 11 = .ok (.aload_n 0, 1) := by decide +kernel
theorem dX11_stepped_12 : decode cX11_stepped 12 = .ok (.getfield 71, 3) := by decide +kernel
theorem dX11_stepped_15 : decode cX11_stepped 15 = .ok (.iconst 3, 1) := by decide +kernel
theorem dX11_stepped_16 : decode cX11_stepped 16 = .ok (.iload_n 1, 1) := by decide +kernel
theorem dX11_stepped_17 : decode cX11_stepped 17 = .ok (.imul, 1) := by decide +kernel
theorem dX11_stepped_18 : decode cX11_stepped 18 = .ok (.iconst 2, 1) := by decide +kernel
theorem dX11_stepped_19 : decode cX11_stepped 19 = .ok (.iadd, 1) := by decide +kernel
theorem dX11_stepped_20 : decode cX11_stepped 20 = .ok (.iaload, 1) := by decide +kernel
theorem dX11_stepped_21 : decode cX11_stepped 21 = .ok (.iload_n 2, 1) := by decide +kernel
theorem dX11_stepped_22 : decode cX11_stepped 22 = .ok (.invokevirtual 332, 3) := by decide +kernel
theorem dX11_stepped_25 : decode cX11_stepped 25 = .ok (.lstore 4, 2) := by decide +kernel
theorem dX11_stepped_27 : decode cX11_stepped 27 = .ok (.iconst 0, 1) := by decide +kernel
theorem dX11_stepped_28 : decode cX11_stepped 28 = .ok (.istore 6, 2) := by decide +kernel
theorem dX11_stepped_30 : decode cX11_stepped 30 = .ok (.iload 6, 2) := by decide +kernel
theorem dX11_stepped_32 : decode cX11_stepped 32 = .ok (.aload_n 0, 1) := by decide +kernel
theorem dX11_stepped_33 : decode cX11_stepped 33 = .ok (.getfield 173, 3) := by decide +kernel
theorem dX11_stepped_36 : decode cX11_stepped 36 = .ok (.if_icmp .ge 57, 3) := by decide +kernel
theorem dX11_stepped_39 : decode cX11_stepped 39 = .ok (.lload 4, 2) := by decide +kernel
theorem dX11_stepped_41 : decode cX11_stepped 41 = .ok (.aload_n 0, 1) := by decide +kernel
theorem dX11_stepped_42 : decode cX11_stepped 42 = .ok (.aload_n 0, 1) := by decide +kernel
theorem dX11_stepped_43 : decode cX11_stepped 43 = .ok (.getfield 71, 3) := by decide +kernel
theorem dX11_stepped_46 : decode cX11_stepped 46 = .ok (.iconst 3, 1) := by decide +kernel
theorem dX11_stepped_47 : decode cX11_stepped 47 = .ok (.iload_n 1, 1) := by decide +kernel
theorem dX11_stepped_48 : decode cX11_stepped 48 = .ok (.imul, 1) := by decide +kernel
theorem dX11_stepped_49 : decode cX11_stepped 49 = .ok (.iconst 1, 1) := by decide +kernel
theorem dX11_stepped_50 : decode cX11_stepped 50 = .ok (.iadd, 1) := by decide +kernel
theorem dX11_stepped_51 : decode cX11_stepped 51 = .ok (.iaload, 1) := by decide +kernel
theorem dX11_stepped_52 : decode cX11_stepped 52 = .ok (.aload_n 0, 1) := by decide +kernel
theorem dX11_stepped_53 : decode cX11_stepped 53 = .ok (.getfield 35, 3) := by decide +kernel
theorem dX11_stepped_56 : decode cX11_stepped 56 = .ok (.iload 6, 2) := by decide +kernel
theorem dX11_stepped_58 : decode cX11_stepped 58 = .ok (.iaload, 1) := by decide +kernel
theorem dX11_stepped_59 : decode cX11_stepped 59 = .ok (.invokevirtual 336, 3) := by decide +kernel
theorem dX11_stepped_62 : decode cX11_stepped 62 = .ok (.ifCond .eq 9, 3) := by decide +kernel
theorem dX11_stepped_65 : decode cX11_stepped 65 = .ok (.ldc2_w 339, 3) := by decide +kernel
theorem dX11_stepped_68 : decode cX11_stepped 68 = .ok (.goto 16, 3) := by decide +kernel
theorem dX11_stepped_71 : decode cX11_stepped 71 = .ok (.lconst 1, 1) := by decide +kernel
theorem dX11_stepped_72 : decode cX11_stepped 72 = .ok (.aload_n 0, 1) := by decide +kernel
theorem dX11_stepped_73 : decode cX11_stepped 73 = .ok (.getfield 35, 3) := by decide +kernel
theorem dX11_stepped_76 : decode cX11_stepped 76 = .ok (.iload 6, 2) := by decide +kernel
theorem dX11_stepped_78 : decode cX11_stepped 78 = .ok (.iaload, 1) := by decide +kernel
theorem dX11_stepped_79 : decode cX11_stepped 79 = .ok (.lshl, 1) := by decide +kernel
theorem dX11_stepped_80 : decode cX11_stepped 80 = .ok (.ldc2_w 339, 3) := by decide +kernel
theorem dX11_stepped_83 : decode cX11_stepped 83 = .ok (.lxor, 1) := by decide +kernel
theorem dX11_stepped_84 : decode cX11_stepped 84 = .ok (.land, 1) := by decide +kernel
theorem dX11_stepped_85 : decode cX11_stepped 85 = .ok (.lstore 4, 2) := by decide +kernel
theorem dX11_stepped_87 : decode cX11_stepped 87 = .ok (.iinc 6 1, 3) := by decide +kernel
theorem dX11_stepped_90 : decode cX11_stepped 90 = .ok (.goto (-60), 3) := by decide +kernel
theorem dX11_stepped_93 : decode cX11_stepped 93 = .ok (.iload_n 3, 1) := by decide +kernel
theorem dX11_stepped_94 : decode cX11_stepped 94 = .ok (.iconst 2, 1) := by decide +kernel
theorem dX11_stepped_95 : decode cX11_stepped 95 = .ok (.if_icmp .eq 26, 3) := by decide +kernel
theorem dX11_stepped_98 : decode cX11_stepped 98 = .ok (.iload_n 3, 1) := by decide +kernel
theorem dX11_stepped_99 : decode cX11_stepped 99 = .ok (.iconst 5, 1) := by decide +kernel
theorem dX11_stepped_100 : decode cX11_stepped 100 = .ok (.if_icmp .eq 21, 3) := by decide +kernel
theorem dX11_stepped_103 : decode cX11_stepped 103 = .ok (.iload_n 3, 1) := by decide +kernel
theorem dX11_stepped_104 : decode cX11_stepped 104 = .ok (.bipush 6, 2) := by decide +kernel
theorem dX11_stepped_106 : decode cX11_stepped 106 = .ok (.if_icmp .eq 15, 3) := by decide +kernel
theorem dX11_stepped_109 : decode cX11_stepped 109 = .ok (.iload_n 3, 1) := by decide +kernel
theorem dX11_stepped_110 : decode cX11_stepped 110 = .ok (.bipush 8, 2) := by decide +kernel
theorem dX11_stepped_112 : decode cX11_stepped 112 = .ok (.if_icmp .eq 9, 3) := by decide +kernel
theorem dX11_stepped_115 : decode cX11_stepped 115 = .ok (.iload_n 3, 1) := by decide +kernel
theorem dX11_stepped_116 : decode cX11_stepped 116 = .ok (.bipush 10, 2) := by decide +kernel
theorem dX11_stepped_118 : decode cX11_stepped 118 = .ok (.if_icmp .ne 7, 3) := by decide +kernel
theorem dX11_stepped_121 : decode cX11_stepped 121 = .ok (.iconst 1, 1) := by decide +kernel
theorem dX11_stepped_122 : decode cX11_stepped 122 = .ok (.goto 4, 3) := by decide +kernel
theorem dX11_stepped_125 : decode cX11_stepped 125 = .ok (.iconst 0, 1) := by decide +kernel
theorem dX11_stepped_126 : decode cX11_stepped 126 = .ok (.istore 6, 2) := by decide +kernel
theorem dX11_stepped_128 : decode cX11_stepped 128 = .ok (.iconst 0, 1) := by decide +kernel
theorem dX11_stepped_129 : decode cX11_stepped 129 = .ok (.istore 7, 2) := by decide +kernel
theorem dX11_stepped_131 : decode cX11_stepped 131 = .ok (.iload 7, 2) := by decide +kernel
theorem dX11_stepped_133 : decode cX11_stepped 133 = .ok (.aload_n 0, 1) := by decide +kernel
theorem dX11_stepped_134 : decode cX11_stepped 134 = .ok (.getfield 74, 3) := by decide +kernel
theorem dX11_stepped_137 : decode cX11_stepped 137 = .ok (.iload_n 1, 1) := by decide +kernel
theorem dX11_stepped_138 : decode cX11_stepped 138 = .ok (.iaload, 1) := by decide +kernel
theorem dX11_stepped_139 : decode cX11_stepped 139 = .ok (.if_icmp .ge 148, 3) := by decide +kernel
theorem dX11_stepped_142 : decode cX11_stepped 142 = .ok (.iconst 0, 1) := by decide +kernel
theorem dX11_stepped_143 : decode cX11_stepped 143 = .ok (.istore 8, 2) := by decide +kernel
theorem dX11_stepped_145 : decode cX11_stepped 145 = .ok (.iconst 0, 1) := by decide +kernel
theorem dX11_stepped_146 : decode cX11_stepped 146 = .ok (.istore 9, 2) := by decide +kernel
theorem dX11_stepped_148 : decode cX11_stepped 148 = .ok (.iload 9, 2) := by decide +kernel
theorem dX11_stepped_150 : decode cX11_stepped 150 = .ok (.aload_n 0, 1) := by decide +kernel
theorem dX11_stepped_151 : decode cX11_stepped 151 = .ok (.getfield 173, 3) := by decide +kernel
theorem dX11_stepped_154 : decode cX11_stepped 154 = .ok (.if_icmp .ge 59, 3) := by decide +kernel
theorem dX11_stepped_157 : decode cX11_stepped 157 = .ok (.aload_n 0, 1) := by decide +kernel
theorem dX11_stepped_158 : decode cX11_stepped 158 = .ok (.getfield 35, 3) := by decide +kernel
theorem dX11_stepped_161 : decode cX11_stepped 161 = .ok (.iload 6, 2) := by decide +kernel
theorem dX11_stepped_163 : decode cX11_stepped 163 = .ok (.ifCond .eq 15, 3) := by decide +kernel
theorem dX11_stepped_166 : decode cX11_stepped 166 = .ok (.aload_n 0, 1) := by decide +kernel
theorem dX11_stepped_167 : decode cX11_stepped 167 = .ok (.getfield 173, 3) := by decide +kernel
theorem dX11_stepped_170 : decode cX11_stepped 170 = .ok (.iconst 1, 1) := by decide +kernel
theorem dX11_stepped_171 : decode cX11_stepped 171 = .ok (.isub, 1) := by decide +kernel
theorem dX11_stepped_172 : decode cX11_stepped 172 = .ok (.iload 9, 2) := by decide +kernel
theorem dX11_stepped_174 : decode cX11_stepped 174 = .ok (.isub, 1) := by decide +kernel
theorem dX11_stepped_175 : decode cX11_stepped 175 = .ok (.goto 5, 3) := by decide +kernel
theorem dX11_stepped_178 : decode cX11_stepped 178 = .ok (.iload 9, 2) := by decide +kernel
theorem dX11_stepped_180 : decode cX11_stepped 180 = .ok (.iaload, 1) := by decide +kernel
theorem dX11_stepped_181 : decode cX11_stepped 181 = .ok (.istore 10, 2) := by decide +kernel
theorem dX11_stepped_183 : decode cX11_stepped 183 = .ok (.lload 4, 2) := by decide +kernel
theorem dX11_stepped_185 : decode cX11_stepped 185 = .ok (.iload 10, 2) := by decide +kernel
theorem dX11_stepped_187 : decode cX11_stepped 187 = .ok (.lshr, 1) := by decide +kernel
theorem dX11_stepped_188 : decode cX11_stepped 188 = .ok (.lconst 1, 1) := by decide +kernel
theorem dX11_stepped_189 : decode cX11_stepped 189 = .ok (.land, 1) := by decide +kernel
theorem dX11_stepped_190 : decode cX11_stepped 190 = .ok (.lconst 1, 1) := by decide +kernel
theorem dX11_stepped_191 : decode cX11_stepped 191 = .ok (.lcmp, 1) := by decide +kernel
theorem dX11_stepped_192 : decode cX11_stepped 192 = .ok (.ifCond .ne 15, 3) := by decide +kernel
theorem dX11_stepped_195 : decode cX11_stepped 195 = .ok (.aload_n 0, 1) := by decide +kernel
theorem dX11_stepped_196 : decode cX11_stepped 196 = .ok (.getfield 90, 3) := by decide +kernel
theorem dX11_stepped_199 : decode cX11_stepped 199 = .ok (.iload 8, 2) := by decide +kernel
theorem dX11_stepped_201 : decode cX11_stepped 201 = .ok (.iload 10, 2) := by decide +kernel
theorem dX11_stepped_203 : decode cX11_stepped 203 = .ok (.iastore, 1) := by decide +kernel
theorem dX11_stepped_204 : decode cX11_stepped 204 = .ok (.iinc 8 1, 3) := by decide +kernel
theorem dX11_stepped_207 : decode cX11_stepped 207 = .ok (.iinc 9 1, 3) := by decide +kernel
theorem dX11_stepped_210 : decode cX11_stepped 210 = .ok (.goto (-62), 3) := by decide +kernel
theorem dX11_stepped_213 : decode cX11_stepped 213 = .ok (.iconst 0, 1) := by decide +kernel
theorem dX11_stepped_214 : decode cX11_stepped 214 = .ok (.istore 9, 2) := by decide +kernel
theorem dX11_stepped_216 : decode cX11_stepped 216 = .ok (.iload 9, 2) := by decide +kernel
theorem dX11_stepped_218 : decode cX11_stepped 218 = .ok (.iload 8, 2) := by decide +kernel
theorem dX11_stepped_220 : decode cX11_stepped 220 = .ok (.if_icmp .ge 61, 3) := by decide +kernel
theorem dX11_stepped_223 : decode cX11_stepped 223 = .ok (.lload 4, 2) := by decide +kernel
theorem dX11_stepped_225 : decode cX11_stepped 225 = .ok (.aload_n 0, 1) := by decide +kernel
theorem dX11_stepped_226 : decode cX11_stepped 226 = .ok (.iconst 4, 1) := by decide +kernel
theorem dX11_stepped_227 : decode cX11_stepped 227 = .ok (.iconst 2, 1) := by decide +kernel
theorem dX11_stepped_228 : decode cX11_stepped 228 = .ok (.iload_n 1, 1) := by decide +kernel
theorem dX11_stepped_229 : decode cX11_stepped 229 = .ok (.imul, 1) := by decide +kernel
theorem dX11_stepped_230 : decode cX11_stepped 230 = .ok (.iload 7, 2) := by decide +kernel
theorem dX11_stepped_232 : decode cX11_stepped 232 = .ok (.iadd, 1) := by decide +kernel
theorem dX11_stepped_233 : decode cX11_stepped 233 = .ok (.imul, 1) := by decide +kernel
theorem dX11_stepped_234 : decode cX11_stepped 234 = .ok (.aload_n 0, 1) := by decide +kernel
theorem dX11_stepped_235 : decode cX11_stepped 235 = .ok (.getfield 90, 3) := by decide +kernel
theorem dX11_stepped_238 : decode cX11_stepped 238 = .ok (.iload 9, 2) := by decide +kernel
theorem dX11_stepped_240 : decode cX11_stepped 240 = .ok (.iaload, 1) := by decide +kernel
theorem dX11_stepped_241 : decode cX11_stepped 241 = .ok (.iload 9, 2) := by decide +kernel
theorem dX11_stepped_243 : decode cX11_stepped 243 = .ok (.iconst 1, 1) := by decide +kernel
theorem dX11_stepped_244 : decode cX11_stepped 244 = .ok (.iadd, 1) := by decide +kernel
theorem dX11_stepped_245 : decode cX11_stepped 245 = .ok (.iload 8, 2) := by decide +kernel
theorem dX11_stepped_247 : decode cX11_stepped 247 = .ok (.invokevirtual 341, 3) := by decide +kernel
theorem dX11_stepped_250 : decode cX11_stepped 250 = .ok (.ifCond .eq 9, 3) := by decide +kernel
theorem dX11_stepped_253 : decode cX11_stepped 253 = .ok (.ldc2_w 339, 3) := by decide +kernel
theorem dX11_stepped_256 : decode cX11_stepped 256 = .ok (.goto 16, 3) := by decide +kernel
theorem dX11_stepped_259 : decode cX11_stepped 259 = .ok (.lconst 1, 1) := by decide +kernel
theorem dX11_stepped_260 : decode cX11_stepped 260 = .ok (.aload_n 0, 1) := by decide +kernel
theorem dX11_stepped_261 : decode cX11_stepped 261 = .ok (.getfield 90, 3) := by decide +kernel
theorem dX11_stepped_264 : decode cX11_stepped 264 = .ok (.iload 9, 2) := by decide +kernel
theorem dX11_stepped_266 : decode cX11_stepped 266 = .ok (.iaload, 1) := by decide +kernel
theorem dX11_stepped_267 : decode cX11_stepped 267 = .ok (.lshl, 1) := by decide +kernel
theorem dX11_stepped_268 : decode cX11_stepped 268 = .ok (.ldc2_w 339, 3) := by decide +kernel
theorem dX11_stepped_271 : decode cX11_stepped 271 = .ok (.lxor, 1) := by decide +kernel
theorem dX11_stepped_272 : decode cX11_stepped 272 = .ok (.land, 1) := by decide +kernel
theorem dX11_stepped_273 : decode cX11_stepped 273 = .ok (.lstore 4, 2) := by decide +kernel
theorem dX11_stepped_275 : decode cX11_stepped 275 = .ok (.iinc 9 1, 3) := by decide +kernel
theorem dX11_stepped_278 : decode cX11_stepped 278 = .ok (.goto (-62), 3) := by decide +kernel
theorem dX11_stepped_281 : decode cX11_stepped 281 = .ok (.iinc 7 1, 3) := by decide +kernel
theorem dX11_stepped_284 : decode cX11_stepped 284 = .ok (.goto (-153), 3) := by decide +kernel
theorem dX11_stepped_287 : decode cX11_stepped 287 = .ok (.lload 4, 2) := by decide +kernel
theorem dX11_stepped_289 : decode cX11_stepped 289 = .ok (.lreturn, 1) := by decide +kernel
abbrev cX11_findAll : ByteArray := prog_13_method_76_code
def yX11_findAll : MethodName := ⟨RX11, "findAll", "(J)V"⟩
theorem dX11_findAll_0 : decode cX11_findAll 0 = .ok (.aload_n 0, 1) := by decide +kernel
theorem dX11_findAll_1 : decode cX11_findAll 1 = .ok (.lload_n 1, 1) := by decide +kernel
theorem dX11_findAll_2 : decode cX11_findAll 2 = .ok (.putfield 325, 3) := by decide +kernel
theorem dX11_findAll_5 : decode cX11_findAll 5 = .ok (.iconst 0, 1) := by decide +kernel
theorem dX11_findAll_6 : decode cX11_findAll 6 = .ok (.istore_n 3, 1) := by decide +kernel
theorem dX11_findAll_7 : decode cX11_findAll 7 = .ok (.iload_n 3, 1) := by decide +kernel
theorem dX11_findAll_8 : decode cX11_findAll 8 = .ok (.aload_n 0, 1) := by decide +kernel
theorem dX11_findAll_9 : decode cX11_findAll 9 = .ok (.getfield 296, 3) := by decide +kernel
theorem dX11_findAll_12 : decode cX11_findAll 12 = .ok (.if_icmp .ge 249, 3) := by decide +kernel
theorem dX11_findAll_15 : decode cX11_findAll 15 = .ok (.iconst 0, 1) := by decide +kernel
theorem dX11_findAll_16 : decode cX11_findAll 16 = .ok (.istore 4, 2) := by decide +kernel
theorem dX11_findAll_18 : decode cX11_findAll 18 = .ok (.iload 4, 2) := by decide +kernel
theorem dX11_findAll_20 : decode cX11_findAll 20 = .ok (.aload_n 0, 1) := by decide +kernel
theorem dX11_findAll_21 : decode cX11_findAll 21 = .ok (.getfield 68, 3) := by decide +kernel
theorem dX11_findAll_24 : decode cX11_findAll 24 = .ok (.iload_n 3, 1) := by decide +kernel
theorem dX11_findAll_25 : decode cX11_findAll 25 = .ok (.iaload, 1) := by decide +kernel
theorem dX11_findAll_26 : decode cX11_findAll 26 = .ok (.aload_n 0, 1) := by decide +kernel
theorem dX11_findAll_27 : decode cX11_findAll 27 = .ok (.getfield 173, 3) := by decide +kernel
theorem dX11_findAll_30 : decode cX11_findAll 30 = .ok (.imul, 1) := by decide +kernel
theorem dX11_findAll_31 : decode cX11_findAll 31 = .ok (.if_icmp .ge 73, 3) := by decide +kernel
theorem dX11_findAll_34 : decode cX11_findAll 34 = .ok (.aload_n 0, 1) := by decide +kernel
theorem dX11_findAll_35 : decode cX11_findAll 35 = .ok (.getfield 35, 3) := by decide +kernel
theorem dX11_findAll_38 : decode cX11_findAll 38 = .ok (.iload 4, 2) := by decide +kernel
theorem dX11_findAll_40 : decode cX11_findAll 40 = .ok (.aload_n 0, 1) := by decide +kernel
theorem dX11_findAll_41 : decode cX11_findAll 41 = .ok (.getfield 173, 3) := by decide +kernel
theorem dX11_findAll_44 : decode cX11_findAll 44 = .ok (.irem, 1) := by decide +kernel
theorem dX11_findAll_45 : decode cX11_findAll 45 = .ok (.iaload, 1) := by decide +kernel
theorem dX11_findAll_46 : decode cX11_findAll 46 = .ok (.istore 5, 2) := by decide +kernel
theorem dX11_findAll_48 : decode cX11_findAll 48 = .ok (.aload_n 0, 1) := by decide +kernel
theorem dX11_findAll_49 : decode cX11_findAll 49 = .ok (.getfield 84, 3) := by decide +kernel
theorem dX11_findAll_52 : decode cX11_findAll 52 = .ok (.bipush 60, 2) := by decide +kernel
theorem dX11_findAll_54 : decode cX11_findAll 54 = .ok (.iload 4, 2) := by decide +kernel
theorem dX11_findAll_56 : decode cX11_findAll 56 = .ok (.aload_n 0, 1) := by decide +kernel
theorem dX11_findAll_57 : decode cX11_findAll 57 = .ok (.getfield 173, 3) := by decide +kernel
theorem dX11_findAll_60 : decode cX11_findAll 60 = .ok (.idiv, 1) := by decide +kernel
theorem dX11_findAll_61 : decode cX11_findAll 61 = .ok (.imul, 1) := by decide +kernel
theorem dX11_findAll_62 : decode cX11_findAll 62 = .ok (.iload 5, 2) := by decide +kernel
theorem dX11_findAll_64 : decode cX11_findAll 64 = .ok (.iadd, 1) := by decide +kernel
theorem dX11_findAll_65 : decode cX11_findAll 65 = .ok (.lload_n 1, 1) := by decide +kernel
theorem dX11_findAll_66 : decode cX11_findAll 66 = .ok (.iload 5, 2) := by decide +kernel
theorem dX11_findAll_68 : decode cX11_findAll 68 = .ok (.lshr, 1) := by decide +kernel
theorem dX11_findAll_69 : decode cX11_findAll 69 = .ok (.lconst 1, 1) := by decide +kernel
theorem dX11_findAll_70 : decode cX11_findAll 70 = .ok (.land, 1) := by decide +kernel
theorem dX11_findAll_71 : decode cX11_findAll 71 = .ok (.lconst 1, 1) := by decide +kernel
theorem dX11_findAll_72 : decode cX11_findAll 72 = .ok (.lcmp, 1) := by decide +kernel
theorem dX11_findAll_73 : decode cX11_findAll 73 = .ok (.ifCond .ne 23, 3) := by decide +kernel
theorem dX11_findAll_76 : decode cX11_findAll 76 = .ok (.aload_n 0, 1) := by decide +kernel
theorem dX11_findAll_77 : decode cX11_findAll 77 = .ok (.iconst 5, 1) := by decide +kernel
theorem dX11_findAll_78 : decode cX11_findAll 78 = .ok (.iload_n 3, 1) := by decide +kernel
theorem dX11_findAll_79 : decode cX11_findAll 79 = .ok (.imul, 1) := by decide +kernel
theorem dX11_findAll_80 : decode cX11_findAll 80 = .ok (.iload 4, 2) := by decide +kernel
theorem dX11_findAll_82 : decode cX11_findAll 82 = .ok (.aload_n 0, 1) := by decide +kernel
theorem dX11_findAll_83 : decode cX11_findAll 83 = .ok (.getfield 173, 3) := by decide +kernel
theorem dX11_findAll_86 : decode cX11_findAll 86 = .ok (.idiv, 1) := by decide +kernel
theorem dX11_findAll_87 : decode cX11_findAll 87 = .ok (.iadd, 1) := by decide +kernel
theorem dX11_findAll_88 : decode cX11_findAll 88 = .ok (.iload 5, 2) := by decide +kernel
theorem dX11_findAll_90 : decode cX11_findAll 90 = .ok (.invokevirtual 345, 3) := by decide +kernel
theorem dX11_findAll_93 : decode cX11_findAll 93 = .ok (.goto 4, 3) := by decide +kernel
theorem dX11_findAll_96 : decode cX11_findAll 96 = .ok (.lconst 0, 1) := by decide +kernel
theorem dX11_findAll_97 : decode cX11_findAll 97 = .ok (.lastore, 1) := by decide +kernel
theorem dX11_findAll_98 : decode cX11_findAll 98 = .ok (.iinc 4 1, 3) := by decide +kernel
theorem dX11_findAll_101 : decode cX11_findAll 101 = .ok (.goto (-83), 3) := by decide +kernel
theorem dX11_findAll_104 : decode cX11_findAll 104 = .ok (.iconst 0, 1) := by decide +kernel
theorem dX11_findAll_105 : decode cX11_findAll 105 = .ok (.istore 4, 2) := by decide +kernel
theorem dX11_findAll_107 : decode cX11_findAll 107 = .ok (.iload 4, 2) := by decide +kernel
theorem dX11_findAll_109 : decode cX11_findAll 109 = .ok (.aload_n 0, 1) := by decide +kernel
theorem dX11_findAll_110 : decode cX11_findAll 110 = .ok (.getfield 173, 3) := by decide +kernel
theorem dX11_findAll_113 : decode cX11_findAll 113 = .ok (.if_icmp .ge 142, 3) := by decide +kernel
theorem dX11_findAll_116 : decode cX11_findAll 116 = .ok (.aload_n 0, 1) := by decide +kernel
theorem dX11_findAll_117 : decode cX11_findAll 117 = .ok (.getfield 35, 3) := by decide +kernel
theorem dX11_findAll_120 : decode cX11_findAll 120 = .ok (.iload 4, 2) := by decide +kernel
theorem dX11_findAll_122 : decode cX11_findAll 122 = .ok (.iaload, 1) := by decide +kernel
theorem dX11_findAll_123 : decode cX11_findAll 123 = .ok (.istore 5, 2) := by decide +kernel
theorem dX11_findAll_125 : decode cX11_findAll 125 = .ok (.lload_n 1, 1) := by decide +kernel
theorem dX11_findAll_126 : decode cX11_findAll 126 = .ok (.iload 5, 2) := by decide +kernel
theorem dX11_findAll_128 : decode cX11_findAll 128 = .ok (.lshr, 1) := by decide +kernel
theorem dX11_findAll_129 : decode cX11_findAll 129 = .ok (.lconst 1, 1) := by decide +kernel
theorem dX11_findAll_130 : decode cX11_findAll 130 = .ok (.land, 1) := by decide +kernel
theorem dX11_findAll_131 : decode cX11_findAll 131 = .ok (.lconst 1, 1) := by decide +kernel
theorem dX11_findAll_132 : decode cX11_findAll 132 = .ok (.lcmp, 1) := by decide +kernel
theorem dX11_findAll_133 : decode cX11_findAll 133 = .ok (.ifCond .ne 10, 3) := by decide +kernel
theorem dX11_findAll_136 : decode cX11_findAll 136 = .ok (.lconst 1, 1) := by decide +kernel
theorem dX11_findAll_137 : decode cX11_findAll 137 = .ok (.iload 5, 2) := by decide +kernel
theorem dX11_findAll_139 : decode cX11_findAll 139 = .ok (.lshl, 1) := by decide +kernel
theorem dX11_findAll_140 : decode cX11_findAll 140 = .ok (.goto 4, 3) := by decide +kernel
theorem dX11_findAll_143 : decode cX11_findAll 143 = .ok (.lconst 0, 1) := by decide +kernel
theorem dX11_findAll_144 : decode cX11_findAll 144 = .ok (.lstore 6, 2) := by decide +kernel
theorem dX11_findAll_146 : decode cX11_findAll 146 = .ok (.iconst 0, 1) := by decide +kernel
theorem dX11_findAll_147 : decode cX11_findAll 147 = .ok (.istore 8, 2) := by decide +kernel
theorem dX11_findAll_149 : decode cX11_findAll 149 = .ok (.iload 8, 2) := by decide +kernel
theorem dX11_findAll_151 : decode cX11_findAll 151 = .ok (.aload_n 0, 1) := by decide +kernel
theorem dX11_findAll_152 : decode cX11_findAll 152 = .ok (.getfield 68, 3) := by decide +kernel
theorem dX11_findAll_155 : decode cX11_findAll 155 = .ok (.iload_n 3, 1) := by decide +kernel
theorem dX11_findAll_156 : decode cX11_findAll 156 = .ok (.iaload, 1) := by decide +kernel
theorem dX11_findAll_157 : decode cX11_findAll 157 = .ok (.if_icmp .ge 78, 3) := by decide +kernel
theorem dX11_findAll_160 : decode cX11_findAll 160 = .ok (.lconst 0, 1) := by decide +kernel
theorem dX11_findAll_161 : decode cX11_findAll 161 = .ok (.lstore 9, 2) := by decide +kernel
theorem dX11_findAll_163 : decode cX11_findAll 163 = .ok (.iconst 0, 1) := by decide +kernel
theorem dX11_findAll_164 : decode cX11_findAll 164 = .ok (.istore 11, 2) := by decide +kernel
theorem dX11_findAll_166 : decode cX11_findAll 166 = .ok (.iload 11, 2) := by decide +kernel
theorem dX11_findAll_168 : decode cX11_findAll 168 = .ok (.aload_n 0, 1) := by decide +kernel
theorem dX11_findAll_169 : decode cX11_findAll 169 = .ok (.getfield 173, 3) := by decide +kernel
theorem dX11_findAll_172 : decode cX11_findAll 172 = .ok (.if_icmp .ge 53, 3) := by decide +kernel
theorem dX11_findAll_175 : decode cX11_findAll 175 = .ok (.lload 9, 2) := by decide +kernel
theorem dX11_findAll_177 : decode cX11_findAll 177 = .ok (.lload 6, 2) := by decide +kernel
theorem dX11_findAll_179 : decode cX11_findAll 179 = .ok (.aload_n 0, 1) := by decide +kernel
theorem dX11_findAll_180 : decode cX11_findAll 180 = .ok (.getfield 35, 3) := by decide +kernel
theorem dX11_findAll_183 : decode cX11_findAll 183 = .ok (.iload 11, 2) := by decide +kernel
theorem dX11_findAll_185 : decode cX11_findAll 185 = .ok (.iaload, 1) := by decide +kernel
theorem dX11_findAll_186 : decode cX11_findAll 186 = .ok (.lshr, 1) := by decide +kernel
theorem dX11_findAll_187 : decode cX11_findAll 187 = .ok (.lconst 1, 1) := by decide +kernel
theorem dX11_findAll_188 : decode cX11_findAll 188 = .ok (.land, 1) := by decide +kernel
theorem dX11_findAll_189 : decode cX11_findAll 189 = .ok (.lconst 1, 1) := by decide +kernel
theorem dX11_findAll_190 : decode cX11_findAll 190 = .ok (.lcmp, 1) := by decide +kernel
theorem dX11_findAll_191 : decode cX11_findAll 191 = .ok (.ifCond .ne 24, 3) := by decide +kernel
theorem dX11_findAll_194 : decode cX11_findAll 194 = .ok (.aload_n 0, 1) := by decide +kernel
theorem dX11_findAll_195 : decode cX11_findAll 195 = .ok (.getfield 84, 3) := by decide +kernel
theorem dX11_findAll_198 : decode cX11_findAll 198 = .ok (.bipush 60, 2) := by decide +kernel
theorem dX11_findAll_200 : decode cX11_findAll 200 = .ok (.iload 8, 2) := by decide +kernel
theorem dX11_findAll_202 : decode cX11_findAll 202 = .ok (.imul, 1) := by decide +kernel
theorem dX11_findAll_203 : decode cX11_findAll 203 = .ok (.aload_n 0, 1) := by decide +kernel
theorem dX11_findAll_204 : decode cX11_findAll 204 = .ok (.getfield 35, 3) := by decide +kernel
theorem dX11_findAll_207 : decode cX11_findAll 207 = .ok (.iload 11, 2) := by decide +kernel
theorem dX11_findAll_209 : decode cX11_findAll 209 = .ok (.iaload, 1) := by decide +kernel
theorem dX11_findAll_210 : decode cX11_findAll 210 = .ok (.iadd, 1) := by decide +kernel
theorem dX11_findAll_211 : decode cX11_findAll 211 = .ok (.laload, 1) := by decide +kernel
theorem dX11_findAll_212 : decode cX11_findAll 212 = .ok (.goto 4, 3) := by decide +kernel
theorem dX11_findAll_215 : decode cX11_findAll 215 = .ok (.lconst 0, 1) := by decide +kernel
theorem dX11_findAll_216 : decode cX11_findAll 216 = .ok (.lor, 1) := by decide +kernel
theorem dX11_findAll_217 : decode cX11_findAll 217 = .ok (.lstore 9, 2) := by decide +kernel
theorem dX11_findAll_219 : decode cX11_findAll 219 = .ok (.iinc 11 1, 3) := by decide +kernel
theorem dX11_findAll_222 : decode cX11_findAll 222 = .ok (.goto (-56), 3) := by decide +kernel
theorem dX11_findAll_225 : decode cX11_findAll 225 = .ok (.lload 9, 2) := by decide +kernel
theorem dX11_findAll_227 : decode cX11_findAll 227 = .ok (.lstore 6, 2) := by decide +kernel
theorem dX11_findAll_229 : decode cX11_findAll 229 = .ok (.iinc 8 1, 3) := by decide +kernel
theorem dX11_findAll_232 : decode cX11_findAll 232 = .ok (.goto (-83), 3) := by decide +kernel
theorem dX11_findAll_235 : decode cX11_findAll 235 = .ok (.aload_n 0, 1) := by decide +kernel
theorem dX11_findAll_236 : decode cX11_findAll 236 = .ok (.getfield 80, 3) := by decide +kernel
theorem dX11_findAll_239 : decode cX11_findAll 239 = .ok (.bipush 60, 2) := by decide +kernel
theorem dX11_findAll_241 : decode cX11_findAll 241 = .ok (.iload_n 3, 1) := by decide +kernel
theorem dX11_findAll_242 : decode cX11_findAll 242 = .ok (.imul, 1) := by decide +kernel
theorem dX11_findAll_243 : decode cX11_findAll 243 = .ok (.iload 5, 2) := by decide +kernel
theorem dX11_findAll_245 : decode cX11_findAll 245 = .ok (.iadd, 1) := by decide +kernel
theorem dX11_findAll_246 : decode cX11_findAll 246 = .ok (.lload 6, 2) := by decide +kernel
theorem dX11_findAll_248 : decode cX11_findAll 248 = .ok (.lastore, 1) := by decide +kernel
theorem dX11_findAll_249 : decode cX11_findAll 249 = .ok (.iinc 4 1, 3) := by decide +kernel
theorem dX11_findAll_252 : decode cX11_findAll 252 = .ok (.goto (-145), 3) := by decide +kernel
theorem dX11_findAll_255 : decode cX11_findAll 255 = .ok (.iinc 3 1, 3) := by decide +kernel
theorem dX11_findAll_258 : decode cX11_findAll 258 = .ok (.goto (-251), 3) := by decide +kernel
theorem dX11_findAll_261 : decode cX11_findAll 261 = .ok (.return_, 1) := by decide +kernel
abbrev cX11_bits : ByteArray := prog_13_method_79_code
def yX11_bits : MethodName := ⟨RX11, "bits", "(J)I"⟩
theorem dX11_bits_0 : decode cX11_bits 0 = .ok (.iconst 0, 1) := by decide +kernel
theorem dX11_bits_1 : decode cX11_bits 1 = .ok (.istore_n 2, 1) := by decide +kernel
theorem dX11_bits_2 : decode cX11_bits 2 = .ok (.lload_n 0, 1) := by decide +kernel
theorem dX11_bits_3 : decode cX11_bits 3 = .ok (.lstore_n 3, 1) := by decide +kernel
theorem dX11_bits_4 : decode cX11_bits 4 = .ok (.lload_n 3, 1) := by decide +kernel
theorem dX11_bits_5 : decode cX11_bits 5 = .ok (.lconst 0, 1) := by decide +kernel
theorem dX11_bits_6 : decode cX11_bits 6 = .ok (.lcmp, 1) := by decide +kernel
theorem dX11_bits_7 : decode cX11_bits 7 = .ok (.ifCond .eq 15, 3) := by decide +kernel
theorem dX11_bits_10 : decode cX11_bits 10 = .ok (.iinc 2 1, 3) := by decide +kernel
theorem dX11_bits_13 : decode cX11_bits 13 = .ok (.lload_n 3, 1) := by decide +kernel
theorem dX11_bits_14 : decode cX11_bits 14 = .ok (.lload_n 3, 1) := by decide +kernel
theorem dX11_bits_15 : decode cX11_bits 15 = .ok (.lconst 1, 1) := by decide +kernel
theorem dX11_bits_16 : decode cX11_bits 16 = .ok (.lsub, 1) := by decide +kernel
theorem dX11_bits_17 : decode cX11_bits 17 = .ok (.land, 1) := by decide +kernel
theorem dX11_bits_18 : decode cX11_bits 18 = .ok (.lstore_n 3, 1) := by decide +kernel
theorem dX11_bits_19 : decode cX11_bits 19 = .ok (.goto (-15), 3) := by decide +kernel
theorem dX11_bits_22 : decode cX11_bits 22 = .ok (.iload_n 2, 1) := by decide +kernel
theorem dX11_bits_23 : decode cX11_bits 23 = .ok (.ireturn, 1) := by decide +kernel
abbrev cX11_lookAtViews : ByteArray := prog_13_method_112_code
def yX11_lookAtViews : MethodName := ⟨RX11, "lookAtViews", "()V"⟩
theorem dX11_lookAtViews_0 : decode cX11_lookAtViews 0 = .ok (.aload_n 0, 1) := by decide +kernel
theorem dX11_lookAtViews_1 : decode cX11_lookAtViews 1 = .ok (.aload_n 0, 1) := by decide +kernel
theorem dX11_lookAtViews_2 : decode cX11_lookAtViews 2 = .ok (.invokevirtual 228, 3) := by decide +kernel
theorem dX11_lookAtViews_5 : decode cX11_lookAtViews 5 = .ok (.invokevirtual 348, 3) := by decide +kernel
theorem dX11_lookAtViews_8 : decode cX11_lookAtViews 8 = .ok (.iconst 0, 1) := by decide +kernel
theorem dX11_lookAtViews_9 : decode cX11_lookAtViews 9 = .ok (.istore_n 1, 1) := by decide +kernel
theorem dX11_lookAtViews_10 : decode cX11_lookAtViews 10 = .ok (.iload_n 1, 1) := by decide +kernel
theorem dX11_lookAtViews_11 : decode cX11_lookAtViews 11 = .ok (.aload_n 0, 1) := by decide +kernel
theorem dX11_lookAtViews_12 : decode cX11_lookAtViews 12 = .ok (.getfield 299, 3) := by decide +kernel
theorem dX11_lookAtViews_15 : decode cX11_lookAtViews 15 = .ok (.if_icmp .ge 48, 3) := by decide +kernel
theorem dX11_lookAtViews_18 : decode cX11_lookAtViews 18 = .ok (.aload_n 0, 1) := by decide +kernel
theorem dX11_lookAtViews_19 : decode cX11_lookAtViews 19 = .ok (.getfield 80, 3) := by decide +kernel
theorem dX11_lookAtViews_22 : decode cX11_lookAtViews 22 = .ok (.bipush 60, 2) := by decide +kernel
theorem dX11_lookAtViews_24 : decode cX11_lookAtViews 24 = .ok (.aload_n 0, 1) := by decide +kernel
theorem dX11_lookAtViews_25 : decode cX11_lookAtViews 25 = .ok (.getfield 117, 3) := by decide +kernel
theorem dX11_lookAtViews_28 : decode cX11_lookAtViews 28 = .ok (.iload_n 1, 1) := by decide +kernel
theorem dX11_lookAtViews_29 : decode cX11_lookAtViews 29 = .ok (.iaload, 1) := by decide +kernel
theorem dX11_lookAtViews_30 : decode cX11_lookAtViews 30 = .ok (.imul, 1) := by decide +kernel
theorem dX11_lookAtViews_31 : decode cX11_lookAtViews 31 = .ok (.laload, 1) := by decide +kernel
theorem dX11_lookAtViews_32 : decode cX11_lookAtViews 32 = .ok (.lstore_n 2, 1) := by decide +kernel
theorem dX11_lookAtViews_33 : decode cX11_lookAtViews 33 = .ok (.aload_n 0, 1) := by decide +kernel
theorem dX11_lookAtViews_34 : decode cX11_lookAtViews 34 = .ok (.getfield 120, 3) := by decide +kernel
theorem dX11_lookAtViews_37 : decode cX11_lookAtViews 37 = .ok (.iload_n 1, 1) := by decide +kernel
theorem dX11_lookAtViews_38 : decode cX11_lookAtViews 38 = .ok (.lload_n 2, 1) := by decide +kernel
theorem dX11_lookAtViews_39 : decode cX11_lookAtViews 39 = .ok (.aload_n 0, 1) := by decide +kernel
theorem dX11_lookAtViews_40 : decode cX11_lookAtViews 40 = .ok (.getfield 123, 3) := by decide +kernel
theorem dX11_lookAtViews_43 : decode cX11_lookAtViews 43 = .ok (.iload_n 1, 1) := by decide +kernel
theorem dX11_lookAtViews_44 : decode cX11_lookAtViews 44 = .ok (.laload, 1) := by decide +kernel
theorem dX11_lookAtViews_45 : decode cX11_lookAtViews 45 = .ok (.lxor, 1) := by decide +kernel
theorem dX11_lookAtViews_46 : decode cX11_lookAtViews 46 = .ok (.invokestatic 361, 3) := by decide +kernel
theorem dX11_lookAtViews_49 : decode cX11_lookAtViews 49 = .ok (.iastore, 1) := by decide +kernel
theorem dX11_lookAtViews_50 : decode cX11_lookAtViews 50 = .ok (.aload_n 0, 1) := by decide +kernel
theorem dX11_lookAtViews_51 : decode cX11_lookAtViews 51 = .ok (.getfield 123, 3) := by decide +kernel
theorem dX11_lookAtViews_54 : decode cX11_lookAtViews 54 = .ok (.iload_n 1, 1) := by decide +kernel
theorem dX11_lookAtViews_55 : decode cX11_lookAtViews 55 = .ok (.lload_n 2, 1) := by decide +kernel
theorem dX11_lookAtViews_56 : decode cX11_lookAtViews 56 = .ok (.lastore, 1) := by decide +kernel
theorem dX11_lookAtViews_57 : decode cX11_lookAtViews 57 = .ok (.iinc 1 1, 3) := by decide +kernel
theorem dX11_lookAtViews_60 : decode cX11_lookAtViews 60 = .ok (.goto (-50), 3) := by decide +kernel
theorem dX11_lookAtViews_63 : decode cX11_lookAtViews 63 = .ok (.return_, 1) := by decide +kernel
abbrev cX11_apply : ByteArray := prog_13_method_35_code
def yX11_apply : MethodName := ⟨RX11, "apply", "()I"⟩
theorem dX11_apply_0 : decode cX11_apply 0 = .ok (.aload_n 0, 1) := by decide +kernel
theorem dX11_apply_1 : decode cX11_apply 1 = .ok (.aload_n 0, 1) := by decide +kernel
theorem dX11_apply_2 : decode cX11_apply 2 = .ok (.invokevirtual 217, 3) := by decide +kernel
theorem dX11_apply_5 : decode cX11_apply 5 = .ok (.ifCond .ne 12, 3) := by decide +kernel
theorem dX11_apply_8 : decode cX11_apply 8 = .ok (.aload_n 0, 1) := by decide +kernel
theorem dX11_apply_9 : decode cX11_apply 9 = .ok (.invokevirtual 221, 3) := by decide +kernel
theorem dX11_apply_12 : decode cX11_apply 12 = .ok (.bipush 60, 2) := by decide +kernel
theorem dX11_apply_14 : decode cX11_apply 14 = .ok (.if_icmp .le 7, 3) := by decide +kernel
theorem dX11_apply_17 : decode cX11_apply 17 = .ok (.iconst 1, 1) := by decide +kernel
theorem dX11_apply_18 : decode cX11_apply 18 = .ok (.goto 4, 3) := by decide +kernel
theorem dX11_apply_21 : decode cX11_apply 21 = .ok (.iconst 0, 1) := by decide +kernel
theorem dX11_apply_22 : decode cX11_apply 22 = .ok (.invokevirtual 204, 3) := by decide +kernel
theorem dX11_apply_25 : decode cX11_apply 25 = .ok (.ifCond .eq 5, 3) := by decide +kernel
theorem dX11_apply_28 : decode cX11_apply 28 = .ok (.iconst 0, 1) := by decide +kernel
theorem dX11_apply_29 : decode cX11_apply 29 = .ok (.ireturn, 1) := by decide +kernel
theorem dX11_apply_30 : decode cX11_apply 30 = .ok (.aload_n 0, 1) := by decide +kernel
theorem dX11_apply_31 : decode cX11_apply 31 = .ok (.invokevirtual 225, 3) := by decide +kernel
theorem dX11_apply_34 : decode cX11_apply 34 = .ok (.aload_n 0, 1) := by decide +kernel
theorem dX11_apply_35 : decode cX11_apply 35 = .ok (.getfield 159, 3) := by decide +kernel
theorem dX11_apply_38 : decode cX11_apply 38 = .ok (.istore_n 1, 1) := by decide +kernel
theorem dX11_apply_39 : decode cX11_apply 39 = .ok (.aload_n 0, 1) := by decide +kernel
theorem dX11_apply_40 : decode cX11_apply 40 = .ok (.invokevirtual 228, 3) := by decide +kernel
theorem dX11_apply_43 : decode cX11_apply 43 = .ok (.lstore_n 2, 1) := by decide +kernel
theorem dX11_apply_44 : decode cX11_apply 44 = .ok (.aload_n 0, 1) := by decide +kernel
theorem dX11_apply_45 : decode cX11_apply 45 = .ok (.invokevirtual 232, 3) := by decide +kernel
theorem dX11_apply_48 : decode cX11_apply 48 = .ok (.aload_n 0, 1) := by decide +kernel
theorem dX11_apply_49 : decode cX11_apply 49 = .ok (.iload_n 1, 1) := by decide +kernel
theorem dX11_apply_50 : decode cX11_apply 50 = .ok (.invokevirtual 235, 3) := by decide +kernel
theorem dX11_apply_53 : decode cX11_apply 53 = .ok (.istore 4, 2) := by decide +kernel
theorem dX11_apply_55 : decode cX11_apply 55 = .ok (.iload 4, 2) := by decide +kernel
theorem dX11_apply_57 : decode cX11_apply 57 = .ok (.ifCond .eq 90, 3) := by decide +kernel
theorem dX11_apply_60 : decode cX11_apply 60 = .ok (.iconst 0, 1) := by decide +kernel
theorem dX11_apply_61 : decode cX11_apply 61 = .ok (.istore 5, 2) := by decide +kernel
theorem dX11_apply_63 : decode cX11_apply 63 = .ok (.iload 5, 2) := by decide +kernel
theorem dX11_apply_65 : decode cX11_apply 65 = .ok (.aload_n 0, 1) := by decide +kernel
theorem dX11_apply_66 : decode cX11_apply 66 = .ok (.getfield 159, 3) := by decide +kernel
theorem dX11_apply_69 : decode cX11_apply 69 = .ok (.if_icmp .ge 46, 3) := by decide +kernel
theorem dX11_apply_72 : decode cX11_apply 72 = .ok (.aload_n 0, 1) := by decide +kernel
theorem dX11_apply_73 : decode cX11_apply 73 = .ok (.getfield 31, 3) := by decide +kernel
theorem dX11_apply_76 : decode cX11_apply 76 = .ok (.iload 5, 2) := by decide +kernel
theorem dX11_apply_78 : decode cX11_apply 78 = .ok (.aload_n 0, 1) := by decide +kernel
theorem dX11_apply_79 : decode cX11_apply 79 = .ok (.getfield 31, 3) := by decide +kernel
theorem dX11_apply_82 : decode cX11_apply 82 = .ok (.iload 5, 2) := by decide +kernel
theorem dX11_apply_84 : decode cX11_apply 84 = .ok (.baload, 1) := by decide +kernel
theorem dX11_apply_85 : decode cX11_apply 85 = .ok (.ifCond .ne 9, 3) := by decide +kernel
theorem dX11_apply_88 : decode cX11_apply 88 = .ok (.iload 5, 2) := by decide +kernel
theorem dX11_apply_90 : decode cX11_apply 90 = .ok (.iload_n 1, 1) := by decide +kernel
theorem dX11_apply_91 : decode cX11_apply 91 = .ok (.if_icmp .lt 16, 3) := by decide +kernel
theorem dX11_apply_94 : decode cX11_apply 94 = .ok (.aload_n 0, 1) := by decide +kernel
theorem dX11_apply_95 : decode cX11_apply 95 = .ok (.iload 5, 2) := by decide +kernel
theorem dX11_apply_97 : decode cX11_apply 97 = .ok (.invokevirtual 238, 3) := by decide +kernel
theorem dX11_apply_100 : decode cX11_apply 100 = .ok (.ifCond .eq 7, 3) := by decide +kernel
theorem dX11_apply_103 : decode cX11_apply 103 = .ok (.iconst 1, 1) := by decide +kernel
theorem dX11_apply_104 : decode cX11_apply 104 = .ok (.goto 4, 3) := by decide +kernel
theorem dX11_apply_107 : decode cX11_apply 107 = .ok (.iconst 0, 1) := by decide +kernel
theorem dX11_apply_108 : decode cX11_apply 108 = .ok (.bastore, 1) := by decide +kernel
theorem dX11_apply_109 : decode cX11_apply 109 = .ok (.iinc 5 1, 3) := by decide +kernel
theorem dX11_apply_112 : decode cX11_apply 112 = .ok (.goto (-49), 3) := by decide +kernel
theorem dX11_apply_115 : decode cX11_apply 115 = .ok (.aload_n 0, 1) := by decide +kernel
theorem dX11_apply_116 : decode cX11_apply 116 = .ok (.invokevirtual 163, 3) := by decide +kernel
theorem dX11_apply_119 : decode cX11_apply 119 = .ok (.aload_n 0, 1) := by decide +kernel
theorem dX11_apply_120 : decode cX11_apply 120 = .ok (.invokevirtual 241, 3) := by decide +kernel
theorem dX11_apply_123 : decode cX11_apply 123 = .ok (.ifCond .ne 21, 3) := by decide +kernel
theorem dX11_apply_126 : decode cX11_apply 126 = .ok (.aload_n 0, 1) := by decide +kernel
theorem dX11_apply_127 : decode cX11_apply 127 = .ok (.getfield 244, 3) := by decide +kernel
theorem dX11_apply_130 : decode cX11_apply 130 = .ok (.ifCond .eq 10, 3) := by decide +kernel
theorem dX11_apply_133 : decode cX11_apply 133 = .ok (.aload_n 0, 1) := by decide +kernel
theorem dX11_apply_134 : decode cX11_apply 134 = .ok (.invokevirtual 248, 3) := by decide +kernel
theorem dX11_apply_137 : decode cX11_apply 137 = .ok (.ifCond .eq 7, 3) := by decide +kernel
theorem dX11_apply_140 : decode cX11_apply 140 = .ok (.iconst 1, 1) := by decide +kernel
theorem dX11_apply_141 : decode cX11_apply 141 = .ok (.goto 4, 3) := by decide +kernel
theorem dX11_apply_144 : decode cX11_apply 144 = .ok (.iconst 0, 1) := by decide +kernel
theorem dX11_apply_145 : decode cX11_apply 145 = .ok (.istore 4, 2) := by decide +kernel
theorem dX11_apply_147 : decode cX11_apply 147 = .ok (.iload 4, 2) := by decide +kernel
theorem dX11_apply_149 : decode cX11_apply 149 = .ok (.ifCond .ne 24, 3) := by decide +kernel
theorem dX11_apply_152 : decode cX11_apply 152 = .ok (.aload_n 0, 1) := by decide +kernel
theorem dX11_apply_153 : decode cX11_apply 153 = .ok (.iload_n 1, 1) := by decide +kernel
theorem dX11_apply_154 : decode cX11_apply 154 = .ok (.putfield 159, 3) := by decide +kernel
theorem dX11_apply_157 : decode cX11_apply 157 = .ok (.aload_n 0, 1) := by decide +kernel
theorem dX11_apply_158 : decode cX11_apply 158 = .ok (.invokevirtual 251, 3) := by decide +kernel
theorem dX11_apply_161 : decode cX11_apply 161 = .ok (.aload_n 0, 1) := by decide +kernel
theorem dX11_apply_162 : decode cX11_apply 162 = .ok (.invokevirtual 163, 3) := by decide +kernel
theorem dX11_apply_165 : decode cX11_apply 165 = .ok (.aload_n 0, 1) := by decide +kernel
theorem dX11_apply_166 : decode cX11_apply 166 = .ok (.iconst 1, 1) := by decide +kernel
theorem dX11_apply_167 : decode cX11_apply 167 = .ok (.invokevirtual 204, 3) := by decide +kernel
theorem dX11_apply_170 : decode cX11_apply 170 = .ok (.pop, 1) := by decide +kernel
theorem dX11_apply_171 : decode cX11_apply 171 = .ok (.iconst 0, 1) := by decide +kernel
theorem dX11_apply_172 : decode cX11_apply 172 = .ok (.ireturn, 1) := by decide +kernel
theorem dX11_apply_173 : decode cX11_apply 173 = .ok (.aload_n 0, 1) := by decide +kernel
theorem dX11_apply_174 : decode cX11_apply 174 = .ok (.iload_n 1, 1) := by decide +kernel
theorem dX11_apply_175 : decode cX11_apply 175 = .ok (.lload_n 2, 1) := by decide +kernel
theorem dX11_apply_176 : decode cX11_apply 176 = .ok (.invokevirtual 254, 3) := by decide +kernel
theorem dX11_apply_179 : decode cX11_apply 179 = .ok (.aload_n 0, 1) := by decide +kernel
theorem dX11_apply_180 : decode cX11_apply 180 = .ok (.iconst 0, 1) := by decide +kernel
theorem dX11_apply_181 : decode cX11_apply 181 = .ok (.putfield 191, 3) := by decide +kernel
theorem dX11_apply_184 : decode cX11_apply 184 = .ok (.aload_n 0, 1) := by decide +kernel
theorem dX11_apply_185 : decode cX11_apply 185 = .ok (.invokevirtual 258, 3) := by decide +kernel
theorem dX11_apply_188 : decode cX11_apply 188 = .ok (.aload_n 0, 1) := by decide +kernel
theorem dX11_apply_189 : decode cX11_apply 189 = .ok (.invokevirtual 261, 3) := by decide +kernel
theorem dX11_apply_192 : decode cX11_apply 192 = .ok (.aload_n 0, 1) := by decide +kernel
theorem dX11_apply_193 : decode cX11_apply 193 = .ok (.getfield 173, 3) := by decide +kernel
theorem dX11_apply_196 : decode cX11_apply 196 = .ok (.ireturn, 1) := by decide +kernel
abbrev cX11_forget : ByteArray := prog_13_method_44_code
def yX11_forget : MethodName := ⟨RX11, "forget", "()I"⟩
theorem dX11_forget_0 : decode cX11_forget 0 = .ok (.aload_n 0, 1) := by decide +kernel
theorem dX11_forget_1 : decode cX11_forget 1 = .ok (.getfield 191, 3) := by decide +kernel
theorem dX11_forget_4 : decode cX11_forget 4 = .ok (.istore_n 1, 1) := by decide +kernel
theorem dX11_forget_5 : decode cX11_forget 5 = .ok (.aload_n 0, 1) := by decide +kernel
theorem dX11_forget_6 : decode cX11_forget 6 = .ok (.iconst 0, 1) := by decide +kernel
theorem dX11_forget_7 : decode cX11_forget 7 = .ok (.putfield 191, 3) := by decide +kernel
theorem dX11_forget_10 : decode cX11_forget 10 = .ok (.aload_n 0, 1) := by decide +kernel
theorem dX11_forget_11 : decode cX11_forget 11 = .ok (.iload_n 1, 1) := by decide +kernel
theorem dX11_forget_12 : decode cX11_forget 12 = .ok (.invokevirtual 283, 3) := by decide +kernel
theorem dX11_forget_15 : decode cX11_forget 15 = .ok (.ireturn, 1) := by decide +kernel
abbrev cX11_made : ByteArray := prog_13_method_45_code
def yX11_made : MethodName := ⟨RX11, "made", "()I"⟩
theorem dX11_made_0 : decode cX11_made 0 = .ok (.aload_n 0, 1) := by decide +kernel
theorem dX11_made_1 : decode cX11_made 1 = .ok (.aload_n 0, 1) := by decide +kernel
theorem dX11_made_2 : decode cX11_made 2 = .ok (.getfield 159, 3) := by decide +kernel
theorem dX11_made_5 : decode cX11_made 5 = .ok (.invokevirtual 283, 3) := by decide +kernel
theorem dX11_made_8 : decode cX11_made 8 = .ok (.ireturn, 1) := by decide +kernel
abbrev cX11_nodes : ByteArray := prog_13_method_46_code
def yX11_nodes : MethodName := ⟨RX11, "nodes", "()I"⟩
theorem dX11_nodes_0 : decode cX11_nodes 0 = .ok (.aload_n 0, 1) := by decide +kernel
theorem dX11_nodes_1 : decode cX11_nodes 1 = .ok (.aload_n 0, 1) := by decide +kernel
theorem dX11_nodes_2 : decode cX11_nodes 2 = .ok (.getfield 173, 3) := by decide +kernel
theorem dX11_nodes_5 : decode cX11_nodes 5 = .ok (.invokevirtual 283, 3) := by decide +kernel
theorem dX11_nodes_8 : decode cX11_nodes 8 = .ok (.ireturn, 1) := by decide +kernel
abbrev cX11_isThere : ByteArray := prog_13_method_47_code
def yX11_isThere : MethodName := ⟨RX11, "isThere", "(I)Z"⟩
theorem dX11_isThere_0 : decode cX11_isThere 0 = .ok (.aload_n 0, 1) := by decide +kernel
theorem dX11_isThere_1 : decode cX11_isThere 1 = .ok (.iconst 0, 1) := by decide +kernel
theorem dX11_isThere_2 : decode cX11_isThere 2 = .ok (.putfield 166, 3) := by decide +kernel
theorem dX11_isThere_5 : decode cX11_isThere 5 = .ok (.aload_n 0, 1) := by decide +kernel
theorem dX11_isThere_6 : decode cX11_isThere 6 = .ok (.iload_n 1, 1) := by decide +kernel
theorem dX11_isThere_7 : decode cX11_isThere 7 = .ok (.invokevirtual 194, 3) := by decide +kernel
theorem dX11_isThere_10 : decode cX11_isThere 10 = .ok (.ireturn, 1) := by decide +kernel
abbrev cX11_noNode : ByteArray := prog_13_method_48_code
def yX11_noNode : MethodName := ⟨RX11, "noNode", "(I)Z"⟩
theorem dX11_noNode_0 : decode cX11_noNode 0 = .ok (.aload_n 0, 1) := by decide +kernel
theorem dX11_noNode_1 : decode cX11_noNode 1 = .ok (.aload_n 0, 1) := by decide +kernel
theorem dX11_noNode_2 : decode cX11_noNode 2 = .ok (.iload_n 1, 1) := by decide +kernel
theorem dX11_noNode_3 : decode cX11_noNode 3 = .ok (.invokevirtual 194, 3) := by decide +kernel
theorem dX11_noNode_6 : decode cX11_noNode 6 = .ok (.ifCond .eq 7, 3) := by decide +kernel
theorem dX11_noNode_9 : decode cX11_noNode 9 = .ok (.iconst 0, 1) := by decide +kernel
theorem dX11_noNode_10 : decode cX11_noNode 10 = .ok (.goto 4, 3) := by decide +kernel
theorem dX11_noNode_13 : decode cX11_noNode 13 = .ok (.iconst 1, 1) := by decide +kernel
theorem dX11_noNode_14 : decode cX11_noNode 14 = .ok (.invokevirtual 204, 3) := by decide +kernel
theorem dX11_noNode_17 : decode cX11_noNode 17 = .ok (.ireturn, 1) := by decide +kernel
abbrev cX11_kind : ByteArray := prog_13_method_49_code
def yX11_kind : MethodName := ⟨RX11, "kind", "(I)I"⟩
theorem dX11_kind_0 : decode cX11_kind 0 = .ok (.aload_n 0, 1) := by decide +kernel
theorem dX11_kind_1 : decode cX11_kind 1 = .ok (.iload_n 1, 1) := by decide +kernel
theorem dX11_kind_2 : decode cX11_kind 2 = .ok (.invokevirtual 286, 3) := by decide +kernel
theorem dX11_kind_5 : decode cX11_kind 5 = .ok (.ifCond .eq 7, 3) := by decide +kernel
theorem dX11_kind_8 : decode cX11_kind 8 = .ok (.iconst 0, 1) := by decide +kernel
theorem dX11_kind_9 : decode cX11_kind 9 = .ok (.goto 9, 3) := by decide +kernel
theorem dX11_kind_12 : decode cX11_kind 12 = .ok (.aload_n 0, 1) := by decide +kernel
theorem dX11_kind_13 : decode cX11_kind 13 = .ok (.getfield 7, 3) := by decide +kernel
theorem dX11_kind_16 : decode cX11_kind 16 = .ok (.iload_n 1, 1) := by decide +kernel
theorem dX11_kind_17 : decode cX11_kind 17 = .ok (.iaload, 1) := by decide +kernel
theorem dX11_kind_18 : decode cX11_kind 18 = .ok (.ireturn, 1) := by decide +kernel
abbrev cX11_name : ByteArray := prog_13_method_50_code
def yX11_name : MethodName := ⟨RX11, "name", "(I)I"⟩
theorem dX11_name_0 : decode cX11_name 0 = .ok (.aload_n 0, 1) := by decide +kernel
theorem dX11_name_1 : decode cX11_name 1 = .ok (.iload_n 1, 1) := by decide +kernel
theorem dX11_name_2 : decode cX11_name 2 = .ok (.invokevirtual 286, 3) := by decide +kernel
theorem dX11_name_5 : decode cX11_name 5 = .ok (.ifCond .eq 7, 3) := by decide +kernel
theorem dX11_name_8 : decode cX11_name 8 = .ok (.iconst 0, 1) := by decide +kernel
theorem dX11_name_9 : decode cX11_name 9 = .ok (.goto 23, 3) := by decide +kernel
theorem dX11_name_12 : decode cX11_name 12 = .ok (.aload_n 0, 1) := by decide +kernel
theorem dX11_name_13 : decode cX11_name 13 = .ok (.getfield 7, 3) := by decide +kernel
theorem dX11_name_16 : decode cX11_name 16 = .ok (.iload_n 1, 1) := by decide +kernel
theorem dX11_name_17 : decode cX11_name 17 = .ok (.iaload, 1) := by decide +kernel
theorem dX11_name_18 : decode cX11_name 18 = .ok (.iconst 1, 1) := by decide +kernel
theorem dX11_name_19 : decode cX11_name 19 = .ok (.if_icmp .ne 7, 3) := by decide +kernel
theorem dX11_name_22 : decode cX11_name 22 = .ok (.iconst (-1), 1) := by decide +kernel
theorem dX11_name_23 : decode cX11_name 23 = .ok (.goto 9, 3) := by decide +kernel
theorem dX11_name_26 : decode cX11_name 26 = .ok (.aload_n 0, 1) := by decide +kernel
theorem dX11_name_27 : decode cX11_name 27 = .ok (.getfield 13, 3) := by decide +kernel
theorem dX11_name_30 : decode cX11_name 30 = .ok (.iload_n 1, 1) := by decide +kernel
theorem dX11_name_31 : decode cX11_name 31 = .ok (.iaload, 1) := by decide +kernel
theorem dX11_name_32 : decode cX11_name 32 = .ok (.ireturn, 1) := by decide +kernel
abbrev cX11_value : ByteArray := prog_13_method_51_code
def yX11_value : MethodName := ⟨RX11, "value", "(I)I"⟩
theorem dX11_value_0 : decode cX11_value 0 = .ok (.aload_n 0, 1) := by decide +kernel
theorem dX11_value_1 : decode cX11_value 1 = .ok (.iload_n 1, 1) := by decide +kernel
theorem dX11_value_2 : decode cX11_value 2 = .ok (.invokevirtual 286, 3) := by decide +kernel
theorem dX11_value_5 : decode cX11_value 5 = .ok (.ifCond .eq 7, 3) := by decide +kernel
theorem dX11_value_8 : decode cX11_value 8 = .ok (.iconst 0, 1) := by decide +kernel
theorem dX11_value_9 : decode cX11_value 9 = .ok (.goto 12, 3) := by decide +kernel
theorem dX11_value_12 : decode cX11_value 12 = .ok (.aload_n 0, 1) := by decide +kernel
theorem dX11_value_13 : decode cX11_value 13 = .ok (.iload_n 1, 1) := by decide +kernel
theorem dX11_value_14 : decode cX11_value 14 = .ok (.aload_n 0, 1) := by decide +kernel
theorem dX11_value_15 : decode cX11_value 15 = .ok (.invokevirtual 228, 3) := by decide +kernel
theorem dX11_value_18 : decode cX11_value 18 = .ok (.invokevirtual 289, 3) := by decide +kernel
theorem dX11_value_21 : decode cX11_value 21 = .ok (.ireturn, 1) := by decide +kernel
abbrev cX11_parent : ByteArray := prog_13_method_52_code
def yX11_parent : MethodName := ⟨RX11, "parent", "(I)I"⟩
theorem dX11_parent_0 : decode cX11_parent 0 = .ok (.aload_n 0, 1) := by decide +kernel
theorem dX11_parent_1 : decode cX11_parent 1 = .ok (.iload_n 1, 1) := by decide +kernel
theorem dX11_parent_2 : decode cX11_parent 2 = .ok (.invokevirtual 286, 3) := by decide +kernel
theorem dX11_parent_5 : decode cX11_parent 5 = .ok (.ifCond .eq 7, 3) := by decide +kernel
theorem dX11_parent_8 : decode cX11_parent 8 = .ok (.iconst 0, 1) := by decide +kernel
theorem dX11_parent_9 : decode cX11_parent 9 = .ok (.goto 9, 3) := by decide +kernel
theorem dX11_parent_12 : decode cX11_parent 12 = .ok (.aload_n 0, 1) := by decide +kernel
theorem dX11_parent_13 : decode cX11_parent 13 = .ok (.getfield 22, 3) := by decide +kernel
theorem dX11_parent_16 : decode cX11_parent 16 = .ok (.iload_n 1, 1) := by decide +kernel
theorem dX11_parent_17 : decode cX11_parent 17 = .ok (.iaload, 1) := by decide +kernel
theorem dX11_parent_18 : decode cX11_parent 18 = .ok (.ireturn, 1) := by decide +kernel
abbrev cX11_child : ByteArray := prog_13_method_53_code
def yX11_child : MethodName := ⟨RX11, "child", "(II)I"⟩
theorem dX11_child_0 : decode cX11_child 0 = .ok (.aload_n 0, 1) := by decide +kernel
theorem dX11_child_1 : decode cX11_child 1 = .ok (.aload_n 0, 1) := by decide +kernel
theorem dX11_child_2 : decode cX11_child 2 = .ok (.iload_n 1, 1) := by decide +kernel
theorem dX11_child_3 : decode cX11_child 3 = .ok (.invokevirtual 194, 3) := by decide +kernel
theorem dX11_child_6 : decode cX11_child 6 = .ok (.ifCond .eq 11, 3) := by decide +kernel
theorem dX11_child_9 : decode cX11_child 9 = .ok (.iload_n 2, 1) := by decide +kernel
theorem dX11_child_10 : decode cX11_child 10 = .ok (.ifCond .lt 7, 3) := by decide +kernel
theorem dX11_child_13 : decode cX11_child 13 = .ok (.iconst 0, 1) := by decide +kernel
theorem dX11_child_14 : decode cX11_child 14 = .ok (.goto 4, 3) := by decide +kernel
theorem dX11_child_17 : decode cX11_child 17 = .ok (.iconst 1, 1) := by decide +kernel
theorem dX11_child_18 : decode cX11_child 18 = .ok (.invokevirtual 204, 3) := by decide +kernel
theorem dX11_child_21 : decode cX11_child 21 = .ok (.ifCond .eq 7, 3) := by decide +kernel
theorem dX11_child_24 : decode cX11_child 24 = .ok (.iconst 0, 1) := by decide +kernel
theorem dX11_child_25 : decode cX11_child 25 = .ok (.goto 9, 3) := by decide +kernel
theorem dX11_child_28 : decode cX11_child 28 = .ok (.aload_n 0, 1) := by decide +kernel
theorem dX11_child_29 : decode cX11_child 29 = .ok (.iload_n 1, 1) := by decide +kernel
theorem dX11_child_30 : decode cX11_child 30 = .ok (.iload_n 2, 1) := by decide +kernel
theorem dX11_child_31 : decode cX11_child 31 = .ok (.invokevirtual 184, 3) := by decide +kernel
theorem dX11_child_34 : decode cX11_child 34 = .ok (.ireturn, 1) := by decide +kernel
abbrev cX11_space : ByteArray := prog_13_method_54_code
def yX11_space : MethodName := ⟨RX11, "space", "(I)I"⟩
theorem dX11_space_0 : decode cX11_space 0 = .ok (.aload_n 0, 1) := by decide +kernel
theorem dX11_space_1 : decode cX11_space 1 = .ok (.iload_n 1, 1) := by decide +kernel
theorem dX11_space_2 : decode cX11_space 2 = .ok (.invokevirtual 286, 3) := by decide +kernel
theorem dX11_space_5 : decode cX11_space 5 = .ok (.ifCond .eq 7, 3) := by decide +kernel
theorem dX11_space_8 : decode cX11_space 8 = .ok (.iconst 0, 1) := by decide +kernel
theorem dX11_space_9 : decode cX11_space 9 = .ok (.goto 21, 3) := by decide +kernel
theorem dX11_space_12 : decode cX11_space 12 = .ok (.aload_n 0, 1) := by decide +kernel
theorem dX11_space_13 : decode cX11_space 13 = .ok (.getfield 7, 3) := by decide +kernel
theorem dX11_space_16 : decode cX11_space 16 = .ok (.iload_n 1, 1) := by decide +kernel
theorem dX11_space_17 : decode cX11_space 17 = .ok (.iaload, 1) := by decide +kernel
theorem dX11_space_18 : decode cX11_space 18 = .ok (.ifCond .ne 11, 3) := by decide +kernel
theorem dX11_space_21 : decode cX11_space 21 = .ok (.aload_n 0, 1) := by decide +kernel
theorem dX11_space_22 : decode cX11_space 22 = .ok (.iload_n 1, 1) := by decide +kernel
theorem dX11_space_23 : decode cX11_space 23 = .ok (.invokevirtual 293, 3) := by decide +kernel
theorem dX11_space_26 : decode cX11_space 26 = .ok (.goto 4, 3) := by decide +kernel
theorem dX11_space_29 : decode cX11_space 29 = .ok (.iconst (-1), 1) := by decide +kernel
theorem dX11_space_30 : decode cX11_space 30 = .ok (.ireturn, 1) := by decide +kernel
abbrev cX11_number_ : ByteArray := prog_13_method_55_code
def yX11_number_ : MethodName := ⟨RX11, "number", "(I)I"⟩
theorem dX11_number__0 : decode cX11_number_ 0 = .ok (.aload_n 0, 1) := by decide +kernel
theorem dX11_number__1 : decode cX11_number_ 1 = .ok (.iload_n 1, 1) := by decide +kernel
theorem dX11_number__2 : decode cX11_number_ 2 = .ok (.invokevirtual 286, 3) := by decide +kernel
theorem dX11_number__5 : decode cX11_number_ 5 = .ok (.ifCond .eq 7, 3) := by decide +kernel
theorem dX11_number__8 : decode cX11_number_ 8 = .ok (.iconst 0, 1) := by decide +kernel
theorem dX11_number__9 : decode cX11_number_ 9 = .ok (.goto 23, 3) := by decide +kernel
theorem dX11_number__12 : decode cX11_number_ 12 = .ok (.aload_n 0, 1) := by decide +kernel
theorem dX11_number__13 : decode cX11_number_ 13 = .ok (.getfield 7, 3) := by decide +kernel
theorem dX11_number__16 : decode cX11_number_ 16 = .ok (.iload_n 1, 1) := by decide +kernel
theorem dX11_number__17 : decode cX11_number_ 17 = .ok (.iaload, 1) := by decide +kernel
theorem dX11_number__18 : decode cX11_number_ 18 = .ok (.iconst 2, 1) := by decide +kernel
theorem dX11_number__19 : decode cX11_number_ 19 = .ok (.if_icmp .ne 7, 3) := by decide +kernel
theorem dX11_number__22 : decode cX11_number_ 22 = .ok (.iconst (-1), 1) := by decide +kernel
theorem dX11_number__23 : decode cX11_number_ 23 = .ok (.goto 9, 3) := by decide +kernel
theorem dX11_number__26 : decode cX11_number_ 26 = .ok (.aload_n 0, 1) := by decide +kernel
theorem dX11_number__27 : decode cX11_number_ 27 = .ok (.getfield 28, 3) := by decide +kernel
theorem dX11_number__30 : decode cX11_number_ 30 = .ok (.iload_n 1, 1) := by decide +kernel
theorem dX11_number__31 : decode cX11_number_ 31 = .ok (.iaload, 1) := by decide +kernel
theorem dX11_number__32 : decode cX11_number_ 32 = .ok (.ireturn, 1) := by decide +kernel
abbrev cX11_numbered : ByteArray := prog_13_method_56_code
def yX11_numbered : MethodName := ⟨RX11, "numbered", "()I"⟩
theorem dX11_numbered_0 : decode cX11_numbered 0 = .ok (.aload_n 0, 1) := by decide +kernel
theorem dX11_numbered_1 : decode cX11_numbered 1 = .ok (.aload_n 0, 1) := by decide +kernel
theorem dX11_numbered_2 : decode cX11_numbered 2 = .ok (.getfield 280, 3) := by decide +kernel
theorem dX11_numbered_5 : decode cX11_numbered 5 = .ok (.invokevirtual 283, 3) := by decide +kernel
theorem dX11_numbered_8 : decode cX11_numbered 8 = .ok (.ireturn, 1) := by decide +kernel
abbrev cX11_isPath : ByteArray := prog_13_method_57_code
def yX11_isPath : MethodName := ⟨RX11, "isPath", "(I)Z"⟩
theorem dX11_isPath_0 : decode cX11_isPath 0 = .ok (.iload_n 1, 1) := by decide +kernel
theorem dX11_isPath_1 : decode cX11_isPath 1 = .ok (.iconst 0, 1) := by decide +kernel
theorem dX11_isPath_2 : decode cX11_isPath 2 = .ok (.aload_n 0, 1) := by decide +kernel
theorem dX11_isPath_3 : decode cX11_isPath 3 = .ok (.getfield 296, 3) := by decide +kernel
theorem dX11_isPath_6 : decode cX11_isPath 6 = .ok (.iconst 1, 1) := by decide +kernel
theorem dX11_isPath_7 : decode cX11_isPath 7 = .ok (.isub, 1) := by decide +kernel
theorem dX11_isPath_8 : decode cX11_isPath 8 = .ok (.invokestatic 169, 3) := by decide +kernel
theorem dX11_isPath_11 : decode cX11_isPath 11 = .ok (.ireturn, 1) := by decide +kernel
abbrev cX11_path : ByteArray := prog_13_method_58_code
def yX11_path : MethodName := ⟨RX11, "path", "()I"⟩
theorem dX11_path_0 : decode cX11_path 0 = .ok (.aload_n 0, 1) := by decide +kernel
theorem dX11_path_1 : decode cX11_path 1 = .ok (.aload_n 0, 1) := by decide +kernel
theorem dX11_path_2 : decode cX11_path 2 = .ok (.getfield 296, 3) := by decide +kernel
theorem dX11_path_5 : decode cX11_path 5 = .ok (.bipush 20, 2) := by decide +kernel
theorem dX11_path_7 : decode cX11_path 7 = .ok (.if_icmp .ne 7, 3) := by decide +kernel
theorem dX11_path_10 : decode cX11_path 10 = .ok (.iconst 1, 1) := by decide +kernel
theorem dX11_path_11 : decode cX11_path 11 = .ok (.goto 4, 3) := by decide +kernel
theorem dX11_path_14 : decode cX11_path 14 = .ok (.iconst 0, 1) := by decide +kernel
theorem dX11_path_15 : decode cX11_path 15 = .ok (.invokevirtual 204, 3) := by decide +kernel
theorem dX11_path_18 : decode cX11_path 18 = .ok (.ifCond .eq 5, 3) := by decide +kernel
theorem dX11_path_21 : decode cX11_path 21 = .ok (.iconst 0, 1) := by decide +kernel
theorem dX11_path_22 : decode cX11_path 22 = .ok (.ireturn, 1) := by decide +kernel
theorem dX11_path_23 : decode cX11_path 23 = .ok (.aload_n 0, 1) := by decide +kernel
theorem dX11_path_24 : decode cX11_path 24 = .ok (.getfield 68, 3) := by decide +kernel
theorem dX11_path_27 : decode cX11_path 27 = .ok (.aload_n 0, 1) := by decide +kernel
theorem dX11_path_28 : decode cX11_path 28 = .ok (.getfield 296, 3) := by decide +kernel
theorem dX11_path_31 : decode cX11_path 31 = .ok (.iconst 0, 1) := by decide +kernel
theorem dX11_path_32 : decode cX11_path 32 = .ok (.iastore, 1) := by decide +kernel
theorem dX11_path_33 : decode cX11_path 33 = .ok (.aload_n 0, 1) := by decide +kernel
theorem dX11_path_34 : decode cX11_path 34 = .ok (.dup, 1) := by decide +kernel
theorem dX11_path_35 : decode cX11_path 35 = .ok (.getfield 296, 3) := by decide +kernel
theorem dX11_path_38 : decode cX11_path 38 = .ok (.iconst 1, 1) := by decide +kernel
theorem dX11_path_39 : decode cX11_path 39 = .ok (.iadd, 1) := by decide +kernel
theorem dX11_path_40 : decode cX11_path 40 = .ok (.putfield 296, 3) := by decide +kernel
theorem dX11_path_43 : decode cX11_path 43 = .ok (.aload_n 0, 1) := by decide +kernel
theorem dX11_path_44 : decode cX11_path 44 = .ok (.getfield 296, 3) := by decide +kernel
theorem dX11_path_47 : decode cX11_path 47 = .ok (.iconst 1, 1) := by decide +kernel
theorem dX11_path_48 : decode cX11_path 48 = .ok (.isub, 1) := by decide +kernel
theorem dX11_path_49 : decode cX11_path 49 = .ok (.ireturn, 1) := by decide +kernel
abbrev cX11_hasView : ByteArray := prog_13_method_59_code
def yX11_hasView : MethodName := ⟨RX11, "hasView", "(I)Z"⟩
theorem dX11_hasView_0 : decode cX11_hasView 0 = .ok (.iconst 0, 1) := by decide +kernel
theorem dX11_hasView_1 : decode cX11_hasView 1 = .ok (.istore_n 2, 1) := by decide +kernel
theorem dX11_hasView_2 : decode cX11_hasView 2 = .ok (.iconst 0, 1) := by decide +kernel
theorem dX11_hasView_3 : decode cX11_hasView 3 = .ok (.istore_n 3, 1) := by decide +kernel
theorem dX11_hasView_4 : decode cX11_hasView 4 = .ok (.iload_n 3, 1) := by decide +kernel
theorem dX11_hasView_5 : decode cX11_hasView 5 = .ok (.aload_n 0, 1) := by decide +kernel
theorem dX11_hasView_6 : decode cX11_hasView 6 = .ok (.getfield 299, 3) := by decide +kernel
theorem dX11_hasView_9 : decode cX11_hasView 9 = .ok (.if_icmp .ge 29, 3) := by decide +kernel
theorem dX11_hasView_12 : decode cX11_hasView 12 = .ok (.iload_n 2, 1) := by decide +kernel
theorem dX11_hasView_13 : decode cX11_hasView 13 = .ok (.ifCond .ne 13, 3) := by decide +kernel
theorem dX11_hasView_16 : decode cX11_hasView 16 = .ok (.aload_n 0, 1) := by decide +kernel
theorem dX11_hasView_17 : decode cX11_hasView 17 = .ok (.getfield 117, 3) := by decide +kernel
theorem dX11_hasView_20 : decode cX11_hasView 20 = .ok (.iload_n 3, 1) := by decide +kernel
theorem dX11_hasView_21 : decode cX11_hasView 21 = .ok (.iaload, 1) := by decide +kernel
theorem dX11_hasView_22 : decode cX11_hasView 22 = .ok (.iload_n 1, 1) := by decide +kernel
theorem dX11_hasView_23 : decode cX11_hasView 23 = .ok (.if_icmp .ne 7, 3) := by decide +kernel
theorem dX11_hasView_26 : decode cX11_hasView 26 = .ok (.iconst 1, 1) := by decide +kernel
theorem dX11_hasView_27 : decode cX11_hasView 27 = .ok (.goto 4, 3) := by decide +kernel
theorem dX11_hasView_30 : decode cX11_hasView 30 = .ok (.iconst 0, 1) := by decide +kernel
theorem dX11_hasView_31 : decode cX11_hasView 31 = .ok (.istore_n 2, 1) := by decide +kernel
theorem dX11_hasView_32 : decode cX11_hasView 32 = .ok (.iinc 3 1, 3) := by decide +kernel
theorem dX11_hasView_35 : decode cX11_hasView 35 = .ok (.goto (-31), 3) := by decide +kernel
theorem dX11_hasView_38 : decode cX11_hasView 38 = .ok (.iload_n 2, 1) := by decide +kernel
theorem dX11_hasView_39 : decode cX11_hasView 39 = .ok (.ireturn, 1) := by decide +kernel
abbrev cX11_isOpen : ByteArray := prog_13_method_60_code
def yX11_isOpen : MethodName := ⟨RX11, "isOpen", "(I)Z"⟩
theorem dX11_isOpen_0 : decode cX11_isOpen 0 = .ok (.iload_n 1, 1) := by decide +kernel
theorem dX11_isOpen_1 : decode cX11_isOpen 1 = .ok (.aload_n 0, 1) := by decide +kernel
theorem dX11_isOpen_2 : decode cX11_isOpen 2 = .ok (.getfield 296, 3) := by decide +kernel
theorem dX11_isOpen_5 : decode cX11_isOpen 5 = .ok (.iconst 1, 1) := by decide +kernel
theorem dX11_isOpen_6 : decode cX11_isOpen 6 = .ok (.isub, 1) := by decide +kernel
theorem dX11_isOpen_7 : decode cX11_isOpen 7 = .ok (.if_icmp .ne 15, 3) := by decide +kernel
theorem dX11_isOpen_10 : decode cX11_isOpen 10 = .ok (.aload_n 0, 1) := by decide +kernel
theorem dX11_isOpen_11 : decode cX11_isOpen 11 = .ok (.iload_n 1, 1) := by decide +kernel
theorem dX11_isOpen_12 : decode cX11_isOpen 12 = .ok (.invokevirtual 302, 3) := by decide +kernel
theorem dX11_isOpen_15 : decode cX11_isOpen 15 = .ok (.ifCond .ne 7, 3) := by decide +kernel
theorem dX11_isOpen_18 : decode cX11_isOpen 18 = .ok (.iconst 1, 1) := by decide +kernel
theorem dX11_isOpen_19 : decode cX11_isOpen 19 = .ok (.goto 4, 3) := by decide +kernel
theorem dX11_isOpen_22 : decode cX11_isOpen 22 = .ok (.iconst 0, 1) := by decide +kernel
theorem dX11_isOpen_23 : decode cX11_isOpen 23 = .ok (.ireturn, 1) := by decide +kernel
abbrev cX11_step : ByteArray := prog_13_method_61_code
def yX11_step : MethodName := ⟨RX11, "step", "(IIII)I"⟩
theorem dX11_step_0 : decode cX11_step 0 = .ok (.aload_n 0, 1) := by decide +kernel
theorem dX11_step_1 : decode cX11_step 1 = .ok (.iload_n 1, 1) := by decide +kernel
theorem dX11_step_2 : decode cX11_step 2 = .ok (.invokevirtual 305, 3) := by decide +kernel
theorem dX11_step_5 : decode cX11_step 5 = .ok (.ifCond .eq 25, 3) := by decide +kernel
theorem dX11_step_8 : decode cX11_step 8 = .ok (.iload_n 2, 1) := by decide +kernel
theorem dX11_step_9 : decode cX11_step 9 = .ok (.bipush 12, 2) := by decide +kernel
theorem dX11_step_11 : decode cX11_step 11 = .ok (.if_icmp .ne 15, 3) := by decide +kernel
theorem dX11_step_14 : decode cX11_step 14 = .ok (.iload 4, 2) := by decide +kernel
theorem dX11_step_16 : decode cX11_step 16 = .ok (.iconst 0, 1) := by decide +kernel
theorem dX11_step_17 : decode cX11_step 17 = .ok (.iload_n 1, 1) := by decide +kernel
theorem dX11_step_18 : decode cX11_step 18 = .ok (.iconst 1, 1) := by decide +kernel
theorem dX11_step_19 : decode cX11_step 19 = .ok (.isub, 1) := by decide +kernel
theorem dX11_step_20 : decode cX11_step 20 = .ok (.invokestatic 169, 3) := by decide +kernel
theorem dX11_step_23 : decode cX11_step 23 = .ok (.ifCond .eq 7, 3) := by decide +kernel
theorem dX11_step_26 : decode cX11_step 26 = .ok (.iconst 1, 1) := by decide +kernel
theorem dX11_step_27 : decode cX11_step 27 = .ok (.goto 4, 3) := by decide +kernel
theorem dX11_step_30 : decode cX11_step 30 = .ok (.iconst 0, 1) := by decide +kernel
theorem dX11_step_31 : decode cX11_step 31 = .ok (.istore 5, 2) := by decide +kernel
theorem dX11_step_33 : decode cX11_step 33 = .ok (.iload_n 2, 1) := by decide +kernel
theorem dX11_step_34 : decode cX11_step 34 = .ok (.iconst 0, 1) := by decide +kernel
theorem dX11_step_35 : decode cX11_step 35 = .ok (.bipush 12, 2) := by decide +kernel
theorem dX11_step_37 : decode cX11_step 37 = .ok (.invokestatic 169, 3) := by decide +kernel
theorem dX11_step_40 : decode cX11_step 40 = .ok (.ifCond .eq 29, 3) := by decide +kernel
theorem dX11_step_43 : decode cX11_step 43 = .ok (.iload_n 3, 1) := by decide +kernel
theorem dX11_step_44 : decode cX11_step 44 = .ok (.iconst 0, 1) := by decide +kernel
theorem dX11_step_45 : decode cX11_step 45 = .ok (.bipush 13, 2) := by decide +kernel
theorem dX11_step_47 : decode cX11_step 47 = .ok (.invokestatic 169, 3) := by decide +kernel
theorem dX11_step_50 : decode cX11_step 50 = .ok (.ifCond .eq 19, 3) := by decide +kernel
theorem dX11_step_53 : decode cX11_step 53 = .ok (.iload_n 2, 1) := by decide +kernel
theorem dX11_step_54 : decode cX11_step 54 = .ok (.bipush 12, 2) := by decide +kernel
theorem dX11_step_56 : decode cX11_step 56 = .ok (.if_icmp .eq 9, 3) := by decide +kernel
theorem dX11_step_59 : decode cX11_step 59 = .ok (.iload 4, 2) := by decide +kernel
theorem dX11_step_61 : decode cX11_step 61 = .ok (.iconst (-1), 1) := by decide +kernel
theorem dX11_step_62 : decode cX11_step 62 = .ok (.if_icmp .ne 7, 3) := by decide +kernel
theorem dX11_step_65 : decode cX11_step 65 = .ok (.iconst 1, 1) := by decide +kernel
theorem dX11_step_66 : decode cX11_step 66 = .ok (.goto 4, 3) := by decide +kernel
theorem dX11_step_69 : decode cX11_step 69 = .ok (.iconst 0, 1) := by decide +kernel
theorem dX11_step_70 : decode cX11_step 70 = .ok (.istore 6, 2) := by decide +kernel
theorem dX11_step_72 : decode cX11_step 72 = .ok (.aload_n 0, 1) := by decide +kernel
theorem dX11_step_73 : decode cX11_step 73 = .ok (.iload 5, 2) := by decide +kernel
theorem dX11_step_75 : decode cX11_step 75 = .ok (.ifCond .ne 7, 3) := by decide +kernel
theorem dX11_step_78 : decode cX11_step 78 = .ok (.iconst 1, 1) := by decide +kernel
theorem dX11_step_79 : decode cX11_step 79 = .ok (.goto 35, 3) := by decide +kernel
theorem dX11_step_82 : decode cX11_step 82 = .ok (.iload 6, 2) := by decide +kernel
theorem dX11_step_84 : decode cX11_step 84 = .ok (.ifCond .ne 7, 3) := by decide +kernel
theorem dX11_step_87 : decode cX11_step 87 = .ok (.iconst 2, 1) := by decide +kernel
theorem dX11_step_88 : decode cX11_step 88 = .ok (.goto 26, 3) := by decide +kernel
theorem dX11_step_91 : decode cX11_step 91 = .ok (.aload_n 0, 1) := by decide +kernel
theorem dX11_step_92 : decode cX11_step 92 = .ok (.getfield 68, 3) := by decide +kernel
theorem dX11_step_95 : decode cX11_step 95 = .ok (.iload_n 1, 1) := by decide +kernel
theorem dX11_step_96 : decode cX11_step 96 = .ok (.iaload, 1) := by decide +kernel
theorem dX11_step_97 : decode cX11_step 97 = .ok (.iconst 5, 1) := by decide +kernel
theorem dX11_step_98 : decode cX11_step 98 = .ok (.if_icmp .eq 11, 3) := by decide +kernel
theorem dX11_step_101 : decode cX11_step 101 = .ok (.aload_n 0, 1) := by decide +kernel
theorem dX11_step_102 : decode cX11_step 102 = .ok (.iload_n 1, 1) := by decide +kernel
theorem dX11_step_103 : decode cX11_step 103 = .ok (.invokevirtual 308, 3) := by decide +kernel
theorem dX11_step_106 : decode cX11_step 106 = .ok (.ifCond .ne 7, 3) := by decide +kernel
theorem dX11_step_109 : decode cX11_step 109 = .ok (.iconst 3, 1) := by decide +kernel
theorem dX11_step_110 : decode cX11_step 110 = .ok (.goto 4, 3) := by decide +kernel
theorem dX11_step_113 : decode cX11_step 113 = .ok (.iconst 0, 1) := by decide +kernel
theorem dX11_step_114 : decode cX11_step 114 = .ok (.invokevirtual 204, 3) := by decide +kernel
theorem dX11_step_117 : decode cX11_step 117 = .ok (.ifCond .eq 5, 3) := by decide +kernel
theorem dX11_step_120 : decode cX11_step 120 = .ok (.iconst 0, 1) := by decide +kernel
theorem dX11_step_121 : decode cX11_step 121 = .ok (.ireturn, 1) := by decide +kernel
theorem dX11_step_122 : decode cX11_step 122 = .ok (.iconst 5, 1) := by decide +kernel
theorem dX11_step_123 : decode cX11_step 123 = .ok (.iload_n 1, 1) := by decide +kernel
theorem dX11_step_124 : decode cX11_step 124 = .ok (.imul, 1) := by decide +kernel
theorem dX11_step_125 : decode cX11_step 125 = .ok (.aload_n 0, 1) := by decide +kernel
theorem dX11_step_126 : decode cX11_step 126 = .ok (.getfield 68, 3) := by decide +kernel
theorem dX11_step_129 : decode cX11_step 129 = .ok (.iload_n 1, 1) := by decide +kernel
theorem dX11_step_130 : decode cX11_step 130 = .ok (.iaload, 1) := by decide +kernel
theorem dX11_step_131 : decode cX11_step 131 = .ok (.iadd, 1) := by decide +kernel
theorem dX11_step_132 : decode cX11_step 132 = .ok (.istore 7, 2) := by decide +kernel
theorem dX11_step_134 : decode cX11_step 134 = .ok (.aload_n 0, 1) := by decide +kernel
theorem dX11_step_135 : decode cX11_step 135 = .ok (.getfield 71, 3) := by decide +kernel
theorem dX11_step_138 : decode cX11_step 138 = .ok (.iconst 3, 1) := by decide +kernel
theorem dX11_step_139 : decode cX11_step 139 = .ok (.iload 7, 2) := by decide +kernel
theorem dX11_step_141 : decode cX11_step 141 = .ok (.imul, 1) := by decide +kernel
theorem dX11_step_142 : decode cX11_step 142 = .ok (.iload_n 2, 1) := by decide +kernel
theorem dX11_step_143 : decode cX11_step 143 = .ok (.iastore, 1) := by decide +kernel
theorem dX11_step_144 : decode cX11_step 144 = .ok (.aload_n 0, 1) := by decide +kernel
theorem dX11_step_145 : decode cX11_step 145 = .ok (.getfield 71, 3) := by decide +kernel
theorem dX11_step_148 : decode cX11_step 148 = .ok (.iconst 3, 1) := by decide +kernel
theorem dX11_step_149 : decode cX11_step 149 = .ok (.iload 7, 2) := by decide +kernel
theorem dX11_step_151 : decode cX11_step 151 = .ok (.imul, 1) := by decide +kernel
theorem dX11_step_152 : decode cX11_step 152 = .ok (.iconst 1, 1) := by decide +kernel
theorem dX11_step_153 : decode cX11_step 153 = .ok (.iadd, 1) := by decide +kernel
theorem dX11_step_154 : decode cX11_step 154 = .ok (.iload_n 3, 1) := by decide +kernel
theorem dX11_step_155 : decode cX11_step 155 = .ok (.iastore, 1) := by decide +kernel
theorem dX11_step_156 : decode cX11_step 156 = .ok (.aload_n 0, 1) := by decide +kernel
theorem dX11_step_157 : decode cX11_step 157 = .ok (.getfield 71, 3) := by decide +kernel
theorem dX11_step_160 : decode cX11_step 160 = .ok (.iconst 3, 1) := by decide +kernel
theorem dX11_step_161 : decode cX11_step 161 = .ok (.iload 7, 2) := by decide +kernel
theorem dX11_step_163 : decode cX11_step 163 = .ok (.imul, 1) := by decide +kernel
theorem dX11_step_164 : decode cX11_step 164 = .ok (.iconst 2, 1) := by decide +kernel
theorem dX11_step_165 : decode cX11_step 165 = .ok (.iadd, 1) := by decide +kernel
theorem dX11_step_166 : decode cX11_step 166 = .ok (.iload 4, 2) := by decide +kernel
theorem dX11_step_168 : decode cX11_step 168 = .ok (.iastore, 1) := by decide +kernel
theorem dX11_step_169 : decode cX11_step 169 = .ok (.aload_n 0, 1) := by decide +kernel
theorem dX11_step_170 : decode cX11_step 170 = .ok (.getfield 74, 3) := by decide +kernel
theorem dX11_step_173 : decode cX11_step 173 = .ok (.iload 7, 2) := by decide +kernel
theorem dX11_step_175 : decode cX11_step 175 = .ok (.iconst 0, 1) := by decide +kernel
theorem dX11_step_176 : decode cX11_step 176 = .ok (.iastore, 1) := by decide +kernel
theorem dX11_step_177 : decode cX11_step 177 = .ok (.aload_n 0, 1) := by decide +kernel
theorem dX11_step_178 : decode cX11_step 178 = .ok (.getfield 68, 3) := by decide +kernel
theorem dX11_step_181 : decode cX11_step 181 = .ok (.iload_n 1, 1) := by decide +kernel
theorem dX11_step_182 : decode cX11_step 182 = .ok (.dup2, 1) := by decide +kernel
theorem dX11_step_183 : decode cX11_step 183 = .ok (.iaload, 1) := by decide +kernel
theorem dX11_step_184 : decode cX11_step 184 = .ok (.iconst 1, 1) := by decide +kernel
theorem dX11_step_185 : decode cX11_step 185 = .ok (.iadd, 1) := by decide +kernel
theorem dX11_step_186 : decode cX11_step 186 = .ok (.iastore, 1) := by decide +kernel
theorem dX11_step_187 : decode cX11_step 187 = .ok (.aload_n 0, 1) := by decide +kernel
theorem dX11_step_188 : decode cX11_step 188 = .ok (.getfield 68, 3) := by decide +kernel
theorem dX11_step_191 : decode cX11_step 191 = .ok (.iload_n 1, 1) := by decide +kernel
theorem dX11_step_192 : decode cX11_step 192 = .ok (.iaload, 1) := by decide +kernel
theorem dX11_step_193 : decode cX11_step 193 = .ok (.ireturn, 1) := by decide +kernel
abbrev cX11_takesCondition : ByteArray := prog_13_method_62_code
def yX11_takesCondition : MethodName := ⟨RX11, "takesCondition", "(I)Z"⟩
theorem dX11_takesCondition_0 : decode cX11_takesCondition 0 = .ok (.aload_n 0, 1) := by decide +kernel
theorem dX11_takesCondition_1 : decode cX11_takesCondition 1 = .ok (.getfield 68, 3) := by decide +kernel
theorem dX11_takesCondition_4 : decode cX11_takesCondition 4 = .ok (.iload_n 1, 1) := by decide +kernel
theorem dX11_takesCondition_5 : decode cX11_takesCondition 5 = .ok (.iaload, 1) := by decide +kernel
theorem dX11_takesCondition_6 : decode cX11_takesCondition 6 = .ok (.ifCond .le 36, 3) := by decide +kernel
theorem dX11_takesCondition_9 : decode cX11_takesCondition 9 = .ok (.aload_n 0, 1) := by decide +kernel
theorem dX11_takesCondition_10 : decode cX11_takesCondition 10 = .ok (.getfield 74, 3) := by decide +kernel
theorem dX11_takesCondition_13 : decode cX11_takesCondition 13 = .ok (.iconst 5, 1) := by decide +kernel
theorem dX11_takesCondition_14 : decode cX11_takesCondition 14 = .ok (.iload_n 1, 1) := by decide +kernel
theorem dX11_takesCondition_15 : decode cX11_takesCondition 15 = .ok (.imul, 1) := by decide +kernel
theorem dX11_takesCondition_16 : decode cX11_takesCondition 16 = .ok (.aload_n 0, 1) := by decide +kernel
theorem dX11_takesCondition_17 : decode cX11_takesCondition 17 = .ok (.getfield 68, 3) := by decide +kernel
theorem dX11_takesCondition_20 : decode cX11_takesCondition 20 = .ok (.iload_n 1, 1) := by decide +kernel
theorem dX11_takesCondition_21 : decode cX11_takesCondition 21 = .ok (.iaload, 1) := by decide +kernel
theorem dX11_takesCondition_22 : decode cX11_takesCondition 22 = .ok (.iadd, 1) := by decide +kernel
theorem dX11_takesCondition_23 : decode cX11_takesCondition 23 = .ok (.iconst 1, 1) := by decide +kernel
theorem dX11_takesCondition_24 : decode cX11_takesCondition 24 = .ok (.isub, 1) := by decide +kernel
theorem dX11_takesCondition_25 : decode cX11_takesCondition 25 = .ok (.iaload, 1) := by decide +kernel
theorem dX11_takesCondition_26 : decode cX11_takesCondition 26 = .ok (.iconst 2, 1) := by decide +kernel
theorem dX11_takesCondition_27 : decode cX11_takesCondition 27 = .ok (.if_icmp .ge 15, 3) := by decide +kernel
theorem dX11_takesCondition_30 : decode cX11_takesCondition 30 = .ok (.aload_n 0, 1) := by decide +kernel
theorem dX11_takesCondition_31 : decode cX11_takesCondition 31 = .ok (.iload_n 1, 1) := by decide +kernel
theorem dX11_takesCondition_32 : decode cX11_takesCondition 32 = .ok (.invokevirtual 308, 3) := by decide +kernel
theorem dX11_takesCondition_35 : decode cX11_takesCondition 35 = .ok (.ifCond .eq 7, 3) := by decide +kernel
theorem dX11_takesCondition_38 : decode cX11_takesCondition 38 = .ok (.iconst 1, 1) := by decide +kernel
theorem dX11_takesCondition_39 : decode cX11_takesCondition 39 = .ok (.goto 4, 3) := by decide +kernel
theorem dX11_takesCondition_42 : decode cX11_takesCondition 42 = .ok (.iconst 0, 1) := by decide +kernel
theorem dX11_takesCondition_43 : decode cX11_takesCondition 43 = .ok (.ireturn, 1) := by decide +kernel
abbrev cX11_condition : ByteArray := prog_13_method_63_code
def yX11_condition : MethodName := ⟨RX11, "condition", "(IIIII)I"⟩
theorem dX11_condition_0 : decode cX11_condition 0 = .ok (.iconst 5, 1) := by decide +kernel
theorem dX11_condition_1 : decode cX11_condition 1 = .ok (.iload_n 1, 1) := by decide +kernel
theorem dX11_condition_2 : decode cX11_condition 2 = .ok (.imul, 1) := by decide +kernel
theorem dX11_condition_3 : decode cX11_condition 3 = .ok (.aload_n 0, 1) := by decide +kernel
theorem dX11_condition_4 : decode cX11_condition 4 = .ok (.getfield 68, 3) := by decide +kernel
theorem dX11_condition_7 : decode cX11_condition 7 = .ok (.iload_n 1, 1) := by decide +kernel
theorem dX11_condition_8 : decode cX11_condition 8 = .ok (.iaload, 1) := by decide +kernel
theorem dX11_condition_9 : decode cX11_condition 9 = .ok (.iadd, 1) := by decide +kernel
theorem dX11_condition_10 : decode cX11_condition 10 = .ok (.iconst 1, 1) := by decide +kernel
theorem dX11_condition_11 : decode cX11_condition 11 = .ok (.isub, 1) := by decide +kernel
theorem dX11_condition_12 : decode cX11_condition 12 = .ok (.istore 6, 2) := by decide +kernel
theorem dX11_condition_14 : decode cX11_condition 14 = .ok (.iconst 4, 1) := by decide +kernel
theorem dX11_condition_15 : decode cX11_condition 15 = .ok (.iconst 2, 1) := by decide +kernel
theorem dX11_condition_16 : decode cX11_condition 16 = .ok (.iload 6, 2) := by decide +kernel
theorem dX11_condition_18 : decode cX11_condition 18 = .ok (.imul, 1) := by decide +kernel
theorem dX11_condition_19 : decode cX11_condition 19 = .ok (.aload_n 0, 1) := by decide +kernel
theorem dX11_condition_20 : decode cX11_condition 20 = .ok (.getfield 74, 3) := by decide +kernel
theorem dX11_condition_23 : decode cX11_condition 23 = .ok (.iload 6, 2) := by decide +kernel
theorem dX11_condition_25 : decode cX11_condition 25 = .ok (.iaload, 1) := by decide +kernel
theorem dX11_condition_26 : decode cX11_condition 26 = .ok (.iadd, 1) := by decide +kernel
theorem dX11_condition_27 : decode cX11_condition 27 = .ok (.imul, 1) := by decide +kernel
theorem dX11_condition_28 : decode cX11_condition 28 = .ok (.istore 7, 2) := by decide +kernel
theorem dX11_condition_30 : decode cX11_condition 30 = .ok (.aload_n 0, 1) := by decide +kernel
theorem dX11_condition_31 : decode cX11_condition 31 = .ok (.getfield 77, 3) := by decide +kernel
theorem dX11_condition_34 : decode cX11_condition 34 = .ok (.iload 7, 2) := by decide +kernel
theorem dX11_condition_36 : decode cX11_condition 36 = .ok (.iload_n 2, 1) := by decide +kernel
theorem dX11_condition_37 : decode cX11_condition 37 = .ok (.iastore, 1) := by decide +kernel
theorem dX11_condition_38 : decode cX11_condition 38 = .ok (.aload_n 0, 1) := by decide +kernel
theorem dX11_condition_39 : decode cX11_condition 39 = .ok (.getfield 77, 3) := by decide +kernel
theorem dX11_condition_42 : decode cX11_condition 42 = .ok (.iload 7, 2) := by decide +kernel
theorem dX11_condition_44 : decode cX11_condition 44 = .ok (.iconst 1, 1) := by decide +kernel
theorem dX11_condition_45 : decode cX11_condition 45 = .ok (.iadd, 1) := by decide +kernel
theorem dX11_condition_46 : decode cX11_condition 46 = .ok (.iload_n 3, 1) := by decide +kernel
theorem dX11_condition_47 : decode cX11_condition 47 = .ok (.iastore, 1) := by decide +kernel
theorem dX11_condition_48 : decode cX11_condition 48 = .ok (.aload_n 0, 1) := by decide +kernel
theorem dX11_condition_49 : decode cX11_condition 49 = .ok (.getfield 77, 3) := by decide +kernel
theorem dX11_condition_52 : decode cX11_condition 52 = .ok (.iload 7, 2) := by decide +kernel
theorem dX11_condition_54 : decode cX11_condition 54 = .ok (.iconst 2, 1) := by decide +kernel
theorem dX11_condition_55 : decode cX11_condition 55 = .ok (.iadd, 1) := by decide +kernel
theorem dX11_condition_56 : decode cX11_condition 56 = .ok (.iload 4, 2) := by decide +kernel
theorem dX11_condition_58 : decode cX11_condition 58 = .ok (.iastore, 1) := by decide +kernel
theorem dX11_condition_59 : decode cX11_condition 59 = .ok (.aload_n 0, 1) := by decide +kernel
theorem dX11_condition_60 : decode cX11_condition 60 = .ok (.getfield 77, 3) := by decide +kernel
theorem dX11_condition_63 : decode cX11_condition 63 = .ok (.iload 7, 2) := by decide +kernel
theorem dX11_condition_65 : decode cX11_condition 65 = .ok (.iconst 3, 1) := by decide +kernel
theorem dX11_condition_66 : decode cX11_condition 66 = .ok (.iadd, 1) := by decide +kernel
theorem dX11_condition_67 : decode cX11_condition 67 = .ok (.iload 5, 2) := by decide +kernel
theorem dX11_condition_69 : decode cX11_condition 69 = .ok (.iastore, 1) := by decide +kernel
theorem dX11_condition_70 : decode cX11_condition 70 = .ok (.aload_n 0, 1) := by decide +kernel
theorem dX11_condition_71 : decode cX11_condition 71 = .ok (.getfield 74, 3) := by decide +kernel
theorem dX11_condition_74 : decode cX11_condition 74 = .ok (.iload 6, 2) := by decide +kernel
theorem dX11_condition_76 : decode cX11_condition 76 = .ok (.dup2, 1) := by decide +kernel
theorem dX11_condition_77 : decode cX11_condition 77 = .ok (.iaload, 1) := by decide +kernel
theorem dX11_condition_78 : decode cX11_condition 78 = .ok (.iconst 1, 1) := by decide +kernel
theorem dX11_condition_79 : decode cX11_condition 79 = .ok (.iadd, 1) := by decide +kernel
theorem dX11_condition_80 : decode cX11_condition 80 = .ok (.iastore, 1) := by decide +kernel
theorem dX11_condition_81 : decode cX11_condition 81 = .ok (.aload_n 0, 1) := by decide +kernel
theorem dX11_condition_82 : decode cX11_condition 82 = .ok (.getfield 74, 3) := by decide +kernel
theorem dX11_condition_85 : decode cX11_condition 85 = .ok (.iload 6, 2) := by decide +kernel
theorem dX11_condition_87 : decode cX11_condition 87 = .ok (.iaload, 1) := by decide +kernel
theorem dX11_condition_88 : decode cX11_condition 88 = .ok (.ireturn, 1) := by decide +kernel
abbrev cX11_place : ByteArray := prog_13_method_64_code
def yX11_place : MethodName := ⟨RX11, "place", "(III)I"⟩
theorem dX11_place_0 : decode cX11_place 0 = .ok (.iload_n 2, 1) := by decide +kernel
theorem dX11_place_1 : decode cX11_place 1 = .ok (.iconst 0, 1) := by decide +kernel
theorem dX11_place_2 : decode cX11_place 2 = .ok (.iconst 2, 1) := by decide +kernel
theorem dX11_place_3 : decode cX11_place 3 = .ok (.invokestatic 169, 3) := by decide +kernel
theorem dX11_place_6 : decode cX11_place 6 = .ok (.ifCond .eq 17, 3) := by decide +kernel
theorem dX11_place_9 : decode cX11_place 9 = .ok (.iload_n 3, 1) := by decide +kernel
theorem dX11_place_10 : decode cX11_place 10 = .ok (.iconst 0, 1) := by decide +kernel
theorem dX11_place_11 : decode cX11_place 11 = .ok (.bipush 99, 2) := by decide +kernel
theorem dX11_place_13 : decode cX11_place 13 = .ok (.invokestatic 169, 3) := by decide +kernel
theorem dX11_place_16 : decode cX11_place 16 = .ok (.ifCond .eq 7, 3) := by decide +kernel
theorem dX11_place_19 : decode cX11_place 19 = .ok (.iconst 1, 1) := by decide +kernel
theorem dX11_place_20 : decode cX11_place 20 = .ok (.goto 4, 3) := by decide +kernel
theorem dX11_place_23 : decode cX11_place 23 = .ok (.iconst 0, 1) := by decide +kernel
theorem dX11_place_24 : decode cX11_place 24 = .ok (.istore 4, 2) := by decide +kernel
theorem dX11_place_26 : decode cX11_place 26 = .ok (.aload_n 0, 1) := by decide +kernel
theorem dX11_place_27 : decode cX11_place 27 = .ok (.aload_n 0, 1) := by decide +kernel
theorem dX11_place_28 : decode cX11_place 28 = .ok (.iload_n 1, 1) := by decide +kernel
theorem dX11_place_29 : decode cX11_place 29 = .ok (.invokevirtual 305, 3) := by decide +kernel
theorem dX11_place_32 : decode cX11_place 32 = .ok (.ifCond .ne 7, 3) := by decide +kernel
theorem dX11_place_35 : decode cX11_place 35 = .ok (.iconst 1, 1) := by decide +kernel
theorem dX11_place_36 : decode cX11_place 36 = .ok (.goto 25, 3) := by decide +kernel
theorem dX11_place_39 : decode cX11_place 39 = .ok (.iload 4, 2) := by decide +kernel
theorem dX11_place_41 : decode cX11_place 41 = .ok (.ifCond .ne 7, 3) := by decide +kernel
theorem dX11_place_44 : decode cX11_place 44 = .ok (.iconst 2, 1) := by decide +kernel
theorem dX11_place_45 : decode cX11_place 45 = .ok (.goto 16, 3) := by decide +kernel
theorem dX11_place_48 : decode cX11_place 48 = .ok (.aload_n 0, 1) := by decide +kernel
theorem dX11_place_49 : decode cX11_place 49 = .ok (.iload_n 1, 1) := by decide +kernel
theorem dX11_place_50 : decode cX11_place 50 = .ok (.invokevirtual 311, 3) := by decide +kernel
theorem dX11_place_53 : decode cX11_place 53 = .ok (.ifCond .eq 7, 3) := by decide +kernel
theorem dX11_place_56 : decode cX11_place 56 = .ok (.iconst 0, 1) := by decide +kernel
theorem dX11_place_57 : decode cX11_place 57 = .ok (.goto 4, 3) := by decide +kernel
theorem dX11_place_60 : decode cX11_place 60 = .ok (.iconst 3, 1) := by decide +kernel
theorem dX11_place_61 : decode cX11_place 61 = .ok (.invokevirtual 204, 3) := by decide +kernel
theorem dX11_place_64 : decode cX11_place 64 = .ok (.ifCond .eq 5, 3) := by decide +kernel
theorem dX11_place_67 : decode cX11_place 67 = .ok (.iconst 0, 1) := by decide +kernel
theorem dX11_place_68 : decode cX11_place 68 = .ok (.ireturn, 1) := by decide +kernel
theorem dX11_place_69 : decode cX11_place 69 = .ok (.aload_n 0, 1) := by decide +kernel
theorem dX11_place_70 : decode cX11_place 70 = .ok (.iload_n 1, 1) := by decide +kernel
theorem dX11_place_71 : decode cX11_place 71 = .ok (.iconst 0, 1) := by decide +kernel
theorem dX11_place_72 : decode cX11_place 72 = .ok (.iconst (-1), 1) := by decide +kernel
theorem dX11_place_73 : decode cX11_place 73 = .ok (.iload_n 2, 1) := by decide +kernel
theorem dX11_place_74 : decode cX11_place 74 = .ok (.iload_n 3, 1) := by decide +kernel
theorem dX11_place_75 : decode cX11_place 75 = .ok (.invokevirtual 314, 3) := by decide +kernel
theorem dX11_place_78 : decode cX11_place 78 = .ok (.ireturn, 1) := by decide +kernel
abbrev cX11_last : ByteArray := prog_13_method_65_code
def yX11_last : MethodName := ⟨RX11, "last", "(I)I"⟩
theorem dX11_last_0 : decode cX11_last 0 = .ok (.aload_n 0, 1) := by decide +kernel
theorem dX11_last_1 : decode cX11_last 1 = .ok (.aload_n 0, 1) := by decide +kernel
theorem dX11_last_2 : decode cX11_last 2 = .ok (.iload_n 1, 1) := by decide +kernel
theorem dX11_last_3 : decode cX11_last 3 = .ok (.invokevirtual 305, 3) := by decide +kernel
theorem dX11_last_6 : decode cX11_last 6 = .ok (.ifCond .ne 7, 3) := by decide +kernel
theorem dX11_last_9 : decode cX11_last 9 = .ok (.iconst 1, 1) := by decide +kernel
theorem dX11_last_10 : decode cX11_last 10 = .ok (.goto 16, 3) := by decide +kernel
theorem dX11_last_13 : decode cX11_last 13 = .ok (.aload_n 0, 1) := by decide +kernel
theorem dX11_last_14 : decode cX11_last 14 = .ok (.iload_n 1, 1) := by decide +kernel
theorem dX11_last_15 : decode cX11_last 15 = .ok (.invokevirtual 311, 3) := by decide +kernel
theorem dX11_last_18 : decode cX11_last 18 = .ok (.ifCond .eq 7, 3) := by decide +kernel
theorem dX11_last_21 : decode cX11_last 21 = .ok (.iconst 0, 1) := by decide +kernel
theorem dX11_last_22 : decode cX11_last 22 = .ok (.goto 4, 3) := by decide +kernel
theorem dX11_last_25 : decode cX11_last 25 = .ok (.iconst 2, 1) := by decide +kernel
theorem dX11_last_26 : decode cX11_last 26 = .ok (.invokevirtual 204, 3) := by decide +kernel
theorem dX11_last_29 : decode cX11_last 29 = .ok (.ifCond .eq 5, 3) := by decide +kernel
theorem dX11_last_32 : decode cX11_last 32 = .ok (.iconst 0, 1) := by decide +kernel
theorem dX11_last_33 : decode cX11_last 33 = .ok (.ireturn, 1) := by decide +kernel
theorem dX11_last_34 : decode cX11_last 34 = .ok (.aload_n 0, 1) := by decide +kernel
theorem dX11_last_35 : decode cX11_last 35 = .ok (.iload_n 1, 1) := by decide +kernel
theorem dX11_last_36 : decode cX11_last 36 = .ok (.iconst 1, 1) := by decide +kernel
theorem dX11_last_37 : decode cX11_last 37 = .ok (.iconst (-1), 1) := by decide +kernel
theorem dX11_last_38 : decode cX11_last 38 = .ok (.iconst 0, 1) := by decide +kernel
theorem dX11_last_39 : decode cX11_last 39 = .ok (.iconst 0, 1) := by decide +kernel
theorem dX11_last_40 : decode cX11_last 40 = .ok (.invokevirtual 314, 3) := by decide +kernel
theorem dX11_last_43 : decode cX11_last 43 = .ok (.ireturn, 1) := by decide +kernel
abbrev cX11_has : ByteArray := prog_13_method_66_code
def yX11_has : MethodName := ⟨RX11, "has", "(IIZ)I"⟩
theorem dX11_has_0 : decode cX11_has 0 = .ok (.aload_n 0, 1) := by decide +kernel
theorem dX11_has_1 : decode cX11_has 1 = .ok (.iload_n 1, 1) := by decide +kernel
theorem dX11_has_2 : decode cX11_has 2 = .ok (.invokevirtual 305, 3) := by decide +kernel
theorem dX11_has_5 : decode cX11_has 5 = .ok (.ifCond .eq 18, 3) := by decide +kernel
theorem dX11_has_8 : decode cX11_has 8 = .ok (.iload_n 2, 1) := by decide +kernel
theorem dX11_has_9 : decode cX11_has 9 = .ok (.iconst 0, 1) := by decide +kernel
theorem dX11_has_10 : decode cX11_has 10 = .ok (.iload_n 1, 1) := by decide +kernel
theorem dX11_has_11 : decode cX11_has 11 = .ok (.iconst 1, 1) := by decide +kernel
theorem dX11_has_12 : decode cX11_has 12 = .ok (.isub, 1) := by decide +kernel
theorem dX11_has_13 : decode cX11_has 13 = .ok (.invokestatic 169, 3) := by decide +kernel
theorem dX11_has_16 : decode cX11_has 16 = .ok (.ifCond .eq 7, 3) := by decide +kernel
theorem dX11_has_19 : decode cX11_has 19 = .ok (.iconst 1, 1) := by decide +kernel
theorem dX11_has_20 : decode cX11_has 20 = .ok (.goto 4, 3) := by decide +kernel
theorem dX11_has_23 : decode cX11_has 23 = .ok (.iconst 0, 1) := by decide +kernel
theorem dX11_has_24 : decode cX11_has 24 = .ok (.istore 4, 2) := by decide +kernel
theorem dX11_has_26 : decode cX11_has 26 = .ok (.aload_n 0, 1) := by decide +kernel
theorem dX11_has_27 : decode cX11_has 27 = .ok (.iload 4, 2) := by decide +kernel
theorem dX11_has_29 : decode cX11_has 29 = .ok (.ifCond .ne 7, 3) := by decide +kernel
theorem dX11_has_32 : decode cX11_has 32 = .ok (.iconst 1, 1) := by decide +kernel
theorem dX11_has_33 : decode cX11_has 33 = .ok (.goto 16, 3) := by decide +kernel
theorem dX11_has_36 : decode cX11_has 36 = .ok (.aload_n 0, 1) := by decide +kernel
theorem dX11_has_37 : decode cX11_has 37 = .ok (.iload_n 1, 1) := by decide +kernel
theorem dX11_has_38 : decode cX11_has 38 = .ok (.invokevirtual 311, 3) := by decide +kernel
theorem dX11_has_41 : decode cX11_has 41 = .ok (.ifCond .eq 7, 3) := by decide +kernel
theorem dX11_has_44 : decode cX11_has 44 = .ok (.iconst 0, 1) := by decide +kernel
theorem dX11_has_45 : decode cX11_has 45 = .ok (.goto 4, 3) := by decide +kernel
theorem dX11_has_48 : decode cX11_has 48 = .ok (.iconst 2, 1) := by decide +kernel
theorem dX11_has_49 : decode cX11_has 49 = .ok (.invokevirtual 204, 3) := by decide +kernel
theorem dX11_has_52 : decode cX11_has 52 = .ok (.ifCond .eq 5, 3) := by decide +kernel
theorem dX11_has_55 : decode cX11_has 55 = .ok (.iconst 0, 1) := by decide +kernel
theorem dX11_has_56 : decode cX11_has 56 = .ok (.ireturn, 1) := by decide +kernel
theorem dX11_has_57 : decode cX11_has 57 = .ok (.aload_n 0, 1) := by decide +kernel
theorem dX11_has_58 : decode cX11_has 58 = .ok (.iload_n 1, 1) := by decide +kernel
theorem dX11_has_59 : decode cX11_has 59 = .ok (.iload_n 3, 1) := by decide +kernel
theorem dX11_has_60 : decode cX11_has 60 = .ok (.ifCond .eq 7, 3) := by decide +kernel
theorem dX11_has_63 : decode cX11_has 63 = .ok (.iconst 2, 1) := by decide +kernel
theorem dX11_has_64 : decode cX11_has 64 = .ok (.goto 4, 3) := by decide +kernel
theorem dX11_has_67 : decode cX11_has 67 = .ok (.iconst 3, 1) := by decide +kernel
theorem dX11_has_68 : decode cX11_has 68 = .ok (.iload_n 2, 1) := by decide +kernel
theorem dX11_has_69 : decode cX11_has 69 = .ok (.iconst 0, 1) := by decide +kernel
theorem dX11_has_70 : decode cX11_has 70 = .ok (.iconst 0, 1) := by decide +kernel
theorem dX11_has_71 : decode cX11_has 71 = .ok (.invokevirtual 314, 3) := by decide +kernel
theorem dX11_has_74 : decode cX11_has 74 = .ok (.ireturn, 1) := by decide +kernel
abbrev cX11_worth : ByteArray := prog_13_method_67_code
def yX11_worth : MethodName := ⟨RX11, "worth", "(IIII)I"⟩
theorem dX11_worth_0 : decode cX11_worth 0 = .ok (.aload_n 0, 1) := by decide +kernel
theorem dX11_worth_1 : decode cX11_worth 1 = .ok (.iload_n 1, 1) := by decide +kernel
theorem dX11_worth_2 : decode cX11_worth 2 = .ok (.invokevirtual 305, 3) := by decide +kernel
theorem dX11_worth_5 : decode cX11_worth 5 = .ok (.ifCond .eq 18, 3) := by decide +kernel
theorem dX11_worth_8 : decode cX11_worth 8 = .ok (.iload_n 2, 1) := by decide +kernel
theorem dX11_worth_9 : decode cX11_worth 9 = .ok (.iconst 0, 1) := by decide +kernel
theorem dX11_worth_10 : decode cX11_worth 10 = .ok (.iload_n 1, 1) := by decide +kernel
theorem dX11_worth_11 : decode cX11_worth 11 = .ok (.iconst 1, 1) := by decide +kernel
theorem dX11_worth_12 : decode cX11_worth 12 = .ok (.isub, 1) := by decide +kernel
theorem dX11_worth_13 : decode cX11_worth 13 = .ok (.invokestatic 169, 3) := by decide +kernel
theorem dX11_worth_16 : decode cX11_worth 16 = .ok (.ifCond .eq 7, 3) := by decide +kernel
theorem dX11_worth_19 : decode cX11_worth 19 = .ok (.iconst 1, 1) := by decide +kernel
theorem dX11_worth_20 : decode cX11_worth 20 = .ok (.goto 4, 3) := by decide +kernel
theorem dX11_worth_23 : decode cX11_worth 23 = .ok (.iconst 0, 1) := by decide +kernel
theorem dX11_worth_24 : decode cX11_worth 24 = .ok (.istore 5, 2) := by decide +kernel
theorem dX11_worth_26 : decode cX11_worth 26 = .ok (.iload_n 3, 1) := by decide +kernel
theorem dX11_worth_27 : decode cX11_worth 27 = .ok (.iconst 0, 1) := by decide +kernel
theorem dX11_worth_28 : decode cX11_worth 28 = .ok (.iconst 2, 1) := by decide +kernel
theorem dX11_worth_29 : decode cX11_worth 29 = .ok (.invokestatic 169, 3) := by decide +kernel
theorem dX11_worth_32 : decode cX11_worth 32 = .ok (.ifCond .eq 19, 3) := by decide +kernel
theorem dX11_worth_35 : decode cX11_worth 35 = .ok (.iload 4, 2) := by decide +kernel
theorem dX11_worth_37 : decode cX11_worth 37 = .ok (.iconst 0, 1) := by decide +kernel
theorem dX11_worth_38 : decode cX11_worth 38 = .ok (.sipush 999, 3) := by decide +kernel
theorem dX11_worth_41 : decode cX11_worth 41 = .ok (.invokestatic 169, 3) := by decide +kernel
theorem dX11_worth_44 : decode cX11_worth 44 = .ok (.ifCond .eq 7, 3) := by decide +kernel
theorem dX11_worth_47 : decode cX11_worth 47 = .ok (.iconst 1, 1) := by decide +kernel
theorem dX11_worth_48 : decode cX11_worth 48 = .ok (.goto 4, 3) := by decide +kernel
theorem dX11_worth_51 : decode cX11_worth 51 = .ok (.iconst 0, 1) := by decide +kernel
theorem dX11_worth_52 : decode cX11_worth 52 = .ok (.istore 6, 2) := by decide +kernel
theorem dX11_worth_54 : decode cX11_worth 54 = .ok (.aload_n 0, 1) := by decide +kernel
theorem dX11_worth_55 : decode cX11_worth 55 = .ok (.iload 5, 2) := by decide +kernel
theorem dX11_worth_57 : decode cX11_worth 57 = .ok (.ifCond .ne 7, 3) := by decide +kernel
theorem dX11_worth_60 : decode cX11_worth 60 = .ok (.iconst 1, 1) := by decide +kernel
theorem dX11_worth_61 : decode cX11_worth 61 = .ok (.goto 25, 3) := by decide +kernel
theorem dX11_worth_64 : decode cX11_worth 64 = .ok (.iload 6, 2) := by decide +kernel
theorem dX11_worth_66 : decode cX11_worth 66 = .ok (.ifCond .ne 7, 3) := by decide +kernel
theorem dX11_worth_69 : decode cX11_worth 69 = .ok (.iconst 2, 1) := by decide +kernel
theorem dX11_worth_70 : decode cX11_worth 70 = .ok (.goto 16, 3) := by decide +kernel
theorem dX11_worth_73 : decode cX11_worth 73 = .ok (.aload_n 0, 1) := by decide +kernel
theorem dX11_worth_74 : decode cX11_worth 74 = .ok (.iload_n 1, 1) := by decide +kernel
theorem dX11_worth_75 : decode cX11_worth 75 = .ok (.invokevirtual 311, 3) := by decide +kernel
theorem dX11_worth_78 : decode cX11_worth 78 = .ok (.ifCond .eq 7, 3) := by decide +kernel
theorem dX11_worth_81 : decode cX11_worth 81 = .ok (.iconst 0, 1) := by decide +kernel
theorem dX11_worth_82 : decode cX11_worth 82 = .ok (.goto 4, 3) := by decide +kernel
theorem dX11_worth_85 : decode cX11_worth 85 = .ok (.iconst 3, 1) := by decide +kernel
theorem dX11_worth_86 : decode cX11_worth 86 = .ok (.invokevirtual 204, 3) := by decide +kernel
theorem dX11_worth_89 : decode cX11_worth 89 = .ok (.ifCond .eq 5, 3) := by decide +kernel
theorem dX11_worth_92 : decode cX11_worth 92 = .ok (.iconst 0, 1) := by decide +kernel
theorem dX11_worth_93 : decode cX11_worth 93 = .ok (.ireturn, 1) := by decide +kernel
theorem dX11_worth_94 : decode cX11_worth 94 = .ok (.aload_n 0, 1) := by decide +kernel
theorem dX11_worth_95 : decode cX11_worth 95 = .ok (.iload_n 1, 1) := by decide +kernel
theorem dX11_worth_96 : decode cX11_worth 96 = .ok (.iconst 4, 1) := by decide +kernel
theorem dX11_worth_97 : decode cX11_worth 97 = .ok (.iload_n 2, 1) := by decide +kernel
theorem dX11_worth_98 : decode cX11_worth 98 = .ok (.iload_n 3, 1) := by decide +kernel
theorem dX11_worth_99 : decode cX11_worth 99 = .ok (.iload 4, 2) := by decide +kernel
theorem dX11_worth_101 : decode cX11_worth 101 = .ok (.invokevirtual 314, 3) := by decide +kernel
theorem dX11_worth_104 : decode cX11_worth 104 = .ok (.ireturn, 1) := by decide +kernel
abbrev cX11_paths : ByteArray := prog_13_method_68_code
def yX11_paths : MethodName := ⟨RX11, "paths", "()I"⟩
theorem dX11_paths_0 : decode cX11_paths 0 = .ok (.aload_n 0, 1) := by decide +kernel
theorem dX11_paths_1 : decode cX11_paths 1 = .ok (.aload_n 0, 1) := by decide +kernel
theorem dX11_paths_2 : decode cX11_paths 2 = .ok (.getfield 296, 3) := by decide +kernel
theorem dX11_paths_5 : decode cX11_paths 5 = .ok (.invokevirtual 283, 3) := by decide +kernel
theorem dX11_paths_8 : decode cX11_paths 8 = .ok (.ireturn, 1) := by decide +kernel
abbrev cX11_readAsReader : ByteArray := prog_13_method_69_code
def yX11_readAsReader : MethodName := ⟨RX11, "readAsReader", "(Z)Z"⟩
theorem dX11_readAsReader_0 : decode cX11_readAsReader 0 = .ok (.aload_n 0, 1) := by decide +kernel
theorem dX11_readAsReader_1 : decode cX11_readAsReader 1 = .ok (.iconst 0, 1) := by decide +kernel
theorem dX11_readAsReader_2 : decode cX11_readAsReader 2 = .ok (.putfield 166, 3) := by decide +kernel
theorem dX11_readAsReader_5 : decode cX11_readAsReader 5 = .ok (.aload_n 0, 1) := by decide +kernel
theorem dX11_readAsReader_6 : decode cX11_readAsReader 6 = .ok (.getfield 318, 3) := by decide +kernel
theorem dX11_readAsReader_9 : decode cX11_readAsReader 9 = .ok (.istore_n 2, 1) := by decide +kernel
theorem dX11_readAsReader_10 : decode cX11_readAsReader 10 = .ok (.aload_n 0, 1) := by decide +kernel
theorem dX11_readAsReader_11 : decode cX11_readAsReader 11 = .ok (.iload_n 1, 1) := by decide +kernel
theorem dX11_readAsReader_12 : decode cX11_readAsReader 12 = .ok (.putfield 318, 3) := by decide +kernel
theorem dX11_readAsReader_15 : decode cX11_readAsReader 15 = .ok (.iload_n 2, 1) := by decide +kernel
theorem dX11_readAsReader_16 : decode cX11_readAsReader 16 = .ok (.ireturn, 1) := by decide +kernel
abbrev cX11_seen : ByteArray := prog_13_method_77_code
def yX11_seen : MethodName := ⟨RX11, "seen", "()J"⟩
theorem dX11_seen_0 : decode cX11_seen 0 = .ok (.aload_n 0, 1) := by decide +kernel
theorem dX11_seen_1 : decode cX11_seen 1 = .ok (.aload_n 0, 1) := by decide +kernel
theorem dX11_seen_2 : decode cX11_seen 2 = .ok (.invokevirtual 228, 3) := by decide +kernel
theorem dX11_seen_5 : decode cX11_seen 5 = .ok (.invokevirtual 348, 3) := by decide +kernel
theorem dX11_seen_8 : decode cX11_seen 8 = .ok (.lconst 0, 1) := by decide +kernel
theorem dX11_seen_9 : decode cX11_seen 9 = .ok (.lstore_n 1, 1) := by decide +kernel
theorem dX11_seen_10 : decode cX11_seen 10 = .ok (.iconst 0, 1) := by decide +kernel
theorem dX11_seen_11 : decode cX11_seen 11 = .ok (.istore_n 3, 1) := by decide +kernel
theorem dX11_seen_12 : decode cX11_seen 12 = .ok (.iload_n 3, 1) := by decide +kernel
theorem dX11_seen_13 : decode cX11_seen 13 = .ok (.aload_n 0, 1) := by decide +kernel
theorem dX11_seen_14 : decode cX11_seen 14 = .ok (.getfield 352, 3) := by decide +kernel
theorem dX11_seen_17 : decode cX11_seen 17 = .ok (.if_icmp .ge 26, 3) := by decide +kernel
theorem dX11_seen_20 : decode cX11_seen 20 = .ok (.lload_n 1, 1) := by decide +kernel
theorem dX11_seen_21 : decode cX11_seen 21 = .ok (.aload_n 0, 1) := by decide +kernel
theorem dX11_seen_22 : decode cX11_seen 22 = .ok (.getfield 80, 3) := by decide +kernel
theorem dX11_seen_25 : decode cX11_seen 25 = .ok (.bipush 60, 2) := by decide +kernel
theorem dX11_seen_27 : decode cX11_seen 27 = .ok (.aload_n 0, 1) := by decide +kernel
theorem dX11_seen_28 : decode cX11_seen 28 = .ok (.getfield 87, 3) := by decide +kernel
theorem dX11_seen_31 : decode cX11_seen 31 = .ok (.iload_n 3, 1) := by decide +kernel
theorem dX11_seen_32 : decode cX11_seen 32 = .ok (.iaload, 1) := by decide +kernel
theorem dX11_seen_33 : decode cX11_seen 33 = .ok (.imul, 1) := by decide +kernel
theorem dX11_seen_34 : decode cX11_seen 34 = .ok (.laload, 1) := by decide +kernel
theorem dX11_seen_35 : decode cX11_seen 35 = .ok (.lor, 1) := by decide +kernel
theorem dX11_seen_36 : decode cX11_seen 36 = .ok (.lstore_n 1, 1) := by decide +kernel
theorem dX11_seen_37 : decode cX11_seen 37 = .ok (.iinc 3 1, 3) := by decide +kernel
theorem dX11_seen_40 : decode cX11_seen 40 = .ok (.goto (-28), 3) := by decide +kernel
theorem dX11_seen_43 : decode cX11_seen 43 = .ok (.lconst 1, 1) := by decide +kernel
theorem dX11_seen_44 : decode cX11_seen 44 = .ok (.lstore_n 3, 1) := by decide +kernel
theorem dX11_seen_45 : decode cX11_seen 45 = .ok (.iconst 0, 1) := by decide +kernel
theorem dX11_seen_46 : decode cX11_seen 46 = .ok (.istore 5, 2) := by decide +kernel
theorem dX11_seen_48 : decode cX11_seen 48 = .ok (.iload 5, 2) := by decide +kernel
theorem dX11_seen_50 : decode cX11_seen 50 = .ok (.aload_n 0, 1) := by decide +kernel
theorem dX11_seen_51 : decode cX11_seen 51 = .ok (.getfield 173, 3) := by decide +kernel
theorem dX11_seen_54 : decode cX11_seen 54 = .ok (.if_icmp .ge 82, 3) := by decide +kernel
theorem dX11_seen_57 : decode cX11_seen 57 = .ok (.iconst 1, 1) := by decide +kernel
theorem dX11_seen_58 : decode cX11_seen 58 = .ok (.istore 6, 2) := by decide +kernel
theorem dX11_seen_60 : decode cX11_seen 60 = .ok (.aload_n 0, 1) := by decide +kernel
theorem dX11_seen_61 : decode cX11_seen 61 = .ok (.getfield 35, 3) := by decide +kernel
theorem dX11_seen_64 : decode cX11_seen 64 = .ok (.iload 5, 2) := by decide +kernel
theorem dX11_seen_66 : decode cX11_seen 66 = .ok (.iaload, 1) := by decide +kernel
theorem dX11_seen_67 : decode cX11_seen 67 = .ok (.istore 7, 2) := by decide +kernel
theorem dX11_seen_69 : decode cX11_seen 69 = .ok (.iload 7, 2) := by decide +kernel
theorem dX11_seen_71 : decode cX11_seen 71 = .ok (.ifCond .le 38, 3) := by decide +kernel
theorem dX11_seen_74 : decode cX11_seen 74 = .ok (.iload 6, 2) := by decide +kernel
theorem dX11_seen_76 : decode cX11_seen 76 = .ok (.ifCond .eq 18, 3) := by decide +kernel
theorem dX11_seen_79 : decode cX11_seen 79 = .ok (.lload_n 1, 1) := by decide +kernel
theorem dX11_seen_80 : decode cX11_seen 80 = .ok (.iload 7, 2) := by decide +kernel
theorem dX11_seen_82 : decode cX11_seen 82 = .ok (.lshr, 1) := by decide +kernel
theorem dX11_seen_83 : decode cX11_seen 83 = .ok (.lconst 1, 1) := by decide +kernel
theorem dX11_seen_84 : decode cX11_seen 84 = .ok (.land, 1) := by decide +kernel
theorem dX11_seen_85 : decode cX11_seen 85 = .ok (.lconst 0, 1) := by decide +kernel
theorem dX11_seen_86 : decode cX11_seen 86 = .ok (.lcmp, 1) := by decide +kernel
theorem dX11_seen_87 : decode cX11_seen 87 = .ok (.ifCond .ne 7, 3) := by decide +kernel
theorem dX11_seen_90 : decode cX11_seen 90 = .ok (.iconst 1, 1) := by decide +kernel
theorem dX11_seen_91 : decode cX11_seen 91 = .ok (.goto 4, 3) := by decide +kernel
theorem dX11_seen_94 : decode cX11_seen 94 = .ok (.iconst 0, 1) := by decide +kernel
theorem dX11_seen_95 : decode cX11_seen 95 = .ok (.istore 6, 2) := by decide +kernel
theorem dX11_seen_97 : decode cX11_seen 97 = .ok (.aload_n 0, 1) := by decide +kernel
theorem dX11_seen_98 : decode cX11_seen 98 = .ok (.getfield 22, 3) := by decide +kernel
theorem dX11_seen_101 : decode cX11_seen 101 = .ok (.iload 7, 2) := by decide +kernel
theorem dX11_seen_103 : decode cX11_seen 103 = .ok (.iaload, 1) := by decide +kernel
theorem dX11_seen_104 : decode cX11_seen 104 = .ok (.istore 7, 2) := by decide +kernel
theorem dX11_seen_106 : decode cX11_seen 106 = .ok (.goto (-37), 3) := by decide +kernel
theorem dX11_seen_109 : decode cX11_seen 109 = .ok (.lload_n 3, 1) := by decide +kernel
theorem dX11_seen_110 : decode cX11_seen 110 = .ok (.iload 6, 2) := by decide +kernel
theorem dX11_seen_112 : decode cX11_seen 112 = .ok (.ifCond .eq 15, 3) := by decide +kernel
theorem dX11_seen_115 : decode cX11_seen 115 = .ok (.lconst 1, 1) := by decide +kernel
theorem dX11_seen_116 : decode cX11_seen 116 = .ok (.aload_n 0, 1) := by decide +kernel
theorem dX11_seen_117 : decode cX11_seen 117 = .ok (.getfield 35, 3) := by decide +kernel
theorem dX11_seen_120 : decode cX11_seen 120 = .ok (.iload 5, 2) := by decide +kernel
theorem dX11_seen_122 : decode cX11_seen 122 = .ok (.iaload, 1) := by decide +kernel
theorem dX11_seen_123 : decode cX11_seen 123 = .ok (.lshl, 1) := by decide +kernel
theorem dX11_seen_124 : decode cX11_seen 124 = .ok (.goto 4, 3) := by decide +kernel
theorem dX11_seen_127 : decode cX11_seen 127 = .ok (.lconst 0, 1) := by decide +kernel
theorem dX11_seen_128 : decode cX11_seen 128 = .ok (.lor, 1) := by decide +kernel
theorem dX11_seen_129 : decode cX11_seen 129 = .ok (.lstore_n 3, 1) := by decide +kernel
theorem dX11_seen_130 : decode cX11_seen 130 = .ok (.iinc 5 1, 3) := by decide +kernel
theorem dX11_seen_133 : decode cX11_seen 133 = .ok (.goto (-85), 3) := by decide +kernel
theorem dX11_seen_136 : decode cX11_seen 136 = .ok (.lload_n 3, 1) := by decide +kernel
theorem dX11_seen_137 : decode cX11_seen 137 = .ok (.lreturn, 1) := by decide +kernel
abbrev cX11_read : ByteArray := prog_13_method_78_code
def yX11_read : MethodName := ⟨RX11, "read", "()V"⟩
theorem dX11_read_0 : decode cX11_read 0 = .ok (.aload_n 0, 1) := by decide +kernel
theorem dX11_read_1 : decode cX11_read 1 = .ok (.aload_n 0, 1) := by decide +kernel
theorem dX11_read_2 : decode cX11_read 2 = .ok (.getfield 318, 3) := by decide +kernel
theorem dX11_read_5 : decode cX11_read 5 = .ok (.ifCond .eq 10, 3) := by decide +kernel
theorem dX11_read_8 : decode cX11_read 8 = .ok (.aload_n 0, 1) := by decide +kernel
theorem dX11_read_9 : decode cX11_read 9 = .ok (.invokevirtual 355, 3) := by decide +kernel
theorem dX11_read_12 : decode cX11_read 12 = .ok (.goto 7, 3) := by decide +kernel
theorem dX11_read_15 : decode cX11_read 15 = .ok (.aload_n 0, 1) := by decide +kernel
theorem dX11_read_16 : decode cX11_read 16 = .ok (.invokevirtual 228, 3) := by decide +kernel
theorem dX11_read_19 : decode cX11_read 19 = .ok (.invokevirtual 348, 3) := by decide +kernel
theorem dX11_read_22 : decode cX11_read 22 = .ok (.return_, 1) := by decide +kernel
abbrev cX11_found : ByteArray := prog_13_method_80_code
def yX11_found : MethodName := ⟨RX11, "found", "(II)I"⟩
theorem dX11_found_0 : decode cX11_found 0 = .ok (.aload_n 0, 1) := by decide +kernel
theorem dX11_found_1 : decode cX11_found 1 = .ok (.iload_n 1, 1) := by decide +kernel
theorem dX11_found_2 : decode cX11_found 2 = .ok (.invokevirtual 305, 3) := by decide +kernel
theorem dX11_found_5 : decode cX11_found 5 = .ok (.ifCond .eq 15, 3) := by decide +kernel
theorem dX11_found_8 : decode cX11_found 8 = .ok (.aload_n 0, 1) := by decide +kernel
theorem dX11_found_9 : decode cX11_found 9 = .ok (.iload_n 2, 1) := by decide +kernel
theorem dX11_found_10 : decode cX11_found 10 = .ok (.invokevirtual 194, 3) := by decide +kernel
theorem dX11_found_13 : decode cX11_found 13 = .ok (.ifCond .eq 7, 3) := by decide +kernel
theorem dX11_found_16 : decode cX11_found 16 = .ok (.iconst 1, 1) := by decide +kernel
theorem dX11_found_17 : decode cX11_found 17 = .ok (.goto 4, 3) := by decide +kernel
theorem dX11_found_20 : decode cX11_found 20 = .ok (.iconst 0, 1) := by decide +kernel
theorem dX11_found_21 : decode cX11_found 21 = .ok (.istore_n 3, 1) := by decide +kernel
theorem dX11_found_22 : decode cX11_found 22 = .ok (.iload_n 3, 1) := by decide +kernel
theorem dX11_found_23 : decode cX11_found 23 = .ok (.ifCond .eq 26, 3) := by decide +kernel
theorem dX11_found_26 : decode cX11_found 26 = .ok (.aload_n 0, 1) := by decide +kernel
theorem dX11_found_27 : decode cX11_found 27 = .ok (.invokevirtual 358, 3) := by decide +kernel
theorem dX11_found_30 : decode cX11_found 30 = .ok (.aload_n 0, 1) := by decide +kernel
theorem dX11_found_31 : decode cX11_found 31 = .ok (.getfield 325, 3) := by decide +kernel
theorem dX11_found_34 : decode cX11_found 34 = .ok (.iload_n 2, 1) := by decide +kernel
theorem dX11_found_35 : decode cX11_found 35 = .ok (.lshr, 1) := by decide +kernel
theorem dX11_found_36 : decode cX11_found 36 = .ok (.lconst 1, 1) := by decide +kernel
theorem dX11_found_37 : decode cX11_found 37 = .ok (.land, 1) := by decide +kernel
theorem dX11_found_38 : decode cX11_found 38 = .ok (.lconst 1, 1) := by decide +kernel
theorem dX11_found_39 : decode cX11_found 39 = .ok (.lcmp, 1) := by decide +kernel
theorem dX11_found_40 : decode cX11_found 40 = .ok (.ifCond .ne 7, 3) := by decide +kernel
theorem dX11_found_43 : decode cX11_found 43 = .ok (.iconst 1, 1) := by decide +kernel
theorem dX11_found_44 : decode cX11_found 44 = .ok (.goto 4, 3) := by decide +kernel
theorem dX11_found_47 : decode cX11_found 47 = .ok (.iconst 0, 1) := by decide +kernel
theorem dX11_found_48 : decode cX11_found 48 = .ok (.istore_n 3, 1) := by decide +kernel
theorem dX11_found_49 : decode cX11_found 49 = .ok (.aload_n 0, 1) := by decide +kernel
theorem dX11_found_50 : decode cX11_found 50 = .ok (.iload_n 3, 1) := by decide +kernel
theorem dX11_found_51 : decode cX11_found 51 = .ok (.ifCond .eq 7, 3) := by decide +kernel
theorem dX11_found_54 : decode cX11_found 54 = .ok (.iconst 0, 1) := by decide +kernel
theorem dX11_found_55 : decode cX11_found 55 = .ok (.goto 4, 3) := by decide +kernel
theorem dX11_found_58 : decode cX11_found 58 = .ok (.iconst 1, 1) := by decide +kernel
theorem dX11_found_59 : decode cX11_found 59 = .ok (.invokevirtual 204, 3) := by decide +kernel
theorem dX11_found_62 : decode cX11_found 62 = .ok (.ifCond .eq 7, 3) := by decide +kernel
theorem dX11_found_65 : decode cX11_found 65 = .ok (.iconst 0, 1) := by decide +kernel
theorem dX11_found_66 : decode cX11_found 66 = .ok (.goto 17, 3) := by decide +kernel
theorem dX11_found_69 : decode cX11_found 69 = .ok (.aload_n 0, 1) := by decide +kernel
theorem dX11_found_70 : decode cX11_found 70 = .ok (.getfield 80, 3) := by decide +kernel
theorem dX11_found_73 : decode cX11_found 73 = .ok (.bipush 60, 2) := by decide +kernel
theorem dX11_found_75 : decode cX11_found 75 = .ok (.iload_n 1, 1) := by decide +kernel
theorem dX11_found_76 : decode cX11_found 76 = .ok (.imul, 1) := by decide +kernel
theorem dX11_found_77 : decode cX11_found 77 = .ok (.iload_n 2, 1) := by decide +kernel
theorem dX11_found_78 : decode cX11_found 78 = .ok (.iadd, 1) := by decide +kernel
theorem dX11_found_79 : decode cX11_found 79 = .ok (.laload, 1) := by decide +kernel
theorem dX11_found_80 : decode cX11_found 80 = .ok (.invokestatic 361, 3) := by decide +kernel
theorem dX11_found_83 : decode cX11_found 83 = .ok (.ireturn, 1) := by decide +kernel
abbrev cX11_foundAnew : ByteArray := prog_13_method_81_code
def yX11_foundAnew : MethodName := ⟨RX11, "foundAnew", "(II)I"⟩
theorem dX11_foundAnew_0 : decode cX11_foundAnew 0 = .ok (.aload_n 0, 1) := by decide +kernel
theorem dX11_foundAnew_1 : decode cX11_foundAnew 1 = .ok (.iload_n 1, 1) := by decide +kernel
theorem dX11_foundAnew_2 : decode cX11_foundAnew 2 = .ok (.iload_n 2, 1) := by decide +kernel
theorem dX11_foundAnew_3 : decode cX11_foundAnew 3 = .ok (.invokevirtual 365, 3) := by decide +kernel
theorem dX11_foundAnew_6 : decode cX11_foundAnew 6 = .ok (.ireturn, 1) := by decide +kernel
abbrev cX11_pick : ByteArray := prog_13_method_82_code
def yX11_pick : MethodName := ⟨RX11, "pick", "(JI)I"⟩
theorem dX11_pick_0 : decode cX11_pick 0 = .ok (.iconst (-1), 1) := by decide +kernel
theorem dX11_pick_1 : decode cX11_pick 1 = .ok (.istore 4, 2) := by decide +kernel
theorem dX11_pick_3 : decode cX11_pick 3 = .ok (.iconst 0, 1) := by decide +kernel
theorem dX11_pick_4 : decode cX11_pick 4 = .ok (.istore 5, 2) := by decide +kernel
theorem dX11_pick_6 : decode cX11_pick 6 = .ok (.iconst 0, 1) := by decide +kernel
theorem dX11_pick_7 : decode cX11_pick 7 = .ok (.istore 6, 2) := by decide +kernel
theorem dX11_pick_9 : decode cX11_pick 9 = .ok (.iload 6, 2) := by decide +kernel
theorem dX11_pick_11 : decode cX11_pick 11 = .ok (.aload_n 0, 1) := by decide +kernel
theorem dX11_pick_12 : decode cX11_pick 12 = .ok (.getfield 173, 3) := by decide +kernel
theorem dX11_pick_15 : decode cX11_pick 15 = .ok (.if_icmp .ge 72, 3) := by decide +kernel
theorem dX11_pick_18 : decode cX11_pick 18 = .ok (.lload_n 1, 1) := by decide +kernel
theorem dX11_pick_19 : decode cX11_pick 19 = .ok (.aload_n 0, 1) := by decide +kernel
theorem dX11_pick_20 : decode cX11_pick 20 = .ok (.getfield 35, 3) := by decide +kernel
theorem dX11_pick_23 : decode cX11_pick 23 = .ok (.iload 6, 2) := by decide +kernel
theorem dX11_pick_25 : decode cX11_pick 25 = .ok (.iaload, 1) := by decide +kernel
theorem dX11_pick_26 : decode cX11_pick 26 = .ok (.lshr, 1) := by decide +kernel
theorem dX11_pick_27 : decode cX11_pick 27 = .ok (.lconst 1, 1) := by decide +kernel
theorem dX11_pick_28 : decode cX11_pick 28 = .ok (.land, 1) := by decide +kernel
theorem dX11_pick_29 : decode cX11_pick 29 = .ok (.lconst 1, 1) := by decide +kernel
theorem dX11_pick_30 : decode cX11_pick 30 = .ok (.lcmp, 1) := by decide +kernel
theorem dX11_pick_31 : decode cX11_pick 31 = .ok (.ifCond .ne 7, 3) := by decide +kernel
theorem dX11_pick_34 : decode cX11_pick 34 = .ok (.iconst 1, 1) := by decide +kernel
theorem dX11_pick_35 : decode cX11_pick 35 = .ok (.goto 4, 3) := by decide +kernel
theorem dX11_pick_38 : decode cX11_pick 38 = .ok (.iconst 0, 1) := by decide +kernel
theorem dX11_pick_39 : decode cX11_pick 39 = .ok (.istore 7, 2) := by decide +kernel
theorem dX11_pick_41 : decode cX11_pick 41 = .ok (.iload 7, 2) := by decide +kernel
theorem dX11_pick_43 : decode cX11_pick 43 = .ok (.ifCond .eq 19, 3) := by decide +kernel
theorem dX11_pick_46 : decode cX11_pick 46 = .ok (.iload 5, 2) := by decide +kernel
theorem dX11_pick_48 : decode cX11_pick 48 = .ok (.iload_n 3, 1) := by decide +kernel
theorem dX11_pick_49 : decode cX11_pick 49 = .ok (.if_icmp .ne 13, 3) := by decide +kernel
theorem dX11_pick_52 : decode cX11_pick 52 = .ok (.aload_n 0, 1) := by decide +kernel
theorem dX11_pick_53 : decode cX11_pick 53 = .ok (.getfield 35, 3) := by decide +kernel
theorem dX11_pick_56 : decode cX11_pick 56 = .ok (.iload 6, 2) := by decide +kernel
theorem dX11_pick_58 : decode cX11_pick 58 = .ok (.iaload, 1) := by decide +kernel
theorem dX11_pick_59 : decode cX11_pick 59 = .ok (.goto 5, 3) := by decide +kernel
theorem dX11_pick_62 : decode cX11_pick 62 = .ok (.iload 4, 2) := by decide +kernel
theorem dX11_pick_64 : decode cX11_pick 64 = .ok (.istore 4, 2) := by decide +kernel
theorem dX11_pick_66 : decode cX11_pick 66 = .ok (.iload 5, 2) := by decide +kernel
theorem dX11_pick_68 : decode cX11_pick 68 = .ok (.iload 7, 2) := by decide +kernel
theorem dX11_pick_70 : decode cX11_pick 70 = .ok (.ifCond .eq 7, 3) := by decide +kernel
theorem dX11_pick_73 : decode cX11_pick 73 = .ok (.iconst 1, 1) := by decide +kernel
theorem dX11_pick_74 : decode cX11_pick 74 = .ok (.goto 4, 3) := by decide +kernel
theorem dX11_pick_77 : decode cX11_pick 77 = .ok (.iconst 0, 1) := by decide +kernel
theorem dX11_pick_78 : decode cX11_pick 78 = .ok (.iadd, 1) := by decide +kernel
theorem dX11_pick_79 : decode cX11_pick 79 = .ok (.istore 5, 2) := by decide +kernel
theorem dX11_pick_81 : decode cX11_pick 81 = .ok (.iinc 6 1, 3) := by decide +kernel
theorem dX11_pick_84 : decode cX11_pick 84 = .ok (.goto (-75), 3) := by decide +kernel
theorem dX11_pick_87 : decode cX11_pick 87 = .ok (.iload 4, 2) := by decide +kernel
theorem dX11_pick_89 : decode cX11_pick 89 = .ok (.ireturn, 1) := by decide +kernel
abbrev cX11_foundBy : ByteArray := prog_13_method_83_code
def yX11_foundBy : MethodName := ⟨RX11, "foundBy", "(I)J"⟩
theorem dX11_foundBy_0 : decode cX11_foundBy 0 = .ok (.aload_n 0, 1) := by decide +kernel
theorem dX11_foundBy_1 : decode cX11_foundBy 1 = .ok (.iload_n 1, 1) := by decide +kernel
theorem dX11_foundBy_2 : decode cX11_foundBy 2 = .ok (.invokevirtual 305, 3) := by decide +kernel
theorem dX11_foundBy_5 : decode cX11_foundBy 5 = .ok (.ifCond .ne 5, 3) := by decide +kernel
theorem dX11_foundBy_8 : decode cX11_foundBy 8 = .ok (.lconst 0, 1) := by decide +kernel
theorem dX11_foundBy_9 : decode cX11_foundBy 9 = .ok (.lreturn, 1) := by decide +kernel
theorem dX11_foundBy_10 : decode cX11_foundBy 10 = .ok (.aload_n 0, 1) := by decide +kernel
theorem dX11_foundBy_11 : decode cX11_foundBy 11 = .ok (.invokevirtual 358, 3) := by decide +kernel
theorem dX11_foundBy_14 : decode cX11_foundBy 14 = .ok (.aload_n 0, 1) := by decide +kernel
theorem dX11_foundBy_15 : decode cX11_foundBy 15 = .ok (.getfield 80, 3) := by decide +kernel
theorem dX11_foundBy_18 : decode cX11_foundBy 18 = .ok (.bipush 60, 2) := by decide +kernel
theorem dX11_foundBy_20 : decode cX11_foundBy 20 = .ok (.iload_n 1, 1) := by decide +kernel
theorem dX11_foundBy_21 : decode cX11_foundBy 21 = .ok (.imul, 1) := by decide +kernel
theorem dX11_foundBy_22 : decode cX11_foundBy 22 = .ok (.laload, 1) := by decide +kernel
theorem dX11_foundBy_23 : decode cX11_foundBy 23 = .ok (.lreturn, 1) := by decide +kernel
abbrev cX11_foundAt : ByteArray := prog_13_method_84_code
def yX11_foundAt : MethodName := ⟨RX11, "foundAt", "(II)I"⟩
theorem dX11_foundAt_0 : decode cX11_foundAt 0 = .ok (.aload_n 0, 1) := by decide +kernel
theorem dX11_foundAt_1 : decode cX11_foundAt 1 = .ok (.iload_n 1, 1) := by decide +kernel
theorem dX11_foundAt_2 : decode cX11_foundAt 2 = .ok (.invokevirtual 368, 3) := by decide +kernel
theorem dX11_foundAt_5 : decode cX11_foundAt 5 = .ok (.lstore_n 3, 1) := by decide +kernel
theorem dX11_foundAt_6 : decode cX11_foundAt 6 = .ok (.aload_n 0, 1) := by decide +kernel
theorem dX11_foundAt_7 : decode cX11_foundAt 7 = .ok (.iload_n 2, 1) := by decide +kernel
theorem dX11_foundAt_8 : decode cX11_foundAt 8 = .ok (.iconst 0, 1) := by decide +kernel
theorem dX11_foundAt_9 : decode cX11_foundAt 9 = .ok (.lload_n 3, 1) := by decide +kernel
theorem dX11_foundAt_10 : decode cX11_foundAt 10 = .ok (.invokestatic 361, 3) := by decide +kernel
theorem dX11_foundAt_13 : decode cX11_foundAt 13 = .ok (.iconst 1, 1) := by decide +kernel
theorem dX11_foundAt_14 : decode cX11_foundAt 14 = .ok (.isub, 1) := by decide +kernel
theorem dX11_foundAt_15 : decode cX11_foundAt 15 = .ok (.invokestatic 169, 3) := by decide +kernel
theorem dX11_foundAt_18 : decode cX11_foundAt 18 = .ok (.ifCond .eq 7, 3) := by decide +kernel
theorem dX11_foundAt_21 : decode cX11_foundAt 21 = .ok (.iconst 0, 1) := by decide +kernel
theorem dX11_foundAt_22 : decode cX11_foundAt 22 = .ok (.goto 4, 3) := by decide +kernel
theorem dX11_foundAt_25 : decode cX11_foundAt 25 = .ok (.iconst 1, 1) := by decide +kernel
theorem dX11_foundAt_26 : decode cX11_foundAt 26 = .ok (.invokevirtual 204, 3) := by decide +kernel
theorem dX11_foundAt_29 : decode cX11_foundAt 29 = .ok (.ifCond .eq 7, 3) := by decide +kernel
theorem dX11_foundAt_32 : decode cX11_foundAt 32 = .ok (.iconst 0, 1) := by decide +kernel
theorem dX11_foundAt_33 : decode cX11_foundAt 33 = .ok (.goto 9, 3) := by decide +kernel
theorem dX11_foundAt_36 : decode cX11_foundAt 36 = .ok (.aload_n 0, 1) := by decide +kernel
theorem dX11_foundAt_37 : decode cX11_foundAt 37 = .ok (.lload_n 3, 1) := by decide +kernel
theorem dX11_foundAt_38 : decode cX11_foundAt 38 = .ok (.iload_n 2, 1) := by decide +kernel
theorem dX11_foundAt_39 : decode cX11_foundAt 39 = .ok (.invokevirtual 372, 3) := by decide +kernel
theorem dX11_foundAt_42 : decode cX11_foundAt 42 = .ok (.ireturn, 1) := by decide +kernel
abbrev cX11_ordered : ByteArray := prog_13_method_85_code
def yX11_ordered : MethodName := ⟨RX11, "ordered", "(II)I"⟩
theorem dX11_ordered_0 : decode cX11_ordered 0 = .ok (.aload_n 0, 1) := by decide +kernel
theorem dX11_ordered_1 : decode cX11_ordered 1 = .ok (.iload_n 1, 1) := by decide +kernel
theorem dX11_ordered_2 : decode cX11_ordered 2 = .ok (.invokevirtual 368, 3) := by decide +kernel
theorem dX11_ordered_5 : decode cX11_ordered 5 = .ok (.lstore_n 3, 1) := by decide +kernel
theorem dX11_ordered_6 : decode cX11_ordered 6 = .ok (.aload_n 0, 1) := by decide +kernel
theorem dX11_ordered_7 : decode cX11_ordered 7 = .ok (.iload_n 2, 1) := by decide +kernel
theorem dX11_ordered_8 : decode cX11_ordered 8 = .ok (.iconst 0, 1) := by decide +kernel
theorem dX11_ordered_9 : decode cX11_ordered 9 = .ok (.lload_n 3, 1) := by decide +kernel
theorem dX11_ordered_10 : decode cX11_ordered 10 = .ok (.invokestatic 361, 3) := by decide +kernel
theorem dX11_ordered_13 : decode cX11_ordered 13 = .ok (.iconst 1, 1) := by decide +kernel
theorem dX11_ordered_14 : decode cX11_ordered 14 = .ok (.isub, 1) := by decide +kernel
theorem dX11_ordered_15 : decode cX11_ordered 15 = .ok (.invokestatic 169, 3) := by decide +kernel
theorem dX11_ordered_18 : decode cX11_ordered 18 = .ok (.ifCond .eq 7, 3) := by decide +kernel
theorem dX11_ordered_21 : decode cX11_ordered 21 = .ok (.iconst 0, 1) := by decide +kernel
theorem dX11_ordered_22 : decode cX11_ordered 22 = .ok (.goto 4, 3) := by decide +kernel
theorem dX11_ordered_25 : decode cX11_ordered 25 = .ok (.iconst 1, 1) := by decide +kernel
theorem dX11_ordered_26 : decode cX11_ordered 26 = .ok (.invokevirtual 204, 3) := by decide +kernel
theorem dX11_ordered_29 : decode cX11_ordered 29 = .ok (.ifCond .eq 5, 3) := by decide +kernel
theorem dX11_ordered_32 : decode cX11_ordered 32 = .ok (.iconst 0, 1) := by decide +kernel
theorem dX11_ordered_33 : decode cX11_ordered 33 = .ok (.ireturn, 1) := by decide +kernel
theorem dX11_ordered_34 : decode cX11_ordered 34 = .ok (.iconst 0, 1) := by decide +kernel
theorem dX11_ordered_35 : decode cX11_ordered 35 = .ok (.istore 5, 2) := by decide +kernel
theorem dX11_ordered_37 : decode cX11_ordered 37 = .ok (.iconst 0, 1) := by decide +kernel
theorem dX11_ordered_38 : decode cX11_ordered 38 = .ok (.istore 6, 2) := by decide +kernel
theorem dX11_ordered_40 : decode cX11_ordered 40 = .ok (.iload 6, 2) := by decide +kernel
theorem dX11_ordered_42 : decode cX11_ordered 42 = .ok (.aload_n 0, 1) := by decide +kernel
theorem dX11_ordered_43 : decode cX11_ordered 43 = .ok (.getfield 173, 3) := by decide +kernel
theorem dX11_ordered_46 : decode cX11_ordered 46 = .ok (.if_icmp .ge 147, 3) := by decide +kernel
theorem dX11_ordered_49 : decode cX11_ordered 49 = .ok (.iconst 0, 1) := by decide +kernel
theorem dX11_ordered_50 : decode cX11_ordered 50 = .ok (.istore 7, 2) := by decide +kernel
theorem dX11_ordered_52 : decode cX11_ordered 52 = .ok (.aload_n 0, 1) := by decide +kernel
theorem dX11_ordered_53 : decode cX11_ordered 53 = .ok (.aload_n 0, 1) := by decide +kernel
theorem dX11_ordered_54 : decode cX11_ordered 54 = .ok (.getfield 35, 3) := by decide +kernel
theorem dX11_ordered_57 : decode cX11_ordered 57 = .ok (.iload 6, 2) := by decide +kernel
theorem dX11_ordered_59 : decode cX11_ordered 59 = .ok (.iaload, 1) := by decide +kernel
theorem dX11_ordered_60 : decode cX11_ordered 60 = .ok (.aload_n 0, 1) := by decide +kernel
theorem dX11_ordered_61 : decode cX11_ordered 61 = .ok (.getfield 325, 3) := by decide +kernel
theorem dX11_ordered_64 : decode cX11_ordered 64 = .ok (.invokevirtual 289, 3) := by decide +kernel
theorem dX11_ordered_67 : decode cX11_ordered 67 = .ok (.istore 8, 2) := by decide +kernel
theorem dX11_ordered_69 : decode cX11_ordered 69 = .ok (.iconst 0, 1) := by decide +kernel
theorem dX11_ordered_70 : decode cX11_ordered 70 = .ok (.istore 9, 2) := by decide +kernel
theorem dX11_ordered_72 : decode cX11_ordered 72 = .ok (.iload 9, 2) := by decide +kernel
theorem dX11_ordered_74 : decode cX11_ordered 74 = .ok (.aload_n 0, 1) := by decide +kernel
theorem dX11_ordered_75 : decode cX11_ordered 75 = .ok (.getfield 173, 3) := by decide +kernel
theorem dX11_ordered_78 : decode cX11_ordered 78 = .ok (.if_icmp .ge 73, 3) := by decide +kernel
theorem dX11_ordered_81 : decode cX11_ordered 81 = .ok (.aload_n 0, 1) := by decide +kernel
theorem dX11_ordered_82 : decode cX11_ordered 82 = .ok (.aload_n 0, 1) := by decide +kernel
theorem dX11_ordered_83 : decode cX11_ordered 83 = .ok (.getfield 35, 3) := by decide +kernel
theorem dX11_ordered_86 : decode cX11_ordered 86 = .ok (.iload 9, 2) := by decide +kernel
theorem dX11_ordered_88 : decode cX11_ordered 88 = .ok (.iaload, 1) := by decide +kernel
theorem dX11_ordered_89 : decode cX11_ordered 89 = .ok (.aload_n 0, 1) := by decide +kernel
theorem dX11_ordered_90 : decode cX11_ordered 90 = .ok (.getfield 325, 3) := by decide +kernel
theorem dX11_ordered_93 : decode cX11_ordered 93 = .ok (.invokevirtual 289, 3) := by decide +kernel
theorem dX11_ordered_96 : decode cX11_ordered 96 = .ok (.istore 10, 2) := by decide +kernel
theorem dX11_ordered_98 : decode cX11_ordered 98 = .ok (.iload 7, 2) := by decide +kernel
theorem dX11_ordered_100 : decode cX11_ordered 100 = .ok (.lload_n 3, 1) := by decide +kernel
theorem dX11_ordered_101 : decode cX11_ordered 101 = .ok (.aload_n 0, 1) := by decide +kernel
theorem dX11_ordered_102 : decode cX11_ordered 102 = .ok (.getfield 35, 3) := by decide +kernel
theorem dX11_ordered_105 : decode cX11_ordered 105 = .ok (.iload 9, 2) := by decide +kernel
theorem dX11_ordered_107 : decode cX11_ordered 107 = .ok (.iaload, 1) := by decide +kernel
theorem dX11_ordered_108 : decode cX11_ordered 108 = .ok (.lshr, 1) := by decide +kernel
theorem dX11_ordered_109 : decode cX11_ordered 109 = .ok (.lconst 1, 1) := by decide +kernel
theorem dX11_ordered_110 : decode cX11_ordered 110 = .ok (.land, 1) := by decide +kernel
theorem dX11_ordered_111 : decode cX11_ordered 111 = .ok (.lconst 1, 1) := by decide +kernel
theorem dX11_ordered_112 : decode cX11_ordered 112 = .ok (.lcmp, 1) := by decide +kernel
theorem dX11_ordered_113 : decode cX11_ordered 113 = .ok (.ifCond .ne 28, 3) := by decide +kernel
theorem dX11_ordered_116 : decode cX11_ordered 116 = .ok (.iload 10, 2) := by decide +kernel
theorem dX11_ordered_118 : decode cX11_ordered 118 = .ok (.iload 8, 2) := by decide +kernel
theorem dX11_ordered_120 : decode cX11_ordered 120 = .ok (.if_icmp .lt 17, 3) := by decide +kernel
theorem dX11_ordered_123 : decode cX11_ordered 123 = .ok (.iload 10, 2) := by decide +kernel
theorem dX11_ordered_125 : decode cX11_ordered 125 = .ok (.iload 8, 2) := by decide +kernel
theorem dX11_ordered_127 : decode cX11_ordered 127 = .ok (.if_icmp .ne 14, 3) := by decide +kernel
theorem dX11_ordered_130 : decode cX11_ordered 130 = .ok (.iload 9, 2) := by decide +kernel
theorem dX11_ordered_132 : decode cX11_ordered 132 = .ok (.iload 6, 2) := by decide +kernel
theorem dX11_ordered_134 : decode cX11_ordered 134 = .ok (.if_icmp .ge 7, 3) := by decide +kernel
theorem dX11_ordered_137 : decode cX11_ordered 137 = .ok (.iconst 1, 1) := by decide +kernel
theorem dX11_ordered_138 : decode cX11_ordered 138 = .ok (.goto 4, 3) := by decide +kernel
theorem dX11_ordered_141 : decode cX11_ordered 141 = .ok (.iconst 0, 1) := by decide +kernel
theorem dX11_ordered_142 : decode cX11_ordered 142 = .ok (.iadd, 1) := by decide +kernel
theorem dX11_ordered_143 : decode cX11_ordered 143 = .ok (.istore 7, 2) := by decide +kernel
theorem dX11_ordered_145 : decode cX11_ordered 145 = .ok (.iinc 9 1, 3) := by decide +kernel
theorem dX11_ordered_148 : decode cX11_ordered 148 = .ok (.goto (-76), 3) := by decide +kernel
theorem dX11_ordered_151 : decode cX11_ordered 151 = .ok (.lload_n 3, 1) := by decide +kernel
theorem dX11_ordered_152 : decode cX11_ordered 152 = .ok (.aload_n 0, 1) := by decide +kernel
theorem dX11_ordered_153 : decode cX11_ordered 153 = .ok (.getfield 35, 3) := by decide +kernel
theorem dX11_ordered_156 : decode cX11_ordered 156 = .ok (.iload 6, 2) := by decide +kernel
theorem dX11_ordered_158 : decode cX11_ordered 158 = .ok (.iaload, 1) := by decide +kernel
theorem dX11_ordered_159 : decode cX11_ordered 159 = .ok (.lshr, 1) := by decide +kernel
theorem dX11_ordered_160 : decode cX11_ordered 160 = .ok (.lconst 1, 1) := by decide +kernel
theorem dX11_ordered_161 : decode cX11_ordered 161 = .ok (.land, 1) := by decide +kernel
theorem dX11_ordered_162 : decode cX11_ordered 162 = .ok (.lconst 1, 1) := by decide +kernel
theorem dX11_ordered_163 : decode cX11_ordered 163 = .ok (.lcmp, 1) := by decide +kernel
theorem dX11_ordered_164 : decode cX11_ordered 164 = .ok (.ifCond .ne 19, 3) := by decide +kernel
theorem dX11_ordered_167 : decode cX11_ordered 167 = .ok (.iload 7, 2) := by decide +kernel
theorem dX11_ordered_169 : decode cX11_ordered 169 = .ok (.iload_n 2, 1) := by decide +kernel
theorem dX11_ordered_170 : decode cX11_ordered 170 = .ok (.if_icmp .ne 13, 3) := by decide +kernel
theorem dX11_ordered_173 : decode cX11_ordered 173 = .ok (.aload_n 0, 1) := by decide +kernel
theorem dX11_ordered_174 : decode cX11_ordered 174 = .ok (.getfield 35, 3) := by decide +kernel
theorem dX11_ordered_177 : decode cX11_ordered 177 = .ok (.iload 6, 2) := by decide +kernel
theorem dX11_ordered_179 : decode cX11_ordered 179 = .ok (.iaload, 1) := by decide +kernel
theorem dX11_ordered_180 : decode cX11_ordered 180 = .ok (.goto 5, 3) := by decide +kernel
theorem dX11_ordered_183 : decode cX11_ordered 183 = .ok (.iload 5, 2) := by decide +kernel
theorem dX11_ordered_185 : decode cX11_ordered 185 = .ok (.istore 5, 2) := by decide +kernel
theorem dX11_ordered_187 : decode cX11_ordered 187 = .ok (.iinc 6 1, 3) := by decide +kernel
theorem dX11_ordered_190 : decode cX11_ordered 190 = .ok (.goto (-150), 3) := by decide +kernel
theorem dX11_ordered_193 : decode cX11_ordered 193 = .ok (.iload 5, 2) := by decide +kernel
theorem dX11_ordered_195 : decode cX11_ordered 195 = .ok (.ireturn, 1) := by decide +kernel
abbrev cX11_groups : ByteArray := prog_13_method_86_code
def yX11_groups : MethodName := ⟨RX11, "groups", "(I)I"⟩
theorem dX11_groups_0 : decode cX11_groups 0 = .ok (.aload_n 0, 1) := by decide +kernel
theorem dX11_groups_1 : decode cX11_groups 1 = .ok (.aload_n 0, 1) := by decide +kernel
theorem dX11_groups_2 : decode cX11_groups 2 = .ok (.iload_n 1, 1) := by decide +kernel
theorem dX11_groups_3 : decode cX11_groups 3 = .ok (.invokevirtual 305, 3) := by decide +kernel
theorem dX11_groups_6 : decode cX11_groups 6 = .ok (.ifCond .eq 7, 3) := by decide +kernel
theorem dX11_groups_9 : decode cX11_groups 9 = .ok (.iconst 0, 1) := by decide +kernel
theorem dX11_groups_10 : decode cX11_groups 10 = .ok (.goto 4, 3) := by decide +kernel
theorem dX11_groups_13 : decode cX11_groups 13 = .ok (.iconst 1, 1) := by decide +kernel
theorem dX11_groups_14 : decode cX11_groups 14 = .ok (.invokevirtual 204, 3) := by decide +kernel
theorem dX11_groups_17 : decode cX11_groups 17 = .ok (.ifCond .eq 5, 3) := by decide +kernel
theorem dX11_groups_20 : decode cX11_groups 20 = .ok (.iconst 0, 1) := by decide +kernel
theorem dX11_groups_21 : decode cX11_groups 21 = .ok (.ireturn, 1) := by decide +kernel
theorem dX11_groups_22 : decode cX11_groups 22 = .ok (.aload_n 0, 1) := by decide +kernel
theorem dX11_groups_23 : decode cX11_groups 23 = .ok (.iload_n 1, 1) := by decide +kernel
theorem dX11_groups_24 : decode cX11_groups 24 = .ok (.invokevirtual 368, 3) := by decide +kernel
theorem dX11_groups_27 : decode cX11_groups 27 = .ok (.lstore_n 2, 1) := by decide +kernel
theorem dX11_groups_28 : decode cX11_groups 28 = .ok (.iconst 0, 1) := by decide +kernel
theorem dX11_groups_29 : decode cX11_groups 29 = .ok (.istore 4, 2) := by decide +kernel
theorem dX11_groups_31 : decode cX11_groups 31 = .ok (.iconst 0, 1) := by decide +kernel
theorem dX11_groups_32 : decode cX11_groups 32 = .ok (.istore 5, 2) := by decide +kernel
theorem dX11_groups_34 : decode cX11_groups 34 = .ok (.iload 5, 2) := by decide +kernel
theorem dX11_groups_36 : decode cX11_groups 36 = .ok (.aload_n 0, 1) := by decide +kernel
theorem dX11_groups_37 : decode cX11_groups 37 = .ok (.getfield 173, 3) := by decide +kernel
theorem dX11_groups_40 : decode cX11_groups 40 = .ok (.if_icmp .ge 124, 3) := by decide +kernel
theorem dX11_groups_43 : decode cX11_groups 43 = .ok (.lload_n 2, 1) := by decide +kernel
theorem dX11_groups_44 : decode cX11_groups 44 = .ok (.aload_n 0, 1) := by decide +kernel
theorem dX11_groups_45 : decode cX11_groups 45 = .ok (.getfield 35, 3) := by decide +kernel
theorem dX11_groups_48 : decode cX11_groups 48 = .ok (.iload 5, 2) := by decide +kernel
theorem dX11_groups_50 : decode cX11_groups 50 = .ok (.iaload, 1) := by decide +kernel
theorem dX11_groups_51 : decode cX11_groups 51 = .ok (.lshr, 1) := by decide +kernel
theorem dX11_groups_52 : decode cX11_groups 52 = .ok (.lconst 1, 1) := by decide +kernel
theorem dX11_groups_53 : decode cX11_groups 53 = .ok (.land, 1) := by decide +kernel
theorem dX11_groups_54 : decode cX11_groups 54 = .ok (.lconst 1, 1) := by decide +kernel
theorem dX11_groups_55 : decode cX11_groups 55 = .ok (.lcmp, 1) := by decide +kernel
theorem dX11_groups_56 : decode cX11_groups 56 = .ok (.ifCond .ne 7, 3) := by decide +kernel
theorem dX11_groups_59 : decode cX11_groups 59 = .ok (.iconst 1, 1) := by decide +kernel
theorem dX11_groups_60 : decode cX11_groups 60 = .ok (.goto 4, 3) := by decide +kernel
theorem dX11_groups_63 : decode cX11_groups 63 = .ok (.iconst 0, 1) := by decide +kernel
theorem dX11_groups_64 : decode cX11_groups 64 = .ok (.istore 6, 2) := by decide +kernel
theorem dX11_groups_66 : decode cX11_groups 66 = .ok (.iconst 0, 1) := by decide +kernel
theorem dX11_groups_67 : decode cX11_groups 67 = .ok (.istore 7, 2) := by decide +kernel
theorem dX11_groups_69 : decode cX11_groups 69 = .ok (.iload 7, 2) := by decide +kernel
theorem dX11_groups_71 : decode cX11_groups 71 = .ok (.iload 5, 2) := by decide +kernel
theorem dX11_groups_73 : decode cX11_groups 73 = .ok (.if_icmp .ge 70, 3) := by decide +kernel
theorem dX11_groups_76 : decode cX11_groups 76 = .ok (.iload 6, 2) := by decide +kernel
theorem dX11_groups_78 : decode cX11_groups 78 = .ok (.ifCond .eq 65, 3) := by decide +kernel
theorem dX11_groups_81 : decode cX11_groups 81 = .ok (.lload_n 2, 1) := by decide +kernel
theorem dX11_groups_82 : decode cX11_groups 82 = .ok (.aload_n 0, 1) := by decide +kernel
theorem dX11_groups_83 : decode cX11_groups 83 = .ok (.getfield 35, 3) := by decide +kernel
theorem dX11_groups_86 : decode cX11_groups 86 = .ok (.iload 7, 2) := by decide +kernel
theorem dX11_groups_88 : decode cX11_groups 88 = .ok (.iaload, 1) := by decide +kernel
theorem dX11_groups_89 : decode cX11_groups 89 = .ok (.lshr, 1) := by decide +kernel
theorem dX11_groups_90 : decode cX11_groups 90 = .ok (.lconst 1, 1) := by decide +kernel
theorem dX11_groups_91 : decode cX11_groups 91 = .ok (.land, 1) := by decide +kernel
theorem dX11_groups_92 : decode cX11_groups 92 = .ok (.lconst 0, 1) := by decide +kernel
theorem dX11_groups_93 : decode cX11_groups 93 = .ok (.lcmp, 1) := by decide +kernel
theorem dX11_groups_94 : decode cX11_groups 94 = .ok (.ifCond .eq 36, 3) := by decide +kernel
theorem dX11_groups_97 : decode cX11_groups 97 = .ok (.aload_n 0, 1) := by decide +kernel
theorem dX11_groups_98 : decode cX11_groups 98 = .ok (.aload_n 0, 1) := by decide +kernel
theorem dX11_groups_99 : decode cX11_groups 99 = .ok (.getfield 35, 3) := by decide +kernel
theorem dX11_groups_102 : decode cX11_groups 102 = .ok (.iload 7, 2) := by decide +kernel
theorem dX11_groups_104 : decode cX11_groups 104 = .ok (.iaload, 1) := by decide +kernel
theorem dX11_groups_105 : decode cX11_groups 105 = .ok (.aload_n 0, 1) := by decide +kernel
theorem dX11_groups_106 : decode cX11_groups 106 = .ok (.getfield 325, 3) := by decide +kernel
theorem dX11_groups_109 : decode cX11_groups 109 = .ok (.invokevirtual 289, 3) := by decide +kernel
theorem dX11_groups_112 : decode cX11_groups 112 = .ok (.aload_n 0, 1) := by decide +kernel
theorem dX11_groups_113 : decode cX11_groups 113 = .ok (.aload_n 0, 1) := by decide +kernel
theorem dX11_groups_114 : decode cX11_groups 114 = .ok (.getfield 35, 3) := by decide +kernel
theorem dX11_groups_117 : decode cX11_groups 117 = .ok (.iload 5, 2) := by decide +kernel
theorem dX11_groups_119 : decode cX11_groups 119 = .ok (.iaload, 1) := by decide +kernel
theorem dX11_groups_120 : decode cX11_groups 120 = .ok (.aload_n 0, 1) := by decide +kernel
theorem dX11_groups_121 : decode cX11_groups 121 = .ok (.getfield 325, 3) := by decide +kernel
theorem dX11_groups_124 : decode cX11_groups 124 = .ok (.invokevirtual 289, 3) := by decide +kernel
theorem dX11_groups_127 : decode cX11_groups 127 = .ok (.if_icmp .eq 7, 3) := by decide +kernel
theorem dX11_groups_130 : decode cX11_groups 130 = .ok (.iconst 1, 1) := by decide +kernel
theorem dX11_groups_131 : decode cX11_groups 131 = .ok (.goto 4, 3) := by decide +kernel
theorem dX11_groups_134 : decode cX11_groups 134 = .ok (.iconst 0, 1) := by decide +kernel
theorem dX11_groups_135 : decode cX11_groups 135 = .ok (.istore 6, 2) := by decide +kernel
theorem dX11_groups_137 : decode cX11_groups 137 = .ok (.iinc 7 1, 3) := by decide +kernel
theorem dX11_groups_140 : decode cX11_groups 140 = .ok (.goto (-71), 3) := by decide +kernel
theorem dX11_groups_143 : decode cX11_groups 143 = .ok (.iload 4, 2) := by decide +kernel
theorem dX11_groups_145 : decode cX11_groups 145 = .ok (.iload 6, 2) := by decide +kernel
theorem dX11_groups_147 : decode cX11_groups 147 = .ok (.ifCond .eq 7, 3) := by decide +kernel
theorem dX11_groups_150 : decode cX11_groups 150 = .ok (.iconst 1, 1) := by decide +kernel
theorem dX11_groups_151 : decode cX11_groups 151 = .ok (.goto 4, 3) := by decide +kernel
theorem dX11_groups_154 : decode cX11_groups 154 = .ok (.iconst 0, 1) := by decide +kernel
theorem dX11_groups_155 : decode cX11_groups 155 = .ok (.iadd, 1) := by decide +kernel
theorem dX11_groups_156 : decode cX11_groups 156 = .ok (.istore 4, 2) := by decide +kernel
theorem dX11_groups_158 : decode cX11_groups 158 = .ok (.iinc 5 1, 3) := by decide +kernel
theorem dX11_groups_161 : decode cX11_groups 161 = .ok (.goto (-127), 3) := by decide +kernel
theorem dX11_groups_164 : decode cX11_groups 164 = .ok (.iload 4, 2) := by decide +kernel
theorem dX11_groups_166 : decode cX11_groups 166 = .ok (.ireturn, 1) := by decide +kernel
theorem tk_RX11_321 : Cond.methodLink RX11 321 yX11_repeated ∈ tq_G := tq_g (i := 2139) (by decide +kernel) rfl
theorem tk_y_X11_repeated : tq_yok yX11_repeated cX11_repeated 9 (some .long) 2 := ⟨tq_g (i := 2142) (by decide +kernel) rfl, tq_g (i := 133) (by decide +kernel) rfl, ⟨by decide +kernel, by decide +kernel⟩, by decide +kernel, by decide⟩
theorem tk_v_X11_repeated : tq_vok yX11_repeated := ⟨tq_g (i := 2141) (by decide +kernel) rfl, tq_g (i := 87) (by decide +kernel) rfl⟩
theorem tk_RX11_325 : Cond.fieldLink RX11 325 RX11 (TX11 31).2.1 (TX11 31).2.2.1 ∈ tq_G := tq_g (i := 1818) (by decide +kernel) rfl
theorem tk_RX11_293 : Cond.methodLink RX11 293 yX11_spaceOf ∈ tq_G := tq_g (i := 2147) (by decide +kernel) rfl
theorem tk_y_X11_spaceOf : tq_yok yX11_spaceOf cX11_spaceOf 3 (some .int) 1 := ⟨tq_g (i := 2150) (by decide +kernel) rfl, tq_g (i := 133) (by decide +kernel) rfl, ⟨by decide +kernel, by decide +kernel⟩, by decide +kernel, by decide⟩
theorem tk_v_X11_spaceOf : tq_vok yX11_spaceOf := ⟨tq_g (i := 2149) (by decide +kernel) rfl, tq_g (i := 89) (by decide +kernel) rfl⟩
theorem tk_RX11_289 : Cond.methodLink RX11 289 yX11_valueOf ∈ tq_G := tq_g (i := 2159) (by decide +kernel) rfl
theorem tk_y_X11_valueOf : tq_yok yX11_valueOf cX11_valueOf 7 (some .int) 2 := ⟨tq_g (i := 2162) (by decide +kernel) rfl, tq_g (i := 133) (by decide +kernel) rfl, ⟨by decide +kernel, by decide +kernel⟩, by decide +kernel, by decide⟩
theorem tk_v_X11_valueOf : tq_vok yX11_valueOf := ⟨tq_g (i := 2161) (by decide +kernel) rfl, tq_g (i := 91) (by decide +kernel) rfl⟩
theorem tk_RX11_329 : Cond.methodLink RX11 329 yX11_compares ∈ tq_G := tq_g (i := 2156) (by decide +kernel) rfl
theorem tk_y_X11_compares : tq_yok yX11_compares cX11_compares 3 (some .boolean) 3 := ⟨tq_g (i := 2158) (by decide +kernel) rfl, tq_g (i := 133) (by decide +kernel) rfl, ⟨by decide +kernel, by decide +kernel⟩, by decide +kernel, by decide⟩
theorem tk_s_X11_compares : Cond.static yX11_compares ∈ tq_G := tq_g (i := 2157) (by decide +kernel) rfl
theorem tk_RX11_332 : Cond.methodLink RX11 332 yX11_axis ∈ tq_G := tq_g (i := 2131) (by decide +kernel) rfl
theorem tk_RX11_336 : Cond.methodLink RX11 336 yX11_passes ∈ tq_G := tq_g (i := 2143) (by decide +kernel) rfl
theorem tk_RX11_339 : Cond.constantLong RX11 339 (-1) ∈ tq_G := tq_g (i := 2151) (by decide +kernel) rfl
theorem tk_y_X11_passes : tq_yok yX11_passes cX11_passes 3 (some .boolean) 2 := ⟨tq_g (i := 2146) (by decide +kernel) rfl, tq_g (i := 133) (by decide +kernel) rfl, ⟨by decide +kernel, by decide +kernel⟩, by decide +kernel, by decide⟩
theorem tk_v_X11_passes : tq_vok yX11_passes := ⟨tq_g (i := 2145) (by decide +kernel) rfl, tq_g (i := 88) (by decide +kernel) rfl⟩
theorem tk_RX11_341 : Cond.methodLink RX11 341 yX11_holds ∈ tq_G := tq_g (i := 2152) (by decide +kernel) rfl
theorem tk_y_X11_holds : tq_yok yX11_holds cX11_holds 11 (some .boolean) 4 := ⟨tq_g (i := 2155) (by decide +kernel) rfl, tq_g (i := 133) (by decide +kernel) rfl, ⟨by decide +kernel, by decide +kernel⟩, by decide +kernel, by decide⟩
theorem tk_v_X11_holds : tq_vok yX11_holds := ⟨tq_g (i := 2154) (by decide +kernel) rfl, tq_g (i := 90) (by decide +kernel) rfl⟩
theorem tk_y_X11_axis : tq_yok yX11_axis cX11_axis 13 (some .long) 3 := ⟨tq_g (i := 2134) (by decide +kernel) rfl, tq_g (i := 133) (by decide +kernel) rfl, ⟨by decide +kernel, by decide +kernel⟩, by decide +kernel, by decide⟩
theorem tk_v_X11_axis : tq_vok yX11_axis := ⟨tq_g (i := 2133) (by decide +kernel) rfl, tq_g (i := 85) (by decide +kernel) rfl⟩
theorem tk_RX11_296 : Cond.fieldLink RX11 296 RX11 (TX11 24).2.1 (TX11 24).2.2.1 ∈ tq_G := tq_g (i := 1811) (by decide +kernel) rfl
theorem tk_RX11_345 : Cond.methodLink RX11 345 yX11_stepped ∈ tq_G := tq_g (i := 2127) (by decide +kernel) rfl
theorem tk_y_X11_stepped : tq_yok yX11_stepped cX11_stepped 11 (some .long) 2 := ⟨tq_g (i := 2130) (by decide +kernel) rfl, tq_g (i := 133) (by decide +kernel) rfl, ⟨by decide +kernel, by decide +kernel⟩, by decide +kernel, by decide⟩
theorem tk_v_X11_stepped : tq_vok yX11_stepped := ⟨tq_g (i := 2129) (by decide +kernel) rfl, tq_g (i := 84) (by decide +kernel) rfl⟩
theorem tk_RX11_228 : Cond.methodLink RX11 228 yX11_all ∈ tq_G := tq_g (i := 2047) (by decide +kernel) rfl
theorem tk_RX11_348 : Cond.methodLink RX11 348 yX11_findAll ∈ tq_G := tq_g (i := 2123) (by decide +kernel) rfl
theorem tk_RX11_299 : Cond.fieldLink RX11 299 RX11 (TX11 45).2.1 (TX11 45).2.2.1 ∈ tq_G := tq_g (i := 1832) (by decide +kernel) rfl
theorem tk_RX11_361 : Cond.methodLink RX11 361 yX11_bits ∈ tq_G := tq_g (i := 2163) (by decide +kernel) rfl
theorem tk_y_X11_bits : tq_yok yX11_bits cX11_bits 5 (some .int) 1 := ⟨tq_g (i := 2165) (by decide +kernel) rfl, tq_g (i := 133) (by decide +kernel) rfl, ⟨by decide +kernel, by decide +kernel⟩, by decide +kernel, by decide⟩
theorem tk_s_X11_bits : Cond.static yX11_bits ∈ tq_G := tq_g (i := 2164) (by decide +kernel) rfl
theorem tk_y_X11_findAll : tq_yok yX11_findAll cX11_findAll 12 none 1 := ⟨tq_g (i := 2126) (by decide +kernel) rfl, tq_g (i := 133) (by decide +kernel) rfl, ⟨by decide +kernel, by decide +kernel⟩, by decide +kernel, by decide⟩
theorem tk_v_X11_findAll : tq_vok yX11_findAll := ⟨tq_g (i := 2125) (by decide +kernel) rfl, tq_g (i := 83) (by decide +kernel) rfl⟩
theorem tk_y_X11_all : tq_yok yX11_all cX11_all 4 (some .long) 0 := ⟨tq_g (i := 2050) (by decide +kernel) rfl, tq_g (i := 133) (by decide +kernel) rfl, ⟨by decide +kernel, by decide +kernel⟩, by decide +kernel, by decide⟩
theorem tk_v_X11_all : tq_vok yX11_all := ⟨tq_g (i := 2049) (by decide +kernel) rfl, tq_g (i := 64) (by decide +kernel) rfl⟩
theorem tk_RX11_217 : Cond.methodLink RX11 217 yX11_isAtOdds ∈ tq_G := tq_g (i := 2035) (by decide +kernel) rfl
theorem tk_RX11_221 : Cond.methodLink RX11 221 yX11_madeBehind ∈ tq_G := tq_g (i := 2039) (by decide +kernel) rfl
theorem tk_y_X11_madeBehind : tq_yok yX11_madeBehind cX11_madeBehind 3 (some .int) 0 := ⟨tq_g (i := 2042) (by decide +kernel) rfl, tq_g (i := 133) (by decide +kernel) rfl, ⟨by decide +kernel, by decide +kernel⟩, by decide +kernel, by decide⟩
theorem tk_v_X11_madeBehind : tq_vok yX11_madeBehind := ⟨tq_g (i := 2041) (by decide +kernel) rfl, tq_g (i := 62) (by decide +kernel) rfl⟩
theorem tk_RX11_225 : Cond.methodLink RX11 225 yX11_remember ∈ tq_G := tq_g (i := 2043) (by decide +kernel) rfl
theorem tk_RX11_232 : Cond.methodLink RX11 232 yX11_perform ∈ tq_G := tq_g (i := 2051) (by decide +kernel) rfl
theorem tk_RX11_235 : Cond.methodLink RX11 235 yX11_isSound ∈ tq_G := tq_g (i := 2071) (by decide +kernel) rfl
theorem tk_RX11_238 : Cond.methodLink RX11 238 yX11_hangs ∈ tq_G := tq_g (i := 2079) (by decide +kernel) rfl
theorem tk_y_X11_hangs : tq_yok yX11_hangs cX11_hangs 4 (some .boolean) 1 := ⟨tq_g (i := 2082) (by decide +kernel) rfl, tq_g (i := 133) (by decide +kernel) rfl, ⟨by decide +kernel, by decide +kernel⟩, by decide +kernel, by decide⟩
theorem tk_v_X11_hangs : tq_vok yX11_hangs := ⟨tq_g (i := 2081) (by decide +kernel) rfl, tq_g (i := 72) (by decide +kernel) rfl⟩
theorem tk_RX11_241 : Cond.methodLink RX11 241 yX11_hasTwice ∈ tq_G := tq_g (i := 2083) (by decide +kernel) rfl
theorem tk_RX11_244 : Cond.fieldLink RX11 244 RX11 (TX11 42).2.1 (TX11 42).2.2.1 ∈ tq_G := tq_g (i := 1829) (by decide +kernel) rfl
theorem tk_RX11_248 : Cond.methodLink RX11 248 yX11_isRight ∈ tq_G := tq_g (i := 2087) (by decide +kernel) rfl
theorem tk_y_X11_isRight : tq_yok yX11_isRight cX11_isRight 1 (some .boolean) 0 := ⟨tq_g (i := 2090) (by decide +kernel) rfl, tq_g (i := 133) (by decide +kernel) rfl, ⟨by decide +kernel, by decide +kernel⟩, by decide +kernel, by decide⟩
theorem tk_v_X11_isRight : tq_vok yX11_isRight := ⟨tq_g (i := 2089) (by decide +kernel) rfl, tq_g (i := 74) (by decide +kernel) rfl⟩
theorem tk_y_X11_hasTwice : tq_yok yX11_hasTwice cX11_hasTwice 5 (some .boolean) 0 := ⟨tq_g (i := 2086) (by decide +kernel) rfl, tq_g (i := 133) (by decide +kernel) rfl, ⟨by decide +kernel, by decide +kernel⟩, by decide +kernel, by decide⟩
theorem tk_v_X11_hasTwice : tq_vok yX11_hasTwice := ⟨tq_g (i := 2085) (by decide +kernel) rfl, tq_g (i := 73) (by decide +kernel) rfl⟩
theorem tk_RX11_254 : Cond.methodLink RX11 254 yX11_markNew ∈ tq_G := tq_g (i := 2103) (by decide +kernel) rfl
theorem tk_RX11_258 : Cond.methodLink RX11 258 yX11_number ∈ tq_G := tq_g (i := 2107) (by decide +kernel) rfl
theorem tk_RX11_261 : Cond.methodLink RX11 261 yX11_lookAtViews ∈ tq_G := tq_g (i := 2119) (by decide +kernel) rfl
theorem tk_y_X11_lookAtViews : tq_yok yX11_lookAtViews cX11_lookAtViews 4 none 0 := ⟨tq_g (i := 2122) (by decide +kernel) rfl, tq_g (i := 133) (by decide +kernel) rfl, ⟨by decide +kernel, by decide +kernel⟩, by decide +kernel, by decide⟩
theorem tk_v_X11_lookAtViews : tq_vok yX11_lookAtViews := ⟨tq_g (i := 2121) (by decide +kernel) rfl, tq_g (i := 82) (by decide +kernel) rfl⟩
theorem tk_y_X11_number : tq_yok yX11_number cX11_number 3 none 0 := ⟨tq_g (i := 2110) (by decide +kernel) rfl, tq_g (i := 133) (by decide +kernel) rfl, ⟨by decide +kernel, by decide +kernel⟩, by decide +kernel, by decide⟩
theorem tk_v_X11_number : tq_vok yX11_number := ⟨tq_g (i := 2109) (by decide +kernel) rfl, tq_g (i := 79) (by decide +kernel) rfl⟩
theorem tk_y_X11_markNew : tq_yok yX11_markNew cX11_markNew 7 none 2 := ⟨tq_g (i := 2106) (by decide +kernel) rfl, tq_g (i := 133) (by decide +kernel) rfl, ⟨by decide +kernel, by decide +kernel⟩, by decide +kernel, by decide⟩
theorem tk_v_X11_markNew : tq_vok yX11_markNew := ⟨tq_g (i := 2105) (by decide +kernel) rfl, tq_g (i := 78) (by decide +kernel) rfl⟩
theorem tk_RX11_251 : Cond.methodLink RX11 251 yX11_comeBack ∈ tq_G := tq_g (i := 2099) (by decide +kernel) rfl
theorem tk_y_X11_comeBack : tq_yok yX11_comeBack cX11_comeBack 2 none 0 := ⟨tq_g (i := 2102) (by decide +kernel) rfl, tq_g (i := 133) (by decide +kernel) rfl, ⟨by decide +kernel, by decide +kernel⟩, by decide +kernel, by decide⟩
theorem tk_v_X11_comeBack : tq_vok yX11_comeBack := ⟨tq_g (i := 2101) (by decide +kernel) rfl, tq_g (i := 77) (by decide +kernel) rfl⟩
theorem tk_y_X11_isSound : tq_yok yX11_isSound cX11_isSound 4 (some .boolean) 1 := ⟨tq_g (i := 2074) (by decide +kernel) rfl, tq_g (i := 133) (by decide +kernel) rfl, ⟨by decide +kernel, by decide +kernel⟩, by decide +kernel, by decide⟩
theorem tk_v_X11_isSound : tq_vok yX11_isSound := ⟨tq_g (i := 2073) (by decide +kernel) rfl, tq_g (i := 70) (by decide +kernel) rfl⟩
theorem tk_y_X11_perform : tq_yok yX11_perform cX11_perform 4 none 0 := ⟨tq_g (i := 2054) (by decide +kernel) rfl, tq_g (i := 133) (by decide +kernel) rfl, ⟨by decide +kernel, by decide +kernel⟩, by decide +kernel, by decide⟩
theorem tk_v_X11_perform : tq_vok yX11_perform := ⟨tq_g (i := 2053) (by decide +kernel) rfl, tq_g (i := 65) (by decide +kernel) rfl⟩
theorem tk_y_X11_remember : tq_yok yX11_remember cX11_remember 2 none 0 := ⟨tq_g (i := 2046) (by decide +kernel) rfl, tq_g (i := 133) (by decide +kernel) rfl, ⟨by decide +kernel, by decide +kernel⟩, by decide +kernel, by decide⟩
theorem tk_v_X11_remember : tq_vok yX11_remember := ⟨tq_g (i := 2045) (by decide +kernel) rfl, tq_g (i := 63) (by decide +kernel) rfl⟩
theorem tk_y_X11_isAtOdds : tq_yok yX11_isAtOdds cX11_isAtOdds 5 (some .boolean) 0 := ⟨tq_g (i := 2038) (by decide +kernel) rfl, tq_g (i := 133) (by decide +kernel) rfl, ⟨by decide +kernel, by decide +kernel⟩, by decide +kernel, by decide⟩
theorem tk_v_X11_isAtOdds : tq_vok yX11_isAtOdds := ⟨tq_g (i := 2037) (by decide +kernel) rfl, tq_g (i := 61) (by decide +kernel) rfl⟩
theorem tk_RX11_283 : Cond.methodLink RX11 283 yX11_fine ∈ tq_G := tq_g (i := 2170) (by decide +kernel) rfl
theorem tk_y_X11_fine : tq_yok yX11_fine cX11_fine 2 (some .int) 1 := ⟨tq_g (i := 2173) (by decide +kernel) rfl, tq_g (i := 133) (by decide +kernel) rfl, ⟨by decide +kernel, by decide +kernel⟩, by decide +kernel, by decide⟩
theorem tk_v_X11_fine : tq_vok yX11_fine := ⟨tq_g (i := 2172) (by decide +kernel) rfl, tq_g (i := 92) (by decide +kernel) rfl⟩
theorem tk_RX11_286 : Cond.methodLink RX11 286 yX11_noNode ∈ tq_G := tq_g (i := 2190) (by decide +kernel) rfl
theorem tk_y_X11_noNode : tq_yok yX11_noNode cX11_noNode 2 (some .boolean) 1 := ⟨tq_g (i := 2193) (by decide +kernel) rfl, tq_g (i := 133) (by decide +kernel) rfl, ⟨by decide +kernel, by decide +kernel⟩, by decide +kernel, by decide⟩
theorem tk_v_X11_noNode : tq_vok yX11_noNode := ⟨tq_g (i := 2192) (by decide +kernel) rfl, tq_g (i := 93) (by decide +kernel) rfl⟩
theorem tk_RX11_302 : Cond.methodLink RX11 302 yX11_hasView ∈ tq_G := tq_g (i := 2238) (by decide +kernel) rfl
theorem tk_y_X11_hasView : tq_yok yX11_hasView cX11_hasView 4 (some .boolean) 1 := ⟨tq_g (i := 2241) (by decide +kernel) rfl, tq_g (i := 133) (by decide +kernel) rfl, ⟨by decide +kernel, by decide +kernel⟩, by decide +kernel, by decide⟩
theorem tk_v_X11_hasView : tq_vok yX11_hasView := ⟨tq_g (i := 2240) (by decide +kernel) rfl, tq_g (i := 96) (by decide +kernel) rfl⟩
theorem tk_RX11_305 : Cond.methodLink RX11 305 yX11_isPath ∈ tq_G := tq_g (i := 2230) (by decide +kernel) rfl
theorem tk_RX11_308 : Cond.methodLink RX11 308 yX11_isOpen ∈ tq_G := tq_g (i := 2234) (by decide +kernel) rfl
theorem tk_y_X11_isOpen : tq_yok yX11_isOpen cX11_isOpen 2 (some .boolean) 1 := ⟨tq_g (i := 2237) (by decide +kernel) rfl, tq_g (i := 133) (by decide +kernel) rfl, ⟨by decide +kernel, by decide +kernel⟩, by decide +kernel, by decide⟩
theorem tk_v_X11_isOpen : tq_vok yX11_isOpen := ⟨tq_g (i := 2236) (by decide +kernel) rfl, tq_g (i := 95) (by decide +kernel) rfl⟩
theorem tk_y_X11_isPath : tq_yok yX11_isPath cX11_isPath 2 (some .boolean) 1 := ⟨tq_g (i := 2233) (by decide +kernel) rfl, tq_g (i := 133) (by decide +kernel) rfl, ⟨by decide +kernel, by decide +kernel⟩, by decide +kernel, by decide⟩
theorem tk_v_X11_isPath : tq_vok yX11_isPath := ⟨tq_g (i := 2232) (by decide +kernel) rfl, tq_g (i := 94) (by decide +kernel) rfl⟩
theorem tk_RX11_311 : Cond.methodLink RX11 311 yX11_takesCondition ∈ tq_G := tq_g (i := 2246) (by decide +kernel) rfl
theorem tk_y_X11_takesCondition : tq_yok yX11_takesCondition cX11_takesCondition 2 (some .boolean) 1 := ⟨tq_g (i := 2249) (by decide +kernel) rfl, tq_g (i := 133) (by decide +kernel) rfl, ⟨by decide +kernel, by decide +kernel⟩, by decide +kernel, by decide⟩
theorem tk_v_X11_takesCondition : tq_vok yX11_takesCondition := ⟨tq_g (i := 2248) (by decide +kernel) rfl, tq_g (i := 97) (by decide +kernel) rfl⟩
theorem tk_RX11_314 : Cond.methodLink RX11 314 yX11_condition ∈ tq_G := tq_g (i := 2250) (by decide +kernel) rfl
theorem tk_y_X11_condition : tq_yok yX11_condition cX11_condition 8 (some .int) 5 := ⟨tq_g (i := 2253) (by decide +kernel) rfl, tq_g (i := 133) (by decide +kernel) rfl, ⟨by decide +kernel, by decide +kernel⟩, by decide +kernel, by decide⟩
theorem tk_v_X11_condition : tq_vok yX11_condition := ⟨tq_g (i := 2252) (by decide +kernel) rfl, tq_g (i := 98) (by decide +kernel) rfl⟩
theorem tk_RX11_318 : Cond.fieldLink RX11 318 RX11 (TX11 32).2.1 (TX11 32).2.2.1 ∈ tq_G := tq_g (i := 1819) (by decide +kernel) rfl
theorem tk_RX11_352 : Cond.fieldLink RX11 352 RX11 (TX11 33).2.1 (TX11 33).2.2.1 ∈ tq_G := tq_g (i := 1820) (by decide +kernel) rfl
theorem tk_RX11_355 : Cond.methodLink RX11 355 yX11_seen ∈ tq_G := tq_g (i := 2282) (by decide +kernel) rfl
theorem tk_y_X11_seen : tq_yok yX11_seen cX11_seen 8 (some .long) 0 := ⟨tq_g (i := 2285) (by decide +kernel) rfl, tq_g (i := 133) (by decide +kernel) rfl, ⟨by decide +kernel, by decide +kernel⟩, by decide +kernel, by decide⟩
theorem tk_v_X11_seen : tq_vok yX11_seen := ⟨tq_g (i := 2284) (by decide +kernel) rfl, tq_g (i := 100) (by decide +kernel) rfl⟩
theorem tk_RX11_358 : Cond.methodLink RX11 358 yX11_read ∈ tq_G := tq_g (i := 2278) (by decide +kernel) rfl
theorem tk_y_X11_read : tq_yok yX11_read cX11_read 1 none 0 := ⟨tq_g (i := 2281) (by decide +kernel) rfl, tq_g (i := 133) (by decide +kernel) rfl, ⟨by decide +kernel, by decide +kernel⟩, by decide +kernel, by decide⟩
theorem tk_v_X11_read : tq_vok yX11_read := ⟨tq_g (i := 2280) (by decide +kernel) rfl, tq_g (i := 99) (by decide +kernel) rfl⟩
theorem tk_RX11_365 : Cond.methodLink RX11 365 yX11_found ∈ tq_G := tq_g (i := 2290) (by decide +kernel) rfl
theorem tk_y_X11_found : tq_yok yX11_found cX11_found 4 (some .int) 2 := ⟨tq_g (i := 2277) (by decide +kernel) rfl, tq_g (i := 133) (by decide +kernel) rfl, ⟨by decide +kernel, by decide +kernel⟩, by decide +kernel, by decide⟩
theorem tk_v_X11_found : tq_vok yX11_found := ⟨tq_g (i := 2275) (by decide +kernel) rfl, tq_g (i := 2276) (by decide +kernel) rfl⟩
theorem tk_RX11_368 : Cond.methodLink RX11 368 yX11_foundBy ∈ tq_G := tq_g (i := 2295) (by decide +kernel) rfl
theorem tk_RX11_372 : Cond.methodLink RX11 372 yX11_pick ∈ tq_G := tq_g (i := 2299) (by decide +kernel) rfl
theorem tk_y_X11_pick : tq_yok yX11_pick cX11_pick 8 (some .int) 2 := ⟨tq_g (i := 2302) (by decide +kernel) rfl, tq_g (i := 133) (by decide +kernel) rfl, ⟨by decide +kernel, by decide +kernel⟩, by decide +kernel, by decide⟩
theorem tk_v_X11_pick : tq_vok yX11_pick := ⟨tq_g (i := 2301) (by decide +kernel) rfl, tq_g (i := 102) (by decide +kernel) rfl⟩
theorem tk_y_X11_foundBy : tq_yok yX11_foundBy cX11_foundBy 2 (some .long) 1 := ⟨tq_g (i := 2298) (by decide +kernel) rfl, tq_g (i := 133) (by decide +kernel) rfl, ⟨by decide +kernel, by decide +kernel⟩, by decide +kernel, by decide⟩
theorem tk_v_X11_foundBy : tq_vok yX11_foundBy := ⟨tq_g (i := 2297) (by decide +kernel) rfl, tq_g (i := 101) (by decide +kernel) rfl⟩
abbrev mX11_repeated : tq_M := (RX11, cX11_repeated, 9, (some .long), false, [], none)
def f_X11_repeated_b26 (i0 : Nat) (i1 : Int32) (i3 : Int64) (hh : tq_H) (s : Int64 × Int32) : Option ((Int64 × Int32) ⊕ (Int64)) := match s with
  | (y6, y8) =>
    (tq_gi hh i0 11 11).bind fun x3 =>
    if y8 ≥ x3 then
      some (.inr y6)
    else
      (tq_gr hh i0 11 12).bind fun k4 =>
      (tq_ai hh k4 y8).bind fun x5 =>
      (if (lg_cmp ((i3 >>> (x5.toInt64 &&& 63)) &&& (1 : Int64)) (1 : Int64)) = 0 then
        (tq_gr hh i0 11 29).bind fun k6 =>
        (tq_gr hh i0 11 12).bind fun k7 =>
        (tq_ai hh k7 y8).bind fun x8 =>
        (tq_aj hh k6 (((60 : Int32) * i1) + x8)).bind fun x9 =>
        some x9
      else
        some (0 : Int64)).bind fun p10 =>
      tq_let ((y6 ||| p10)) fun x11 =>
      tq_let (y8 + (1 : Int32)) fun x12 =>
      some (.inl (x11, x12))
def f_X11_repeated_b15 (i0 : Nat) (i1 : Int32) (hh : tq_H) (s : Int64 × Int32) : Option ((Int64 × Int32) ⊕ (Int64)) := match s with
  | (y3, y5) =>
    if y5 = 0 then
      some (.inr y3)
    else
      (tq_loop (f_X11_repeated_b26 i0 i1 y3 hh) tq_N (y3, (0 : Int32))).bind fun o13 =>
      tq_let (if (lg_cmp o13 y3) = 0 then (0 : Int32) else (1 : Int32)) fun p14 =>
      some (.inl (o13, p14))
def f_X11_repeated (t : Nat) (a1 : Int32) (a2 : Int32) (h : tq_H) : Option (Int64) :=
  (tq_gr h t 11 29).bind fun k1 =>
  (tq_aj h k1 (((60 : Int32) * a1) + a2)).bind fun x2 =>
  (tq_loop (f_X11_repeated_b15 t a1 h) tq_N (x2, (1 : Int32))).bind fun o15 =>
  some o15
set_option maxHeartbeats 4000000 in
theorem l_X11_repeated_26 {l : Launch} {d : Nat} {Q : tq_R → tq_H → Prop} (hd9 : 0 ≤ d) (i0 : Nat) (i1 : Int32) (i3 : Int64) (hh : tq_H) : ∀ (n : Nat) (y6 : Int64) (y8 : Int32) (o : Int64), tq_loop (f_X11_repeated_b26 i0 i1 i3 hh) n (y6, y8) = some o → tq_W l mX11_repeated d 0 0 Q 83 [(0, .ref i0), (1, .int i1), (3, .long i3), (6, .long o)] [] hh → tq_W l mX11_repeated d 0 0 Q 26 [(0, .ref i0), (1, .int i1), (3, .long i3), (6, .long y6), (8, .int y8)] [] hh := by
  intro n
  induction n with
  | zero => intro y6 y8 o hl; cases hl
  | succ n ih =>
    intro y6 y8 o hl hk
    obtain ⟨oo, hf, ho⟩ := tq_loop_s hl
    refine tq_iload (M := mX11_repeated) (pc := 26) dX11_repeated_26 rfl ?_
    refine tq_aload_n (M := mX11_repeated) (pc := 28) dX11_repeated_28 rfl ?_
    obtain ⟨x3, ex3, hf⟩ := tq_be hf
    refine tq_getI (M := mX11_repeated) (pc := 29) tk_c11 (by decide) dX11_repeated_29 tk_RX11_173 rfl ex3 ?_
    refine tq_icmp_ge (M := mX11_repeated) (pc := 32) (tgt := 83) dX11_repeated_32 (by decide) (fun cc => ?_) (fun cc => ?_)
    · have hf := tq_ifp hf cc
      refine tq_pick (L2 := [(0, .ref i0), (1, .int i1), (3, .long i3), (6, .long y6)]) [0, 1, 2, 3] rfl ?_
      cases (Option.some.inj hf)
      cases (tq_lx ho)
      exact hk
    · have hf := tq_ifn hf cc
      refine tq_lload (M := mX11_repeated) (pc := 35) dX11_repeated_35 rfl ?_
      refine tq_lload_n (M := mX11_repeated) (pc := 37) dX11_repeated_37 rfl ?_
      refine tq_aload_n (M := mX11_repeated) (pc := 38) dX11_repeated_38 rfl ?_
      obtain ⟨k4, ek4, hf⟩ := tq_be hf
      refine tq_getR (M := mX11_repeated) (pc := 39) tk_c11 (by decide) dX11_repeated_39 tk_RX11_35 rfl ek4 ?_
      refine tq_iload (M := mX11_repeated) (pc := 42) dX11_repeated_42 rfl ?_
      obtain ⟨x5, ex5, hf⟩ := tq_be hf
      refine tq_ialdF (M := mX11_repeated) (pc := 44) dX11_repeated_44 ex5 ?_
      refine tq_lshr (M := mX11_repeated) (pc := 45) dX11_repeated_45 ?_
      refine tq_lconst (M := mX11_repeated) (pc := 46) dX11_repeated_46 tk_kl_1 ?_
      refine tq_land (M := mX11_repeated) (pc := 47) dX11_repeated_47 ?_
      refine tq_lconst (M := mX11_repeated) (pc := 48) dX11_repeated_48 tk_kl_1 ?_
      refine tq_lcmp (M := mX11_repeated) (pc := 49) dX11_repeated_49 ?_
      obtain ⟨p10, ep10, hf⟩ := tq_be hf
      have HJ50 : tq_W l mX11_repeated d 0 0 Q 74 [(0, .ref i0), (1, .int i1), (3, .long i3), (8, .int y8)] [.long p10, .long y6] hh := by
        refine tq_lor (M := mX11_repeated) (pc := 74) dX11_repeated_74 ?_
        obtain ⟨x11, ex11, hf⟩ := tq_le hf
        refine tq_lstore (M := mX11_repeated) (pc := 75) dX11_repeated_75 (L2 := [(6, .long x11), (0, .ref i0), (1, .int i1), (3, .long i3), (8, .int y8)]) (by decide) (by rw [ex11]; rfl) ?_
        obtain ⟨x12, ex12, hf⟩ := tq_le hf
        refine tq_iinc (M := mX11_repeated) (pc := 77) (v := x12) (L2 := [(8, .int x12), (6, .long x11), (0, .ref i0), (1, .int i1), (3, .long i3)]) dX11_repeated_77 rfl (by rw [ex12, tk_ki_1]) (by decide) rfl ?_
        refine tq_goto (M := mX11_repeated) (pc := 80) (tgt := 26) dX11_repeated_80 (by decide) ?_
        refine tq_pick (L2 := [(0, .ref i0), (1, .int i1), (3, .long i3), (6, .long x11), (8, .int x12)]) [2, 3, 4, 1, 0] rfl ?_
        cases (Option.some.inj hf)
        exact ih _ _ o (tq_lc ho) hk
      refine tq_if_ne (M := mX11_repeated) (pc := 50) (tgt := 73) dX11_repeated_50 (by decide) (fun cc => ?_) (fun cc => ?_)
      · have hf := tq_ifn ep10 cc
        refine tq_lconst (M := mX11_repeated) (pc := 73) dX11_repeated_73 tk_kl_0 ?_
        refine tq_pick (L2 := [(0, .ref i0), (1, .int i1), (3, .long i3), (8, .int y8)]) [0, 1, 2, 4] rfl ?_
        cases (Option.some.inj hf)
        exact HJ50
      · have hf := tq_ifp ep10 cc
        refine tq_aload_n (M := mX11_repeated) (pc := 53) dX11_repeated_53 rfl ?_
        obtain ⟨k6, ek6, hf⟩ := tq_be hf
        refine tq_getR (M := mX11_repeated) (pc := 54) tk_c11 (by decide) dX11_repeated_54 tk_RX11_80 rfl ek6 ?_
        refine tq_bipush (M := mX11_repeated) (pc := 57) dX11_repeated_57 tk_kb_60 ?_
        refine tq_iload_n (M := mX11_repeated) (pc := 59) dX11_repeated_59 rfl ?_
        refine tq_imul (M := mX11_repeated) (pc := 60) dX11_repeated_60 ?_
        refine tq_aload_n (M := mX11_repeated) (pc := 61) dX11_repeated_61 rfl ?_
        obtain ⟨k7, ek7, hf⟩ := tq_be hf
        refine tq_getR (M := mX11_repeated) (pc := 62) tk_c11 (by decide) dX11_repeated_62 tk_RX11_35 rfl ek7 ?_
        refine tq_iload (M := mX11_repeated) (pc := 65) dX11_repeated_65 rfl ?_
        obtain ⟨x8, ex8, hf⟩ := tq_be hf
        refine tq_ialdF (M := mX11_repeated) (pc := 67) dX11_repeated_67 ex8 ?_
        refine tq_iadd (M := mX11_repeated) (pc := 68) dX11_repeated_68 ?_
        obtain ⟨x9, ex9, hf⟩ := tq_be hf
        refine tq_laldF (M := mX11_repeated) (pc := 69) dX11_repeated_69 ex9 ?_
        refine tq_goto (M := mX11_repeated) (pc := 70) (tgt := 74) dX11_repeated_70 (by decide) ?_
        refine tq_pick (L2 := [(0, .ref i0), (1, .int i1), (3, .long i3), (8, .int y8)]) [0, 1, 2, 4] rfl ?_
        cases (Option.some.inj hf)
        exact HJ50
set_option maxHeartbeats 4000000 in
theorem l_X11_repeated_15 {l : Launch} {d : Nat} {Q : tq_R → tq_H → Prop} (hd9 : 0 ≤ d) (i0 : Nat) (i1 : Int32) (hh : tq_H) : ∀ (n : Nat) (y3 : Int64) (y5 : Int32) (o : Int64), tq_loop (f_X11_repeated_b15 i0 i1 hh) n (y3, y5) = some o → tq_W l mX11_repeated d 0 0 Q 103 [(3, .long o)] [] hh → tq_W l mX11_repeated d 0 0 Q 15 [(0, .ref i0), (1, .int i1), (3, .long y3), (5, .int y5)] [] hh := by
  intro n
  induction n with
  | zero => intro y3 y5 o hl; cases hl
  | succ n ih =>
    intro y3 y5 o hl hk
    obtain ⟨oo, hf, ho⟩ := tq_loop_s hl
    refine tq_iload (M := mX11_repeated) (pc := 15) dX11_repeated_15 rfl ?_
    refine tq_if_eq (M := mX11_repeated) (pc := 17) (tgt := 103) dX11_repeated_17 (by decide) (fun cc => ?_) (fun cc => ?_)
    · have hf := tq_ifp hf cc
      refine tq_pick (L2 := [(3, .long y3)]) [2] rfl ?_
      cases (Option.some.inj hf)
      cases (tq_lx ho)
      exact hk
    · have hf := tq_ifn hf cc
      refine tq_lload_n (M := mX11_repeated) (pc := 20) dX11_repeated_20 rfl ?_
      refine tq_lstore (M := mX11_repeated) (pc := 21) dX11_repeated_21 (L2 := [(6, .long y3), (0, .ref i0), (1, .int i1), (3, .long y3), (5, .int y5)]) (by decide) rfl ?_
      refine tq_iconst (M := mX11_repeated) (pc := 23) dX11_repeated_23 tk_ki_0 ?_
      refine tq_istore (M := mX11_repeated) (pc := 24) dX11_repeated_24 (L2 := [(8, .int (0 : Int32)), (6, .long y3), (0, .ref i0), (1, .int i1), (3, .long y3), (5, .int y5)]) (by decide) rfl ?_
      obtain ⟨o13, eo13, hf⟩ := tq_be hf
      refine tq_pick (L2 := [(0, .ref i0), (1, .int i1), (3, .long y3), (6, .long y3), (8, .int (0 : Int32))]) [2, 3, 4, 1, 0] rfl ?_
      refine l_X11_repeated_26 (by omega) i0 i1 y3 hh _ y3 (0 : Int32) _ eo13 ?_
      refine tq_lload (M := mX11_repeated) (pc := 83) dX11_repeated_83 rfl ?_
      refine tq_lload_n (M := mX11_repeated) (pc := 85) dX11_repeated_85 rfl ?_
      refine tq_lcmp (M := mX11_repeated) (pc := 86) dX11_repeated_86 ?_
      obtain ⟨p14, ep14, hf⟩ := tq_le hf
      have HJ87 : tq_W l mX11_repeated d 0 0 Q 95 [(0, .ref i0), (1, .int i1), (6, .long o13)] [.int p14] hh := by
        refine tq_istore (M := mX11_repeated) (pc := 95) dX11_repeated_95 (L2 := [(5, .int p14), (0, .ref i0), (1, .int i1), (6, .long o13)]) (by decide) rfl ?_
        refine tq_lload (M := mX11_repeated) (pc := 97) dX11_repeated_97 rfl ?_
        refine tq_lstore_n (M := mX11_repeated) (pc := 99) rfl dX11_repeated_99 (L2 := [(3, .long o13), (5, .int p14), (0, .ref i0), (1, .int i1), (6, .long o13)]) (by decide) rfl ?_
        refine tq_goto (M := mX11_repeated) (pc := 100) (tgt := 15) dX11_repeated_100 (by decide) ?_
        refine tq_pick (L2 := [(0, .ref i0), (1, .int i1), (3, .long o13), (5, .int p14)]) [2, 3, 0, 1] rfl ?_
        cases (Option.some.inj hf)
        exact ih _ _ o (tq_lc ho) hk
      refine tq_if_eq (M := mX11_repeated) (pc := 87) (tgt := 94) dX11_repeated_87 (by decide) (fun cc => ?_) (fun cc => ?_)
      · have hf := tq_ifp ep14.symm cc
        refine tq_iconst (M := mX11_repeated) (pc := 94) dX11_repeated_94 tk_ki_0 ?_
        refine tq_pick (L2 := [(0, .ref i0), (1, .int i1), (6, .long o13)]) [0, 1, 3] rfl ?_
        cases hf
        exact HJ87
      · have hf := tq_ifn ep14.symm cc
        refine tq_iconst (M := mX11_repeated) (pc := 90) dX11_repeated_90 tk_ki_1 ?_
        refine tq_goto (M := mX11_repeated) (pc := 91) (tgt := 95) dX11_repeated_91 (by decide) ?_
        refine tq_pick (L2 := [(0, .ref i0), (1, .int i1), (6, .long o13)]) [0, 1, 3] rfl ?_
        cases hf
        exact HJ87
set_option maxHeartbeats 4000000 in
set_option maxRecDepth 20000 in
theorem w_X11_repeated {l : Launch} {d : Nat} (hd9 : 0 ≤ d) {t : Nat} {a1 : Int32} {a2 : Int32} {h : tq_H} {o : Int64} {Q : tq_R → tq_H → Prop} (hf : f_X11_repeated t a1 a2 h = some o) (hQ : ∀ r h9, r = .inl (some (.long o)) ∧ h = h9 → Q r h9) : tq_C l yX11_repeated cX11_repeated 9 (some .long) d 0 0 [.ref t, .int a1, .int a2] h Q := by
  refine tq_body (y := yX11_repeated) false (by decide +kernel) (fun z => by cases z) (Nat.le_of_ble_eq_true rfl) ?_
  show tq_W l mX11_repeated d 0 0 Q 0 [(0, .ref t), (1, .int a1), (2, .int a2)] [] h
  refine tq_aload_n (M := mX11_repeated) (pc := 0) dX11_repeated_0 rfl ?_
  obtain ⟨k1, ek1, hf⟩ := tq_be hf
  refine tq_getR (M := mX11_repeated) (pc := 1) tk_c11 (by decide) dX11_repeated_1 tk_RX11_80 rfl ek1 ?_
  refine tq_bipush (M := mX11_repeated) (pc := 4) dX11_repeated_4 tk_kb_60 ?_
  refine tq_iload_n (M := mX11_repeated) (pc := 6) dX11_repeated_6 rfl ?_
  refine tq_imul (M := mX11_repeated) (pc := 7) dX11_repeated_7 ?_
  refine tq_iload_n (M := mX11_repeated) (pc := 8) dX11_repeated_8 rfl ?_
  refine tq_iadd (M := mX11_repeated) (pc := 9) dX11_repeated_9 ?_
  obtain ⟨x2, ex2, hf⟩ := tq_be hf
  refine tq_laldF (M := mX11_repeated) (pc := 10) dX11_repeated_10 ex2 ?_
  refine tq_lstore_n (M := mX11_repeated) (pc := 11) rfl dX11_repeated_11 (L2 := [(3, .long x2), (0, .ref t), (1, .int a1), (2, .int a2)]) (by decide) rfl ?_
  refine tq_iconst (M := mX11_repeated) (pc := 12) dX11_repeated_12 tk_ki_1 ?_
  refine tq_istore (M := mX11_repeated) (pc := 13) dX11_repeated_13 (L2 := [(5, .int (1 : Int32)), (3, .long x2), (0, .ref t), (1, .int a1), (2, .int a2)]) (by decide) rfl ?_
  obtain ⟨o15, eo15, hf⟩ := tq_be hf
  refine tq_pick (L2 := [(0, .ref t), (1, .int a1), (3, .long x2), (5, .int (1 : Int32))]) [2, 3, 1, 0] rfl ?_
  refine l_X11_repeated_15 (by omega) t a1 h _ x2 (1 : Int32) _ eo15 ?_
  refine tq_lload_n (M := mX11_repeated) (pc := 103) dX11_repeated_103 rfl ?_
  refine tq_lret (M := mX11_repeated) (pc := 104) dX11_repeated_104 rfl ?_
  cases (Option.some.inj hf)
  exact hQ _ _ ⟨rfl, rfl⟩
abbrev mX11_axis : tq_M := (RX11, cX11_axis, 13, (some .long), false, [], none)
def f_X11_axis_b6 (i0 : Nat) (i1 : Int32) (i2 : Int32) (i3 : Int32) (hh : tq_H) (s : Int64 × Int32) : Option ((Int64 × Int32) ⊕ (Int64)) := match s with
  | (y4, y6) =>
    (tq_gi hh i0 11 11).bind fun x1 =>
    if y6 ≥ x1 then
      some (.inr y4)
    else
      (tq_gr hh i0 11 12).bind fun k2 =>
      (tq_ai hh k2 y6).bind fun x3 =>
      (tq_gr hh i0 11 2).bind fun k4 =>
      (tq_ai hh k4 x3).bind fun x5 =>
      tq_let (if x5 = (2 : Int32) then (0 : Int32) else (1 : Int32)) fun p6 =>
      (tq_is hh i0 11).bind fun _ =>
      (f_X11_isBelow i0 x3 i3 hh).bind fun v7 =>
      (tq_is hh i0 11).bind fun _ =>
      (f_X11_isBelow i0 i3 x3 hh).bind fun v9 =>
      (if p6 = 0 then
        some (0 : Int32)
      else
        (tq_gr hh i0 11 2).bind fun k11 =>
        (tq_ai hh k11 i3).bind fun x12 =>
        if x12 = (2 : Int32) then
          some (0 : Int32)
        else
          if x3 = i3 then
            some (0 : Int32)
          else
            (tq_gr hh i0 11 6).bind fun k13 =>
            (tq_ai hh k13 x3).bind fun x14 =>
            if x14 = (-1 : Int32) then
              some (0 : Int32)
            else
              (tq_gr hh i0 11 6).bind fun k15 =>
              (tq_ai hh k15 x3).bind fun x16 =>
              (tq_gr hh i0 11 6).bind fun k17 =>
              (tq_ai hh k17 i3).bind fun x18 =>
              if x16 = x18 then
                some (1 : Int32)
              else
                some (0 : Int32)).bind fun p19 =>
      (if i1 = (0 : Int32) then
        tq_let (if x3 = i3 then (1 : Int32) else (0 : Int32)) fun p20 =>
        some p20
      else
      if i1 = (1 : Int32) then
        (if p6 = 0 then
          some (0 : Int32)
        else
          (tq_gr hh i0 11 6).bind fun k21 =>
          (tq_ai hh k21 x3).bind fun x22 =>
          if x22 = i3 then
            some (1 : Int32)
          else
            some (0 : Int32)).bind fun p23 =>
        some p23
      else
      if i1 = (2 : Int32) then
        (tq_gr hh i0 11 6).bind fun k24 =>
        (tq_ai hh k24 i3).bind fun x25 =>
        tq_let (if x25 = x3 then (1 : Int32) else (0 : Int32)) fun p26 =>
        some p26
      else
      if i1 = (3 : Int32) then
        tq_let (if p6 = 0 then (0 : Int32) else (if v7 = 0 then (0 : Int32) else (1 : Int32))) fun p27 =>
        some p27
      else
      if i1 = (4 : Int32) then
        tq_let (if p6 = 0 then (if x3 = i3 then (1 : Int32) else (0 : Int32)) else (if v7 = 0 then if x3 = i3 then (1 : Int32) else (0 : Int32) else (1 : Int32))) fun p28 =>
        some p28
      else
      if i1 = (5 : Int32) then
        some v9
      else
      if i1 = (6 : Int32) then
        tq_let (if v9 = 0 then (if x3 = i3 then (1 : Int32) else (0 : Int32)) else (1 : Int32)) fun p29 =>
        some p29
      else
      if i1 = (7 : Int32) then
        (if p6 = 0 then
          some (0 : Int32)
        else
          (tq_gr hh i0 11 13).bind fun k30 =>
          (tq_ai hh k30 x3).bind fun x31 =>
          (tq_gr hh i0 11 13).bind fun k32 =>
          (tq_ai hh k32 i3).bind fun x33 =>
          if x31 ≤ x33 then
            some (0 : Int32)
          else
            if v7 = 0 then
              some (1 : Int32)
            else
              some (0 : Int32)).bind fun p34 =>
        some p34
      else
      if i1 = (8 : Int32) then
        (if p6 = 0 then
          some (0 : Int32)
        else
          (tq_gr hh i0 11 13).bind fun k35 =>
          (tq_ai hh k35 x3).bind fun x36 =>
          (tq_gr hh i0 11 13).bind fun k37 =>
          (tq_ai hh k37 i3).bind fun x38 =>
          if x36 ≥ x38 then
            some (0 : Int32)
          else
            if v9 = 0 then
              some (1 : Int32)
            else
              some (0 : Int32)).bind fun p39 =>
        some p39
      else
      if i1 = (9 : Int32) then
        (if p19 = 0 then
          some (0 : Int32)
        else
          (tq_gr hh i0 11 7).bind fun k40 =>
          (tq_ai hh k40 x3).bind fun x41 =>
          (tq_gr hh i0 11 7).bind fun k42 =>
          (tq_ai hh k42 i3).bind fun x43 =>
          if x41 ≤ x43 then
            some (0 : Int32)
          else
            some (1 : Int32)).bind fun p44 =>
        some p44
      else
      if i1 = (10 : Int32) then
        (if p19 = 0 then
          some (0 : Int32)
        else
          (tq_gr hh i0 11 7).bind fun k45 =>
          (tq_ai hh k45 x3).bind fun x46 =>
          (tq_gr hh i0 11 7).bind fun k47 =>
          (tq_ai hh k47 i3).bind fun x48 =>
          if x46 ≥ x48 then
            some (0 : Int32)
          else
            some (1 : Int32)).bind fun p49 =>
        some p49
      else
      if i1 = (11 : Int32) then
        (if p6 = 0 then
          (tq_gr hh i0 11 6).bind fun k50 =>
          (tq_ai hh k50 x3).bind fun x51 =>
          if x51 = i3 then
            some (1 : Int32)
          else
            some (0 : Int32)
        else
          some (0 : Int32)).bind fun p52 =>
        some p52
      else
        some (0 : Int32)).bind fun p53 =>
      tq_let (if p53 = 0 then (0 : Int64) else ((1 : Int64) <<< (x3.toInt64 &&& 63))) fun p54 =>
      tq_let ((y4 ||| p54)) fun x55 =>
      tq_let (y6 + (1 : Int32)) fun x56 =>
      some (.inl (x55, x56))
def f_X11_axis (t : Nat) (a1 : Int32) (a2 : Int32) (a3 : Int32) (h : tq_H) : Option (Int64) :=
  (tq_loop (f_X11_axis_b6 t a1 a2 a3 h) tq_N ((0 : Int64), (0 : Int32))).bind fun o57 =>
  (if a1 = (12 : Int32) then
    (tq_is h t 11).bind fun _ =>
    (f_X11_repeated t a2 a3 h).bind fun v58 =>
    some v58
  else
    some o57).bind fun p60 =>
  (tq_gl h t 11 31).bind fun x61 =>
  some (p60 &&& x61)
set_option maxHeartbeats 4000000 in
theorem l_X11_axis_6 {l : Launch} {d : Nat} {Q : tq_R → tq_H → Prop} (hd9 : 1 ≤ d) (i0 : Nat) (i1 : Int32) (i2 : Int32) (i3 : Int32) (hh : tq_H) : ∀ (n : Nat) (y4 : Int64) (y6 : Int32) (o : Int64), tq_loop (f_X11_axis_b6 i0 i1 i2 i3 hh) n (y4, y6) = some o → tq_W l mX11_axis d 0 0 Q 504 [(0, .ref i0), (1, .int i1), (2, .int i2), (3, .int i3), (4, .long o)] [] hh → tq_W l mX11_axis d 0 0 Q 6 [(0, .ref i0), (1, .int i1), (2, .int i2), (3, .int i3), (4, .long y4), (6, .int y6)] [] hh := by
  intro n
  induction n with
  | zero => intro y4 y6 o hl; cases hl
  | succ n ih =>
    intro y4 y6 o hl hk
    obtain ⟨oo, hf, ho⟩ := tq_loop_s hl
    refine tq_iload (M := mX11_axis) (pc := 6) dX11_axis_6 rfl ?_
    refine tq_aload_n (M := mX11_axis) (pc := 8) dX11_axis_8 rfl ?_
    obtain ⟨x1, ex1, hf⟩ := tq_be hf
    refine tq_getI (M := mX11_axis) (pc := 9) tk_c11 (by decide) dX11_axis_9 tk_RX11_173 rfl ex1 ?_
    refine tq_icmp_ge (M := mX11_axis) (pc := 12) (tgt := 504) dX11_axis_12 (by decide) (fun cc => ?_) (fun cc => ?_)
    · have hf := tq_ifp hf cc
      refine tq_pick (L2 := [(0, .ref i0), (1, .int i1), (2, .int i2), (3, .int i3), (4, .long y4)]) [0, 1, 2, 3, 4] rfl ?_
      cases (Option.some.inj hf)
      cases (tq_lx ho)
      exact hk
    · have hf := tq_ifn hf cc
      refine tq_aload_n (M := mX11_axis) (pc := 15) dX11_axis_15 rfl ?_
      obtain ⟨k2, ek2, hf⟩ := tq_be hf
      refine tq_getR (M := mX11_axis) (pc := 16) tk_c11 (by decide) dX11_axis_16 tk_RX11_35 rfl ek2 ?_
      refine tq_iload (M := mX11_axis) (pc := 19) dX11_axis_19 rfl ?_
      obtain ⟨x3, ex3, hf⟩ := tq_be hf
      refine tq_ialdF (M := mX11_axis) (pc := 21) dX11_axis_21 ex3 ?_
      refine tq_istore (M := mX11_axis) (pc := 22) dX11_axis_22 (L2 := [(7, .int x3), (0, .ref i0), (1, .int i1), (2, .int i2), (3, .int i3), (4, .long y4), (6, .int y6)]) (by decide) rfl ?_
      refine tq_aload_n (M := mX11_axis) (pc := 24) dX11_axis_24 rfl ?_
      obtain ⟨k4, ek4, hf⟩ := tq_be hf
      refine tq_getR (M := mX11_axis) (pc := 25) tk_c11 (by decide) dX11_axis_25 tk_RX11_7 rfl ek4 ?_
      refine tq_iload (M := mX11_axis) (pc := 28) dX11_axis_28 rfl ?_
      obtain ⟨x5, ex5, hf⟩ := tq_be hf
      refine tq_ialdF (M := mX11_axis) (pc := 30) dX11_axis_30 ex5 ?_
      refine tq_iconst (M := mX11_axis) (pc := 31) dX11_axis_31 tk_ki_2 ?_
      obtain ⟨p6, ep6, hf⟩ := tq_le hf
      have HJ32 : tq_W l mX11_axis d 0 0 Q 40 [(0, .ref i0), (1, .int i1), (2, .int i2), (3, .int i3), (4, .long y4), (6, .int y6), (7, .int x3)] [.int p6] hh := by
        refine tq_istore (M := mX11_axis) (pc := 40) dX11_axis_40 (L2 := [(8, .int p6), (0, .ref i0), (1, .int i1), (2, .int i2), (3, .int i3), (4, .long y4), (6, .int y6), (7, .int x3)]) (by decide) rfl ?_
        refine tq_aload_n (M := mX11_axis) (pc := 42) dX11_axis_42 rfl ?_
        refine tq_iload (M := mX11_axis) (pc := 43) dX11_axis_43 rfl ?_
        refine tq_iload_n (M := mX11_axis) (pc := 45) dX11_axis_45 rfl ?_
        obtain ⟨⟨⟩, eu8, hf⟩ := tq_be hf
        obtain ⟨fsu8, eu8⟩ := tq_is_s eu8
        obtain ⟨v7, ev7, hf⟩ := tq_be hf
        refine tq_calV (M := mX11_axis) (pc := 46) (S := []) tk_y_X11_isBelow tk_v_X11_isBelow tk_RX11_187 dX11_axis_46 [.int x3, .int i3] rfl (S0 := _) rfl eu8 rfl (Nat.le_of_ble_eq_true rfl) (d1 := d - 1) (b1 := 0) (s1 := 0) (bc' := 0) (bs' := 0) (Q1 := fun r h9 => r = .inl (some (.int v7)) ∧ hh = h9) (by omega) rfl rfl (w_X11_isBelow (by omega) ev7 (fun _ _ q => q)) (fun E h9 q => nomatch (show (Sum.inr E : tq_R) = Sum.inl _ from q.1)) (fun r9 h9 q => ?_)
        obtain ⟨q1, rfl⟩ := q
        cases (show (Sum.inl r9 : tq_R) = Sum.inl (some (.int v7)) from q1)
        refine tq_istore (M := mX11_axis) (pc := 49) dX11_axis_49 (L2 := [(9, .int v7), (8, .int p6), (0, .ref i0), (1, .int i1), (2, .int i2), (3, .int i3), (4, .long y4), (6, .int y6), (7, .int x3)]) (by decide) rfl ?_
        refine tq_aload_n (M := mX11_axis) (pc := 51) dX11_axis_51 rfl ?_
        refine tq_iload_n (M := mX11_axis) (pc := 52) dX11_axis_52 rfl ?_
        refine tq_iload (M := mX11_axis) (pc := 53) dX11_axis_53 rfl ?_
        obtain ⟨⟨⟩, eu10, hf⟩ := tq_be hf
        obtain ⟨fsu10, eu10⟩ := tq_is_s eu10
        obtain ⟨v9, ev9, hf⟩ := tq_be hf
        refine tq_calV (M := mX11_axis) (pc := 55) (S := []) tk_y_X11_isBelow tk_v_X11_isBelow tk_RX11_187 dX11_axis_55 [.int i3, .int x3] rfl (S0 := _) rfl eu10 rfl (Nat.le_of_ble_eq_true rfl) (d1 := d - 1) (b1 := 0) (s1 := 0) (bc' := 0) (bs' := 0) (Q1 := fun r h9 => r = .inl (some (.int v9)) ∧ hh = h9) (by omega) rfl rfl (w_X11_isBelow (by omega) ev9 (fun _ _ q => q)) (fun E h9 q => nomatch (show (Sum.inr E : tq_R) = Sum.inl _ from q.1)) (fun r9 h9 q => ?_)
        obtain ⟨q1, rfl⟩ := q
        cases (show (Sum.inl r9 : tq_R) = Sum.inl (some (.int v9)) from q1)
        refine tq_istore (M := mX11_axis) (pc := 58) dX11_axis_58 (L2 := [(10, .int v9), (9, .int v7), (8, .int p6), (0, .ref i0), (1, .int i1), (2, .int i2), (3, .int i3), (4, .long y4), (6, .int y6), (7, .int x3)]) (by decide) rfl ?_
        refine tq_iload (M := mX11_axis) (pc := 60) dX11_axis_60 rfl ?_
        obtain ⟨p19, ep19, hf⟩ := tq_be hf
        have HJ62 : tq_W l mX11_axis d 0 0 Q 113 [(0, .ref i0), (1, .int i1), (2, .int i2), (3, .int i3), (4, .long y4), (6, .int y6), (7, .int x3), (8, .int p6), (9, .int v7), (10, .int v9)] [.int p19] hh := by
          refine tq_istore (M := mX11_axis) (pc := 113) dX11_axis_113 (L2 := [(11, .int p19), (0, .ref i0), (1, .int i1), (2, .int i2), (3, .int i3), (4, .long y4), (6, .int y6), (7, .int x3), (8, .int p6), (9, .int v7), (10, .int v9)]) (by decide) rfl ?_
          refine tq_iconst (M := mX11_axis) (pc := 115) dX11_axis_115 tk_ki_0 ?_
          refine tq_istore (M := mX11_axis) (pc := 116) dX11_axis_116 (L2 := [(12, .int (0 : Int32)), (11, .int p19), (0, .ref i0), (1, .int i1), (2, .int i2), (3, .int i3), (4, .long y4), (6, .int y6), (7, .int x3), (8, .int p6), (9, .int v7), (10, .int v9)]) (by decide) rfl ?_
          refine tq_iload_n (M := mX11_axis) (pc := 118) dX11_axis_118 rfl ?_
          obtain ⟨p53, ep53, hf⟩ := tq_be hf
          have HJ119 : tq_W l mX11_axis d 0 0 Q 480 [(0, .ref i0), (1, .int i1), (2, .int i2), (3, .int i3), (4, .long y4), (6, .int y6), (7, .int x3), (12, .int p53)] [] hh := by
            refine tq_lload (M := mX11_axis) (pc := 480) dX11_axis_480 rfl ?_
            refine tq_iload (M := mX11_axis) (pc := 482) dX11_axis_482 rfl ?_
            obtain ⟨p54, ep54, hf⟩ := tq_le hf
            have HJ484 : tq_W l mX11_axis d 0 0 Q 495 [(0, .ref i0), (1, .int i1), (2, .int i2), (3, .int i3), (6, .int y6)] [.long p54, .long y4] hh := by
              refine tq_lor (M := mX11_axis) (pc := 495) dX11_axis_495 ?_
              obtain ⟨x55, ex55, hf⟩ := tq_le hf
              refine tq_lstore (M := mX11_axis) (pc := 496) dX11_axis_496 (L2 := [(4, .long x55), (0, .ref i0), (1, .int i1), (2, .int i2), (3, .int i3), (6, .int y6)]) (by decide) (by rw [ex55]; rfl) ?_
              obtain ⟨x56, ex56, hf⟩ := tq_le hf
              refine tq_iinc (M := mX11_axis) (pc := 498) (v := x56) (L2 := [(6, .int x56), (4, .long x55), (0, .ref i0), (1, .int i1), (2, .int i2), (3, .int i3)]) dX11_axis_498 rfl (by rw [ex56, tk_ki_1]) (by decide) rfl ?_
              refine tq_goto (M := mX11_axis) (pc := 501) (tgt := 6) dX11_axis_501 (by decide) ?_
              refine tq_pick (L2 := [(0, .ref i0), (1, .int i1), (2, .int i2), (3, .int i3), (4, .long x55), (6, .int x56)]) [2, 3, 4, 5, 1, 0] rfl ?_
              cases (Option.some.inj hf)
              exact ih _ _ o (tq_lc ho) hk
            refine tq_if_eq (M := mX11_axis) (pc := 484) (tgt := 494) dX11_axis_484 (by decide) (fun cc => ?_) (fun cc => ?_)
            · have hf := tq_ifp ep54.symm cc
              refine tq_lconst (M := mX11_axis) (pc := 494) dX11_axis_494 tk_kl_0 ?_
              refine tq_pick (L2 := [(0, .ref i0), (1, .int i1), (2, .int i2), (3, .int i3), (6, .int y6)]) [0, 1, 2, 3, 5] rfl ?_
              cases hf
              exact HJ484
            · have hf := tq_ifn ep54.symm cc
              refine tq_lconst (M := mX11_axis) (pc := 487) dX11_axis_487 tk_kl_1 ?_
              refine tq_iload (M := mX11_axis) (pc := 488) dX11_axis_488 rfl ?_
              refine tq_lshl (M := mX11_axis) (pc := 490) dX11_axis_490 ?_
              refine tq_goto (M := mX11_axis) (pc := 491) (tgt := 495) dX11_axis_491 (by decide) ?_
              refine tq_pick (L2 := [(0, .ref i0), (1, .int i1), (2, .int i2), (3, .int i3), (6, .int y6)]) [0, 1, 2, 3, 5] rfl ?_
              cases hf
              exact HJ484
          have hf := ep53
          by_cases c0 : i1 = (0 : Int32)
          · have hf := tq_ifp hf c0
            refine tq_tabX (M := mX11_axis) (pc := 119) (tgt := 180) (0 : Int32) c0 dX11_axis_119 (by decide +kernel) (by decide +kernel) (off := 61) (by decide +kernel) (by decide) ?_
            refine tq_iload (M := mX11_axis) (pc := 180) dX11_axis_180 rfl ?_
            refine tq_iload_n (M := mX11_axis) (pc := 182) dX11_axis_182 rfl ?_
            obtain ⟨p20, ep20, hf⟩ := tq_le hf
            have HJ183 : tq_W l mX11_axis d 0 0 Q 191 [(0, .ref i0), (1, .int i1), (2, .int i2), (3, .int i3), (4, .long y4), (6, .int y6), (7, .int x3)] [.int p20] hh := by
              refine tq_istore (M := mX11_axis) (pc := 191) dX11_axis_191 (L2 := [(12, .int p20), (0, .ref i0), (1, .int i1), (2, .int i2), (3, .int i3), (4, .long y4), (6, .int y6), (7, .int x3)]) (by decide) rfl ?_
              refine tq_goto (M := mX11_axis) (pc := 193) (tgt := 480) dX11_axis_193 (by decide) ?_
              refine tq_pick (L2 := [(0, .ref i0), (1, .int i1), (2, .int i2), (3, .int i3), (4, .long y4), (6, .int y6), (7, .int x3), (12, .int p20)]) [1, 2, 3, 4, 5, 6, 7, 0] rfl ?_
              cases (Option.some.inj hf)
              exact HJ119
            refine tq_icmp_ne (M := mX11_axis) (pc := 183) (tgt := 190) dX11_axis_183 (by decide) (fun cc => ?_) (fun cc => ?_)
            · have hf := tq_ifn ep20.symm cc
              refine tq_iconst (M := mX11_axis) (pc := 190) dX11_axis_190 tk_ki_0 ?_
              refine tq_pick (L2 := [(0, .ref i0), (1, .int i1), (2, .int i2), (3, .int i3), (4, .long y4), (6, .int y6), (7, .int x3)]) [2, 3, 4, 5, 6, 7, 8] rfl ?_
              cases hf
              exact HJ183
            · have hf := tq_ifp ep20.symm cc
              refine tq_iconst (M := mX11_axis) (pc := 186) dX11_axis_186 tk_ki_1 ?_
              refine tq_goto (M := mX11_axis) (pc := 187) (tgt := 191) dX11_axis_187 (by decide) ?_
              refine tq_pick (L2 := [(0, .ref i0), (1, .int i1), (2, .int i2), (3, .int i3), (4, .long y4), (6, .int y6), (7, .int x3)]) [2, 3, 4, 5, 6, 7, 8] rfl ?_
              cases hf
              exact HJ183
          have hf := tq_ifn hf c0
          by_cases c1 : i1 = (1 : Int32)
          · have hf := tq_ifp hf c1
            refine tq_tabX (M := mX11_axis) (pc := 119) (tgt := 196) (1 : Int32) c1 dX11_axis_119 (by decide +kernel) (by decide +kernel) (off := 77) (by decide +kernel) (by decide) ?_
            refine tq_iload (M := mX11_axis) (pc := 196) dX11_axis_196 rfl ?_
            obtain ⟨p23, ep23, hf⟩ := tq_be hf
            have HJ198 : tq_W l mX11_axis d 0 0 Q 217 [(0, .ref i0), (1, .int i1), (2, .int i2), (3, .int i3), (4, .long y4), (6, .int y6), (7, .int x3)] [.int p23] hh := by
              refine tq_istore (M := mX11_axis) (pc := 217) dX11_axis_217 (L2 := [(12, .int p23), (0, .ref i0), (1, .int i1), (2, .int i2), (3, .int i3), (4, .long y4), (6, .int y6), (7, .int x3)]) (by decide) rfl ?_
              refine tq_goto (M := mX11_axis) (pc := 219) (tgt := 480) dX11_axis_219 (by decide) ?_
              refine tq_pick (L2 := [(0, .ref i0), (1, .int i1), (2, .int i2), (3, .int i3), (4, .long y4), (6, .int y6), (7, .int x3), (12, .int p23)]) [1, 2, 3, 4, 5, 6, 7, 0] rfl ?_
              cases (Option.some.inj hf)
              exact HJ119
            refine tq_if_eq (M := mX11_axis) (pc := 198) (tgt := 216) dX11_axis_198 (by decide) (fun cc => ?_) (fun cc => ?_)
            · have hf := tq_ifp ep23 cc
              refine tq_iconst (M := mX11_axis) (pc := 216) dX11_axis_216 tk_ki_0 ?_
              refine tq_pick (L2 := [(0, .ref i0), (1, .int i1), (2, .int i2), (3, .int i3), (4, .long y4), (6, .int y6), (7, .int x3)]) [2, 3, 4, 5, 6, 7, 8] rfl ?_
              cases (Option.some.inj hf)
              exact HJ198
            · have hf := tq_ifn ep23 cc
              refine tq_aload_n (M := mX11_axis) (pc := 201) dX11_axis_201 rfl ?_
              obtain ⟨k21, ek21, hf⟩ := tq_be hf
              refine tq_getR (M := mX11_axis) (pc := 202) tk_c11 (by decide) dX11_axis_202 tk_RX11_22 rfl ek21 ?_
              refine tq_iload (M := mX11_axis) (pc := 205) dX11_axis_205 rfl ?_
              obtain ⟨x22, ex22, hf⟩ := tq_be hf
              refine tq_ialdF (M := mX11_axis) (pc := 207) dX11_axis_207 ex22 ?_
              refine tq_iload_n (M := mX11_axis) (pc := 208) dX11_axis_208 rfl ?_
              refine tq_icmp_ne (M := mX11_axis) (pc := 209) (tgt := 216) dX11_axis_209 (by decide) (fun cc => ?_) (fun cc => ?_)
              · have hf := tq_ifn hf cc
                refine tq_iconst (M := mX11_axis) (pc := 216) dX11_axis_216 tk_ki_0 ?_
                refine tq_pick (L2 := [(0, .ref i0), (1, .int i1), (2, .int i2), (3, .int i3), (4, .long y4), (6, .int y6), (7, .int x3)]) [2, 3, 4, 5, 6, 7, 8] rfl ?_
                cases (Option.some.inj hf)
                exact HJ198
              · have hf := tq_ifp hf cc
                refine tq_iconst (M := mX11_axis) (pc := 212) dX11_axis_212 tk_ki_1 ?_
                refine tq_goto (M := mX11_axis) (pc := 213) (tgt := 217) dX11_axis_213 (by decide) ?_
                refine tq_pick (L2 := [(0, .ref i0), (1, .int i1), (2, .int i2), (3, .int i3), (4, .long y4), (6, .int y6), (7, .int x3)]) [2, 3, 4, 5, 6, 7, 8] rfl ?_
                cases (Option.some.inj hf)
                exact HJ198
          have hf := tq_ifn hf c1
          by_cases c2 : i1 = (2 : Int32)
          · have hf := tq_ifp hf c2
            refine tq_tabX (M := mX11_axis) (pc := 119) (tgt := 222) (2 : Int32) c2 dX11_axis_119 (by decide +kernel) (by decide +kernel) (off := 103) (by decide +kernel) (by decide) ?_
            refine tq_aload_n (M := mX11_axis) (pc := 222) dX11_axis_222 rfl ?_
            obtain ⟨k24, ek24, hf⟩ := tq_be hf
            refine tq_getR (M := mX11_axis) (pc := 223) tk_c11 (by decide) dX11_axis_223 tk_RX11_22 rfl ek24 ?_
            refine tq_iload_n (M := mX11_axis) (pc := 226) dX11_axis_226 rfl ?_
            obtain ⟨x25, ex25, hf⟩ := tq_be hf
            refine tq_ialdF (M := mX11_axis) (pc := 227) dX11_axis_227 ex25 ?_
            refine tq_iload (M := mX11_axis) (pc := 228) dX11_axis_228 rfl ?_
            obtain ⟨p26, ep26, hf⟩ := tq_le hf
            have HJ230 : tq_W l mX11_axis d 0 0 Q 238 [(0, .ref i0), (1, .int i1), (2, .int i2), (3, .int i3), (4, .long y4), (6, .int y6), (7, .int x3)] [.int p26] hh := by
              refine tq_istore (M := mX11_axis) (pc := 238) dX11_axis_238 (L2 := [(12, .int p26), (0, .ref i0), (1, .int i1), (2, .int i2), (3, .int i3), (4, .long y4), (6, .int y6), (7, .int x3)]) (by decide) rfl ?_
              refine tq_goto (M := mX11_axis) (pc := 240) (tgt := 480) dX11_axis_240 (by decide) ?_
              refine tq_pick (L2 := [(0, .ref i0), (1, .int i1), (2, .int i2), (3, .int i3), (4, .long y4), (6, .int y6), (7, .int x3), (12, .int p26)]) [1, 2, 3, 4, 5, 6, 7, 0] rfl ?_
              cases (Option.some.inj hf)
              exact HJ119
            refine tq_icmp_ne (M := mX11_axis) (pc := 230) (tgt := 237) dX11_axis_230 (by decide) (fun cc => ?_) (fun cc => ?_)
            · have hf := tq_ifn ep26.symm cc
              refine tq_iconst (M := mX11_axis) (pc := 237) dX11_axis_237 tk_ki_0 ?_
              refine tq_pick (L2 := [(0, .ref i0), (1, .int i1), (2, .int i2), (3, .int i3), (4, .long y4), (6, .int y6), (7, .int x3)]) [2, 3, 4, 5, 6, 7, 8] rfl ?_
              cases hf
              exact HJ230
            · have hf := tq_ifp ep26.symm cc
              refine tq_iconst (M := mX11_axis) (pc := 233) dX11_axis_233 tk_ki_1 ?_
              refine tq_goto (M := mX11_axis) (pc := 234) (tgt := 238) dX11_axis_234 (by decide) ?_
              refine tq_pick (L2 := [(0, .ref i0), (1, .int i1), (2, .int i2), (3, .int i3), (4, .long y4), (6, .int y6), (7, .int x3)]) [2, 3, 4, 5, 6, 7, 8] rfl ?_
              cases hf
              exact HJ230
          have hf := tq_ifn hf c2
          by_cases c3 : i1 = (3 : Int32)
          · have hf := tq_ifp hf c3
            refine tq_tabX (M := mX11_axis) (pc := 119) (tgt := 243) (3 : Int32) c3 dX11_axis_119 (by decide +kernel) (by decide +kernel) (off := 124) (by decide +kernel) (by decide) ?_
            refine tq_iload (M := mX11_axis) (pc := 243) dX11_axis_243 rfl ?_
            obtain ⟨p27, ep27, hf⟩ := tq_le hf
            have HJ245 : tq_W l mX11_axis d 0 0 Q 258 [(0, .ref i0), (1, .int i1), (2, .int i2), (3, .int i3), (4, .long y4), (6, .int y6), (7, .int x3)] [.int p27] hh := by
              refine tq_istore (M := mX11_axis) (pc := 258) dX11_axis_258 (L2 := [(12, .int p27), (0, .ref i0), (1, .int i1), (2, .int i2), (3, .int i3), (4, .long y4), (6, .int y6), (7, .int x3)]) (by decide) rfl ?_
              refine tq_goto (M := mX11_axis) (pc := 260) (tgt := 480) dX11_axis_260 (by decide) ?_
              refine tq_pick (L2 := [(0, .ref i0), (1, .int i1), (2, .int i2), (3, .int i3), (4, .long y4), (6, .int y6), (7, .int x3), (12, .int p27)]) [1, 2, 3, 4, 5, 6, 7, 0] rfl ?_
              cases (Option.some.inj hf)
              exact HJ119
            refine tq_if_eq (M := mX11_axis) (pc := 245) (tgt := 257) dX11_axis_245 (by decide) (fun cc => ?_) (fun cc => ?_)
            · have hf := tq_ifp ep27.symm cc
              refine tq_iconst (M := mX11_axis) (pc := 257) dX11_axis_257 tk_ki_0 ?_
              refine tq_pick (L2 := [(0, .ref i0), (1, .int i1), (2, .int i2), (3, .int i3), (4, .long y4), (6, .int y6), (7, .int x3)]) [2, 3, 4, 5, 6, 7, 8] rfl ?_
              cases hf
              exact HJ245
            · have hf := tq_ifn ep27.symm cc
              refine tq_iload (M := mX11_axis) (pc := 248) dX11_axis_248 rfl ?_
              refine tq_if_eq (M := mX11_axis) (pc := 250) (tgt := 257) dX11_axis_250 (by decide) (fun cc => ?_) (fun cc => ?_)
              · have hf := tq_ifp hf cc
                refine tq_iconst (M := mX11_axis) (pc := 257) dX11_axis_257 tk_ki_0 ?_
                refine tq_pick (L2 := [(0, .ref i0), (1, .int i1), (2, .int i2), (3, .int i3), (4, .long y4), (6, .int y6), (7, .int x3)]) [2, 3, 4, 5, 6, 7, 8] rfl ?_
                cases hf
                exact HJ245
              · have hf := tq_ifn hf cc
                refine tq_iconst (M := mX11_axis) (pc := 253) dX11_axis_253 tk_ki_1 ?_
                refine tq_goto (M := mX11_axis) (pc := 254) (tgt := 258) dX11_axis_254 (by decide) ?_
                refine tq_pick (L2 := [(0, .ref i0), (1, .int i1), (2, .int i2), (3, .int i3), (4, .long y4), (6, .int y6), (7, .int x3)]) [2, 3, 4, 5, 6, 7, 8] rfl ?_
                cases hf
                exact HJ245
          have hf := tq_ifn hf c3
          by_cases c4 : i1 = (4 : Int32)
          · have hf := tq_ifp hf c4
            refine tq_tabX (M := mX11_axis) (pc := 119) (tgt := 263) (4 : Int32) c4 dX11_axis_119 (by decide +kernel) (by decide +kernel) (off := 144) (by decide +kernel) (by decide) ?_
            refine tq_iload (M := mX11_axis) (pc := 263) dX11_axis_263 rfl ?_
            obtain ⟨p28, ep28, hf⟩ := tq_le hf
            have HJ265 : tq_W l mX11_axis d 0 0 Q 284 [(0, .ref i0), (1, .int i1), (2, .int i2), (3, .int i3), (4, .long y4), (6, .int y6), (7, .int x3)] [.int p28] hh := by
              refine tq_istore (M := mX11_axis) (pc := 284) dX11_axis_284 (L2 := [(12, .int p28), (0, .ref i0), (1, .int i1), (2, .int i2), (3, .int i3), (4, .long y4), (6, .int y6), (7, .int x3)]) (by decide) rfl ?_
              refine tq_goto (M := mX11_axis) (pc := 286) (tgt := 480) dX11_axis_286 (by decide) ?_
              refine tq_pick (L2 := [(0, .ref i0), (1, .int i1), (2, .int i2), (3, .int i3), (4, .long y4), (6, .int y6), (7, .int x3), (12, .int p28)]) [1, 2, 3, 4, 5, 6, 7, 0] rfl ?_
              cases (Option.some.inj hf)
              exact HJ119
            refine tq_if_eq (M := mX11_axis) (pc := 265) (tgt := 273) dX11_axis_265 (by decide) (fun cc => ?_) (fun cc => ?_)
            · have hf := tq_ifp ep28.symm cc
              refine tq_iload (M := mX11_axis) (pc := 273) dX11_axis_273 rfl ?_
              refine tq_iload_n (M := mX11_axis) (pc := 275) dX11_axis_275 rfl ?_
              refine tq_icmp_ne (M := mX11_axis) (pc := 276) (tgt := 283) dX11_axis_276 (by decide) (fun cc => ?_) (fun cc => ?_)
              · have hf := tq_ifn hf cc
                refine tq_iconst (M := mX11_axis) (pc := 283) dX11_axis_283 tk_ki_0 ?_
                refine tq_pick (L2 := [(0, .ref i0), (1, .int i1), (2, .int i2), (3, .int i3), (4, .long y4), (6, .int y6), (7, .int x3)]) [2, 3, 4, 5, 6, 7, 8] rfl ?_
                cases hf
                exact HJ265
              · have hf := tq_ifp hf cc
                refine tq_iconst (M := mX11_axis) (pc := 279) dX11_axis_279 tk_ki_1 ?_
                refine tq_goto (M := mX11_axis) (pc := 280) (tgt := 284) dX11_axis_280 (by decide) ?_
                refine tq_pick (L2 := [(0, .ref i0), (1, .int i1), (2, .int i2), (3, .int i3), (4, .long y4), (6, .int y6), (7, .int x3)]) [2, 3, 4, 5, 6, 7, 8] rfl ?_
                cases hf
                exact HJ265
            · have hf := tq_ifn ep28.symm cc
              refine tq_iload (M := mX11_axis) (pc := 268) dX11_axis_268 rfl ?_
              refine tq_if_ne (M := mX11_axis) (pc := 270) (tgt := 279) dX11_axis_270 (by decide) (fun cc => ?_) (fun cc => ?_)
              · have hf := tq_ifn hf cc
                refine tq_iconst (M := mX11_axis) (pc := 279) dX11_axis_279 tk_ki_1 ?_
                refine tq_goto (M := mX11_axis) (pc := 280) (tgt := 284) dX11_axis_280 (by decide) ?_
                refine tq_pick (L2 := [(0, .ref i0), (1, .int i1), (2, .int i2), (3, .int i3), (4, .long y4), (6, .int y6), (7, .int x3)]) [2, 3, 4, 5, 6, 7, 8] rfl ?_
                cases hf
                exact HJ265
              · have hf := tq_ifp hf cc
                refine tq_iload (M := mX11_axis) (pc := 273) dX11_axis_273 rfl ?_
                refine tq_iload_n (M := mX11_axis) (pc := 275) dX11_axis_275 rfl ?_
                refine tq_icmp_ne (M := mX11_axis) (pc := 276) (tgt := 283) dX11_axis_276 (by decide) (fun cc => ?_) (fun cc => ?_)
                · have hf := tq_ifn hf cc
                  refine tq_iconst (M := mX11_axis) (pc := 283) dX11_axis_283 tk_ki_0 ?_
                  refine tq_pick (L2 := [(0, .ref i0), (1, .int i1), (2, .int i2), (3, .int i3), (4, .long y4), (6, .int y6), (7, .int x3)]) [2, 3, 4, 5, 6, 7, 8] rfl ?_
                  cases hf
                  exact HJ265
                · have hf := tq_ifp hf cc
                  refine tq_iconst (M := mX11_axis) (pc := 279) dX11_axis_279 tk_ki_1 ?_
                  refine tq_goto (M := mX11_axis) (pc := 280) (tgt := 284) dX11_axis_280 (by decide) ?_
                  refine tq_pick (L2 := [(0, .ref i0), (1, .int i1), (2, .int i2), (3, .int i3), (4, .long y4), (6, .int y6), (7, .int x3)]) [2, 3, 4, 5, 6, 7, 8] rfl ?_
                  cases hf
                  exact HJ265
          have hf := tq_ifn hf c4
          by_cases c5 : i1 = (5 : Int32)
          · have hf := tq_ifp hf c5
            refine tq_tabX (M := mX11_axis) (pc := 119) (tgt := 289) (5 : Int32) c5 dX11_axis_119 (by decide +kernel) (by decide +kernel) (off := 170) (by decide +kernel) (by decide) ?_
            refine tq_iload (M := mX11_axis) (pc := 289) dX11_axis_289 rfl ?_
            refine tq_istore (M := mX11_axis) (pc := 291) dX11_axis_291 (L2 := [(12, .int v9), (11, .int p19), (0, .ref i0), (1, .int i1), (2, .int i2), (3, .int i3), (4, .long y4), (6, .int y6), (7, .int x3), (8, .int p6), (9, .int v7), (10, .int v9)]) (by decide) rfl ?_
            refine tq_goto (M := mX11_axis) (pc := 293) (tgt := 480) dX11_axis_293 (by decide) ?_
            refine tq_pick (L2 := [(0, .ref i0), (1, .int i1), (2, .int i2), (3, .int i3), (4, .long y4), (6, .int y6), (7, .int x3), (12, .int v9)]) [2, 3, 4, 5, 6, 7, 8, 0] rfl ?_
            cases (Option.some.inj hf)
            exact HJ119
          have hf := tq_ifn hf c5
          by_cases c6 : i1 = (6 : Int32)
          · have hf := tq_ifp hf c6
            refine tq_tabX (M := mX11_axis) (pc := 119) (tgt := 296) (6 : Int32) c6 dX11_axis_119 (by decide +kernel) (by decide +kernel) (off := 177) (by decide +kernel) (by decide) ?_
            refine tq_iload (M := mX11_axis) (pc := 296) dX11_axis_296 rfl ?_
            obtain ⟨p29, ep29, hf⟩ := tq_le hf
            have HJ298 : tq_W l mX11_axis d 0 0 Q 312 [(0, .ref i0), (1, .int i1), (2, .int i2), (3, .int i3), (4, .long y4), (6, .int y6), (7, .int x3)] [.int p29] hh := by
              refine tq_istore (M := mX11_axis) (pc := 312) dX11_axis_312 (L2 := [(12, .int p29), (0, .ref i0), (1, .int i1), (2, .int i2), (3, .int i3), (4, .long y4), (6, .int y6), (7, .int x3)]) (by decide) rfl ?_
              refine tq_goto (M := mX11_axis) (pc := 314) (tgt := 480) dX11_axis_314 (by decide) ?_
              refine tq_pick (L2 := [(0, .ref i0), (1, .int i1), (2, .int i2), (3, .int i3), (4, .long y4), (6, .int y6), (7, .int x3), (12, .int p29)]) [1, 2, 3, 4, 5, 6, 7, 0] rfl ?_
              cases (Option.some.inj hf)
              exact HJ119
            refine tq_if_ne (M := mX11_axis) (pc := 298) (tgt := 307) dX11_axis_298 (by decide) (fun cc => ?_) (fun cc => ?_)
            · have hf := tq_ifn ep29.symm cc
              refine tq_iconst (M := mX11_axis) (pc := 307) dX11_axis_307 tk_ki_1 ?_
              refine tq_goto (M := mX11_axis) (pc := 308) (tgt := 312) dX11_axis_308 (by decide) ?_
              refine tq_pick (L2 := [(0, .ref i0), (1, .int i1), (2, .int i2), (3, .int i3), (4, .long y4), (6, .int y6), (7, .int x3)]) [2, 3, 4, 5, 6, 7, 8] rfl ?_
              cases hf
              exact HJ298
            · have hf := tq_ifp ep29.symm cc
              refine tq_iload (M := mX11_axis) (pc := 301) dX11_axis_301 rfl ?_
              refine tq_iload_n (M := mX11_axis) (pc := 303) dX11_axis_303 rfl ?_
              refine tq_icmp_ne (M := mX11_axis) (pc := 304) (tgt := 311) dX11_axis_304 (by decide) (fun cc => ?_) (fun cc => ?_)
              · have hf := tq_ifn hf cc
                refine tq_iconst (M := mX11_axis) (pc := 311) dX11_axis_311 tk_ki_0 ?_
                refine tq_pick (L2 := [(0, .ref i0), (1, .int i1), (2, .int i2), (3, .int i3), (4, .long y4), (6, .int y6), (7, .int x3)]) [2, 3, 4, 5, 6, 7, 8] rfl ?_
                cases hf
                exact HJ298
              · have hf := tq_ifp hf cc
                refine tq_iconst (M := mX11_axis) (pc := 307) dX11_axis_307 tk_ki_1 ?_
                refine tq_goto (M := mX11_axis) (pc := 308) (tgt := 312) dX11_axis_308 (by decide) ?_
                refine tq_pick (L2 := [(0, .ref i0), (1, .int i1), (2, .int i2), (3, .int i3), (4, .long y4), (6, .int y6), (7, .int x3)]) [2, 3, 4, 5, 6, 7, 8] rfl ?_
                cases hf
                exact HJ298
          have hf := tq_ifn hf c6
          by_cases c7 : i1 = (7 : Int32)
          · have hf := tq_ifp hf c7
            refine tq_tabX (M := mX11_axis) (pc := 119) (tgt := 317) (7 : Int32) c7 dX11_axis_119 (by decide +kernel) (by decide +kernel) (off := 198) (by decide +kernel) (by decide) ?_
            refine tq_iload (M := mX11_axis) (pc := 317) dX11_axis_317 rfl ?_
            obtain ⟨p34, ep34, hf⟩ := tq_be hf
            have HJ319 : tq_W l mX11_axis d 0 0 Q 348 [(0, .ref i0), (1, .int i1), (2, .int i2), (3, .int i3), (4, .long y4), (6, .int y6), (7, .int x3)] [.int p34] hh := by
              refine tq_istore (M := mX11_axis) (pc := 348) dX11_axis_348 (L2 := [(12, .int p34), (0, .ref i0), (1, .int i1), (2, .int i2), (3, .int i3), (4, .long y4), (6, .int y6), (7, .int x3)]) (by decide) rfl ?_
              refine tq_goto (M := mX11_axis) (pc := 350) (tgt := 480) dX11_axis_350 (by decide) ?_
              refine tq_pick (L2 := [(0, .ref i0), (1, .int i1), (2, .int i2), (3, .int i3), (4, .long y4), (6, .int y6), (7, .int x3), (12, .int p34)]) [1, 2, 3, 4, 5, 6, 7, 0] rfl ?_
              cases (Option.some.inj hf)
              exact HJ119
            refine tq_if_eq (M := mX11_axis) (pc := 319) (tgt := 347) dX11_axis_319 (by decide) (fun cc => ?_) (fun cc => ?_)
            · have hf := tq_ifp ep34 cc
              refine tq_iconst (M := mX11_axis) (pc := 347) dX11_axis_347 tk_ki_0 ?_
              refine tq_pick (L2 := [(0, .ref i0), (1, .int i1), (2, .int i2), (3, .int i3), (4, .long y4), (6, .int y6), (7, .int x3)]) [2, 3, 4, 5, 6, 7, 8] rfl ?_
              cases (Option.some.inj hf)
              exact HJ319
            · have hf := tq_ifn ep34 cc
              refine tq_aload_n (M := mX11_axis) (pc := 322) dX11_axis_322 rfl ?_
              obtain ⟨k30, ek30, hf⟩ := tq_be hf
              refine tq_getR (M := mX11_axis) (pc := 323) tk_c11 (by decide) dX11_axis_323 tk_RX11_38 rfl ek30 ?_
              refine tq_iload (M := mX11_axis) (pc := 326) dX11_axis_326 rfl ?_
              obtain ⟨x31, ex31, hf⟩ := tq_be hf
              refine tq_ialdF (M := mX11_axis) (pc := 328) dX11_axis_328 ex31 ?_
              refine tq_aload_n (M := mX11_axis) (pc := 329) dX11_axis_329 rfl ?_
              obtain ⟨k32, ek32, hf⟩ := tq_be hf
              refine tq_getR (M := mX11_axis) (pc := 330) tk_c11 (by decide) dX11_axis_330 tk_RX11_38 rfl ek32 ?_
              refine tq_iload_n (M := mX11_axis) (pc := 333) dX11_axis_333 rfl ?_
              obtain ⟨x33, ex33, hf⟩ := tq_be hf
              refine tq_ialdF (M := mX11_axis) (pc := 334) dX11_axis_334 ex33 ?_
              refine tq_icmp_le (M := mX11_axis) (pc := 335) (tgt := 347) dX11_axis_335 (by decide) (fun cc => ?_) (fun cc => ?_)
              · have hf := tq_ifp hf cc
                refine tq_iconst (M := mX11_axis) (pc := 347) dX11_axis_347 tk_ki_0 ?_
                refine tq_pick (L2 := [(0, .ref i0), (1, .int i1), (2, .int i2), (3, .int i3), (4, .long y4), (6, .int y6), (7, .int x3)]) [2, 3, 4, 5, 6, 7, 8] rfl ?_
                cases (Option.some.inj hf)
                exact HJ319
              · have hf := tq_ifn hf cc
                refine tq_iload (M := mX11_axis) (pc := 338) dX11_axis_338 rfl ?_
                refine tq_if_ne (M := mX11_axis) (pc := 340) (tgt := 347) dX11_axis_340 (by decide) (fun cc => ?_) (fun cc => ?_)
                · have hf := tq_ifn hf cc
                  refine tq_iconst (M := mX11_axis) (pc := 347) dX11_axis_347 tk_ki_0 ?_
                  refine tq_pick (L2 := [(0, .ref i0), (1, .int i1), (2, .int i2), (3, .int i3), (4, .long y4), (6, .int y6), (7, .int x3)]) [2, 3, 4, 5, 6, 7, 8] rfl ?_
                  cases (Option.some.inj hf)
                  exact HJ319
                · have hf := tq_ifp hf cc
                  refine tq_iconst (M := mX11_axis) (pc := 343) dX11_axis_343 tk_ki_1 ?_
                  refine tq_goto (M := mX11_axis) (pc := 344) (tgt := 348) dX11_axis_344 (by decide) ?_
                  refine tq_pick (L2 := [(0, .ref i0), (1, .int i1), (2, .int i2), (3, .int i3), (4, .long y4), (6, .int y6), (7, .int x3)]) [2, 3, 4, 5, 6, 7, 8] rfl ?_
                  cases (Option.some.inj hf)
                  exact HJ319
          have hf := tq_ifn hf c7
          by_cases c8 : i1 = (8 : Int32)
          · have hf := tq_ifp hf c8
            refine tq_tabX (M := mX11_axis) (pc := 119) (tgt := 353) (8 : Int32) c8 dX11_axis_119 (by decide +kernel) (by decide +kernel) (off := 234) (by decide +kernel) (by decide) ?_
            refine tq_iload (M := mX11_axis) (pc := 353) dX11_axis_353 rfl ?_
            obtain ⟨p39, ep39, hf⟩ := tq_be hf
            have HJ355 : tq_W l mX11_axis d 0 0 Q 384 [(0, .ref i0), (1, .int i1), (2, .int i2), (3, .int i3), (4, .long y4), (6, .int y6), (7, .int x3)] [.int p39] hh := by
              refine tq_istore (M := mX11_axis) (pc := 384) dX11_axis_384 (L2 := [(12, .int p39), (0, .ref i0), (1, .int i1), (2, .int i2), (3, .int i3), (4, .long y4), (6, .int y6), (7, .int x3)]) (by decide) rfl ?_
              refine tq_goto (M := mX11_axis) (pc := 386) (tgt := 480) dX11_axis_386 (by decide) ?_
              refine tq_pick (L2 := [(0, .ref i0), (1, .int i1), (2, .int i2), (3, .int i3), (4, .long y4), (6, .int y6), (7, .int x3), (12, .int p39)]) [1, 2, 3, 4, 5, 6, 7, 0] rfl ?_
              cases (Option.some.inj hf)
              exact HJ119
            refine tq_if_eq (M := mX11_axis) (pc := 355) (tgt := 383) dX11_axis_355 (by decide) (fun cc => ?_) (fun cc => ?_)
            · have hf := tq_ifp ep39 cc
              refine tq_iconst (M := mX11_axis) (pc := 383) dX11_axis_383 tk_ki_0 ?_
              refine tq_pick (L2 := [(0, .ref i0), (1, .int i1), (2, .int i2), (3, .int i3), (4, .long y4), (6, .int y6), (7, .int x3)]) [2, 3, 4, 5, 6, 7, 8] rfl ?_
              cases (Option.some.inj hf)
              exact HJ355
            · have hf := tq_ifn ep39 cc
              refine tq_aload_n (M := mX11_axis) (pc := 358) dX11_axis_358 rfl ?_
              obtain ⟨k35, ek35, hf⟩ := tq_be hf
              refine tq_getR (M := mX11_axis) (pc := 359) tk_c11 (by decide) dX11_axis_359 tk_RX11_38 rfl ek35 ?_
              refine tq_iload (M := mX11_axis) (pc := 362) dX11_axis_362 rfl ?_
              obtain ⟨x36, ex36, hf⟩ := tq_be hf
              refine tq_ialdF (M := mX11_axis) (pc := 364) dX11_axis_364 ex36 ?_
              refine tq_aload_n (M := mX11_axis) (pc := 365) dX11_axis_365 rfl ?_
              obtain ⟨k37, ek37, hf⟩ := tq_be hf
              refine tq_getR (M := mX11_axis) (pc := 366) tk_c11 (by decide) dX11_axis_366 tk_RX11_38 rfl ek37 ?_
              refine tq_iload_n (M := mX11_axis) (pc := 369) dX11_axis_369 rfl ?_
              obtain ⟨x38, ex38, hf⟩ := tq_be hf
              refine tq_ialdF (M := mX11_axis) (pc := 370) dX11_axis_370 ex38 ?_
              refine tq_icmp_ge (M := mX11_axis) (pc := 371) (tgt := 383) dX11_axis_371 (by decide) (fun cc => ?_) (fun cc => ?_)
              · have hf := tq_ifp hf cc
                refine tq_iconst (M := mX11_axis) (pc := 383) dX11_axis_383 tk_ki_0 ?_
                refine tq_pick (L2 := [(0, .ref i0), (1, .int i1), (2, .int i2), (3, .int i3), (4, .long y4), (6, .int y6), (7, .int x3)]) [2, 3, 4, 5, 6, 7, 8] rfl ?_
                cases (Option.some.inj hf)
                exact HJ355
              · have hf := tq_ifn hf cc
                refine tq_iload (M := mX11_axis) (pc := 374) dX11_axis_374 rfl ?_
                refine tq_if_ne (M := mX11_axis) (pc := 376) (tgt := 383) dX11_axis_376 (by decide) (fun cc => ?_) (fun cc => ?_)
                · have hf := tq_ifn hf cc
                  refine tq_iconst (M := mX11_axis) (pc := 383) dX11_axis_383 tk_ki_0 ?_
                  refine tq_pick (L2 := [(0, .ref i0), (1, .int i1), (2, .int i2), (3, .int i3), (4, .long y4), (6, .int y6), (7, .int x3)]) [2, 3, 4, 5, 6, 7, 8] rfl ?_
                  cases (Option.some.inj hf)
                  exact HJ355
                · have hf := tq_ifp hf cc
                  refine tq_iconst (M := mX11_axis) (pc := 379) dX11_axis_379 tk_ki_1 ?_
                  refine tq_goto (M := mX11_axis) (pc := 380) (tgt := 384) dX11_axis_380 (by decide) ?_
                  refine tq_pick (L2 := [(0, .ref i0), (1, .int i1), (2, .int i2), (3, .int i3), (4, .long y4), (6, .int y6), (7, .int x3)]) [2, 3, 4, 5, 6, 7, 8] rfl ?_
                  cases (Option.some.inj hf)
                  exact HJ355
          have hf := tq_ifn hf c8
          by_cases c9 : i1 = (9 : Int32)
          · have hf := tq_ifp hf c9
            refine tq_tabX (M := mX11_axis) (pc := 119) (tgt := 389) (9 : Int32) c9 dX11_axis_119 (by decide +kernel) (by decide +kernel) (off := 270) (by decide +kernel) (by decide) ?_
            refine tq_iload (M := mX11_axis) (pc := 389) dX11_axis_389 rfl ?_
            obtain ⟨p44, ep44, hf⟩ := tq_be hf
            have HJ391 : tq_W l mX11_axis d 0 0 Q 415 [(0, .ref i0), (1, .int i1), (2, .int i2), (3, .int i3), (4, .long y4), (6, .int y6), (7, .int x3)] [.int p44] hh := by
              refine tq_istore (M := mX11_axis) (pc := 415) dX11_axis_415 (L2 := [(12, .int p44), (0, .ref i0), (1, .int i1), (2, .int i2), (3, .int i3), (4, .long y4), (6, .int y6), (7, .int x3)]) (by decide) rfl ?_
              refine tq_goto (M := mX11_axis) (pc := 417) (tgt := 480) dX11_axis_417 (by decide) ?_
              refine tq_pick (L2 := [(0, .ref i0), (1, .int i1), (2, .int i2), (3, .int i3), (4, .long y4), (6, .int y6), (7, .int x3), (12, .int p44)]) [1, 2, 3, 4, 5, 6, 7, 0] rfl ?_
              cases (Option.some.inj hf)
              exact HJ119
            refine tq_if_eq (M := mX11_axis) (pc := 391) (tgt := 414) dX11_axis_391 (by decide) (fun cc => ?_) (fun cc => ?_)
            · have hf := tq_ifp ep44 cc
              refine tq_iconst (M := mX11_axis) (pc := 414) dX11_axis_414 tk_ki_0 ?_
              refine tq_pick (L2 := [(0, .ref i0), (1, .int i1), (2, .int i2), (3, .int i3), (4, .long y4), (6, .int y6), (7, .int x3)]) [2, 3, 4, 5, 6, 7, 8] rfl ?_
              cases (Option.some.inj hf)
              exact HJ391
            · have hf := tq_ifn ep44 cc
              refine tq_aload_n (M := mX11_axis) (pc := 394) dX11_axis_394 rfl ?_
              obtain ⟨k40, ek40, hf⟩ := tq_be hf
              refine tq_getR (M := mX11_axis) (pc := 395) tk_c11 (by decide) dX11_axis_395 tk_RX11_25 rfl ek40 ?_
              refine tq_iload (M := mX11_axis) (pc := 398) dX11_axis_398 rfl ?_
              obtain ⟨x41, ex41, hf⟩ := tq_be hf
              refine tq_ialdF (M := mX11_axis) (pc := 400) dX11_axis_400 ex41 ?_
              refine tq_aload_n (M := mX11_axis) (pc := 401) dX11_axis_401 rfl ?_
              obtain ⟨k42, ek42, hf⟩ := tq_be hf
              refine tq_getR (M := mX11_axis) (pc := 402) tk_c11 (by decide) dX11_axis_402 tk_RX11_25 rfl ek42 ?_
              refine tq_iload_n (M := mX11_axis) (pc := 405) dX11_axis_405 rfl ?_
              obtain ⟨x43, ex43, hf⟩ := tq_be hf
              refine tq_ialdF (M := mX11_axis) (pc := 406) dX11_axis_406 ex43 ?_
              refine tq_icmp_le (M := mX11_axis) (pc := 407) (tgt := 414) dX11_axis_407 (by decide) (fun cc => ?_) (fun cc => ?_)
              · have hf := tq_ifp hf cc
                refine tq_iconst (M := mX11_axis) (pc := 414) dX11_axis_414 tk_ki_0 ?_
                refine tq_pick (L2 := [(0, .ref i0), (1, .int i1), (2, .int i2), (3, .int i3), (4, .long y4), (6, .int y6), (7, .int x3)]) [2, 3, 4, 5, 6, 7, 8] rfl ?_
                cases (Option.some.inj hf)
                exact HJ391
              · have hf := tq_ifn hf cc
                refine tq_iconst (M := mX11_axis) (pc := 410) dX11_axis_410 tk_ki_1 ?_
                refine tq_goto (M := mX11_axis) (pc := 411) (tgt := 415) dX11_axis_411 (by decide) ?_
                refine tq_pick (L2 := [(0, .ref i0), (1, .int i1), (2, .int i2), (3, .int i3), (4, .long y4), (6, .int y6), (7, .int x3)]) [2, 3, 4, 5, 6, 7, 8] rfl ?_
                cases (Option.some.inj hf)
                exact HJ391
          have hf := tq_ifn hf c9
          by_cases c10 : i1 = (10 : Int32)
          · have hf := tq_ifp hf c10
            refine tq_tabX (M := mX11_axis) (pc := 119) (tgt := 420) (10 : Int32) c10 dX11_axis_119 (by decide +kernel) (by decide +kernel) (off := 301) (by decide +kernel) (by decide) ?_
            refine tq_iload (M := mX11_axis) (pc := 420) dX11_axis_420 rfl ?_
            obtain ⟨p49, ep49, hf⟩ := tq_be hf
            have HJ422 : tq_W l mX11_axis d 0 0 Q 446 [(0, .ref i0), (1, .int i1), (2, .int i2), (3, .int i3), (4, .long y4), (6, .int y6), (7, .int x3)] [.int p49] hh := by
              refine tq_istore (M := mX11_axis) (pc := 446) dX11_axis_446 (L2 := [(12, .int p49), (0, .ref i0), (1, .int i1), (2, .int i2), (3, .int i3), (4, .long y4), (6, .int y6), (7, .int x3)]) (by decide) rfl ?_
              refine tq_goto (M := mX11_axis) (pc := 448) (tgt := 480) dX11_axis_448 (by decide) ?_
              refine tq_pick (L2 := [(0, .ref i0), (1, .int i1), (2, .int i2), (3, .int i3), (4, .long y4), (6, .int y6), (7, .int x3), (12, .int p49)]) [1, 2, 3, 4, 5, 6, 7, 0] rfl ?_
              cases (Option.some.inj hf)
              exact HJ119
            refine tq_if_eq (M := mX11_axis) (pc := 422) (tgt := 445) dX11_axis_422 (by decide) (fun cc => ?_) (fun cc => ?_)
            · have hf := tq_ifp ep49 cc
              refine tq_iconst (M := mX11_axis) (pc := 445) dX11_axis_445 tk_ki_0 ?_
              refine tq_pick (L2 := [(0, .ref i0), (1, .int i1), (2, .int i2), (3, .int i3), (4, .long y4), (6, .int y6), (7, .int x3)]) [2, 3, 4, 5, 6, 7, 8] rfl ?_
              cases (Option.some.inj hf)
              exact HJ422
            · have hf := tq_ifn ep49 cc
              refine tq_aload_n (M := mX11_axis) (pc := 425) dX11_axis_425 rfl ?_
              obtain ⟨k45, ek45, hf⟩ := tq_be hf
              refine tq_getR (M := mX11_axis) (pc := 426) tk_c11 (by decide) dX11_axis_426 tk_RX11_25 rfl ek45 ?_
              refine tq_iload (M := mX11_axis) (pc := 429) dX11_axis_429 rfl ?_
              obtain ⟨x46, ex46, hf⟩ := tq_be hf
              refine tq_ialdF (M := mX11_axis) (pc := 431) dX11_axis_431 ex46 ?_
              refine tq_aload_n (M := mX11_axis) (pc := 432) dX11_axis_432 rfl ?_
              obtain ⟨k47, ek47, hf⟩ := tq_be hf
              refine tq_getR (M := mX11_axis) (pc := 433) tk_c11 (by decide) dX11_axis_433 tk_RX11_25 rfl ek47 ?_
              refine tq_iload_n (M := mX11_axis) (pc := 436) dX11_axis_436 rfl ?_
              obtain ⟨x48, ex48, hf⟩ := tq_be hf
              refine tq_ialdF (M := mX11_axis) (pc := 437) dX11_axis_437 ex48 ?_
              refine tq_icmp_ge (M := mX11_axis) (pc := 438) (tgt := 445) dX11_axis_438 (by decide) (fun cc => ?_) (fun cc => ?_)
              · have hf := tq_ifp hf cc
                refine tq_iconst (M := mX11_axis) (pc := 445) dX11_axis_445 tk_ki_0 ?_
                refine tq_pick (L2 := [(0, .ref i0), (1, .int i1), (2, .int i2), (3, .int i3), (4, .long y4), (6, .int y6), (7, .int x3)]) [2, 3, 4, 5, 6, 7, 8] rfl ?_
                cases (Option.some.inj hf)
                exact HJ422
              · have hf := tq_ifn hf cc
                refine tq_iconst (M := mX11_axis) (pc := 441) dX11_axis_441 tk_ki_1 ?_
                refine tq_goto (M := mX11_axis) (pc := 442) (tgt := 446) dX11_axis_442 (by decide) ?_
                refine tq_pick (L2 := [(0, .ref i0), (1, .int i1), (2, .int i2), (3, .int i3), (4, .long y4), (6, .int y6), (7, .int x3)]) [2, 3, 4, 5, 6, 7, 8] rfl ?_
                cases (Option.some.inj hf)
                exact HJ422
          have hf := tq_ifn hf c10
          by_cases c11 : i1 = (11 : Int32)
          · have hf := tq_ifp hf c11
            refine tq_tabX (M := mX11_axis) (pc := 119) (tgt := 451) (11 : Int32) c11 dX11_axis_119 (by decide +kernel) (by decide +kernel) (off := 332) (by decide +kernel) (by decide) ?_
            refine tq_iload (M := mX11_axis) (pc := 451) dX11_axis_451 rfl ?_
            obtain ⟨p52, ep52, hf⟩ := tq_be hf
            have HJ453 : tq_W l mX11_axis d 0 0 Q 472 [(0, .ref i0), (1, .int i1), (2, .int i2), (3, .int i3), (4, .long y4), (6, .int y6), (7, .int x3)] [.int p52] hh := by
              refine tq_istore (M := mX11_axis) (pc := 472) dX11_axis_472 (L2 := [(12, .int p52), (0, .ref i0), (1, .int i1), (2, .int i2), (3, .int i3), (4, .long y4), (6, .int y6), (7, .int x3)]) (by decide) rfl ?_
              refine tq_goto (M := mX11_axis) (pc := 474) (tgt := 480) dX11_axis_474 (by decide) ?_
              refine tq_pick (L2 := [(0, .ref i0), (1, .int i1), (2, .int i2), (3, .int i3), (4, .long y4), (6, .int y6), (7, .int x3), (12, .int p52)]) [1, 2, 3, 4, 5, 6, 7, 0] rfl ?_
              cases (Option.some.inj hf)
              exact HJ119
            refine tq_if_ne (M := mX11_axis) (pc := 453) (tgt := 471) dX11_axis_453 (by decide) (fun cc => ?_) (fun cc => ?_)
            · have hf := tq_ifn ep52 cc
              refine tq_iconst (M := mX11_axis) (pc := 471) dX11_axis_471 tk_ki_0 ?_
              refine tq_pick (L2 := [(0, .ref i0), (1, .int i1), (2, .int i2), (3, .int i3), (4, .long y4), (6, .int y6), (7, .int x3)]) [2, 3, 4, 5, 6, 7, 8] rfl ?_
              cases (Option.some.inj hf)
              exact HJ453
            · have hf := tq_ifp ep52 cc
              refine tq_aload_n (M := mX11_axis) (pc := 456) dX11_axis_456 rfl ?_
              obtain ⟨k50, ek50, hf⟩ := tq_be hf
              refine tq_getR (M := mX11_axis) (pc := 457) tk_c11 (by decide) dX11_axis_457 tk_RX11_22 rfl ek50 ?_
              refine tq_iload (M := mX11_axis) (pc := 460) dX11_axis_460 rfl ?_
              obtain ⟨x51, ex51, hf⟩ := tq_be hf
              refine tq_ialdF (M := mX11_axis) (pc := 462) dX11_axis_462 ex51 ?_
              refine tq_iload_n (M := mX11_axis) (pc := 463) dX11_axis_463 rfl ?_
              refine tq_icmp_ne (M := mX11_axis) (pc := 464) (tgt := 471) dX11_axis_464 (by decide) (fun cc => ?_) (fun cc => ?_)
              · have hf := tq_ifn hf cc
                refine tq_iconst (M := mX11_axis) (pc := 471) dX11_axis_471 tk_ki_0 ?_
                refine tq_pick (L2 := [(0, .ref i0), (1, .int i1), (2, .int i2), (3, .int i3), (4, .long y4), (6, .int y6), (7, .int x3)]) [2, 3, 4, 5, 6, 7, 8] rfl ?_
                cases (Option.some.inj hf)
                exact HJ453
              · have hf := tq_ifp hf cc
                refine tq_iconst (M := mX11_axis) (pc := 467) dX11_axis_467 tk_ki_1 ?_
                refine tq_goto (M := mX11_axis) (pc := 468) (tgt := 472) dX11_axis_468 (by decide) ?_
                refine tq_pick (L2 := [(0, .ref i0), (1, .int i1), (2, .int i2), (3, .int i3), (4, .long y4), (6, .int y6), (7, .int x3)]) [2, 3, 4, 5, 6, 7, 8] rfl ?_
                cases (Option.some.inj hf)
                exact HJ453
          have hf := tq_ifn hf c11
          have hD := tq_far (c := i1) (n := 12) (by decide) (fun j hj => by match j, hj with
            | 0, _ => exact c0
            | 1, _ => exact c1
            | 2, _ => exact c2
            | 3, _ => exact c3
            | 4, _ => exact c4
            | 5, _ => exact c5
            | 6, _ => exact c6
            | 7, _ => exact c7
            | 8, _ => exact c8
            | 9, _ => exact c9
            | 10, _ => exact c10
            | 11, _ => exact c11
            | j + 12, hj => exact absurd hj (by omega))
          refine tq_tabD (M := mX11_axis) (pc := 119) (tgt := 477) dX11_axis_119 (by exact hD) (by decide) ?_
          refine tq_iconst (M := mX11_axis) (pc := 477) dX11_axis_477 tk_ki_0 ?_
          refine tq_istore (M := mX11_axis) (pc := 478) dX11_axis_478 (L2 := [(12, .int (0 : Int32)), (11, .int p19), (0, .ref i0), (1, .int i1), (2, .int i2), (3, .int i3), (4, .long y4), (6, .int y6), (7, .int x3), (8, .int p6), (9, .int v7), (10, .int v9)]) (by decide) rfl ?_
          refine tq_pick (L2 := [(0, .ref i0), (1, .int i1), (2, .int i2), (3, .int i3), (4, .long y4), (6, .int y6), (7, .int x3), (12, .int (0 : Int32))]) [2, 3, 4, 5, 6, 7, 8, 0] rfl ?_
          cases (Option.some.inj hf)
          exact HJ119
        refine tq_if_eq (M := mX11_axis) (pc := 62) (tgt := 112) dX11_axis_62 (by decide) (fun cc => ?_) (fun cc => ?_)
        · have hf := tq_ifp ep19 cc
          refine tq_iconst (M := mX11_axis) (pc := 112) dX11_axis_112 tk_ki_0 ?_
          refine tq_pick (L2 := [(0, .ref i0), (1, .int i1), (2, .int i2), (3, .int i3), (4, .long y4), (6, .int y6), (7, .int x3), (8, .int p6), (9, .int v7), (10, .int v9)]) [3, 4, 5, 6, 7, 8, 9, 2, 1, 0] rfl ?_
          cases (Option.some.inj hf)
          exact HJ62
        · have hf := tq_ifn ep19 cc
          refine tq_aload_n (M := mX11_axis) (pc := 65) dX11_axis_65 rfl ?_
          obtain ⟨k11, ek11, hf⟩ := tq_be hf
          refine tq_getR (M := mX11_axis) (pc := 66) tk_c11 (by decide) dX11_axis_66 tk_RX11_7 rfl ek11 ?_
          refine tq_iload_n (M := mX11_axis) (pc := 69) dX11_axis_69 rfl ?_
          obtain ⟨x12, ex12, hf⟩ := tq_be hf
          refine tq_ialdF (M := mX11_axis) (pc := 70) dX11_axis_70 ex12 ?_
          refine tq_iconst (M := mX11_axis) (pc := 71) dX11_axis_71 tk_ki_2 ?_
          refine tq_icmp_eq (M := mX11_axis) (pc := 72) (tgt := 112) dX11_axis_72 (by decide) (fun cc => ?_) (fun cc => ?_)
          · have hf := tq_ifp hf cc
            refine tq_iconst (M := mX11_axis) (pc := 112) dX11_axis_112 tk_ki_0 ?_
            refine tq_pick (L2 := [(0, .ref i0), (1, .int i1), (2, .int i2), (3, .int i3), (4, .long y4), (6, .int y6), (7, .int x3), (8, .int p6), (9, .int v7), (10, .int v9)]) [3, 4, 5, 6, 7, 8, 9, 2, 1, 0] rfl ?_
            cases (Option.some.inj hf)
            exact HJ62
          · have hf := tq_ifn hf cc
            refine tq_iload (M := mX11_axis) (pc := 75) dX11_axis_75 rfl ?_
            refine tq_iload_n (M := mX11_axis) (pc := 77) dX11_axis_77 rfl ?_
            refine tq_icmp_eq (M := mX11_axis) (pc := 78) (tgt := 112) dX11_axis_78 (by decide) (fun cc => ?_) (fun cc => ?_)
            · have hf := tq_ifp hf cc
              refine tq_iconst (M := mX11_axis) (pc := 112) dX11_axis_112 tk_ki_0 ?_
              refine tq_pick (L2 := [(0, .ref i0), (1, .int i1), (2, .int i2), (3, .int i3), (4, .long y4), (6, .int y6), (7, .int x3), (8, .int p6), (9, .int v7), (10, .int v9)]) [3, 4, 5, 6, 7, 8, 9, 2, 1, 0] rfl ?_
              cases (Option.some.inj hf)
              exact HJ62
            · have hf := tq_ifn hf cc
              refine tq_aload_n (M := mX11_axis) (pc := 81) dX11_axis_81 rfl ?_
              obtain ⟨k13, ek13, hf⟩ := tq_be hf
              refine tq_getR (M := mX11_axis) (pc := 82) tk_c11 (by decide) dX11_axis_82 tk_RX11_22 rfl ek13 ?_
              refine tq_iload (M := mX11_axis) (pc := 85) dX11_axis_85 rfl ?_
              obtain ⟨x14, ex14, hf⟩ := tq_be hf
              refine tq_ialdF (M := mX11_axis) (pc := 87) dX11_axis_87 ex14 ?_
              refine tq_iconst (M := mX11_axis) (pc := 88) dX11_axis_88 tk_ki_m1 ?_
              refine tq_icmp_eq (M := mX11_axis) (pc := 89) (tgt := 112) dX11_axis_89 (by decide) (fun cc => ?_) (fun cc => ?_)
              · have hf := tq_ifp hf cc
                refine tq_iconst (M := mX11_axis) (pc := 112) dX11_axis_112 tk_ki_0 ?_
                refine tq_pick (L2 := [(0, .ref i0), (1, .int i1), (2, .int i2), (3, .int i3), (4, .long y4), (6, .int y6), (7, .int x3), (8, .int p6), (9, .int v7), (10, .int v9)]) [3, 4, 5, 6, 7, 8, 9, 2, 1, 0] rfl ?_
                cases (Option.some.inj hf)
                exact HJ62
              · have hf := tq_ifn hf cc
                refine tq_aload_n (M := mX11_axis) (pc := 92) dX11_axis_92 rfl ?_
                obtain ⟨k15, ek15, hf⟩ := tq_be hf
                refine tq_getR (M := mX11_axis) (pc := 93) tk_c11 (by decide) dX11_axis_93 tk_RX11_22 rfl ek15 ?_
                refine tq_iload (M := mX11_axis) (pc := 96) dX11_axis_96 rfl ?_
                obtain ⟨x16, ex16, hf⟩ := tq_be hf
                refine tq_ialdF (M := mX11_axis) (pc := 98) dX11_axis_98 ex16 ?_
                refine tq_aload_n (M := mX11_axis) (pc := 99) dX11_axis_99 rfl ?_
                obtain ⟨k17, ek17, hf⟩ := tq_be hf
                refine tq_getR (M := mX11_axis) (pc := 100) tk_c11 (by decide) dX11_axis_100 tk_RX11_22 rfl ek17 ?_
                refine tq_iload_n (M := mX11_axis) (pc := 103) dX11_axis_103 rfl ?_
                obtain ⟨x18, ex18, hf⟩ := tq_be hf
                refine tq_ialdF (M := mX11_axis) (pc := 104) dX11_axis_104 ex18 ?_
                refine tq_icmp_ne (M := mX11_axis) (pc := 105) (tgt := 112) dX11_axis_105 (by decide) (fun cc => ?_) (fun cc => ?_)
                · have hf := tq_ifn hf cc
                  refine tq_iconst (M := mX11_axis) (pc := 112) dX11_axis_112 tk_ki_0 ?_
                  refine tq_pick (L2 := [(0, .ref i0), (1, .int i1), (2, .int i2), (3, .int i3), (4, .long y4), (6, .int y6), (7, .int x3), (8, .int p6), (9, .int v7), (10, .int v9)]) [3, 4, 5, 6, 7, 8, 9, 2, 1, 0] rfl ?_
                  cases (Option.some.inj hf)
                  exact HJ62
                · have hf := tq_ifp hf cc
                  refine tq_iconst (M := mX11_axis) (pc := 108) dX11_axis_108 tk_ki_1 ?_
                  refine tq_goto (M := mX11_axis) (pc := 109) (tgt := 113) dX11_axis_109 (by decide) ?_
                  refine tq_pick (L2 := [(0, .ref i0), (1, .int i1), (2, .int i2), (3, .int i3), (4, .long y4), (6, .int y6), (7, .int x3), (8, .int p6), (9, .int v7), (10, .int v9)]) [3, 4, 5, 6, 7, 8, 9, 2, 1, 0] rfl ?_
                  cases (Option.some.inj hf)
                  exact HJ62
      refine tq_icmp_eq (M := mX11_axis) (pc := 32) (tgt := 39) dX11_axis_32 (by decide) (fun cc => ?_) (fun cc => ?_)
      · have hf := tq_ifp ep6.symm cc
        refine tq_iconst (M := mX11_axis) (pc := 39) dX11_axis_39 tk_ki_0 ?_
        refine tq_pick (L2 := [(0, .ref i0), (1, .int i1), (2, .int i2), (3, .int i3), (4, .long y4), (6, .int y6), (7, .int x3)]) [1, 2, 3, 4, 5, 6, 0] rfl ?_
        cases hf
        exact HJ32
      · have hf := tq_ifn ep6.symm cc
        refine tq_iconst (M := mX11_axis) (pc := 35) dX11_axis_35 tk_ki_1 ?_
        refine tq_goto (M := mX11_axis) (pc := 36) (tgt := 40) dX11_axis_36 (by decide) ?_
        refine tq_pick (L2 := [(0, .ref i0), (1, .int i1), (2, .int i2), (3, .int i3), (4, .long y4), (6, .int y6), (7, .int x3)]) [1, 2, 3, 4, 5, 6, 0] rfl ?_
        cases hf
        exact HJ32
set_option maxHeartbeats 4000000 in
set_option maxRecDepth 20000 in
theorem w_X11_axis {l : Launch} {d : Nat} (hd9 : 1 ≤ d) {t : Nat} {a1 : Int32} {a2 : Int32} {a3 : Int32} {h : tq_H} {o : Int64} {Q : tq_R → tq_H → Prop} (hf : f_X11_axis t a1 a2 a3 h = some o) (hQ : ∀ r h9, r = .inl (some (.long o)) ∧ h = h9 → Q r h9) : tq_C l yX11_axis cX11_axis 13 (some .long) d 0 0 [.ref t, .int a1, .int a2, .int a3] h Q := by
  refine tq_body (y := yX11_axis) false (by decide +kernel) (fun z => by cases z) (Nat.le_of_ble_eq_true rfl) ?_
  show tq_W l mX11_axis d 0 0 Q 0 [(0, .ref t), (1, .int a1), (2, .int a2), (3, .int a3)] [] h
  refine tq_lconst (M := mX11_axis) (pc := 0) dX11_axis_0 tk_kl_0 ?_
  refine tq_lstore (M := mX11_axis) (pc := 1) dX11_axis_1 (L2 := [(4, .long (0 : Int64)), (0, .ref t), (1, .int a1), (2, .int a2), (3, .int a3)]) (by decide) rfl ?_
  refine tq_iconst (M := mX11_axis) (pc := 3) dX11_axis_3 tk_ki_0 ?_
  refine tq_istore (M := mX11_axis) (pc := 4) dX11_axis_4 (L2 := [(6, .int (0 : Int32)), (4, .long (0 : Int64)), (0, .ref t), (1, .int a1), (2, .int a2), (3, .int a3)]) (by decide) rfl ?_
  obtain ⟨o57, eo57, hf⟩ := tq_be hf
  refine tq_pick (L2 := [(0, .ref t), (1, .int a1), (2, .int a2), (3, .int a3), (4, .long (0 : Int64)), (6, .int (0 : Int32))]) [2, 3, 4, 5, 1, 0] rfl ?_
  refine l_X11_axis_6 (by omega) t a1 a2 a3 h _ (0 : Int64) (0 : Int32) _ eo57 ?_
  refine tq_iload_n (M := mX11_axis) (pc := 504) dX11_axis_504 rfl ?_
  refine tq_bipush (M := mX11_axis) (pc := 505) dX11_axis_505 tk_kb_12 ?_
  obtain ⟨p60, ep60, hf⟩ := tq_be hf
  have HJ507 : tq_W l mX11_axis d 0 0 Q 521 [(0, .ref t)] [.long p60] h := by
    refine tq_aload_n (M := mX11_axis) (pc := 521) dX11_axis_521 rfl ?_
    obtain ⟨x61, ex61, hf⟩ := tq_be hf
    refine tq_getL (M := mX11_axis) (pc := 522) tk_c11 (by decide) dX11_axis_522 tk_RX11_325 rfl ex61 ?_
    refine tq_land (M := mX11_axis) (pc := 525) dX11_axis_525 ?_
    refine tq_lret (M := mX11_axis) (pc := 526) dX11_axis_526 rfl ?_
    cases (Option.some.inj hf)
    exact hQ _ _ ⟨rfl, rfl⟩
  refine tq_icmp_ne (M := mX11_axis) (pc := 507) (tgt := 519) dX11_axis_507 (by decide) (fun cc => ?_) (fun cc => ?_)
  · have hf := tq_ifn ep60 cc
    refine tq_lload (M := mX11_axis) (pc := 519) dX11_axis_519 rfl ?_
    refine tq_pick (L2 := [(0, .ref t)]) [0] rfl ?_
    cases (Option.some.inj hf)
    exact HJ507
  · have hf := tq_ifp ep60 cc
    refine tq_aload_n (M := mX11_axis) (pc := 510) dX11_axis_510 rfl ?_
    refine tq_iload_n (M := mX11_axis) (pc := 511) dX11_axis_511 rfl ?_
    refine tq_iload_n (M := mX11_axis) (pc := 512) dX11_axis_512 rfl ?_
    obtain ⟨⟨⟩, eu59, hf⟩ := tq_be hf
    obtain ⟨fsu59, eu59⟩ := tq_is_s eu59
    obtain ⟨v58, ev58, hf⟩ := tq_be hf
    refine tq_calV (M := mX11_axis) (pc := 513) (S := []) tk_y_X11_repeated tk_v_X11_repeated tk_RX11_321 dX11_axis_513 [.int a2, .int a3] rfl (S0 := _) rfl eu59 rfl (Nat.le_of_ble_eq_true rfl) (d1 := d - 1) (b1 := 0) (s1 := 0) (bc' := 0) (bs' := 0) (Q1 := fun r h9 => r = .inl (some (.long v58)) ∧ h = h9) (by omega) rfl rfl (w_X11_repeated (by omega) ev58 (fun _ _ q => q)) (fun E h9 q => nomatch (show (Sum.inr E : tq_R) = Sum.inl _ from q.1)) (fun r9 h9 q => ?_)
    obtain ⟨q1, rfl⟩ := q
    cases (show (Sum.inl r9 : tq_R) = Sum.inl (some (.long v58)) from q1)
    refine tq_goto (M := mX11_axis) (pc := 516) (tgt := 521) dX11_axis_516 (by decide) ?_
    refine tq_pick (L2 := [(0, .ref t)]) [0] rfl ?_
    cases (Option.some.inj hf)
    exact HJ507
abbrev mX11_passes : tq_M := (RX11, cX11_passes, 3, (some .boolean), false, [], none)
def f_X11_passes (t : Nat) (a1 : Int32) (a2 : Int32) (h : tq_H) : Option (Int32) :=
  (if a1 ≥ (8 : Int32) then
    if a1 = (8 : Int32) then
      some (1 : Int32)
    else
      if a1 = (9 : Int32) then
        (tq_gr h t 11 2).bind fun k5 =>
        (tq_ai h k5 a2).bind fun x6 =>
        if x6 = (1 : Int32) then
          some (1 : Int32)
        else
          some (0 : Int32)
      else
        (tq_gr h t 11 2).bind fun k1 =>
        (tq_ai h k1 a2).bind fun x2 =>
        if x2 = 0 then
          (tq_is h t 11).bind fun _ =>
          (f_X11_spaceOf t a2 h).bind fun v3 =>
          if v3 = (a1 - (10 : Int32)) then
            some (1 : Int32)
          else
            some (0 : Int32)
        else
          some (0 : Int32)
  else
    (tq_gr h t 11 2).bind fun k7 =>
    (tq_ai h k7 a2).bind fun x8 =>
    if x8 = (1 : Int32) then
      some (0 : Int32)
    else
      (tq_gr h t 11 3).bind fun k9 =>
      (tq_ai h k9 a2).bind fun x10 =>
      if x10 = a1 then
        some (1 : Int32)
      else
        some (0 : Int32)).bind fun p11 =>
  (tq_bz p11).bind fun z12 =>
  some z12
set_option maxHeartbeats 4000000 in
set_option maxRecDepth 20000 in
theorem w_X11_passes {l : Launch} {d : Nat} (hd9 : 1 ≤ d) {t : Nat} {a1 : Int32} {a2 : Int32} {h : tq_H} {o : Int32} {Q : tq_R → tq_H → Prop} (hf : f_X11_passes t a1 a2 h = some o) (hQ : ∀ r h9, r = .inl (some (.int o)) ∧ h = h9 → Q r h9) : tq_C l yX11_passes cX11_passes 3 (some .boolean) d 0 0 [.ref t, .int a1, .int a2] h Q := by
  refine tq_body (y := yX11_passes) false (by decide +kernel) (fun z => by cases z) (Nat.le_of_ble_eq_true rfl) ?_
  show tq_W l mX11_passes d 0 0 Q 0 [(0, .ref t), (1, .int a1), (2, .int a2)] [] h
  refine tq_iload_n (M := mX11_passes) (pc := 0) dX11_passes_0 rfl ?_
  refine tq_bipush (M := mX11_passes) (pc := 1) dX11_passes_1 tk_kb_8 ?_
  obtain ⟨p11, ep11, hf⟩ := tq_be hf
  have HJ3 : tq_W l mX11_passes d 0 0 Q 85 [] [.int p11] h := by
    obtain ⟨z12, ez12, hf⟩ := tq_be hf
    refine tq_zretB (M := mX11_passes) (pc := 85) dX11_passes_85 rfl ez12 ?_
    cases (Option.some.inj hf)
    exact hQ _ _ ⟨rfl, rfl⟩
  refine tq_icmp_ge (M := mX11_passes) (pc := 3) (tgt := 34) dX11_passes_3 (by decide) (fun cc => ?_) (fun cc => ?_)
  · have hf := tq_ifp ep11 cc
    refine tq_iload_n (M := mX11_passes) (pc := 34) dX11_passes_34 rfl ?_
    refine tq_bipush (M := mX11_passes) (pc := 35) dX11_passes_35 tk_kb_8 ?_
    refine tq_icmp_eq (M := mX11_passes) (pc := 37) (tgt := 80) dX11_passes_37 (by decide) (fun cc => ?_) (fun cc => ?_)
    · have hf := tq_ifp hf cc
      refine tq_iconst (M := mX11_passes) (pc := 80) dX11_passes_80 tk_ki_1 ?_
      refine tq_goto (M := mX11_passes) (pc := 81) (tgt := 85) dX11_passes_81 (by decide) ?_
      refine tq_pick (L2 := []) [] rfl ?_
      cases (Option.some.inj hf)
      exact HJ3
    · have hf := tq_ifn hf cc
      refine tq_iload_n (M := mX11_passes) (pc := 40) dX11_passes_40 rfl ?_
      refine tq_bipush (M := mX11_passes) (pc := 41) dX11_passes_41 tk_kb_9 ?_
      refine tq_icmp_ne (M := mX11_passes) (pc := 43) (tgt := 59) dX11_passes_43 (by decide) (fun cc => ?_) (fun cc => ?_)
      · have hf := tq_ifn hf cc
        refine tq_aload_n (M := mX11_passes) (pc := 59) dX11_passes_59 rfl ?_
        obtain ⟨k1, ek1, hf⟩ := tq_be hf
        refine tq_getR (M := mX11_passes) (pc := 60) tk_c11 (by decide) dX11_passes_60 tk_RX11_7 rfl ek1 ?_
        refine tq_iload_n (M := mX11_passes) (pc := 63) dX11_passes_63 rfl ?_
        obtain ⟨x2, ex2, hf⟩ := tq_be hf
        refine tq_ialdF (M := mX11_passes) (pc := 64) dX11_passes_64 ex2 ?_
        refine tq_if_ne (M := mX11_passes) (pc := 65) (tgt := 84) dX11_passes_65 (by decide) (fun cc => ?_) (fun cc => ?_)
        · have hf := tq_ifn hf cc
          refine tq_iconst (M := mX11_passes) (pc := 84) dX11_passes_84 tk_ki_0 ?_
          refine tq_pick (L2 := []) [] rfl ?_
          cases (Option.some.inj hf)
          exact HJ3
        · have hf := tq_ifp hf cc
          refine tq_aload_n (M := mX11_passes) (pc := 68) dX11_passes_68 rfl ?_
          refine tq_iload_n (M := mX11_passes) (pc := 69) dX11_passes_69 rfl ?_
          obtain ⟨⟨⟩, eu4, hf⟩ := tq_be hf
          obtain ⟨fsu4, eu4⟩ := tq_is_s eu4
          obtain ⟨v3, ev3, hf⟩ := tq_be hf
          refine tq_calV (M := mX11_passes) (pc := 70) (S := []) tk_y_X11_spaceOf tk_v_X11_spaceOf tk_RX11_293 dX11_passes_70 [.int a2] rfl (S0 := _) rfl eu4 rfl (Nat.le_of_ble_eq_true rfl) (d1 := d - 1) (b1 := 0) (s1 := 0) (bc' := 0) (bs' := 0) (Q1 := fun r h9 => r = .inl (some (.int v3)) ∧ h = h9) (by omega) rfl rfl (w_X11_spaceOf (by omega) ev3 (fun _ _ q => q)) (fun E h9 q => nomatch (show (Sum.inr E : tq_R) = Sum.inl _ from q.1)) (fun r9 h9 q => ?_)
          obtain ⟨q1, rfl⟩ := q
          cases (show (Sum.inl r9 : tq_R) = Sum.inl (some (.int v3)) from q1)
          refine tq_iload_n (M := mX11_passes) (pc := 73) dX11_passes_73 rfl ?_
          refine tq_bipush (M := mX11_passes) (pc := 74) dX11_passes_74 tk_kb_10 ?_
          refine tq_isub (M := mX11_passes) (pc := 76) dX11_passes_76 ?_
          refine tq_icmp_ne (M := mX11_passes) (pc := 77) (tgt := 84) dX11_passes_77 (by decide) (fun cc => ?_) (fun cc => ?_)
          · have hf := tq_ifn hf cc
            refine tq_iconst (M := mX11_passes) (pc := 84) dX11_passes_84 tk_ki_0 ?_
            refine tq_pick (L2 := []) [] rfl ?_
            cases (Option.some.inj hf)
            exact HJ3
          · have hf := tq_ifp hf cc
            refine tq_iconst (M := mX11_passes) (pc := 80) dX11_passes_80 tk_ki_1 ?_
            refine tq_goto (M := mX11_passes) (pc := 81) (tgt := 85) dX11_passes_81 (by decide) ?_
            refine tq_pick (L2 := []) [] rfl ?_
            cases (Option.some.inj hf)
            exact HJ3
      · have hf := tq_ifp hf cc
        refine tq_aload_n (M := mX11_passes) (pc := 46) dX11_passes_46 rfl ?_
        obtain ⟨k5, ek5, hf⟩ := tq_be hf
        refine tq_getR (M := mX11_passes) (pc := 47) tk_c11 (by decide) dX11_passes_47 tk_RX11_7 rfl ek5 ?_
        refine tq_iload_n (M := mX11_passes) (pc := 50) dX11_passes_50 rfl ?_
        obtain ⟨x6, ex6, hf⟩ := tq_be hf
        refine tq_ialdF (M := mX11_passes) (pc := 51) dX11_passes_51 ex6 ?_
        refine tq_iconst (M := mX11_passes) (pc := 52) dX11_passes_52 tk_ki_1 ?_
        refine tq_icmp_ne (M := mX11_passes) (pc := 53) (tgt := 84) dX11_passes_53 (by decide) (fun cc => ?_) (fun cc => ?_)
        · have hf := tq_ifn hf cc
          refine tq_iconst (M := mX11_passes) (pc := 84) dX11_passes_84 tk_ki_0 ?_
          refine tq_pick (L2 := []) [] rfl ?_
          cases (Option.some.inj hf)
          exact HJ3
        · have hf := tq_ifp hf cc
          refine tq_goto (M := mX11_passes) (pc := 56) (tgt := 80) dX11_passes_56 (by decide) ?_
          refine tq_iconst (M := mX11_passes) (pc := 80) dX11_passes_80 tk_ki_1 ?_
          refine tq_goto (M := mX11_passes) (pc := 81) (tgt := 85) dX11_passes_81 (by decide) ?_
          refine tq_pick (L2 := []) [] rfl ?_
          cases (Option.some.inj hf)
          exact HJ3
  · have hf := tq_ifn ep11 cc
    refine tq_aload_n (M := mX11_passes) (pc := 6) dX11_passes_6 rfl ?_
    obtain ⟨k7, ek7, hf⟩ := tq_be hf
    refine tq_getR (M := mX11_passes) (pc := 7) tk_c11 (by decide) dX11_passes_7 tk_RX11_7 rfl ek7 ?_
    refine tq_iload_n (M := mX11_passes) (pc := 10) dX11_passes_10 rfl ?_
    obtain ⟨x8, ex8, hf⟩ := tq_be hf
    refine tq_ialdF (M := mX11_passes) (pc := 11) dX11_passes_11 ex8 ?_
    refine tq_iconst (M := mX11_passes) (pc := 12) dX11_passes_12 tk_ki_1 ?_
    refine tq_icmp_eq (M := mX11_passes) (pc := 13) (tgt := 30) dX11_passes_13 (by decide) (fun cc => ?_) (fun cc => ?_)
    · have hf := tq_ifp hf cc
      refine tq_iconst (M := mX11_passes) (pc := 30) dX11_passes_30 tk_ki_0 ?_
      refine tq_goto (M := mX11_passes) (pc := 31) (tgt := 85) dX11_passes_31 (by decide) ?_
      refine tq_pick (L2 := []) [] rfl ?_
      cases (Option.some.inj hf)
      exact HJ3
    · have hf := tq_ifn hf cc
      refine tq_aload_n (M := mX11_passes) (pc := 16) dX11_passes_16 rfl ?_
      obtain ⟨k9, ek9, hf⟩ := tq_be hf
      refine tq_getR (M := mX11_passes) (pc := 17) tk_c11 (by decide) dX11_passes_17 tk_RX11_13 rfl ek9 ?_
      refine tq_iload_n (M := mX11_passes) (pc := 20) dX11_passes_20 rfl ?_
      obtain ⟨x10, ex10, hf⟩ := tq_be hf
      refine tq_ialdF (M := mX11_passes) (pc := 21) dX11_passes_21 ex10 ?_
      refine tq_iload_n (M := mX11_passes) (pc := 22) dX11_passes_22 rfl ?_
      refine tq_icmp_ne (M := mX11_passes) (pc := 23) (tgt := 30) dX11_passes_23 (by decide) (fun cc => ?_) (fun cc => ?_)
      · have hf := tq_ifn hf cc
        refine tq_iconst (M := mX11_passes) (pc := 30) dX11_passes_30 tk_ki_0 ?_
        refine tq_goto (M := mX11_passes) (pc := 31) (tgt := 85) dX11_passes_31 (by decide) ?_
        refine tq_pick (L2 := []) [] rfl ?_
        cases (Option.some.inj hf)
        exact HJ3
      · have hf := tq_ifp hf cc
        refine tq_iconst (M := mX11_passes) (pc := 26) dX11_passes_26 tk_ki_1 ?_
        refine tq_goto (M := mX11_passes) (pc := 27) (tgt := 85) dX11_passes_27 (by decide) ?_
        refine tq_pick (L2 := []) [] rfl ?_
        cases (Option.some.inj hf)
        exact HJ3
abbrev mX11_compares : tq_M := (RX11, cX11_compares, 3, (some .boolean), false, [], none)
def f_X11_compares (a0 : Int32) (a1 : Int32) (a2 : Int32) (h : tq_H) : Option (Int32) :=
  tq_let (if a0 = 0 then (if a1 = a2 then (1 : Int32) else (0 : Int32)) else (if a0 = (1 : Int32) then if a1 ≥ a2 then (0 : Int32) else (1 : Int32) else if a1 ≤ a2 then (0 : Int32) else (1 : Int32))) fun p1 =>
  (tq_bz p1).bind fun z2 =>
  some z2
set_option maxHeartbeats 4000000 in
set_option maxRecDepth 20000 in
theorem w_X11_compares {l : Launch} {d : Nat} (hd9 : 0 ≤ d) {a0 : Int32} {a1 : Int32} {a2 : Int32} {h : tq_H} {o : Int32} {Q : tq_R → tq_H → Prop} (hf : f_X11_compares a0 a1 a2 h = some o) (hQ : ∀ r h9, r = .inl (some (.int o)) ∧ h = h9 → Q r h9) : tq_C l yX11_compares cX11_compares 3 (some .boolean) d 0 0 [.int a0, .int a1, .int a2] h Q := by
  refine tq_body (y := yX11_compares) false (by decide +kernel) (fun z => by cases z) (Nat.le_of_ble_eq_true rfl) ?_
  show tq_W l mX11_compares d 0 0 Q 0 [(0, .int a0), (1, .int a1), (2, .int a2)] [] h
  refine tq_iload_n (M := mX11_compares) (pc := 0) dX11_compares_0 rfl ?_
  obtain ⟨p1, ep1, hf⟩ := tq_le hf
  have HJ1 : tq_W l mX11_compares d 0 0 Q 45 [] [.int p1] h := by
    obtain ⟨z2, ez2, hf⟩ := tq_be hf
    refine tq_zretB (M := mX11_compares) (pc := 45) dX11_compares_45 rfl ez2 ?_
    cases (Option.some.inj hf)
    exact hQ _ _ ⟨rfl, rfl⟩
  refine tq_if_ne (M := mX11_compares) (pc := 1) (tgt := 17) dX11_compares_1 (by decide) (fun cc => ?_) (fun cc => ?_)
  · have hf := tq_ifn ep1.symm cc
    refine tq_iload_n (M := mX11_compares) (pc := 17) dX11_compares_17 rfl ?_
    refine tq_iconst (M := mX11_compares) (pc := 18) dX11_compares_18 tk_ki_1 ?_
    refine tq_icmp_ne (M := mX11_compares) (pc := 19) (tgt := 35) dX11_compares_19 (by decide) (fun cc => ?_) (fun cc => ?_)
    · have hf := tq_ifn hf cc
      refine tq_iload_n (M := mX11_compares) (pc := 35) dX11_compares_35 rfl ?_
      refine tq_iload_n (M := mX11_compares) (pc := 36) dX11_compares_36 rfl ?_
      refine tq_icmp_le (M := mX11_compares) (pc := 37) (tgt := 44) dX11_compares_37 (by decide) (fun cc => ?_) (fun cc => ?_)
      · have hf := tq_ifp hf cc
        refine tq_iconst (M := mX11_compares) (pc := 44) dX11_compares_44 tk_ki_0 ?_
        refine tq_pick (L2 := []) [] rfl ?_
        cases hf
        exact HJ1
      · have hf := tq_ifn hf cc
        refine tq_iconst (M := mX11_compares) (pc := 40) dX11_compares_40 tk_ki_1 ?_
        refine tq_goto (M := mX11_compares) (pc := 41) (tgt := 45) dX11_compares_41 (by decide) ?_
        refine tq_pick (L2 := []) [] rfl ?_
        cases hf
        exact HJ1
    · have hf := tq_ifp hf cc
      refine tq_iload_n (M := mX11_compares) (pc := 22) dX11_compares_22 rfl ?_
      refine tq_iload_n (M := mX11_compares) (pc := 23) dX11_compares_23 rfl ?_
      refine tq_icmp_ge (M := mX11_compares) (pc := 24) (tgt := 31) dX11_compares_24 (by decide) (fun cc => ?_) (fun cc => ?_)
      · have hf := tq_ifp hf cc
        refine tq_iconst (M := mX11_compares) (pc := 31) dX11_compares_31 tk_ki_0 ?_
        refine tq_goto (M := mX11_compares) (pc := 32) (tgt := 45) dX11_compares_32 (by decide) ?_
        refine tq_pick (L2 := []) [] rfl ?_
        cases hf
        exact HJ1
      · have hf := tq_ifn hf cc
        refine tq_iconst (M := mX11_compares) (pc := 27) dX11_compares_27 tk_ki_1 ?_
        refine tq_goto (M := mX11_compares) (pc := 28) (tgt := 45) dX11_compares_28 (by decide) ?_
        refine tq_pick (L2 := []) [] rfl ?_
        cases hf
        exact HJ1
  · have hf := tq_ifp ep1.symm cc
    refine tq_iload_n (M := mX11_compares) (pc := 4) dX11_compares_4 rfl ?_
    refine tq_iload_n (M := mX11_compares) (pc := 5) dX11_compares_5 rfl ?_
    refine tq_icmp_ne (M := mX11_compares) (pc := 6) (tgt := 13) dX11_compares_6 (by decide) (fun cc => ?_) (fun cc => ?_)
    · have hf := tq_ifn hf cc
      refine tq_iconst (M := mX11_compares) (pc := 13) dX11_compares_13 tk_ki_0 ?_
      refine tq_goto (M := mX11_compares) (pc := 14) (tgt := 45) dX11_compares_14 (by decide) ?_
      refine tq_pick (L2 := []) [] rfl ?_
      cases hf
      exact HJ1
    · have hf := tq_ifp hf cc
      refine tq_iconst (M := mX11_compares) (pc := 9) dX11_compares_9 tk_ki_1 ?_
      refine tq_goto (M := mX11_compares) (pc := 10) (tgt := 45) dX11_compares_10 (by decide) ?_
      refine tq_pick (L2 := []) [] rfl ?_
      cases hf
      exact HJ1
abbrev mX11_holds : tq_M := (RX11, cX11_holds, 11, (some .boolean), false, [], none)
def f_X11_holds_b116 (i0 : Nat) (i1 : Int32) (i6 : Int64) (hh : tq_H) (s : Int32 × Int32) : Option ((Int32 × Int32) ⊕ (Int32)) := match s with
  | (y8, y9) =>
    (tq_gi hh i0 11 11).bind fun x7 =>
    if y9 ≥ x7 then
      some (.inr y8)
    else
      (tq_gr hh i0 11 12).bind fun k8 =>
      (tq_ai hh k8 y9).bind fun x9 =>
      (if (lg_cmp ((i6 >>> (x9.toInt64 &&& 63)) &&& (1 : Int64)) (1 : Int64)) = 0 then
        (tq_gr hh i0 11 12).bind fun k10 =>
        (tq_ai hh k10 y9).bind fun x11 =>
        (tq_gl hh i0 11 31).bind fun x12 =>
        (tq_is hh i0 11).bind fun _ =>
        (f_X11_valueOf i0 x11 x12 hh).bind fun v13 =>
        some v13
      else
        some (-1 : Int32)).bind fun p15 =>
      (if y8 = 0 then
        if p15 = (-1 : Int32) then
          some (0 : Int32)
        else
          (tq_gr hh i0 11 28).bind fun k16 =>
          (tq_ai hh k16 (i1 + (2 : Int32))).bind fun x17 =>
          (tq_gr hh i0 11 28).bind fun k18 =>
          (tq_ai hh k18 (i1 + (3 : Int32))).bind fun x19 =>
          (f_X11_compares x17 p15 x19 hh).bind fun v20 =>
          if v20 = 0 then
            some (0 : Int32)
          else
            some (1 : Int32)
      else
        some (1 : Int32)).bind fun p21 =>
      tq_let (y9 + (1 : Int32)) fun x22 =>
      some (.inl (p21, x22))
def f_X11_holds (t : Nat) (a1 : Int32) (a2 : Int32) (a3 : Int32) (a4 : Int32) (h : tq_H) : Option (Int32) :=
  (tq_gr h t 11 28).bind fun k1 =>
  (tq_ai h k1 a1).bind fun x2 =>
  if x2 = 0 then
    (tq_gr h t 11 28).bind fun k31 =>
    (tq_ai h k31 (a1 + (2 : Int32))).bind fun x32 =>
    (tq_gr h t 11 28).bind fun k33 =>
    (tq_ai h k33 (a1 + (3 : Int32))).bind fun x34 =>
    (f_X11_compares x32 a3 x34 h).bind fun v35 =>
    (tq_bz v35).bind fun z36 =>
    some z36
  else
    if x2 = (1 : Int32) then
      tq_let (if a3 = a4 then (1 : Int32) else (0 : Int32)) fun p29 =>
      (tq_bz p29).bind fun z30 =>
      some z30
    else
      (tq_gr h t 11 29).bind fun k3 =>
      (tq_gr h t 11 28).bind fun k4 =>
      (tq_ai h k4 (a1 + (1 : Int32))).bind fun x5 =>
      (tq_aj h k3 (((60 : Int32) * x5) + a2)).bind fun x6 =>
      if x2 = (4 : Int32) then
        (tq_loop (f_X11_holds_b116 t a1 x6 h) tq_N ((0 : Int32), (0 : Int32))).bind fun o23 =>
        (tq_bz o23).bind fun z24 =>
        some z24
      else
        tq_let (if (lg_cmp x6 (0 : Int64)) = 0 then (0 : Int32) else (1 : Int32)) fun p25 =>
        tq_let (if x2 = (2 : Int32) then (1 : Int32) else (0 : Int32)) fun p26 =>
        tq_let (if p25 = p26 then (1 : Int32) else (0 : Int32)) fun p27 =>
        (tq_bz p27).bind fun z28 =>
        some z28
set_option maxHeartbeats 4000000 in
theorem l_X11_holds_116 {l : Launch} {d : Nat} {Q : tq_R → tq_H → Prop} (hd9 : 2 ≤ d) (i0 : Nat) (i1 : Int32) (i6 : Int64) (hh : tq_H) : ∀ (n : Nat) (y8 : Int32) (y9 : Int32) (o : Int32), tq_loop (f_X11_holds_b116 i0 i1 i6 hh) n (y8, y9) = some o → tq_W l mX11_holds d 0 0 Q 211 [(8, .int o)] [] hh → tq_W l mX11_holds d 0 0 Q 116 [(0, .ref i0), (1, .int i1), (6, .long i6), (8, .int y8), (9, .int y9)] [] hh := by
  intro n
  induction n with
  | zero => intro y8 y9 o hl; cases hl
  | succ n ih =>
    intro y8 y9 o hl hk
    obtain ⟨oo, hf, ho⟩ := tq_loop_s hl
    refine tq_iload (M := mX11_holds) (pc := 116) dX11_holds_116 rfl ?_
    refine tq_aload_n (M := mX11_holds) (pc := 118) dX11_holds_118 rfl ?_
    obtain ⟨x7, ex7, hf⟩ := tq_be hf
    refine tq_getI (M := mX11_holds) (pc := 119) tk_c11 (by decide) dX11_holds_119 tk_RX11_173 rfl ex7 ?_
    refine tq_icmp_ge (M := mX11_holds) (pc := 122) (tgt := 211) dX11_holds_122 (by decide) (fun cc => ?_) (fun cc => ?_)
    · have hf := tq_ifp hf cc
      refine tq_pick (L2 := [(8, .int y8)]) [3] rfl ?_
      cases (Option.some.inj hf)
      cases (tq_lx ho)
      exact hk
    · have hf := tq_ifn hf cc
      refine tq_lload (M := mX11_holds) (pc := 125) dX11_holds_125 rfl ?_
      refine tq_aload_n (M := mX11_holds) (pc := 127) dX11_holds_127 rfl ?_
      obtain ⟨k8, ek8, hf⟩ := tq_be hf
      refine tq_getR (M := mX11_holds) (pc := 128) tk_c11 (by decide) dX11_holds_128 tk_RX11_35 rfl ek8 ?_
      refine tq_iload (M := mX11_holds) (pc := 131) dX11_holds_131 rfl ?_
      obtain ⟨x9, ex9, hf⟩ := tq_be hf
      refine tq_ialdF (M := mX11_holds) (pc := 133) dX11_holds_133 ex9 ?_
      refine tq_lshr (M := mX11_holds) (pc := 134) dX11_holds_134 ?_
      refine tq_lconst (M := mX11_holds) (pc := 135) dX11_holds_135 tk_kl_1 ?_
      refine tq_land (M := mX11_holds) (pc := 136) dX11_holds_136 ?_
      refine tq_lconst (M := mX11_holds) (pc := 137) dX11_holds_137 tk_kl_1 ?_
      refine tq_lcmp (M := mX11_holds) (pc := 138) dX11_holds_138 ?_
      obtain ⟨p15, ep15, hf⟩ := tq_be hf
      have HJ139 : tq_W l mX11_holds d 0 0 Q 161 [(0, .ref i0), (1, .int i1), (6, .long i6), (8, .int y8), (9, .int y9)] [.int p15] hh := by
        refine tq_istore (M := mX11_holds) (pc := 161) dX11_holds_161 (L2 := [(10, .int p15), (0, .ref i0), (1, .int i1), (6, .long i6), (8, .int y8), (9, .int y9)]) (by decide) rfl ?_
        refine tq_iload (M := mX11_holds) (pc := 163) dX11_holds_163 rfl ?_
        obtain ⟨p21, ep21, hf⟩ := tq_be hf
        have HJ165 : tq_W l mX11_holds d 0 0 Q 203 [(0, .ref i0), (1, .int i1), (6, .long i6), (9, .int y9)] [.int p21] hh := by
          refine tq_istore (M := mX11_holds) (pc := 203) dX11_holds_203 (L2 := [(8, .int p21), (0, .ref i0), (1, .int i1), (6, .long i6), (9, .int y9)]) (by decide) rfl ?_
          obtain ⟨x22, ex22, hf⟩ := tq_le hf
          refine tq_iinc (M := mX11_holds) (pc := 205) (v := x22) (L2 := [(9, .int x22), (8, .int p21), (0, .ref i0), (1, .int i1), (6, .long i6)]) dX11_holds_205 rfl (by rw [ex22, tk_ki_1]) (by decide) rfl ?_
          refine tq_goto (M := mX11_holds) (pc := 208) (tgt := 116) dX11_holds_208 (by decide) ?_
          refine tq_pick (L2 := [(0, .ref i0), (1, .int i1), (6, .long i6), (8, .int p21), (9, .int x22)]) [2, 3, 4, 1, 0] rfl ?_
          cases (Option.some.inj hf)
          exact ih _ _ o (tq_lc ho) hk
        refine tq_if_ne (M := mX11_holds) (pc := 165) (tgt := 198) dX11_holds_165 (by decide) (fun cc => ?_) (fun cc => ?_)
        · have hf := tq_ifn ep21 cc
          refine tq_iconst (M := mX11_holds) (pc := 198) dX11_holds_198 tk_ki_1 ?_
          refine tq_goto (M := mX11_holds) (pc := 199) (tgt := 203) dX11_holds_199 (by decide) ?_
          refine tq_pick (L2 := [(0, .ref i0), (1, .int i1), (6, .long i6), (9, .int y9)]) [1, 2, 3, 5] rfl ?_
          cases (Option.some.inj hf)
          exact HJ165
        · have hf := tq_ifp ep21 cc
          refine tq_iload (M := mX11_holds) (pc := 168) dX11_holds_168 rfl ?_
          refine tq_iconst (M := mX11_holds) (pc := 170) dX11_holds_170 tk_ki_m1 ?_
          refine tq_icmp_eq (M := mX11_holds) (pc := 171) (tgt := 202) dX11_holds_171 (by decide) (fun cc => ?_) (fun cc => ?_)
          · have hf := tq_ifp hf cc
            refine tq_iconst (M := mX11_holds) (pc := 202) dX11_holds_202 tk_ki_0 ?_
            refine tq_pick (L2 := [(0, .ref i0), (1, .int i1), (6, .long i6), (9, .int y9)]) [1, 2, 3, 5] rfl ?_
            cases (Option.some.inj hf)
            exact HJ165
          · have hf := tq_ifn hf cc
            refine tq_aload_n (M := mX11_holds) (pc := 174) dX11_holds_174 rfl ?_
            obtain ⟨k16, ek16, hf⟩ := tq_be hf
            refine tq_getR (M := mX11_holds) (pc := 175) tk_c11 (by decide) dX11_holds_175 tk_RX11_77 rfl ek16 ?_
            refine tq_iload_n (M := mX11_holds) (pc := 178) dX11_holds_178 rfl ?_
            refine tq_iconst (M := mX11_holds) (pc := 179) dX11_holds_179 tk_ki_2 ?_
            refine tq_iadd (M := mX11_holds) (pc := 180) dX11_holds_180 ?_
            obtain ⟨x17, ex17, hf⟩ := tq_be hf
            refine tq_ialdF (M := mX11_holds) (pc := 181) dX11_holds_181 ex17 ?_
            refine tq_iload (M := mX11_holds) (pc := 182) dX11_holds_182 rfl ?_
            refine tq_aload_n (M := mX11_holds) (pc := 184) dX11_holds_184 rfl ?_
            obtain ⟨k18, ek18, hf⟩ := tq_be hf
            refine tq_getR (M := mX11_holds) (pc := 185) tk_c11 (by decide) dX11_holds_185 tk_RX11_77 rfl ek18 ?_
            refine tq_iload_n (M := mX11_holds) (pc := 188) dX11_holds_188 rfl ?_
            refine tq_iconst (M := mX11_holds) (pc := 189) dX11_holds_189 tk_ki_3 ?_
            refine tq_iadd (M := mX11_holds) (pc := 190) dX11_holds_190 ?_
            obtain ⟨x19, ex19, hf⟩ := tq_be hf
            refine tq_ialdF (M := mX11_holds) (pc := 191) dX11_holds_191 ex19 ?_
            obtain ⟨v20, ev20, hf⟩ := tq_be hf
            refine tq_calS (M := mX11_holds) (pc := 192) (S := []) tk_y_X11_compares tk_s_X11_compares tk_RX11_329 dX11_holds_192 [.int x17, .int p15, .int x19] rfl (Nat.le_of_ble_eq_true rfl) (d1 := d - 1) (b1 := 0) (s1 := 0) (bc' := 0) (bs' := 0) (Q1 := fun r h9 => r = .inl (some (.int v20)) ∧ hh = h9) (by omega) rfl rfl (w_X11_compares (by omega) ev20 (fun _ _ q => q)) (fun E h9 q => nomatch (show (Sum.inr E : tq_R) = Sum.inl _ from q.1)) (fun r9 h9 q => ?_)
            obtain ⟨q1, rfl⟩ := q
            cases (show (Sum.inl r9 : tq_R) = Sum.inl (some (.int v20)) from q1)
            refine tq_if_eq (M := mX11_holds) (pc := 195) (tgt := 202) dX11_holds_195 (by decide) (fun cc => ?_) (fun cc => ?_)
            · have hf := tq_ifp hf cc
              refine tq_iconst (M := mX11_holds) (pc := 202) dX11_holds_202 tk_ki_0 ?_
              refine tq_pick (L2 := [(0, .ref i0), (1, .int i1), (6, .long i6), (9, .int y9)]) [1, 2, 3, 5] rfl ?_
              cases (Option.some.inj hf)
              exact HJ165
            · have hf := tq_ifn hf cc
              refine tq_iconst (M := mX11_holds) (pc := 198) dX11_holds_198 tk_ki_1 ?_
              refine tq_goto (M := mX11_holds) (pc := 199) (tgt := 203) dX11_holds_199 (by decide) ?_
              refine tq_pick (L2 := [(0, .ref i0), (1, .int i1), (6, .long i6), (9, .int y9)]) [1, 2, 3, 5] rfl ?_
              cases (Option.some.inj hf)
              exact HJ165
      refine tq_if_ne (M := mX11_holds) (pc := 139) (tgt := 160) dX11_holds_139 (by decide) (fun cc => ?_) (fun cc => ?_)
      · have hf := tq_ifn ep15 cc
        refine tq_iconst (M := mX11_holds) (pc := 160) dX11_holds_160 tk_ki_m1 ?_
        cases (Option.some.inj hf)
        exact HJ139
      · have hf := tq_ifp ep15 cc
        refine tq_aload_n (M := mX11_holds) (pc := 142) dX11_holds_142 rfl ?_
        refine tq_aload_n (M := mX11_holds) (pc := 143) dX11_holds_143 rfl ?_
        obtain ⟨k10, ek10, hf⟩ := tq_be hf
        refine tq_getR (M := mX11_holds) (pc := 144) tk_c11 (by decide) dX11_holds_144 tk_RX11_35 rfl ek10 ?_
        refine tq_iload (M := mX11_holds) (pc := 147) dX11_holds_147 rfl ?_
        obtain ⟨x11, ex11, hf⟩ := tq_be hf
        refine tq_ialdF (M := mX11_holds) (pc := 149) dX11_holds_149 ex11 ?_
        refine tq_aload_n (M := mX11_holds) (pc := 150) dX11_holds_150 rfl ?_
        obtain ⟨x12, ex12, hf⟩ := tq_be hf
        refine tq_getL (M := mX11_holds) (pc := 151) tk_c11 (by decide) dX11_holds_151 tk_RX11_325 rfl ex12 ?_
        obtain ⟨⟨⟩, eu14, hf⟩ := tq_be hf
        obtain ⟨fsu14, eu14⟩ := tq_is_s eu14
        obtain ⟨v13, ev13, hf⟩ := tq_be hf
        refine tq_calV (M := mX11_holds) (pc := 154) (S := []) tk_y_X11_valueOf tk_v_X11_valueOf tk_RX11_289 dX11_holds_154 [.int x11, .long x12] rfl (S0 := _) rfl eu14 rfl (Nat.le_of_ble_eq_true rfl) (d1 := d - 1) (b1 := 0) (s1 := 0) (bc' := 0) (bs' := 0) (Q1 := fun r h9 => r = .inl (some (.int v13)) ∧ hh = h9) (by omega) rfl rfl (w_X11_valueOf (by omega) ev13 (fun _ _ q => q)) (fun E h9 q => nomatch (show (Sum.inr E : tq_R) = Sum.inl _ from q.1)) (fun r9 h9 q => ?_)
        obtain ⟨q1, rfl⟩ := q
        cases (show (Sum.inl r9 : tq_R) = Sum.inl (some (.int v13)) from q1)
        refine tq_goto (M := mX11_holds) (pc := 157) (tgt := 161) dX11_holds_157 (by decide) ?_
        cases (Option.some.inj hf)
        exact HJ139
set_option maxHeartbeats 4000000 in
set_option maxRecDepth 20000 in
theorem w_X11_holds {l : Launch} {d : Nat} (hd9 : 2 ≤ d) {t : Nat} {a1 : Int32} {a2 : Int32} {a3 : Int32} {a4 : Int32} {h : tq_H} {o : Int32} {Q : tq_R → tq_H → Prop} (hf : f_X11_holds t a1 a2 a3 a4 h = some o) (hQ : ∀ r h9, r = .inl (some (.int o)) ∧ h = h9 → Q r h9) : tq_C l yX11_holds cX11_holds 11 (some .boolean) d 0 0 [.ref t, .int a1, .int a2, .int a3, .int a4] h Q := by
  refine tq_body (y := yX11_holds) false (by decide +kernel) (fun z => by cases z) (Nat.le_of_ble_eq_true rfl) ?_
  show tq_W l mX11_holds d 0 0 Q 0 [(0, .ref t), (1, .int a1), (2, .int a2), (3, .int a3), (4, .int a4)] [] h
  refine tq_aload_n (M := mX11_holds) (pc := 0) dX11_holds_0 rfl ?_
  obtain ⟨k1, ek1, hf⟩ := tq_be hf
  refine tq_getR (M := mX11_holds) (pc := 1) tk_c11 (by decide) dX11_holds_1 tk_RX11_77 rfl ek1 ?_
  refine tq_iload_n (M := mX11_holds) (pc := 4) dX11_holds_4 rfl ?_
  obtain ⟨x2, ex2, hf⟩ := tq_be hf
  refine tq_ialdF (M := mX11_holds) (pc := 5) dX11_holds_5 ex2 ?_
  refine tq_istore (M := mX11_holds) (pc := 6) dX11_holds_6 (L2 := [(5, .int x2), (0, .ref t), (1, .int a1), (2, .int a2), (3, .int a3), (4, .int a4)]) (by decide) rfl ?_
  refine tq_iload (M := mX11_holds) (pc := 8) dX11_holds_8 rfl ?_
  refine tq_if_ne (M := mX11_holds) (pc := 10) (tgt := 34) dX11_holds_10 (by decide) (fun cc => ?_) (fun cc => ?_)
  · have hf := tq_ifn hf cc
    refine tq_iload (M := mX11_holds) (pc := 34) dX11_holds_34 rfl ?_
    refine tq_iconst (M := mX11_holds) (pc := 36) dX11_holds_36 tk_ki_1 ?_
    refine tq_icmp_ne (M := mX11_holds) (pc := 37) (tgt := 52) dX11_holds_37 (by decide) (fun cc => ?_) (fun cc => ?_)
    · have hf := tq_ifn hf cc
      refine tq_aload_n (M := mX11_holds) (pc := 52) dX11_holds_52 rfl ?_
      obtain ⟨k3, ek3, hf⟩ := tq_be hf
      refine tq_getR (M := mX11_holds) (pc := 53) tk_c11 (by decide) dX11_holds_53 tk_RX11_80 rfl ek3 ?_
      refine tq_bipush (M := mX11_holds) (pc := 56) dX11_holds_56 tk_kb_60 ?_
      refine tq_aload_n (M := mX11_holds) (pc := 58) dX11_holds_58 rfl ?_
      obtain ⟨k4, ek4, hf⟩ := tq_be hf
      refine tq_getR (M := mX11_holds) (pc := 59) tk_c11 (by decide) dX11_holds_59 tk_RX11_77 rfl ek4 ?_
      refine tq_iload_n (M := mX11_holds) (pc := 62) dX11_holds_62 rfl ?_
      refine tq_iconst (M := mX11_holds) (pc := 63) dX11_holds_63 tk_ki_1 ?_
      refine tq_iadd (M := mX11_holds) (pc := 64) dX11_holds_64 ?_
      obtain ⟨x5, ex5, hf⟩ := tq_be hf
      refine tq_ialdF (M := mX11_holds) (pc := 65) dX11_holds_65 ex5 ?_
      refine tq_imul (M := mX11_holds) (pc := 66) dX11_holds_66 ?_
      refine tq_iload_n (M := mX11_holds) (pc := 67) dX11_holds_67 rfl ?_
      refine tq_iadd (M := mX11_holds) (pc := 68) dX11_holds_68 ?_
      obtain ⟨x6, ex6, hf⟩ := tq_be hf
      refine tq_laldF (M := mX11_holds) (pc := 69) dX11_holds_69 ex6 ?_
      refine tq_lstore (M := mX11_holds) (pc := 70) dX11_holds_70 (L2 := [(6, .long x6), (5, .int x2), (0, .ref t), (1, .int a1), (2, .int a2), (3, .int a3), (4, .int a4)]) (by decide) rfl ?_
      refine tq_iload (M := mX11_holds) (pc := 72) dX11_holds_72 rfl ?_
      refine tq_iconst (M := mX11_holds) (pc := 74) dX11_holds_74 tk_ki_4 ?_
      refine tq_icmp_eq (M := mX11_holds) (pc := 75) (tgt := 110) dX11_holds_75 (by decide) (fun cc => ?_) (fun cc => ?_)
      · have hf := tq_ifp hf cc
        refine tq_iconst (M := mX11_holds) (pc := 110) dX11_holds_110 tk_ki_0 ?_
        refine tq_istore (M := mX11_holds) (pc := 111) dX11_holds_111 (L2 := [(8, .int (0 : Int32)), (6, .long x6), (5, .int x2), (0, .ref t), (1, .int a1), (2, .int a2), (3, .int a3), (4, .int a4)]) (by decide) rfl ?_
        refine tq_iconst (M := mX11_holds) (pc := 113) dX11_holds_113 tk_ki_0 ?_
        refine tq_istore (M := mX11_holds) (pc := 114) dX11_holds_114 (L2 := [(9, .int (0 : Int32)), (8, .int (0 : Int32)), (6, .long x6), (5, .int x2), (0, .ref t), (1, .int a1), (2, .int a2), (3, .int a3), (4, .int a4)]) (by decide) rfl ?_
        obtain ⟨o23, eo23, hf⟩ := tq_be hf
        refine tq_pick (L2 := [(0, .ref t), (1, .int a1), (6, .long x6), (8, .int (0 : Int32)), (9, .int (0 : Int32))]) [4, 5, 2, 1, 0] rfl ?_
        refine l_X11_holds_116 (by omega) t a1 x6 h _ (0 : Int32) (0 : Int32) _ eo23 ?_
        refine tq_iload (M := mX11_holds) (pc := 211) dX11_holds_211 rfl ?_
        obtain ⟨z24, ez24, hf⟩ := tq_be hf
        refine tq_zretB (M := mX11_holds) (pc := 213) dX11_holds_213 rfl ez24 ?_
        cases (Option.some.inj hf)
        exact hQ _ _ ⟨rfl, rfl⟩
      · have hf := tq_ifn hf cc
        refine tq_lload (M := mX11_holds) (pc := 78) dX11_holds_78 rfl ?_
        refine tq_lconst (M := mX11_holds) (pc := 80) dX11_holds_80 tk_kl_0 ?_
        refine tq_lcmp (M := mX11_holds) (pc := 81) dX11_holds_81 ?_
        obtain ⟨p25, ep25, hf⟩ := tq_le hf
        have HJ82 : tq_W l mX11_holds d 0 0 Q 90 [(5, .int x2)] [.int p25] h := by
          refine tq_iload (M := mX11_holds) (pc := 90) dX11_holds_90 rfl ?_
          refine tq_iconst (M := mX11_holds) (pc := 92) dX11_holds_92 tk_ki_2 ?_
          obtain ⟨p26, ep26, hf⟩ := tq_le hf
          have HJ93 : tq_W l mX11_holds d 0 0 Q 101 [] [.int p26, .int p25] h := by
            obtain ⟨p27, ep27, hf⟩ := tq_le hf
            have HJ101 : tq_W l mX11_holds d 0 0 Q 109 [] [.int p27] h := by
              obtain ⟨z28, ez28, hf⟩ := tq_be hf
              refine tq_zretB (M := mX11_holds) (pc := 109) dX11_holds_109 rfl ez28 ?_
              cases (Option.some.inj hf)
              exact hQ _ _ ⟨rfl, rfl⟩
            refine tq_icmp_ne (M := mX11_holds) (pc := 101) (tgt := 108) dX11_holds_101 (by decide) (fun cc => ?_) (fun cc => ?_)
            · have hf := tq_ifn ep27.symm cc
              refine tq_iconst (M := mX11_holds) (pc := 108) dX11_holds_108 tk_ki_0 ?_
              cases hf
              exact HJ101
            · have hf := tq_ifp ep27.symm cc
              refine tq_iconst (M := mX11_holds) (pc := 104) dX11_holds_104 tk_ki_1 ?_
              refine tq_goto (M := mX11_holds) (pc := 105) (tgt := 109) dX11_holds_105 (by decide) ?_
              cases hf
              exact HJ101
          refine tq_icmp_ne (M := mX11_holds) (pc := 93) (tgt := 100) dX11_holds_93 (by decide) (fun cc => ?_) (fun cc => ?_)
          · have hf := tq_ifn ep26.symm cc
            refine tq_iconst (M := mX11_holds) (pc := 100) dX11_holds_100 tk_ki_0 ?_
            refine tq_pick (L2 := []) [] rfl ?_
            cases hf
            exact HJ93
          · have hf := tq_ifp ep26.symm cc
            refine tq_iconst (M := mX11_holds) (pc := 96) dX11_holds_96 tk_ki_1 ?_
            refine tq_goto (M := mX11_holds) (pc := 97) (tgt := 101) dX11_holds_97 (by decide) ?_
            refine tq_pick (L2 := []) [] rfl ?_
            cases hf
            exact HJ93
        refine tq_if_eq (M := mX11_holds) (pc := 82) (tgt := 89) dX11_holds_82 (by decide) (fun cc => ?_) (fun cc => ?_)
        · have hf := tq_ifp ep25.symm cc
          refine tq_iconst (M := mX11_holds) (pc := 89) dX11_holds_89 tk_ki_0 ?_
          refine tq_pick (L2 := [(5, .int x2)]) [1] rfl ?_
          cases hf
          exact HJ82
        · have hf := tq_ifn ep25.symm cc
          refine tq_iconst (M := mX11_holds) (pc := 85) dX11_holds_85 tk_ki_1 ?_
          refine tq_goto (M := mX11_holds) (pc := 86) (tgt := 90) dX11_holds_86 (by decide) ?_
          refine tq_pick (L2 := [(5, .int x2)]) [1] rfl ?_
          cases hf
          exact HJ82
    · have hf := tq_ifp hf cc
      refine tq_iload_n (M := mX11_holds) (pc := 40) dX11_holds_40 rfl ?_
      refine tq_iload (M := mX11_holds) (pc := 41) dX11_holds_41 rfl ?_
      obtain ⟨p29, ep29, hf⟩ := tq_le hf
      have HJ43 : tq_W l mX11_holds d 0 0 Q 51 [] [.int p29] h := by
        obtain ⟨z30, ez30, hf⟩ := tq_be hf
        refine tq_zretB (M := mX11_holds) (pc := 51) dX11_holds_51 rfl ez30 ?_
        cases (Option.some.inj hf)
        exact hQ _ _ ⟨rfl, rfl⟩
      refine tq_icmp_ne (M := mX11_holds) (pc := 43) (tgt := 50) dX11_holds_43 (by decide) (fun cc => ?_) (fun cc => ?_)
      · have hf := tq_ifn ep29.symm cc
        refine tq_iconst (M := mX11_holds) (pc := 50) dX11_holds_50 tk_ki_0 ?_
        refine tq_pick (L2 := []) [] rfl ?_
        cases hf
        exact HJ43
      · have hf := tq_ifp ep29.symm cc
        refine tq_iconst (M := mX11_holds) (pc := 46) dX11_holds_46 tk_ki_1 ?_
        refine tq_goto (M := mX11_holds) (pc := 47) (tgt := 51) dX11_holds_47 (by decide) ?_
        refine tq_pick (L2 := []) [] rfl ?_
        cases hf
        exact HJ43
  · have hf := tq_ifp hf cc
    refine tq_aload_n (M := mX11_holds) (pc := 13) dX11_holds_13 rfl ?_
    obtain ⟨k31, ek31, hf⟩ := tq_be hf
    refine tq_getR (M := mX11_holds) (pc := 14) tk_c11 (by decide) dX11_holds_14 tk_RX11_77 rfl ek31 ?_
    refine tq_iload_n (M := mX11_holds) (pc := 17) dX11_holds_17 rfl ?_
    refine tq_iconst (M := mX11_holds) (pc := 18) dX11_holds_18 tk_ki_2 ?_
    refine tq_iadd (M := mX11_holds) (pc := 19) dX11_holds_19 ?_
    obtain ⟨x32, ex32, hf⟩ := tq_be hf
    refine tq_ialdF (M := mX11_holds) (pc := 20) dX11_holds_20 ex32 ?_
    refine tq_iload_n (M := mX11_holds) (pc := 21) dX11_holds_21 rfl ?_
    refine tq_aload_n (M := mX11_holds) (pc := 22) dX11_holds_22 rfl ?_
    obtain ⟨k33, ek33, hf⟩ := tq_be hf
    refine tq_getR (M := mX11_holds) (pc := 23) tk_c11 (by decide) dX11_holds_23 tk_RX11_77 rfl ek33 ?_
    refine tq_iload_n (M := mX11_holds) (pc := 26) dX11_holds_26 rfl ?_
    refine tq_iconst (M := mX11_holds) (pc := 27) dX11_holds_27 tk_ki_3 ?_
    refine tq_iadd (M := mX11_holds) (pc := 28) dX11_holds_28 ?_
    obtain ⟨x34, ex34, hf⟩ := tq_be hf
    refine tq_ialdF (M := mX11_holds) (pc := 29) dX11_holds_29 ex34 ?_
    obtain ⟨v35, ev35, hf⟩ := tq_be hf
    refine tq_calS (M := mX11_holds) (pc := 30) (S := []) tk_y_X11_compares tk_s_X11_compares tk_RX11_329 dX11_holds_30 [.int x32, .int a3, .int x34] rfl (Nat.le_of_ble_eq_true rfl) (d1 := d - 1) (b1 := 0) (s1 := 0) (bc' := 0) (bs' := 0) (Q1 := fun r h9 => r = .inl (some (.int v35)) ∧ h = h9) (by omega) rfl rfl (w_X11_compares (by omega) ev35 (fun _ _ q => q)) (fun E h9 q => nomatch (show (Sum.inr E : tq_R) = Sum.inl _ from q.1)) (fun r9 h9 q => ?_)
    obtain ⟨q1, rfl⟩ := q
    cases (show (Sum.inl r9 : tq_R) = Sum.inl (some (.int v35)) from q1)
    obtain ⟨z36, ez36, hf⟩ := tq_be hf
    refine tq_zretB (M := mX11_holds) (pc := 33) dX11_holds_33 rfl ez36 ?_
    cases (Option.some.inj hf)
    exact hQ _ _ ⟨rfl, rfl⟩
abbrev mX11_stepped : tq_M := (RX11, cX11_stepped, 11, (some .long), false, [], none)
def f_X11_stepped_b30 (i0 : Nat) (i1 : Int32) (i3 : Int32) (hh : tq_H) (s : Int64 × Int32) : Option ((Int64 × Int32) ⊕ (Int64)) := match s with
  | (y4, y6) =>
    (tq_gi hh i0 11 11).bind fun x7 =>
    if y6 ≥ x7 then
      some (.inr y4)
    else
      (tq_gr hh i0 11 26).bind fun k8 =>
      (tq_ai hh k8 (((3 : Int32) * i1) + (1 : Int32))).bind fun x9 =>
      (tq_gr hh i0 11 12).bind fun k10 =>
      (tq_ai hh k10 y6).bind fun x11 =>
      (tq_is hh i0 11).bind fun _ =>
      (f_X11_passes i0 x9 x11 hh).bind fun v12 =>
      (if v12 = 0 then
        (tq_gr hh i0 11 12).bind fun k14 =>
        (tq_ai hh k14 y6).bind fun x15 =>
        some (((1 : Int64) <<< (x15.toInt64 &&& 63)) ^^^ (-1 : Int64))
      else
        some (-1 : Int64)).bind fun p16 =>
      tq_let ((y4 &&& p16)) fun x17 =>
      tq_let (y6 + (1 : Int32)) fun x18 =>
      some (.inl (x17, x18))
def f_X11_stepped_b148 (i0 : Nat) (i1 : Int32) (i4 : Int64) (i6 : Int32) (i7 : Int32) (s : Int32 × Int32 × tq_H) : Option ((Int32 × Int32 × tq_H) ⊕ (Int32 × tq_H)) := match s with
  | (y8, y9, hh) =>
    (tq_gi hh i0 11 11).bind fun x23 =>
    if y9 ≥ x23 then
      some (.inr (y8, hh))
    else
      (tq_gr hh i0 11 12).bind fun k24 =>
      (if i6 = 0 then
        some y9
      else
        (tq_gi hh i0 11 11).bind fun x25 =>
        some ((x25 - (1 : Int32)) - y9)).bind fun p26 =>
      (tq_ai hh k24 p26).bind fun x27 =>
      (if (lg_cmp ((i4 >>> (x27.toInt64 &&& 63)) &&& (1 : Int64)) (1 : Int64)) = 0 then
        (tq_gr hh i0 11 35).bind fun k28 =>
        (tq_si hh k28 y8 x27).bind fun w29 =>
        tq_let (y8 + (1 : Int32)) fun x30 =>
        some (x30, w29)
      else
        some (y8, hh)).bind fun p31 =>
      tq_let (y9 + (1 : Int32)) fun x32 =>
      some (.inl (p31.1, x32, p31.2))
def f_X11_stepped_b216 (i0 : Nat) (i1 : Int32) (i6 : Int32) (i7 : Int32) (i8 : Int32) (hh : tq_H) (s : Int64 × Int32) : Option ((Int64 × Int32) ⊕ (Int64)) := match s with
  | (y4, y9) =>
    if y9 ≥ i8 then
      some (.inr y4)
    else
      (tq_gr hh i0 11 35).bind fun k34 =>
      (tq_ai hh k34 y9).bind fun x35 =>
      (tq_is hh i0 11).bind fun _ =>
      (f_X11_holds i0 ((4 : Int32) * (((2 : Int32) * i1) + i7)) x35 (y9 + (1 : Int32)) i8 hh).bind fun v36 =>
      (if v36 = 0 then
        (tq_gr hh i0 11 35).bind fun k38 =>
        (tq_ai hh k38 y9).bind fun x39 =>
        some (((1 : Int64) <<< (x39.toInt64 &&& 63)) ^^^ (-1 : Int64))
      else
        some (-1 : Int64)).bind fun p40 =>
      tq_let ((y4 &&& p40)) fun x41 =>
      tq_let (y9 + (1 : Int32)) fun x42 =>
      some (.inl (x41, x42))
def f_X11_stepped_b131 (i0 : Nat) (i1 : Int32) (i6 : Int32) (s : Int64 × Int32 × tq_H) : Option ((Int64 × Int32 × tq_H) ⊕ (Int64 × tq_H)) := match s with
  | (y4, y7, hh) =>
    (tq_gr hh i0 11 27).bind fun k21 =>
    (tq_ai hh k21 i1).bind fun x22 =>
    if y7 ≥ x22 then
      some (.inr (y4, hh))
    else
      (tq_loop (f_X11_stepped_b148 i0 i1 y4 i6 y7) tq_N ((0 : Int32), (0 : Int32), hh)).bind fun o33 =>
      (tq_loop (f_X11_stepped_b216 i0 i1 i6 y7 o33.1 o33.2) tq_N (y4, (0 : Int32))).bind fun o43 =>
      tq_let (y7 + (1 : Int32)) fun x44 =>
      some (.inl (o43, x44, o33.2))
def f_X11_stepped (t : Nat) (a1 : Int32) (a2 : Int32) (h : tq_H) : Option (Int64 × tq_H) :=
  (tq_gr h t 11 26).bind fun k1 =>
  (tq_ai h k1 ((3 : Int32) * a1)).bind fun x2 =>
  (tq_gr h t 11 26).bind fun k3 =>
  (tq_ai h k3 (((3 : Int32) * a1) + (2 : Int32))).bind fun x4 =>
  (tq_is h t 11).bind fun _ =>
  (f_X11_axis t x2 x4 a2 h).bind fun v5 =>
  (tq_loop (f_X11_stepped_b30 t a1 x2 h) tq_N (v5, (0 : Int32))).bind fun o19 =>
  tq_let (if x2 = (2 : Int32) then (1 : Int32) else (if x2 = (5 : Int32) then (1 : Int32) else if x2 = (6 : Int32) then (1 : Int32) else if x2 = (8 : Int32) then (1 : Int32) else if x2 = (10 : Int32) then (1 : Int32) else (0 : Int32))) fun p20 =>
  (tq_loop (f_X11_stepped_b131 t a1 p20) tq_N (o19, (0 : Int32), h)).bind fun o45 =>
  some (o45.1, o45.2)
set_option maxHeartbeats 4000000 in
theorem l_X11_stepped_30 {l : Launch} {d : Nat} {Q : tq_R → tq_H → Prop} (hd9 : 3 ≤ d) (i0 : Nat) (i1 : Int32) (i3 : Int32) (hh : tq_H) : ∀ (n : Nat) (y4 : Int64) (y6 : Int32) (o : Int64), tq_loop (f_X11_stepped_b30 i0 i1 i3 hh) n (y4, y6) = some o → tq_W l mX11_stepped d 0 0 Q 93 [(0, .ref i0), (1, .int i1), (3, .int i3), (4, .long o)] [] hh → tq_W l mX11_stepped d 0 0 Q 30 [(0, .ref i0), (1, .int i1), (3, .int i3), (4, .long y4), (6, .int y6)] [] hh := by
  intro n
  induction n with
  | zero => intro y4 y6 o hl; cases hl
  | succ n ih =>
    intro y4 y6 o hl hk
    obtain ⟨oo, hf, ho⟩ := tq_loop_s hl
    refine tq_iload (M := mX11_stepped) (pc := 30) dX11_stepped_30 rfl ?_
    refine tq_aload_n (M := mX11_stepped) (pc := 32) dX11_stepped_32 rfl ?_
    obtain ⟨x7, ex7, hf⟩ := tq_be hf
    refine tq_getI (M := mX11_stepped) (pc := 33) tk_c11 (by decide) dX11_stepped_33 tk_RX11_173 rfl ex7 ?_
    refine tq_icmp_ge (M := mX11_stepped) (pc := 36) (tgt := 93) dX11_stepped_36 (by decide) (fun cc => ?_) (fun cc => ?_)
    · have hf := tq_ifp hf cc
      refine tq_pick (L2 := [(0, .ref i0), (1, .int i1), (3, .int i3), (4, .long y4)]) [0, 1, 2, 3] rfl ?_
      cases (Option.some.inj hf)
      cases (tq_lx ho)
      exact hk
    · have hf := tq_ifn hf cc
      refine tq_lload (M := mX11_stepped) (pc := 39) dX11_stepped_39 rfl ?_
      refine tq_aload_n (M := mX11_stepped) (pc := 41) dX11_stepped_41 rfl ?_
      refine tq_aload_n (M := mX11_stepped) (pc := 42) dX11_stepped_42 rfl ?_
      obtain ⟨k8, ek8, hf⟩ := tq_be hf
      refine tq_getR (M := mX11_stepped) (pc := 43) tk_c11 (by decide) dX11_stepped_43 tk_RX11_71 rfl ek8 ?_
      refine tq_iconst (M := mX11_stepped) (pc := 46) dX11_stepped_46 tk_ki_3 ?_
      refine tq_iload_n (M := mX11_stepped) (pc := 47) dX11_stepped_47 rfl ?_
      refine tq_imul (M := mX11_stepped) (pc := 48) dX11_stepped_48 ?_
      refine tq_iconst (M := mX11_stepped) (pc := 49) dX11_stepped_49 tk_ki_1 ?_
      refine tq_iadd (M := mX11_stepped) (pc := 50) dX11_stepped_50 ?_
      obtain ⟨x9, ex9, hf⟩ := tq_be hf
      refine tq_ialdF (M := mX11_stepped) (pc := 51) dX11_stepped_51 ex9 ?_
      refine tq_aload_n (M := mX11_stepped) (pc := 52) dX11_stepped_52 rfl ?_
      obtain ⟨k10, ek10, hf⟩ := tq_be hf
      refine tq_getR (M := mX11_stepped) (pc := 53) tk_c11 (by decide) dX11_stepped_53 tk_RX11_35 rfl ek10 ?_
      refine tq_iload (M := mX11_stepped) (pc := 56) dX11_stepped_56 rfl ?_
      obtain ⟨x11, ex11, hf⟩ := tq_be hf
      refine tq_ialdF (M := mX11_stepped) (pc := 58) dX11_stepped_58 ex11 ?_
      obtain ⟨⟨⟩, eu13, hf⟩ := tq_be hf
      obtain ⟨fsu13, eu13⟩ := tq_is_s eu13
      obtain ⟨v12, ev12, hf⟩ := tq_be hf
      refine tq_calV (M := mX11_stepped) (pc := 59) (S := [.long y4]) tk_y_X11_passes tk_v_X11_passes tk_RX11_336 dX11_stepped_59 [.int x9, .int x11] rfl (S0 := _) rfl eu13 rfl (Nat.le_of_ble_eq_true rfl) (d1 := d - 1) (b1 := 0) (s1 := 0) (bc' := 0) (bs' := 0) (Q1 := fun r h9 => r = .inl (some (.int v12)) ∧ hh = h9) (by omega) rfl rfl (w_X11_passes (by omega) ev12 (fun _ _ q => q)) (fun E h9 q => nomatch (show (Sum.inr E : tq_R) = Sum.inl _ from q.1)) (fun r9 h9 q => ?_)
      obtain ⟨q1, rfl⟩ := q
      cases (show (Sum.inl r9 : tq_R) = Sum.inl (some (.int v12)) from q1)
      obtain ⟨p16, ep16, hf⟩ := tq_be hf
      have HJ62 : tq_W l mX11_stepped d 0 0 Q 84 [(0, .ref i0), (1, .int i1), (3, .int i3), (6, .int y6)] [.long p16, .long y4] hh := by
        refine tq_land (M := mX11_stepped) (pc := 84) dX11_stepped_84 ?_
        obtain ⟨x17, ex17, hf⟩ := tq_le hf
        refine tq_lstore (M := mX11_stepped) (pc := 85) dX11_stepped_85 (L2 := [(4, .long x17), (0, .ref i0), (1, .int i1), (3, .int i3), (6, .int y6)]) (by decide) (by rw [ex17]; rfl) ?_
        obtain ⟨x18, ex18, hf⟩ := tq_le hf
        refine tq_iinc (M := mX11_stepped) (pc := 87) (v := x18) (L2 := [(6, .int x18), (4, .long x17), (0, .ref i0), (1, .int i1), (3, .int i3)]) dX11_stepped_87 rfl (by rw [ex18, tk_ki_1]) (by decide) rfl ?_
        refine tq_goto (M := mX11_stepped) (pc := 90) (tgt := 30) dX11_stepped_90 (by decide) ?_
        refine tq_pick (L2 := [(0, .ref i0), (1, .int i1), (3, .int i3), (4, .long x17), (6, .int x18)]) [2, 3, 4, 1, 0] rfl ?_
        cases (Option.some.inj hf)
        exact ih _ _ o (tq_lc ho) hk
      refine tq_if_eq (M := mX11_stepped) (pc := 62) (tgt := 71) dX11_stepped_62 (by decide) (fun cc => ?_) (fun cc => ?_)
      · have hf := tq_ifp ep16 cc
        refine tq_lconst (M := mX11_stepped) (pc := 71) dX11_stepped_71 tk_kl_1 ?_
        refine tq_aload_n (M := mX11_stepped) (pc := 72) dX11_stepped_72 rfl ?_
        obtain ⟨k14, ek14, hf⟩ := tq_be hf
        refine tq_getR (M := mX11_stepped) (pc := 73) tk_c11 (by decide) dX11_stepped_73 tk_RX11_35 rfl ek14 ?_
        refine tq_iload (M := mX11_stepped) (pc := 76) dX11_stepped_76 rfl ?_
        obtain ⟨x15, ex15, hf⟩ := tq_be hf
        refine tq_ialdF (M := mX11_stepped) (pc := 78) dX11_stepped_78 ex15 ?_
        refine tq_lshl (M := mX11_stepped) (pc := 79) dX11_stepped_79 ?_
        refine tq_ldc2 (M := mX11_stepped) (pc := 80) dX11_stepped_80 tk_RX11_339 ?_
        refine tq_lxor (M := mX11_stepped) (pc := 83) dX11_stepped_83 ?_
        refine tq_pick (L2 := [(0, .ref i0), (1, .int i1), (3, .int i3), (6, .int y6)]) [0, 1, 2, 4] rfl ?_
        cases (Option.some.inj hf)
        exact HJ62
      · have hf := tq_ifn ep16 cc
        refine tq_ldc2 (M := mX11_stepped) (pc := 65) dX11_stepped_65 tk_RX11_339 ?_
        refine tq_goto (M := mX11_stepped) (pc := 68) (tgt := 84) dX11_stepped_68 (by decide) ?_
        refine tq_pick (L2 := [(0, .ref i0), (1, .int i1), (3, .int i3), (6, .int y6)]) [0, 1, 2, 4] rfl ?_
        cases (Option.some.inj hf)
        exact HJ62
set_option maxHeartbeats 4000000 in
theorem l_X11_stepped_148 {l : Launch} {d : Nat} {Q : tq_R → tq_H → Prop} (hd9 : 3 ≤ d) (i0 : Nat) (i1 : Int32) (i4 : Int64) (i6 : Int32) (i7 : Int32) : ∀ (n : Nat) (y8 : Int32) (y9 : Int32) (hh : tq_H) (o : Int32 × tq_H), tq_loop (f_X11_stepped_b148 i0 i1 i4 i6 i7) n (y8, y9, hh) = some o → tq_W l mX11_stepped d 0 0 Q 213 [(0, .ref i0), (1, .int i1), (4, .long i4), (6, .int i6), (7, .int i7), (8, .int o.1)] [] o.2 → tq_W l mX11_stepped d 0 0 Q 148 [(0, .ref i0), (1, .int i1), (4, .long i4), (6, .int i6), (7, .int i7), (8, .int y8), (9, .int y9)] [] hh := by
  intro n
  induction n with
  | zero => intro y8 y9 hh o hl; cases hl
  | succ n ih =>
    intro y8 y9 hh o hl hk
    obtain ⟨oo, hf, ho⟩ := tq_loop_s hl
    refine tq_iload (M := mX11_stepped) (pc := 148) dX11_stepped_148 rfl ?_
    refine tq_aload_n (M := mX11_stepped) (pc := 150) dX11_stepped_150 rfl ?_
    obtain ⟨x23, ex23, hf⟩ := tq_be hf
    refine tq_getI (M := mX11_stepped) (pc := 151) tk_c11 (by decide) dX11_stepped_151 tk_RX11_173 rfl ex23 ?_
    refine tq_icmp_ge (M := mX11_stepped) (pc := 154) (tgt := 213) dX11_stepped_154 (by decide) (fun cc => ?_) (fun cc => ?_)
    · have hf := tq_ifp hf cc
      refine tq_pick (L2 := [(0, .ref i0), (1, .int i1), (4, .long i4), (6, .int i6), (7, .int i7), (8, .int y8)]) [0, 1, 2, 3, 4, 5] rfl ?_
      cases (Option.some.inj hf)
      cases (tq_lx ho)
      exact hk
    · have hf := tq_ifn hf cc
      refine tq_aload_n (M := mX11_stepped) (pc := 157) dX11_stepped_157 rfl ?_
      obtain ⟨k24, ek24, hf⟩ := tq_be hf
      refine tq_getR (M := mX11_stepped) (pc := 158) tk_c11 (by decide) dX11_stepped_158 tk_RX11_35 rfl ek24 ?_
      refine tq_iload (M := mX11_stepped) (pc := 161) dX11_stepped_161 rfl ?_
      obtain ⟨p26, ep26, hf⟩ := tq_be hf
      have HJ163 : tq_W l mX11_stepped d 0 0 Q 180 [(0, .ref i0), (1, .int i1), (4, .long i4), (6, .int i6), (7, .int i7), (8, .int y8), (9, .int y9)] [.int p26, .ref k24] hh := by
        obtain ⟨x27, ex27, hf⟩ := tq_be hf
        refine tq_ialdF (M := mX11_stepped) (pc := 180) dX11_stepped_180 ex27 ?_
        refine tq_istore (M := mX11_stepped) (pc := 181) dX11_stepped_181 (L2 := [(10, .int x27), (0, .ref i0), (1, .int i1), (4, .long i4), (6, .int i6), (7, .int i7), (8, .int y8), (9, .int y9)]) (by decide) rfl ?_
        refine tq_lload (M := mX11_stepped) (pc := 183) dX11_stepped_183 rfl ?_
        refine tq_iload (M := mX11_stepped) (pc := 185) dX11_stepped_185 rfl ?_
        refine tq_lshr (M := mX11_stepped) (pc := 187) dX11_stepped_187 ?_
        refine tq_lconst (M := mX11_stepped) (pc := 188) dX11_stepped_188 tk_kl_1 ?_
        refine tq_land (M := mX11_stepped) (pc := 189) dX11_stepped_189 ?_
        refine tq_lconst (M := mX11_stepped) (pc := 190) dX11_stepped_190 tk_kl_1 ?_
        refine tq_lcmp (M := mX11_stepped) (pc := 191) dX11_stepped_191 ?_
        obtain ⟨p31, ep31, hf⟩ := tq_be hf
        have HJ192 : tq_W l mX11_stepped d 0 0 Q 207 [(0, .ref i0), (1, .int i1), (4, .long i4), (6, .int i6), (7, .int i7), (8, .int p31.1), (9, .int y9)] [] p31.2 := by
          obtain ⟨x32, ex32, hf⟩ := tq_le hf
          refine tq_iinc (M := mX11_stepped) (pc := 207) (v := x32) (L2 := [(9, .int x32), (0, .ref i0), (1, .int i1), (4, .long i4), (6, .int i6), (7, .int i7), (8, .int p31.1)]) dX11_stepped_207 rfl (by rw [ex32, tk_ki_1]) (by decide) rfl ?_
          refine tq_goto (M := mX11_stepped) (pc := 210) (tgt := 148) dX11_stepped_210 (by decide) ?_
          refine tq_pick (L2 := [(0, .ref i0), (1, .int i1), (4, .long i4), (6, .int i6), (7, .int i7), (8, .int p31.1), (9, .int x32)]) [1, 2, 3, 4, 5, 6, 0] rfl ?_
          cases (Option.some.inj hf)
          exact ih _ _ _ o (tq_lc ho) hk
        refine tq_if_ne (M := mX11_stepped) (pc := 192) (tgt := 207) dX11_stepped_192 (by decide) (fun cc => ?_) (fun cc => ?_)
        · have hf := tq_ifn ep31 cc
          refine tq_pick (L2 := [(0, .ref i0), (1, .int i1), (4, .long i4), (6, .int i6), (7, .int i7), (8, .int y8), (9, .int y9)]) [1, 2, 3, 4, 5, 6, 7] rfl ?_
          cases (Option.some.inj hf)
          exact HJ192
        · have hf := tq_ifp ep31 cc
          refine tq_aload_n (M := mX11_stepped) (pc := 195) dX11_stepped_195 rfl ?_
          obtain ⟨k28, ek28, hf⟩ := tq_be hf
          refine tq_getR (M := mX11_stepped) (pc := 196) tk_c11 (by decide) dX11_stepped_196 tk_RX11_90 rfl ek28 ?_
          refine tq_iload (M := mX11_stepped) (pc := 199) dX11_stepped_199 rfl ?_
          refine tq_iload (M := mX11_stepped) (pc := 201) dX11_stepped_201 rfl ?_
          obtain ⟨w29, ew29, hf⟩ := tq_be hf
          refine tq_iastF (M := mX11_stepped) (pc := 203) dX11_stepped_203 ew29 ?_
          obtain ⟨x30, ex30, hf⟩ := tq_le hf
          refine tq_iinc (M := mX11_stepped) (pc := 204) (v := x30) (L2 := [(8, .int x30), (10, .int x27), (0, .ref i0), (1, .int i1), (4, .long i4), (6, .int i6), (7, .int i7), (9, .int y9)]) dX11_stepped_204 rfl (by rw [ex30, tk_ki_1]) (by decide) rfl ?_
          refine tq_pick (L2 := [(0, .ref i0), (1, .int i1), (4, .long i4), (6, .int i6), (7, .int i7), (8, .int x30), (9, .int y9)]) [2, 3, 4, 5, 6, 0, 7] rfl ?_
          cases (Option.some.inj hf)
          exact HJ192
      refine tq_if_eq (M := mX11_stepped) (pc := 163) (tgt := 178) dX11_stepped_163 (by decide) (fun cc => ?_) (fun cc => ?_)
      · have hf := tq_ifp ep26 cc
        refine tq_iload (M := mX11_stepped) (pc := 178) dX11_stepped_178 rfl ?_
        cases (Option.some.inj hf)
        exact HJ163
      · have hf := tq_ifn ep26 cc
        refine tq_aload_n (M := mX11_stepped) (pc := 166) dX11_stepped_166 rfl ?_
        obtain ⟨x25, ex25, hf⟩ := tq_be hf
        refine tq_getI (M := mX11_stepped) (pc := 167) tk_c11 (by decide) dX11_stepped_167 tk_RX11_173 rfl ex25 ?_
        refine tq_iconst (M := mX11_stepped) (pc := 170) dX11_stepped_170 tk_ki_1 ?_
        refine tq_isub (M := mX11_stepped) (pc := 171) dX11_stepped_171 ?_
        refine tq_iload (M := mX11_stepped) (pc := 172) dX11_stepped_172 rfl ?_
        refine tq_isub (M := mX11_stepped) (pc := 174) dX11_stepped_174 ?_
        refine tq_goto (M := mX11_stepped) (pc := 175) (tgt := 180) dX11_stepped_175 (by decide) ?_
        cases (Option.some.inj hf)
        exact HJ163
set_option maxHeartbeats 4000000 in
theorem l_X11_stepped_216 {l : Launch} {d : Nat} {Q : tq_R → tq_H → Prop} (hd9 : 3 ≤ d) (i0 : Nat) (i1 : Int32) (i6 : Int32) (i7 : Int32) (i8 : Int32) (hh : tq_H) : ∀ (n : Nat) (y4 : Int64) (y9 : Int32) (o : Int64), tq_loop (f_X11_stepped_b216 i0 i1 i6 i7 i8 hh) n (y4, y9) = some o → tq_W l mX11_stepped d 0 0 Q 281 [(0, .ref i0), (1, .int i1), (4, .long o), (6, .int i6), (7, .int i7)] [] hh → tq_W l mX11_stepped d 0 0 Q 216 [(0, .ref i0), (1, .int i1), (4, .long y4), (6, .int i6), (7, .int i7), (8, .int i8), (9, .int y9)] [] hh := by
  intro n
  induction n with
  | zero => intro y4 y9 o hl; cases hl
  | succ n ih =>
    intro y4 y9 o hl hk
    obtain ⟨oo, hf, ho⟩ := tq_loop_s hl
    refine tq_iload (M := mX11_stepped) (pc := 216) dX11_stepped_216 rfl ?_
    refine tq_iload (M := mX11_stepped) (pc := 218) dX11_stepped_218 rfl ?_
    refine tq_icmp_ge (M := mX11_stepped) (pc := 220) (tgt := 281) dX11_stepped_220 (by decide) (fun cc => ?_) (fun cc => ?_)
    · have hf := tq_ifp hf cc
      refine tq_pick (L2 := [(0, .ref i0), (1, .int i1), (4, .long y4), (6, .int i6), (7, .int i7)]) [0, 1, 2, 3, 4] rfl ?_
      cases (Option.some.inj hf)
      cases (tq_lx ho)
      exact hk
    · have hf := tq_ifn hf cc
      refine tq_lload (M := mX11_stepped) (pc := 223) dX11_stepped_223 rfl ?_
      refine tq_aload_n (M := mX11_stepped) (pc := 225) dX11_stepped_225 rfl ?_
      refine tq_iconst (M := mX11_stepped) (pc := 226) dX11_stepped_226 tk_ki_4 ?_
      refine tq_iconst (M := mX11_stepped) (pc := 227) dX11_stepped_227 tk_ki_2 ?_
      refine tq_iload_n (M := mX11_stepped) (pc := 228) dX11_stepped_228 rfl ?_
      refine tq_imul (M := mX11_stepped) (pc := 229) dX11_stepped_229 ?_
      refine tq_iload (M := mX11_stepped) (pc := 230) dX11_stepped_230 rfl ?_
      refine tq_iadd (M := mX11_stepped) (pc := 232) dX11_stepped_232 ?_
      refine tq_imul (M := mX11_stepped) (pc := 233) dX11_stepped_233 ?_
      refine tq_aload_n (M := mX11_stepped) (pc := 234) dX11_stepped_234 rfl ?_
      obtain ⟨k34, ek34, hf⟩ := tq_be hf
      refine tq_getR (M := mX11_stepped) (pc := 235) tk_c11 (by decide) dX11_stepped_235 tk_RX11_90 rfl ek34 ?_
      refine tq_iload (M := mX11_stepped) (pc := 238) dX11_stepped_238 rfl ?_
      obtain ⟨x35, ex35, hf⟩ := tq_be hf
      refine tq_ialdF (M := mX11_stepped) (pc := 240) dX11_stepped_240 ex35 ?_
      refine tq_iload (M := mX11_stepped) (pc := 241) dX11_stepped_241 rfl ?_
      refine tq_iconst (M := mX11_stepped) (pc := 243) dX11_stepped_243 tk_ki_1 ?_
      refine tq_iadd (M := mX11_stepped) (pc := 244) dX11_stepped_244 ?_
      refine tq_iload (M := mX11_stepped) (pc := 245) dX11_stepped_245 rfl ?_
      obtain ⟨⟨⟩, eu37, hf⟩ := tq_be hf
      obtain ⟨fsu37, eu37⟩ := tq_is_s eu37
      obtain ⟨v36, ev36, hf⟩ := tq_be hf
      refine tq_calV (M := mX11_stepped) (pc := 247) (S := [.long y4]) tk_y_X11_holds tk_v_X11_holds tk_RX11_341 dX11_stepped_247 [.int (((4 : Int32) * (((2 : Int32) * i1) + i7))), .int x35, .int ((y9 + (1 : Int32))), .int i8] rfl (S0 := _) rfl eu37 rfl (Nat.le_of_ble_eq_true rfl) (d1 := d - 1) (b1 := 0) (s1 := 0) (bc' := 0) (bs' := 0) (Q1 := fun r h9 => r = .inl (some (.int v36)) ∧ hh = h9) (by omega) rfl rfl (w_X11_holds (by omega) ev36 (fun _ _ q => q)) (fun E h9 q => nomatch (show (Sum.inr E : tq_R) = Sum.inl _ from q.1)) (fun r9 h9 q => ?_)
      obtain ⟨q1, rfl⟩ := q
      cases (show (Sum.inl r9 : tq_R) = Sum.inl (some (.int v36)) from q1)
      obtain ⟨p40, ep40, hf⟩ := tq_be hf
      have HJ250 : tq_W l mX11_stepped d 0 0 Q 272 [(0, .ref i0), (1, .int i1), (6, .int i6), (7, .int i7), (8, .int i8), (9, .int y9)] [.long p40, .long y4] hh := by
        refine tq_land (M := mX11_stepped) (pc := 272) dX11_stepped_272 ?_
        obtain ⟨x41, ex41, hf⟩ := tq_le hf
        refine tq_lstore (M := mX11_stepped) (pc := 273) dX11_stepped_273 (L2 := [(4, .long x41), (0, .ref i0), (1, .int i1), (6, .int i6), (7, .int i7), (8, .int i8), (9, .int y9)]) (by decide) (by rw [ex41]; rfl) ?_
        obtain ⟨x42, ex42, hf⟩ := tq_le hf
        refine tq_iinc (M := mX11_stepped) (pc := 275) (v := x42) (L2 := [(9, .int x42), (4, .long x41), (0, .ref i0), (1, .int i1), (6, .int i6), (7, .int i7), (8, .int i8)]) dX11_stepped_275 rfl (by rw [ex42, tk_ki_1]) (by decide) rfl ?_
        refine tq_goto (M := mX11_stepped) (pc := 278) (tgt := 216) dX11_stepped_278 (by decide) ?_
        refine tq_pick (L2 := [(0, .ref i0), (1, .int i1), (4, .long x41), (6, .int i6), (7, .int i7), (8, .int i8), (9, .int x42)]) [2, 3, 1, 4, 5, 6, 0] rfl ?_
        cases (Option.some.inj hf)
        exact ih _ _ o (tq_lc ho) hk
      refine tq_if_eq (M := mX11_stepped) (pc := 250) (tgt := 259) dX11_stepped_250 (by decide) (fun cc => ?_) (fun cc => ?_)
      · have hf := tq_ifp ep40 cc
        refine tq_lconst (M := mX11_stepped) (pc := 259) dX11_stepped_259 tk_kl_1 ?_
        refine tq_aload_n (M := mX11_stepped) (pc := 260) dX11_stepped_260 rfl ?_
        obtain ⟨k38, ek38, hf⟩ := tq_be hf
        refine tq_getR (M := mX11_stepped) (pc := 261) tk_c11 (by decide) dX11_stepped_261 tk_RX11_90 rfl ek38 ?_
        refine tq_iload (M := mX11_stepped) (pc := 264) dX11_stepped_264 rfl ?_
        obtain ⟨x39, ex39, hf⟩ := tq_be hf
        refine tq_ialdF (M := mX11_stepped) (pc := 266) dX11_stepped_266 ex39 ?_
        refine tq_lshl (M := mX11_stepped) (pc := 267) dX11_stepped_267 ?_
        refine tq_ldc2 (M := mX11_stepped) (pc := 268) dX11_stepped_268 tk_RX11_339 ?_
        refine tq_lxor (M := mX11_stepped) (pc := 271) dX11_stepped_271 ?_
        refine tq_pick (L2 := [(0, .ref i0), (1, .int i1), (6, .int i6), (7, .int i7), (8, .int i8), (9, .int y9)]) [0, 1, 3, 4, 5, 6] rfl ?_
        cases (Option.some.inj hf)
        exact HJ250
      · have hf := tq_ifn ep40 cc
        refine tq_ldc2 (M := mX11_stepped) (pc := 253) dX11_stepped_253 tk_RX11_339 ?_
        refine tq_goto (M := mX11_stepped) (pc := 256) (tgt := 272) dX11_stepped_256 (by decide) ?_
        refine tq_pick (L2 := [(0, .ref i0), (1, .int i1), (6, .int i6), (7, .int i7), (8, .int i8), (9, .int y9)]) [0, 1, 3, 4, 5, 6] rfl ?_
        cases (Option.some.inj hf)
        exact HJ250
set_option maxHeartbeats 4000000 in
theorem l_X11_stepped_131 {l : Launch} {d : Nat} {Q : tq_R → tq_H → Prop} (hd9 : 3 ≤ d) (i0 : Nat) (i1 : Int32) (i6 : Int32) : ∀ (n : Nat) (y4 : Int64) (y7 : Int32) (hh : tq_H) (o : Int64 × tq_H), tq_loop (f_X11_stepped_b131 i0 i1 i6) n (y4, y7, hh) = some o → tq_W l mX11_stepped d 0 0 Q 287 [(4, .long o.1)] [] o.2 → tq_W l mX11_stepped d 0 0 Q 131 [(0, .ref i0), (1, .int i1), (4, .long y4), (6, .int i6), (7, .int y7)] [] hh := by
  intro n
  induction n with
  | zero => intro y4 y7 hh o hl; cases hl
  | succ n ih =>
    intro y4 y7 hh o hl hk
    obtain ⟨oo, hf, ho⟩ := tq_loop_s hl
    refine tq_iload (M := mX11_stepped) (pc := 131) dX11_stepped_131 rfl ?_
    refine tq_aload_n (M := mX11_stepped) (pc := 133) dX11_stepped_133 rfl ?_
    obtain ⟨k21, ek21, hf⟩ := tq_be hf
    refine tq_getR (M := mX11_stepped) (pc := 134) tk_c11 (by decide) dX11_stepped_134 tk_RX11_74 rfl ek21 ?_
    refine tq_iload_n (M := mX11_stepped) (pc := 137) dX11_stepped_137 rfl ?_
    obtain ⟨x22, ex22, hf⟩ := tq_be hf
    refine tq_ialdF (M := mX11_stepped) (pc := 138) dX11_stepped_138 ex22 ?_
    refine tq_icmp_ge (M := mX11_stepped) (pc := 139) (tgt := 287) dX11_stepped_139 (by decide) (fun cc => ?_) (fun cc => ?_)
    · have hf := tq_ifp hf cc
      refine tq_pick (L2 := [(4, .long y4)]) [2] rfl ?_
      cases (Option.some.inj hf)
      cases (tq_lx ho)
      exact hk
    · have hf := tq_ifn hf cc
      refine tq_iconst (M := mX11_stepped) (pc := 142) dX11_stepped_142 tk_ki_0 ?_
      refine tq_istore (M := mX11_stepped) (pc := 143) dX11_stepped_143 (L2 := [(8, .int (0 : Int32)), (0, .ref i0), (1, .int i1), (4, .long y4), (6, .int i6), (7, .int y7)]) (by decide) rfl ?_
      refine tq_iconst (M := mX11_stepped) (pc := 145) dX11_stepped_145 tk_ki_0 ?_
      refine tq_istore (M := mX11_stepped) (pc := 146) dX11_stepped_146 (L2 := [(9, .int (0 : Int32)), (8, .int (0 : Int32)), (0, .ref i0), (1, .int i1), (4, .long y4), (6, .int i6), (7, .int y7)]) (by decide) rfl ?_
      obtain ⟨o33, eo33, hf⟩ := tq_be hf
      refine tq_pick (L2 := [(0, .ref i0), (1, .int i1), (4, .long y4), (6, .int i6), (7, .int y7), (8, .int (0 : Int32)), (9, .int (0 : Int32))]) [2, 3, 4, 5, 6, 1, 0] rfl ?_
      refine l_X11_stepped_148 (by omega) i0 i1 y4 i6 y7 _ (0 : Int32) (0 : Int32) hh _ eo33 ?_
      refine tq_iconst (M := mX11_stepped) (pc := 213) dX11_stepped_213 tk_ki_0 ?_
      refine tq_istore (M := mX11_stepped) (pc := 214) dX11_stepped_214 (L2 := [(9, .int (0 : Int32)), (0, .ref i0), (1, .int i1), (4, .long y4), (6, .int i6), (7, .int y7), (8, .int o33.1)]) (by decide) rfl ?_
      obtain ⟨o43, eo43, hf⟩ := tq_be hf
      refine tq_pick (L2 := [(0, .ref i0), (1, .int i1), (4, .long y4), (6, .int i6), (7, .int y7), (8, .int o33.1), (9, .int (0 : Int32))]) [1, 2, 3, 4, 5, 6, 0] rfl ?_
      refine l_X11_stepped_216 (by omega) i0 i1 i6 y7 o33.1 o33.2 _ y4 (0 : Int32) _ eo43 ?_
      obtain ⟨x44, ex44, hf⟩ := tq_le hf
      refine tq_iinc (M := mX11_stepped) (pc := 281) (v := x44) (L2 := [(7, .int x44), (0, .ref i0), (1, .int i1), (4, .long o43), (6, .int i6)]) dX11_stepped_281 rfl (by rw [ex44, tk_ki_1]) (by decide) rfl ?_
      refine tq_goto (M := mX11_stepped) (pc := 284) (tgt := 131) dX11_stepped_284 (by decide) ?_
      refine tq_pick (L2 := [(0, .ref i0), (1, .int i1), (4, .long o43), (6, .int i6), (7, .int x44)]) [1, 2, 3, 4, 0] rfl ?_
      cases (Option.some.inj hf)
      exact ih _ _ _ o (tq_lc ho) hk
set_option maxHeartbeats 4000000 in
set_option maxRecDepth 20000 in
theorem w_X11_stepped {l : Launch} {d : Nat} (hd9 : 3 ≤ d) {t : Nat} {a1 : Int32} {a2 : Int32} {h : tq_H} {o : Int64 × tq_H} {Q : tq_R → tq_H → Prop} (hf : f_X11_stepped t a1 a2 h = some o) (hQ : ∀ r h9, r = .inl (some (.long o.1)) ∧ o.2 = h9 → Q r h9) : tq_C l yX11_stepped cX11_stepped 11 (some .long) d 0 0 [.ref t, .int a1, .int a2] h Q := by
  refine tq_body (y := yX11_stepped) false (by decide +kernel) (fun z => by cases z) (Nat.le_of_ble_eq_true rfl) ?_
  show tq_W l mX11_stepped d 0 0 Q 0 [(0, .ref t), (1, .int a1), (2, .int a2)] [] h
  refine tq_aload_n (M := mX11_stepped) (pc := 0) dX11_stepped_0 rfl ?_
  obtain ⟨k1, ek1, hf⟩ := tq_be hf
  refine tq_getR (M := mX11_stepped) (pc := 1) tk_c11 (by decide) dX11_stepped_1 tk_RX11_71 rfl ek1 ?_
  refine tq_iconst (M := mX11_stepped) (pc := 4) dX11_stepped_4 tk_ki_3 ?_
  refine tq_iload_n (M := mX11_stepped) (pc := 5) dX11_stepped_5 rfl ?_
  refine tq_imul (M := mX11_stepped) (pc := 6) dX11_stepped_6 ?_
  obtain ⟨x2, ex2, hf⟩ := tq_be hf
  refine tq_ialdF (M := mX11_stepped) (pc := 7) dX11_stepped_7 ex2 ?_
  refine tq_istore_n (M := mX11_stepped) (pc := 8) rfl dX11_stepped_8 (L2 := [(3, .int x2), (0, .ref t), (1, .int a1), (2, .int a2)]) (by decide) rfl ?_
  refine tq_aload_n (M := mX11_stepped) (pc := 9) dX11_stepped_9 rfl ?_
  refine tq_iload_n (M := mX11_stepped) (pc := 10) dX11_stepped_10 rfl ?_
  refine tq_aload_n (M := mX11_stepped) (pc := 11) dX11_stepped_11 rfl ?_
  obtain ⟨k3, ek3, hf⟩ := tq_be hf
  refine tq_getR (M := mX11_stepped) (pc := 12) tk_c11 (by decide) dX11_stepped_12 tk_RX11_71 rfl ek3 ?_
  refine tq_iconst (M := mX11_stepped) (pc := 15) dX11_stepped_15 tk_ki_3 ?_
  refine tq_iload_n (M := mX11_stepped) (pc := 16) dX11_stepped_16 rfl ?_
  refine tq_imul (M := mX11_stepped) (pc := 17) dX11_stepped_17 ?_
  refine tq_iconst (M := mX11_stepped) (pc := 18) dX11_stepped_18 tk_ki_2 ?_
  refine tq_iadd (M := mX11_stepped) (pc := 19) dX11_stepped_19 ?_
  obtain ⟨x4, ex4, hf⟩ := tq_be hf
  refine tq_ialdF (M := mX11_stepped) (pc := 20) dX11_stepped_20 ex4 ?_
  refine tq_iload_n (M := mX11_stepped) (pc := 21) dX11_stepped_21 rfl ?_
  obtain ⟨⟨⟩, eu6, hf⟩ := tq_be hf
  obtain ⟨fsu6, eu6⟩ := tq_is_s eu6
  obtain ⟨v5, ev5, hf⟩ := tq_be hf
  refine tq_calV (M := mX11_stepped) (pc := 22) (S := []) tk_y_X11_axis tk_v_X11_axis tk_RX11_332 dX11_stepped_22 [.int x2, .int x4, .int a2] rfl (S0 := _) rfl eu6 rfl (Nat.le_of_ble_eq_true rfl) (d1 := d - 1) (b1 := 0) (s1 := 0) (bc' := 0) (bs' := 0) (Q1 := fun r h9 => r = .inl (some (.long v5)) ∧ h = h9) (by omega) rfl rfl (w_X11_axis (by omega) ev5 (fun _ _ q => q)) (fun E h9 q => nomatch (show (Sum.inr E : tq_R) = Sum.inl _ from q.1)) (fun r9 h9 q => ?_)
  obtain ⟨q1, rfl⟩ := q
  cases (show (Sum.inl r9 : tq_R) = Sum.inl (some (.long v5)) from q1)
  refine tq_lstore (M := mX11_stepped) (pc := 25) dX11_stepped_25 (L2 := [(4, .long v5), (3, .int x2), (0, .ref t), (1, .int a1), (2, .int a2)]) (by decide) rfl ?_
  refine tq_iconst (M := mX11_stepped) (pc := 27) dX11_stepped_27 tk_ki_0 ?_
  refine tq_istore (M := mX11_stepped) (pc := 28) dX11_stepped_28 (L2 := [(6, .int (0 : Int32)), (4, .long v5), (3, .int x2), (0, .ref t), (1, .int a1), (2, .int a2)]) (by decide) rfl ?_
  obtain ⟨o19, eo19, hf⟩ := tq_be hf
  refine tq_pick (L2 := [(0, .ref t), (1, .int a1), (3, .int x2), (4, .long v5), (6, .int (0 : Int32))]) [3, 4, 2, 1, 0] rfl ?_
  refine l_X11_stepped_30 (by omega) t a1 x2 h _ v5 (0 : Int32) _ eo19 ?_
  refine tq_iload_n (M := mX11_stepped) (pc := 93) dX11_stepped_93 rfl ?_
  refine tq_iconst (M := mX11_stepped) (pc := 94) dX11_stepped_94 tk_ki_2 ?_
  obtain ⟨p20, ep20, hf⟩ := tq_le hf
  have HJ95 : tq_W l mX11_stepped d 0 0 Q 126 [(0, .ref t), (1, .int a1), (4, .long o19)] [.int p20] h := by
    refine tq_istore (M := mX11_stepped) (pc := 126) dX11_stepped_126 (L2 := [(6, .int p20), (0, .ref t), (1, .int a1), (4, .long o19)]) (by decide) rfl ?_
    refine tq_iconst (M := mX11_stepped) (pc := 128) dX11_stepped_128 tk_ki_0 ?_
    refine tq_istore (M := mX11_stepped) (pc := 129) dX11_stepped_129 (L2 := [(7, .int (0 : Int32)), (6, .int p20), (0, .ref t), (1, .int a1), (4, .long o19)]) (by decide) rfl ?_
    obtain ⟨o45, eo45, hf⟩ := tq_be hf
    refine tq_pick (L2 := [(0, .ref t), (1, .int a1), (4, .long o19), (6, .int p20), (7, .int (0 : Int32))]) [2, 3, 4, 1, 0] rfl ?_
    refine l_X11_stepped_131 (by omega) t a1 p20 _ o19 (0 : Int32) h _ eo45 ?_
    refine tq_lload (M := mX11_stepped) (pc := 287) dX11_stepped_287 rfl ?_
    refine tq_lret (M := mX11_stepped) (pc := 289) dX11_stepped_289 rfl ?_
    cases (Option.some.inj hf)
    exact hQ _ _ ⟨rfl, rfl⟩
  refine tq_icmp_eq (M := mX11_stepped) (pc := 95) (tgt := 121) dX11_stepped_95 (by decide) (fun cc => ?_) (fun cc => ?_)
  · have hf := tq_ifp ep20.symm cc
    refine tq_iconst (M := mX11_stepped) (pc := 121) dX11_stepped_121 tk_ki_1 ?_
    refine tq_goto (M := mX11_stepped) (pc := 122) (tgt := 126) dX11_stepped_122 (by decide) ?_
    refine tq_pick (L2 := [(0, .ref t), (1, .int a1), (4, .long o19)]) [0, 1, 3] rfl ?_
    cases hf
    exact HJ95
  · have hf := tq_ifn ep20.symm cc
    refine tq_iload_n (M := mX11_stepped) (pc := 98) dX11_stepped_98 rfl ?_
    refine tq_iconst (M := mX11_stepped) (pc := 99) dX11_stepped_99 tk_ki_5 ?_
    refine tq_icmp_eq (M := mX11_stepped) (pc := 100) (tgt := 121) dX11_stepped_100 (by decide) (fun cc => ?_) (fun cc => ?_)
    · have hf := tq_ifp hf cc
      refine tq_iconst (M := mX11_stepped) (pc := 121) dX11_stepped_121 tk_ki_1 ?_
      refine tq_goto (M := mX11_stepped) (pc := 122) (tgt := 126) dX11_stepped_122 (by decide) ?_
      refine tq_pick (L2 := [(0, .ref t), (1, .int a1), (4, .long o19)]) [0, 1, 3] rfl ?_
      cases hf
      exact HJ95
    · have hf := tq_ifn hf cc
      refine tq_iload_n (M := mX11_stepped) (pc := 103) dX11_stepped_103 rfl ?_
      refine tq_bipush (M := mX11_stepped) (pc := 104) dX11_stepped_104 tk_kb_6 ?_
      refine tq_icmp_eq (M := mX11_stepped) (pc := 106) (tgt := 121) dX11_stepped_106 (by decide) (fun cc => ?_) (fun cc => ?_)
      · have hf := tq_ifp hf cc
        refine tq_iconst (M := mX11_stepped) (pc := 121) dX11_stepped_121 tk_ki_1 ?_
        refine tq_goto (M := mX11_stepped) (pc := 122) (tgt := 126) dX11_stepped_122 (by decide) ?_
        refine tq_pick (L2 := [(0, .ref t), (1, .int a1), (4, .long o19)]) [0, 1, 3] rfl ?_
        cases hf
        exact HJ95
      · have hf := tq_ifn hf cc
        refine tq_iload_n (M := mX11_stepped) (pc := 109) dX11_stepped_109 rfl ?_
        refine tq_bipush (M := mX11_stepped) (pc := 110) dX11_stepped_110 tk_kb_8 ?_
        refine tq_icmp_eq (M := mX11_stepped) (pc := 112) (tgt := 121) dX11_stepped_112 (by decide) (fun cc => ?_) (fun cc => ?_)
        · have hf := tq_ifp hf cc
          refine tq_iconst (M := mX11_stepped) (pc := 121) dX11_stepped_121 tk_ki_1 ?_
          refine tq_goto (M := mX11_stepped) (pc := 122) (tgt := 126) dX11_stepped_122 (by decide) ?_
          refine tq_pick (L2 := [(0, .ref t), (1, .int a1), (4, .long o19)]) [0, 1, 3] rfl ?_
          cases hf
          exact HJ95
        · have hf := tq_ifn hf cc
          refine tq_iload_n (M := mX11_stepped) (pc := 115) dX11_stepped_115 rfl ?_
          refine tq_bipush (M := mX11_stepped) (pc := 116) dX11_stepped_116 tk_kb_10 ?_
          refine tq_icmp_ne (M := mX11_stepped) (pc := 118) (tgt := 125) dX11_stepped_118 (by decide) (fun cc => ?_) (fun cc => ?_)
          · have hf := tq_ifn hf cc
            refine tq_iconst (M := mX11_stepped) (pc := 125) dX11_stepped_125 tk_ki_0 ?_
            refine tq_pick (L2 := [(0, .ref t), (1, .int a1), (4, .long o19)]) [0, 1, 3] rfl ?_
            cases hf
            exact HJ95
          · have hf := tq_ifp hf cc
            refine tq_iconst (M := mX11_stepped) (pc := 121) dX11_stepped_121 tk_ki_1 ?_
            refine tq_goto (M := mX11_stepped) (pc := 122) (tgt := 126) dX11_stepped_122 (by decide) ?_
            refine tq_pick (L2 := [(0, .ref t), (1, .int a1), (4, .long o19)]) [0, 1, 3] rfl ?_
            cases hf
            exact HJ95
abbrev mX11_findAll : tq_M := (RX11, cX11_findAll, 12, none, false, [], none)
def f_X11_findAll_b18 (i0 : Nat) (i1 : Int64) (i3 : Int32) (s : Int32 × tq_H) : Option ((Int32 × tq_H) ⊕ (tq_H)) := match s with
  | (y4, hh) =>
    (tq_gr hh i0 11 25).bind fun k3 =>
    (tq_ai hh k3 i3).bind fun x4 =>
    (tq_gi hh i0 11 11).bind fun x5 =>
    if y4 ≥ (x4 * x5) then
      some (.inr hh)
    else
      (tq_gr hh i0 11 12).bind fun k6 =>
      (tq_gi hh i0 11 11).bind fun x7 =>
      (tq_nz x7).bind fun _ =>
      (tq_ai hh k6 (y4 - y4 / x7 * x7)).bind fun x8 =>
      (tq_gr hh i0 11 30).bind fun k9 =>
      (tq_gi hh i0 11 11).bind fun x10 =>
      (tq_nz x10).bind fun _ =>
      (if (lg_cmp ((i1 >>> (x8.toInt64 &&& 63)) &&& (1 : Int64)) (1 : Int64)) = 0 then
        (tq_gi hh i0 11 11).bind fun x11 =>
        (tq_nz x11).bind fun _ =>
        (tq_is hh i0 11).bind fun _ =>
        (f_X11_stepped i0 (((5 : Int32) * i3) + (y4 / x11)) x8 hh).bind fun v12 =>
        some (v12.1, v12.2)
      else
        some ((0 : Int64), hh)).bind fun p15 =>
      (tq_sl p15.2 k9 (((60 : Int32) * (y4 / x10)) + x8) p15.1).bind fun w16 =>
      tq_let (y4 + (1 : Int32)) fun x17 =>
      some (.inl (x17, w16))
def f_X11_findAll_b166 (i0 : Nat) (i1 : Int64) (i3 : Int32) (i4 : Int32) (i5 : Int32) (i6 : Int64) (i8 : Int32) (hh : tq_H) (s : Int64 × Int32) : Option ((Int64 × Int32) ⊕ (Int64)) := match s with
  | (y9, y11) =>
    (tq_gi hh i0 11 11).bind fun x27 =>
    if y11 ≥ x27 then
      some (.inr y9)
    else
      (tq_gr hh i0 11 12).bind fun k28 =>
      (tq_ai hh k28 y11).bind fun x29 =>
      (if (lg_cmp ((i6 >>> (x29.toInt64 &&& 63)) &&& (1 : Int64)) (1 : Int64)) = 0 then
        (tq_gr hh i0 11 30).bind fun k30 =>
        (tq_gr hh i0 11 12).bind fun k31 =>
        (tq_ai hh k31 y11).bind fun x32 =>
        (tq_aj hh k30 (((60 : Int32) * i8) + x32)).bind fun x33 =>
        some x33
      else
        some (0 : Int64)).bind fun p34 =>
      tq_let ((y9 ||| p34)) fun x35 =>
      tq_let (y11 + (1 : Int32)) fun x36 =>
      some (.inl (x35, x36))
def f_X11_findAll_b149 (i0 : Nat) (i1 : Int64) (i3 : Int32) (i4 : Int32) (i5 : Int32) (hh : tq_H) (s : Int64 × Int32) : Option ((Int64 × Int32) ⊕ (Int64)) := match s with
  | (y6, y8) =>
    (tq_gr hh i0 11 25).bind fun k25 =>
    (tq_ai hh k25 i3).bind fun x26 =>
    if y8 ≥ x26 then
      some (.inr y6)
    else
      (tq_loop (f_X11_findAll_b166 i0 i1 i3 i4 i5 y6 y8 hh) tq_N ((0 : Int64), (0 : Int32))).bind fun o37 =>
      tq_let (y8 + (1 : Int32)) fun x38 =>
      some (.inl (o37, x38))
def f_X11_findAll_b107 (i0 : Nat) (i1 : Int64) (i3 : Int32) (s : Int32 × tq_H) : Option ((Int32 × tq_H) ⊕ (tq_H)) := match s with
  | (y4, hh) =>
    (tq_gi hh i0 11 11).bind fun x21 =>
    if y4 ≥ x21 then
      some (.inr hh)
    else
      (tq_gr hh i0 11 12).bind fun k22 =>
      (tq_ai hh k22 y4).bind fun x23 =>
      tq_let (if (lg_cmp ((i1 >>> (x23.toInt64 &&& 63)) &&& (1 : Int64)) (1 : Int64)) = 0 then ((1 : Int64) <<< (x23.toInt64 &&& 63)) else (0 : Int64)) fun p24 =>
      (tq_loop (f_X11_findAll_b149 i0 i1 i3 y4 x23 hh) tq_N (p24, (0 : Int32))).bind fun o39 =>
      (tq_gr hh i0 11 29).bind fun k40 =>
      (tq_sl hh k40 (((60 : Int32) * i3) + x23) o39).bind fun w41 =>
      tq_let (y4 + (1 : Int32)) fun x42 =>
      some (.inl (x42, w41))
def f_X11_findAll_b7 (i0 : Nat) (i1 : Int64) (s : Int32 × tq_H) : Option ((Int32 × tq_H) ⊕ (tq_H)) := match s with
  | (y3, hh) =>
    (tq_gi hh i0 11 24).bind fun x2 =>
    if y3 ≥ x2 then
      some (.inr hh)
    else
      (tq_loop (f_X11_findAll_b18 i0 i1 y3) tq_N ((0 : Int32), hh)).bind fun o20 =>
      (tq_loop (f_X11_findAll_b107 i0 i1 y3) tq_N ((0 : Int32), o20)).bind fun o43 =>
      tq_let (y3 + (1 : Int32)) fun x44 =>
      some (.inl (x44, o43))
def f_X11_findAll (t : Nat) (a1 : Int64) (h : tq_H) : Option (tq_H) :=
  (tq_pf h t 11 31 (.long a1)).bind fun w1 =>
  (tq_loop (f_X11_findAll_b7 t a1) tq_N ((0 : Int32), w1)).bind fun o45 =>
  some o45
set_option maxHeartbeats 4000000 in
theorem l_X11_findAll_18 {l : Launch} {d : Nat} {Q : tq_R → tq_H → Prop} (hd9 : 4 ≤ d) (i0 : Nat) (i1 : Int64) (i3 : Int32) : ∀ (n : Nat) (y4 : Int32) (hh : tq_H) (o : tq_H), tq_loop (f_X11_findAll_b18 i0 i1 i3) n (y4, hh) = some o → tq_W l mX11_findAll d 0 0 Q 104 [(0, .ref i0), (1, .long i1), (3, .int i3)] [] o → tq_W l mX11_findAll d 0 0 Q 18 [(0, .ref i0), (1, .long i1), (3, .int i3), (4, .int y4)] [] hh := by
  intro n
  induction n with
  | zero => intro y4 hh o hl; cases hl
  | succ n ih =>
    intro y4 hh o hl hk
    obtain ⟨oo, hf, ho⟩ := tq_loop_s hl
    refine tq_iload (M := mX11_findAll) (pc := 18) dX11_findAll_18 rfl ?_
    refine tq_aload_n (M := mX11_findAll) (pc := 20) dX11_findAll_20 rfl ?_
    obtain ⟨k3, ek3, hf⟩ := tq_be hf
    refine tq_getR (M := mX11_findAll) (pc := 21) tk_c11 (by decide) dX11_findAll_21 tk_RX11_68 rfl ek3 ?_
    refine tq_iload_n (M := mX11_findAll) (pc := 24) dX11_findAll_24 rfl ?_
    obtain ⟨x4, ex4, hf⟩ := tq_be hf
    refine tq_ialdF (M := mX11_findAll) (pc := 25) dX11_findAll_25 ex4 ?_
    refine tq_aload_n (M := mX11_findAll) (pc := 26) dX11_findAll_26 rfl ?_
    obtain ⟨x5, ex5, hf⟩ := tq_be hf
    refine tq_getI (M := mX11_findAll) (pc := 27) tk_c11 (by decide) dX11_findAll_27 tk_RX11_173 rfl ex5 ?_
    refine tq_imul (M := mX11_findAll) (pc := 30) dX11_findAll_30 ?_
    refine tq_icmp_ge (M := mX11_findAll) (pc := 31) (tgt := 104) dX11_findAll_31 (by decide) (fun cc => ?_) (fun cc => ?_)
    · have hf := tq_ifp hf cc
      refine tq_pick (L2 := [(0, .ref i0), (1, .long i1), (3, .int i3)]) [0, 1, 2] rfl ?_
      cases (Option.some.inj hf)
      cases (tq_lx ho)
      exact hk
    · have hf := tq_ifn hf cc
      refine tq_aload_n (M := mX11_findAll) (pc := 34) dX11_findAll_34 rfl ?_
      obtain ⟨k6, ek6, hf⟩ := tq_be hf
      refine tq_getR (M := mX11_findAll) (pc := 35) tk_c11 (by decide) dX11_findAll_35 tk_RX11_35 rfl ek6 ?_
      refine tq_iload (M := mX11_findAll) (pc := 38) dX11_findAll_38 rfl ?_
      refine tq_aload_n (M := mX11_findAll) (pc := 40) dX11_findAll_40 rfl ?_
      obtain ⟨x7, ex7, hf⟩ := tq_be hf
      refine tq_getI (M := mX11_findAll) (pc := 41) tk_c11 (by decide) dX11_findAll_41 tk_RX11_173 rfl ex7 ?_
      obtain ⟨u19, eu19, hf⟩ := tq_be hf
      refine tq_irem (M := mX11_findAll) (pc := 44) dX11_findAll_44 (tq_nz_s eu19) ?_
      obtain ⟨x8, ex8, hf⟩ := tq_be hf
      refine tq_ialdF (M := mX11_findAll) (pc := 45) dX11_findAll_45 ex8 ?_
      refine tq_istore (M := mX11_findAll) (pc := 46) dX11_findAll_46 (L2 := [(5, .int x8), (0, .ref i0), (1, .long i1), (3, .int i3), (4, .int y4)]) (by decide) rfl ?_
      refine tq_aload_n (M := mX11_findAll) (pc := 48) dX11_findAll_48 rfl ?_
      obtain ⟨k9, ek9, hf⟩ := tq_be hf
      refine tq_getR (M := mX11_findAll) (pc := 49) tk_c11 (by decide) dX11_findAll_49 tk_RX11_84 rfl ek9 ?_
      refine tq_bipush (M := mX11_findAll) (pc := 52) dX11_findAll_52 tk_kb_60 ?_
      refine tq_iload (M := mX11_findAll) (pc := 54) dX11_findAll_54 rfl ?_
      refine tq_aload_n (M := mX11_findAll) (pc := 56) dX11_findAll_56 rfl ?_
      obtain ⟨x10, ex10, hf⟩ := tq_be hf
      refine tq_getI (M := mX11_findAll) (pc := 57) tk_c11 (by decide) dX11_findAll_57 tk_RX11_173 rfl ex10 ?_
      obtain ⟨u18, eu18, hf⟩ := tq_be hf
      refine tq_idiv (M := mX11_findAll) (pc := 60) dX11_findAll_60 (tq_nz_s eu18) ?_
      refine tq_imul (M := mX11_findAll) (pc := 61) dX11_findAll_61 ?_
      refine tq_iload (M := mX11_findAll) (pc := 62) dX11_findAll_62 rfl ?_
      refine tq_iadd (M := mX11_findAll) (pc := 64) dX11_findAll_64 ?_
      refine tq_lload_n (M := mX11_findAll) (pc := 65) dX11_findAll_65 rfl ?_
      refine tq_iload (M := mX11_findAll) (pc := 66) dX11_findAll_66 rfl ?_
      refine tq_lshr (M := mX11_findAll) (pc := 68) dX11_findAll_68 ?_
      refine tq_lconst (M := mX11_findAll) (pc := 69) dX11_findAll_69 tk_kl_1 ?_
      refine tq_land (M := mX11_findAll) (pc := 70) dX11_findAll_70 ?_
      refine tq_lconst (M := mX11_findAll) (pc := 71) dX11_findAll_71 tk_kl_1 ?_
      refine tq_lcmp (M := mX11_findAll) (pc := 72) dX11_findAll_72 ?_
      obtain ⟨p15, ep15, hf⟩ := tq_be hf
      have HJ73 : tq_W l mX11_findAll d 0 0 Q 97 [(0, .ref i0), (1, .long i1), (3, .int i3), (4, .int y4)] [.long p15.1, .int ((((60 : Int32) * (y4 / x10)) + x8)), .ref k9] p15.2 := by
        obtain ⟨w16, ew16, hf⟩ := tq_be hf
        refine tq_lastF (M := mX11_findAll) (pc := 97) dX11_findAll_97 ew16 ?_
        obtain ⟨x17, ex17, hf⟩ := tq_le hf
        refine tq_iinc (M := mX11_findAll) (pc := 98) (v := x17) (L2 := [(4, .int x17), (0, .ref i0), (1, .long i1), (3, .int i3)]) dX11_findAll_98 rfl (by rw [ex17, tk_ki_1]) (by decide) rfl ?_
        refine tq_goto (M := mX11_findAll) (pc := 101) (tgt := 18) dX11_findAll_101 (by decide) ?_
        refine tq_pick (L2 := [(0, .ref i0), (1, .long i1), (3, .int i3), (4, .int x17)]) [1, 2, 3, 0] rfl ?_
        cases (Option.some.inj hf)
        exact ih _ _ o (tq_lc ho) hk
      refine tq_if_ne (M := mX11_findAll) (pc := 73) (tgt := 96) dX11_findAll_73 (by decide) (fun cc => ?_) (fun cc => ?_)
      · have hf := tq_ifn ep15 cc
        refine tq_lconst (M := mX11_findAll) (pc := 96) dX11_findAll_96 tk_kl_0 ?_
        refine tq_pick (L2 := [(0, .ref i0), (1, .long i1), (3, .int i3), (4, .int y4)]) [1, 2, 3, 4] rfl ?_
        cases (Option.some.inj hf)
        exact HJ73
      · have hf := tq_ifp ep15 cc
        refine tq_aload_n (M := mX11_findAll) (pc := 76) dX11_findAll_76 rfl ?_
        refine tq_iconst (M := mX11_findAll) (pc := 77) dX11_findAll_77 tk_ki_5 ?_
        refine tq_iload_n (M := mX11_findAll) (pc := 78) dX11_findAll_78 rfl ?_
        refine tq_imul (M := mX11_findAll) (pc := 79) dX11_findAll_79 ?_
        refine tq_iload (M := mX11_findAll) (pc := 80) dX11_findAll_80 rfl ?_
        refine tq_aload_n (M := mX11_findAll) (pc := 82) dX11_findAll_82 rfl ?_
        obtain ⟨x11, ex11, hf⟩ := tq_be hf
        refine tq_getI (M := mX11_findAll) (pc := 83) tk_c11 (by decide) dX11_findAll_83 tk_RX11_173 rfl ex11 ?_
        obtain ⟨u14, eu14, hf⟩ := tq_be hf
        refine tq_idiv (M := mX11_findAll) (pc := 86) dX11_findAll_86 (tq_nz_s eu14) ?_
        refine tq_iadd (M := mX11_findAll) (pc := 87) dX11_findAll_87 ?_
        refine tq_iload (M := mX11_findAll) (pc := 88) dX11_findAll_88 rfl ?_
        obtain ⟨⟨⟩, eu13, hf⟩ := tq_be hf
        obtain ⟨fsu13, eu13⟩ := tq_is_s eu13
        obtain ⟨v12, ev12, hf⟩ := tq_be hf
        refine tq_calV (M := mX11_findAll) (pc := 90) (S := [.int ((((60 : Int32) * (y4 / x10)) + x8)), .ref k9]) tk_y_X11_stepped tk_v_X11_stepped tk_RX11_345 dX11_findAll_90 [.int ((((5 : Int32) * i3) + (y4 / x11))), .int x8] rfl (S0 := _) rfl eu13 rfl (Nat.le_of_ble_eq_true rfl) (d1 := d - 1) (b1 := 0) (s1 := 0) (bc' := 0) (bs' := 0) (Q1 := fun r h9 => r = .inl (some (.long v12.1)) ∧ v12.2 = h9) (by omega) rfl rfl (w_X11_stepped (by omega) ev12 (fun _ _ q => q)) (fun E h9 q => nomatch (show (Sum.inr E : tq_R) = Sum.inl _ from q.1)) (fun r9 h9 q => ?_)
        obtain ⟨q1, rfl⟩ := q
        cases (show (Sum.inl r9 : tq_R) = Sum.inl (some (.long v12.1)) from q1)
        refine tq_goto (M := mX11_findAll) (pc := 93) (tgt := 97) dX11_findAll_93 (by decide) ?_
        refine tq_pick (L2 := [(0, .ref i0), (1, .long i1), (3, .int i3), (4, .int y4)]) [1, 2, 3, 4] rfl ?_
        cases (Option.some.inj hf)
        exact HJ73
set_option maxHeartbeats 4000000 in
theorem l_X11_findAll_166 {l : Launch} {d : Nat} {Q : tq_R → tq_H → Prop} (hd9 : 4 ≤ d) (i0 : Nat) (i1 : Int64) (i3 : Int32) (i4 : Int32) (i5 : Int32) (i6 : Int64) (i8 : Int32) (hh : tq_H) : ∀ (n : Nat) (y9 : Int64) (y11 : Int32) (o : Int64), tq_loop (f_X11_findAll_b166 i0 i1 i3 i4 i5 i6 i8 hh) n (y9, y11) = some o → tq_W l mX11_findAll d 0 0 Q 225 [(0, .ref i0), (1, .long i1), (3, .int i3), (4, .int i4), (5, .int i5), (8, .int i8), (9, .long o)] [] hh → tq_W l mX11_findAll d 0 0 Q 166 [(0, .ref i0), (1, .long i1), (3, .int i3), (4, .int i4), (5, .int i5), (6, .long i6), (8, .int i8), (9, .long y9), (11, .int y11)] [] hh := by
  intro n
  induction n with
  | zero => intro y9 y11 o hl; cases hl
  | succ n ih =>
    intro y9 y11 o hl hk
    obtain ⟨oo, hf, ho⟩ := tq_loop_s hl
    refine tq_iload (M := mX11_findAll) (pc := 166) dX11_findAll_166 rfl ?_
    refine tq_aload_n (M := mX11_findAll) (pc := 168) dX11_findAll_168 rfl ?_
    obtain ⟨x27, ex27, hf⟩ := tq_be hf
    refine tq_getI (M := mX11_findAll) (pc := 169) tk_c11 (by decide) dX11_findAll_169 tk_RX11_173 rfl ex27 ?_
    refine tq_icmp_ge (M := mX11_findAll) (pc := 172) (tgt := 225) dX11_findAll_172 (by decide) (fun cc => ?_) (fun cc => ?_)
    · have hf := tq_ifp hf cc
      refine tq_pick (L2 := [(0, .ref i0), (1, .long i1), (3, .int i3), (4, .int i4), (5, .int i5), (8, .int i8), (9, .long y9)]) [0, 1, 2, 3, 4, 6, 7] rfl ?_
      cases (Option.some.inj hf)
      cases (tq_lx ho)
      exact hk
    · have hf := tq_ifn hf cc
      refine tq_lload (M := mX11_findAll) (pc := 175) dX11_findAll_175 rfl ?_
      refine tq_lload (M := mX11_findAll) (pc := 177) dX11_findAll_177 rfl ?_
      refine tq_aload_n (M := mX11_findAll) (pc := 179) dX11_findAll_179 rfl ?_
      obtain ⟨k28, ek28, hf⟩ := tq_be hf
      refine tq_getR (M := mX11_findAll) (pc := 180) tk_c11 (by decide) dX11_findAll_180 tk_RX11_35 rfl ek28 ?_
      refine tq_iload (M := mX11_findAll) (pc := 183) dX11_findAll_183 rfl ?_
      obtain ⟨x29, ex29, hf⟩ := tq_be hf
      refine tq_ialdF (M := mX11_findAll) (pc := 185) dX11_findAll_185 ex29 ?_
      refine tq_lshr (M := mX11_findAll) (pc := 186) dX11_findAll_186 ?_
      refine tq_lconst (M := mX11_findAll) (pc := 187) dX11_findAll_187 tk_kl_1 ?_
      refine tq_land (M := mX11_findAll) (pc := 188) dX11_findAll_188 ?_
      refine tq_lconst (M := mX11_findAll) (pc := 189) dX11_findAll_189 tk_kl_1 ?_
      refine tq_lcmp (M := mX11_findAll) (pc := 190) dX11_findAll_190 ?_
      obtain ⟨p34, ep34, hf⟩ := tq_be hf
      have HJ191 : tq_W l mX11_findAll d 0 0 Q 216 [(0, .ref i0), (1, .long i1), (3, .int i3), (4, .int i4), (5, .int i5), (6, .long i6), (8, .int i8), (11, .int y11)] [.long p34, .long y9] hh := by
        refine tq_lor (M := mX11_findAll) (pc := 216) dX11_findAll_216 ?_
        obtain ⟨x35, ex35, hf⟩ := tq_le hf
        refine tq_lstore (M := mX11_findAll) (pc := 217) dX11_findAll_217 (L2 := [(9, .long x35), (0, .ref i0), (1, .long i1), (3, .int i3), (4, .int i4), (5, .int i5), (6, .long i6), (8, .int i8), (11, .int y11)]) (by decide) (by rw [ex35]; rfl) ?_
        obtain ⟨x36, ex36, hf⟩ := tq_le hf
        refine tq_iinc (M := mX11_findAll) (pc := 219) (v := x36) (L2 := [(11, .int x36), (9, .long x35), (0, .ref i0), (1, .long i1), (3, .int i3), (4, .int i4), (5, .int i5), (6, .long i6), (8, .int i8)]) dX11_findAll_219 rfl (by rw [ex36, tk_ki_1]) (by decide) rfl ?_
        refine tq_goto (M := mX11_findAll) (pc := 222) (tgt := 166) dX11_findAll_222 (by decide) ?_
        refine tq_pick (L2 := [(0, .ref i0), (1, .long i1), (3, .int i3), (4, .int i4), (5, .int i5), (6, .long i6), (8, .int i8), (9, .long x35), (11, .int x36)]) [2, 3, 4, 5, 6, 7, 8, 1, 0] rfl ?_
        cases (Option.some.inj hf)
        exact ih _ _ o (tq_lc ho) hk
      refine tq_if_ne (M := mX11_findAll) (pc := 191) (tgt := 215) dX11_findAll_191 (by decide) (fun cc => ?_) (fun cc => ?_)
      · have hf := tq_ifn ep34 cc
        refine tq_lconst (M := mX11_findAll) (pc := 215) dX11_findAll_215 tk_kl_0 ?_
        refine tq_pick (L2 := [(0, .ref i0), (1, .long i1), (3, .int i3), (4, .int i4), (5, .int i5), (6, .long i6), (8, .int i8), (11, .int y11)]) [0, 1, 2, 3, 4, 5, 6, 8] rfl ?_
        cases (Option.some.inj hf)
        exact HJ191
      · have hf := tq_ifp ep34 cc
        refine tq_aload_n (M := mX11_findAll) (pc := 194) dX11_findAll_194 rfl ?_
        obtain ⟨k30, ek30, hf⟩ := tq_be hf
        refine tq_getR (M := mX11_findAll) (pc := 195) tk_c11 (by decide) dX11_findAll_195 tk_RX11_84 rfl ek30 ?_
        refine tq_bipush (M := mX11_findAll) (pc := 198) dX11_findAll_198 tk_kb_60 ?_
        refine tq_iload (M := mX11_findAll) (pc := 200) dX11_findAll_200 rfl ?_
        refine tq_imul (M := mX11_findAll) (pc := 202) dX11_findAll_202 ?_
        refine tq_aload_n (M := mX11_findAll) (pc := 203) dX11_findAll_203 rfl ?_
        obtain ⟨k31, ek31, hf⟩ := tq_be hf
        refine tq_getR (M := mX11_findAll) (pc := 204) tk_c11 (by decide) dX11_findAll_204 tk_RX11_35 rfl ek31 ?_
        refine tq_iload (M := mX11_findAll) (pc := 207) dX11_findAll_207 rfl ?_
        obtain ⟨x32, ex32, hf⟩ := tq_be hf
        refine tq_ialdF (M := mX11_findAll) (pc := 209) dX11_findAll_209 ex32 ?_
        refine tq_iadd (M := mX11_findAll) (pc := 210) dX11_findAll_210 ?_
        obtain ⟨x33, ex33, hf⟩ := tq_be hf
        refine tq_laldF (M := mX11_findAll) (pc := 211) dX11_findAll_211 ex33 ?_
        refine tq_goto (M := mX11_findAll) (pc := 212) (tgt := 216) dX11_findAll_212 (by decide) ?_
        refine tq_pick (L2 := [(0, .ref i0), (1, .long i1), (3, .int i3), (4, .int i4), (5, .int i5), (6, .long i6), (8, .int i8), (11, .int y11)]) [0, 1, 2, 3, 4, 5, 6, 8] rfl ?_
        cases (Option.some.inj hf)
        exact HJ191
set_option maxHeartbeats 4000000 in
theorem l_X11_findAll_149 {l : Launch} {d : Nat} {Q : tq_R → tq_H → Prop} (hd9 : 4 ≤ d) (i0 : Nat) (i1 : Int64) (i3 : Int32) (i4 : Int32) (i5 : Int32) (hh : tq_H) : ∀ (n : Nat) (y6 : Int64) (y8 : Int32) (o : Int64), tq_loop (f_X11_findAll_b149 i0 i1 i3 i4 i5 hh) n (y6, y8) = some o → tq_W l mX11_findAll d 0 0 Q 235 [(0, .ref i0), (1, .long i1), (3, .int i3), (4, .int i4), (5, .int i5), (6, .long o)] [] hh → tq_W l mX11_findAll d 0 0 Q 149 [(0, .ref i0), (1, .long i1), (3, .int i3), (4, .int i4), (5, .int i5), (6, .long y6), (8, .int y8)] [] hh := by
  intro n
  induction n with
  | zero => intro y6 y8 o hl; cases hl
  | succ n ih =>
    intro y6 y8 o hl hk
    obtain ⟨oo, hf, ho⟩ := tq_loop_s hl
    refine tq_iload (M := mX11_findAll) (pc := 149) dX11_findAll_149 rfl ?_
    refine tq_aload_n (M := mX11_findAll) (pc := 151) dX11_findAll_151 rfl ?_
    obtain ⟨k25, ek25, hf⟩ := tq_be hf
    refine tq_getR (M := mX11_findAll) (pc := 152) tk_c11 (by decide) dX11_findAll_152 tk_RX11_68 rfl ek25 ?_
    refine tq_iload_n (M := mX11_findAll) (pc := 155) dX11_findAll_155 rfl ?_
    obtain ⟨x26, ex26, hf⟩ := tq_be hf
    refine tq_ialdF (M := mX11_findAll) (pc := 156) dX11_findAll_156 ex26 ?_
    refine tq_icmp_ge (M := mX11_findAll) (pc := 157) (tgt := 235) dX11_findAll_157 (by decide) (fun cc => ?_) (fun cc => ?_)
    · have hf := tq_ifp hf cc
      refine tq_pick (L2 := [(0, .ref i0), (1, .long i1), (3, .int i3), (4, .int i4), (5, .int i5), (6, .long y6)]) [0, 1, 2, 3, 4, 5] rfl ?_
      cases (Option.some.inj hf)
      cases (tq_lx ho)
      exact hk
    · have hf := tq_ifn hf cc
      refine tq_lconst (M := mX11_findAll) (pc := 160) dX11_findAll_160 tk_kl_0 ?_
      refine tq_lstore (M := mX11_findAll) (pc := 161) dX11_findAll_161 (L2 := [(9, .long (0 : Int64)), (0, .ref i0), (1, .long i1), (3, .int i3), (4, .int i4), (5, .int i5), (6, .long y6), (8, .int y8)]) (by decide) rfl ?_
      refine tq_iconst (M := mX11_findAll) (pc := 163) dX11_findAll_163 tk_ki_0 ?_
      refine tq_istore (M := mX11_findAll) (pc := 164) dX11_findAll_164 (L2 := [(11, .int (0 : Int32)), (9, .long (0 : Int64)), (0, .ref i0), (1, .long i1), (3, .int i3), (4, .int i4), (5, .int i5), (6, .long y6), (8, .int y8)]) (by decide) rfl ?_
      obtain ⟨o37, eo37, hf⟩ := tq_be hf
      refine tq_pick (L2 := [(0, .ref i0), (1, .long i1), (3, .int i3), (4, .int i4), (5, .int i5), (6, .long y6), (8, .int y8), (9, .long (0 : Int64)), (11, .int (0 : Int32))]) [2, 3, 4, 5, 6, 7, 8, 1, 0] rfl ?_
      refine l_X11_findAll_166 (by omega) i0 i1 i3 i4 i5 y6 y8 hh _ (0 : Int64) (0 : Int32) _ eo37 ?_
      refine tq_lload (M := mX11_findAll) (pc := 225) dX11_findAll_225 rfl ?_
      refine tq_lstore (M := mX11_findAll) (pc := 227) dX11_findAll_227 (L2 := [(6, .long o37), (0, .ref i0), (1, .long i1), (3, .int i3), (4, .int i4), (5, .int i5), (8, .int y8), (9, .long o37)]) (by decide) rfl ?_
      obtain ⟨x38, ex38, hf⟩ := tq_le hf
      refine tq_iinc (M := mX11_findAll) (pc := 229) (v := x38) (L2 := [(8, .int x38), (6, .long o37), (0, .ref i0), (1, .long i1), (3, .int i3), (4, .int i4), (5, .int i5), (9, .long o37)]) dX11_findAll_229 rfl (by rw [ex38, tk_ki_1]) (by decide) rfl ?_
      refine tq_goto (M := mX11_findAll) (pc := 232) (tgt := 149) dX11_findAll_232 (by decide) ?_
      refine tq_pick (L2 := [(0, .ref i0), (1, .long i1), (3, .int i3), (4, .int i4), (5, .int i5), (6, .long o37), (8, .int x38)]) [2, 3, 4, 5, 6, 1, 0] rfl ?_
      cases (Option.some.inj hf)
      exact ih _ _ o (tq_lc ho) hk
set_option maxHeartbeats 4000000 in
theorem l_X11_findAll_107 {l : Launch} {d : Nat} {Q : tq_R → tq_H → Prop} (hd9 : 4 ≤ d) (i0 : Nat) (i1 : Int64) (i3 : Int32) : ∀ (n : Nat) (y4 : Int32) (hh : tq_H) (o : tq_H), tq_loop (f_X11_findAll_b107 i0 i1 i3) n (y4, hh) = some o → tq_W l mX11_findAll d 0 0 Q 255 [(0, .ref i0), (1, .long i1), (3, .int i3)] [] o → tq_W l mX11_findAll d 0 0 Q 107 [(0, .ref i0), (1, .long i1), (3, .int i3), (4, .int y4)] [] hh := by
  intro n
  induction n with
  | zero => intro y4 hh o hl; cases hl
  | succ n ih =>
    intro y4 hh o hl hk
    obtain ⟨oo, hf, ho⟩ := tq_loop_s hl
    refine tq_iload (M := mX11_findAll) (pc := 107) dX11_findAll_107 rfl ?_
    refine tq_aload_n (M := mX11_findAll) (pc := 109) dX11_findAll_109 rfl ?_
    obtain ⟨x21, ex21, hf⟩ := tq_be hf
    refine tq_getI (M := mX11_findAll) (pc := 110) tk_c11 (by decide) dX11_findAll_110 tk_RX11_173 rfl ex21 ?_
    refine tq_icmp_ge (M := mX11_findAll) (pc := 113) (tgt := 255) dX11_findAll_113 (by decide) (fun cc => ?_) (fun cc => ?_)
    · have hf := tq_ifp hf cc
      refine tq_pick (L2 := [(0, .ref i0), (1, .long i1), (3, .int i3)]) [0, 1, 2] rfl ?_
      cases (Option.some.inj hf)
      cases (tq_lx ho)
      exact hk
    · have hf := tq_ifn hf cc
      refine tq_aload_n (M := mX11_findAll) (pc := 116) dX11_findAll_116 rfl ?_
      obtain ⟨k22, ek22, hf⟩ := tq_be hf
      refine tq_getR (M := mX11_findAll) (pc := 117) tk_c11 (by decide) dX11_findAll_117 tk_RX11_35 rfl ek22 ?_
      refine tq_iload (M := mX11_findAll) (pc := 120) dX11_findAll_120 rfl ?_
      obtain ⟨x23, ex23, hf⟩ := tq_be hf
      refine tq_ialdF (M := mX11_findAll) (pc := 122) dX11_findAll_122 ex23 ?_
      refine tq_istore (M := mX11_findAll) (pc := 123) dX11_findAll_123 (L2 := [(5, .int x23), (0, .ref i0), (1, .long i1), (3, .int i3), (4, .int y4)]) (by decide) rfl ?_
      refine tq_lload_n (M := mX11_findAll) (pc := 125) dX11_findAll_125 rfl ?_
      refine tq_iload (M := mX11_findAll) (pc := 126) dX11_findAll_126 rfl ?_
      refine tq_lshr (M := mX11_findAll) (pc := 128) dX11_findAll_128 ?_
      refine tq_lconst (M := mX11_findAll) (pc := 129) dX11_findAll_129 tk_kl_1 ?_
      refine tq_land (M := mX11_findAll) (pc := 130) dX11_findAll_130 ?_
      refine tq_lconst (M := mX11_findAll) (pc := 131) dX11_findAll_131 tk_kl_1 ?_
      refine tq_lcmp (M := mX11_findAll) (pc := 132) dX11_findAll_132 ?_
      obtain ⟨p24, ep24, hf⟩ := tq_le hf
      have HJ133 : tq_W l mX11_findAll d 0 0 Q 144 [(0, .ref i0), (1, .long i1), (3, .int i3), (4, .int y4), (5, .int x23)] [.long p24] hh := by
        refine tq_lstore (M := mX11_findAll) (pc := 144) dX11_findAll_144 (L2 := [(6, .long p24), (0, .ref i0), (1, .long i1), (3, .int i3), (4, .int y4), (5, .int x23)]) (by decide) rfl ?_
        refine tq_iconst (M := mX11_findAll) (pc := 146) dX11_findAll_146 tk_ki_0 ?_
        refine tq_istore (M := mX11_findAll) (pc := 147) dX11_findAll_147 (L2 := [(8, .int (0 : Int32)), (6, .long p24), (0, .ref i0), (1, .long i1), (3, .int i3), (4, .int y4), (5, .int x23)]) (by decide) rfl ?_
        obtain ⟨o39, eo39, hf⟩ := tq_be hf
        refine tq_pick (L2 := [(0, .ref i0), (1, .long i1), (3, .int i3), (4, .int y4), (5, .int x23), (6, .long p24), (8, .int (0 : Int32))]) [2, 3, 4, 5, 6, 1, 0] rfl ?_
        refine l_X11_findAll_149 (by omega) i0 i1 i3 y4 x23 hh _ p24 (0 : Int32) _ eo39 ?_
        refine tq_aload_n (M := mX11_findAll) (pc := 235) dX11_findAll_235 rfl ?_
        obtain ⟨k40, ek40, hf⟩ := tq_be hf
        refine tq_getR (M := mX11_findAll) (pc := 236) tk_c11 (by decide) dX11_findAll_236 tk_RX11_80 rfl ek40 ?_
        refine tq_bipush (M := mX11_findAll) (pc := 239) dX11_findAll_239 tk_kb_60 ?_
        refine tq_iload_n (M := mX11_findAll) (pc := 241) dX11_findAll_241 rfl ?_
        refine tq_imul (M := mX11_findAll) (pc := 242) dX11_findAll_242 ?_
        refine tq_iload (M := mX11_findAll) (pc := 243) dX11_findAll_243 rfl ?_
        refine tq_iadd (M := mX11_findAll) (pc := 245) dX11_findAll_245 ?_
        refine tq_lload (M := mX11_findAll) (pc := 246) dX11_findAll_246 rfl ?_
        obtain ⟨w41, ew41, hf⟩ := tq_be hf
        refine tq_lastF (M := mX11_findAll) (pc := 248) dX11_findAll_248 ew41 ?_
        obtain ⟨x42, ex42, hf⟩ := tq_le hf
        refine tq_iinc (M := mX11_findAll) (pc := 249) (v := x42) (L2 := [(4, .int x42), (0, .ref i0), (1, .long i1), (3, .int i3), (5, .int x23), (6, .long o39)]) dX11_findAll_249 rfl (by rw [ex42, tk_ki_1]) (by decide) rfl ?_
        refine tq_goto (M := mX11_findAll) (pc := 252) (tgt := 107) dX11_findAll_252 (by decide) ?_
        refine tq_pick (L2 := [(0, .ref i0), (1, .long i1), (3, .int i3), (4, .int x42)]) [1, 2, 3, 0] rfl ?_
        cases (Option.some.inj hf)
        exact ih _ _ o (tq_lc ho) hk
      refine tq_if_ne (M := mX11_findAll) (pc := 133) (tgt := 143) dX11_findAll_133 (by decide) (fun cc => ?_) (fun cc => ?_)
      · have hf := tq_ifn ep24.symm cc
        refine tq_lconst (M := mX11_findAll) (pc := 143) dX11_findAll_143 tk_kl_0 ?_
        refine tq_pick (L2 := [(0, .ref i0), (1, .long i1), (3, .int i3), (4, .int y4), (5, .int x23)]) [1, 2, 3, 4, 0] rfl ?_
        cases hf
        exact HJ133
      · have hf := tq_ifp ep24.symm cc
        refine tq_lconst (M := mX11_findAll) (pc := 136) dX11_findAll_136 tk_kl_1 ?_
        refine tq_iload (M := mX11_findAll) (pc := 137) dX11_findAll_137 rfl ?_
        refine tq_lshl (M := mX11_findAll) (pc := 139) dX11_findAll_139 ?_
        refine tq_goto (M := mX11_findAll) (pc := 140) (tgt := 144) dX11_findAll_140 (by decide) ?_
        refine tq_pick (L2 := [(0, .ref i0), (1, .long i1), (3, .int i3), (4, .int y4), (5, .int x23)]) [1, 2, 3, 4, 0] rfl ?_
        cases hf
        exact HJ133
set_option maxHeartbeats 4000000 in
theorem l_X11_findAll_7 {l : Launch} {d : Nat} {Q : tq_R → tq_H → Prop} (hd9 : 4 ≤ d) (i0 : Nat) (i1 : Int64) : ∀ (n : Nat) (y3 : Int32) (hh : tq_H) (o : tq_H), tq_loop (f_X11_findAll_b7 i0 i1) n (y3, hh) = some o → tq_W l mX11_findAll d 0 0 Q 261 [] [] o → tq_W l mX11_findAll d 0 0 Q 7 [(0, .ref i0), (1, .long i1), (3, .int y3)] [] hh := by
  intro n
  induction n with
  | zero => intro y3 hh o hl; cases hl
  | succ n ih =>
    intro y3 hh o hl hk
    obtain ⟨oo, hf, ho⟩ := tq_loop_s hl
    refine tq_iload_n (M := mX11_findAll) (pc := 7) dX11_findAll_7 rfl ?_
    refine tq_aload_n (M := mX11_findAll) (pc := 8) dX11_findAll_8 rfl ?_
    obtain ⟨x2, ex2, hf⟩ := tq_be hf
    refine tq_getI (M := mX11_findAll) (pc := 9) tk_c11 (by decide) dX11_findAll_9 tk_RX11_296 rfl ex2 ?_
    refine tq_icmp_ge (M := mX11_findAll) (pc := 12) (tgt := 261) dX11_findAll_12 (by decide) (fun cc => ?_) (fun cc => ?_)
    · have hf := tq_ifp hf cc
      refine tq_pick (L2 := []) [] rfl ?_
      cases (Option.some.inj hf)
      cases (tq_lx ho)
      exact hk
    · have hf := tq_ifn hf cc
      refine tq_iconst (M := mX11_findAll) (pc := 15) dX11_findAll_15 tk_ki_0 ?_
      refine tq_istore (M := mX11_findAll) (pc := 16) dX11_findAll_16 (L2 := [(4, .int (0 : Int32)), (0, .ref i0), (1, .long i1), (3, .int y3)]) (by decide) rfl ?_
      obtain ⟨o20, eo20, hf⟩ := tq_be hf
      refine tq_pick (L2 := [(0, .ref i0), (1, .long i1), (3, .int y3), (4, .int (0 : Int32))]) [1, 2, 3, 0] rfl ?_
      refine l_X11_findAll_18 (by omega) i0 i1 y3 _ (0 : Int32) hh _ eo20 ?_
      refine tq_iconst (M := mX11_findAll) (pc := 104) dX11_findAll_104 tk_ki_0 ?_
      refine tq_istore (M := mX11_findAll) (pc := 105) dX11_findAll_105 (L2 := [(4, .int (0 : Int32)), (0, .ref i0), (1, .long i1), (3, .int y3)]) (by decide) rfl ?_
      obtain ⟨o43, eo43, hf⟩ := tq_be hf
      refine tq_pick (L2 := [(0, .ref i0), (1, .long i1), (3, .int y3), (4, .int (0 : Int32))]) [1, 2, 3, 0] rfl ?_
      refine l_X11_findAll_107 (by omega) i0 i1 y3 _ (0 : Int32) o20 _ eo43 ?_
      obtain ⟨x44, ex44, hf⟩ := tq_le hf
      refine tq_iinc (M := mX11_findAll) (pc := 255) (v := x44) (L2 := [(3, .int x44), (0, .ref i0), (1, .long i1)]) dX11_findAll_255 rfl (by rw [ex44, tk_ki_1]) (by decide) rfl ?_
      refine tq_goto (M := mX11_findAll) (pc := 258) (tgt := 7) dX11_findAll_258 (by decide) ?_
      refine tq_pick (L2 := [(0, .ref i0), (1, .long i1), (3, .int x44)]) [1, 2, 0] rfl ?_
      cases (Option.some.inj hf)
      exact ih _ _ o (tq_lc ho) hk
set_option maxHeartbeats 4000000 in
set_option maxRecDepth 20000 in
theorem w_X11_findAll {l : Launch} {d : Nat} (hd9 : 4 ≤ d) {t : Nat} {a1 : Int64} {h : tq_H} {o : tq_H} {Q : tq_R → tq_H → Prop} (hf : f_X11_findAll t a1 h = some o) (hQ : ∀ r h9, r = .inl none ∧ o = h9 → Q r h9) : tq_C l yX11_findAll cX11_findAll 12 none d 0 0 [.ref t, .long a1] h Q := by
  refine tq_body (y := yX11_findAll) false (by decide +kernel) (fun z => by cases z) (Nat.le_of_ble_eq_true rfl) ?_
  show tq_W l mX11_findAll d 0 0 Q 0 [(0, .ref t), (1, .long a1)] [] h
  refine tq_aload_n (M := mX11_findAll) (pc := 0) dX11_findAll_0 rfl ?_
  refine tq_lload_n (M := mX11_findAll) (pc := 1) dX11_findAll_1 rfl ?_
  obtain ⟨w1, ew1, hf⟩ := tq_be hf
  refine tq_putv (M := mX11_findAll) (pc := 2) tk_c11 (by decide) dX11_findAll_2 tk_RX11_325 rfl (Or.inl rfl) ew1 (tq_nL _) ?_
  refine tq_iconst (M := mX11_findAll) (pc := 5) dX11_findAll_5 tk_ki_0 ?_
  refine tq_istore_n (M := mX11_findAll) (pc := 6) rfl dX11_findAll_6 (L2 := [(3, .int (0 : Int32)), (0, .ref t), (1, .long a1)]) (by decide) rfl ?_
  obtain ⟨o45, eo45, hf⟩ := tq_be hf
  refine tq_pick (L2 := [(0, .ref t), (1, .long a1), (3, .int (0 : Int32))]) [1, 2, 0] rfl ?_
  refine l_X11_findAll_7 (by omega) t a1 _ (0 : Int32) w1 _ eo45 ?_
  refine tq_vret (M := mX11_findAll) (pc := 261) dX11_findAll_261 rfl ?_
  cases (Option.some.inj hf)
  exact hQ _ _ ⟨rfl, rfl⟩
abbrev mX11_bits : tq_M := (RX11, cX11_bits, 5, (some .int), false, [], none)
def f_X11_bits_b4 (hh : tq_H) (s : Int32 × Int64) : Option ((Int32 × Int64) ⊕ (Int32)) := match s with
  | (y2, y3) =>
    if (lg_cmp y3 (0 : Int64)) = 0 then
      some (.inr y2)
    else
      tq_let (y2 + (1 : Int32)) fun x1 =>
      tq_let ((y3 &&& (y3 - (1 : Int64)))) fun x2 =>
      some (.inl (x1, x2))
def f_X11_bits (a0 : Int64) (h : tq_H) : Option (Int32) :=
  (tq_loop (f_X11_bits_b4 h) tq_N ((0 : Int32), a0)).bind fun o3 =>
  some o3
set_option maxHeartbeats 4000000 in
theorem l_X11_bits_4 {l : Launch} {d : Nat} {Q : tq_R → tq_H → Prop} (hd9 : 0 ≤ d) (hh : tq_H) : ∀ (n : Nat) (y2 : Int32) (y3 : Int64) (o : Int32), tq_loop (f_X11_bits_b4 hh) n (y2, y3) = some o → tq_W l mX11_bits d 0 0 Q 22 [(2, .int o)] [] hh → tq_W l mX11_bits d 0 0 Q 4 [(2, .int y2), (3, .long y3)] [] hh := by
  intro n
  induction n with
  | zero => intro y2 y3 o hl; cases hl
  | succ n ih =>
    intro y2 y3 o hl hk
    obtain ⟨oo, hf, ho⟩ := tq_loop_s hl
    refine tq_lload_n (M := mX11_bits) (pc := 4) dX11_bits_4 rfl ?_
    refine tq_lconst (M := mX11_bits) (pc := 5) dX11_bits_5 tk_kl_0 ?_
    refine tq_lcmp (M := mX11_bits) (pc := 6) dX11_bits_6 ?_
    refine tq_if_eq (M := mX11_bits) (pc := 7) (tgt := 22) dX11_bits_7 (by decide) (fun cc => ?_) (fun cc => ?_)
    · have hf := tq_ifp hf cc
      refine tq_pick (L2 := [(2, .int y2)]) [0] rfl ?_
      cases (Option.some.inj hf)
      cases (tq_lx ho)
      exact hk
    · have hf := tq_ifn hf cc
      obtain ⟨x1, ex1, hf⟩ := tq_le hf
      refine tq_iinc (M := mX11_bits) (pc := 10) (v := x1) (L2 := [(2, .int x1), (3, .long y3)]) dX11_bits_10 rfl (by rw [ex1, tk_ki_1]) (by decide) rfl ?_
      refine tq_lload_n (M := mX11_bits) (pc := 13) dX11_bits_13 rfl ?_
      refine tq_lload_n (M := mX11_bits) (pc := 14) dX11_bits_14 rfl ?_
      refine tq_lconst (M := mX11_bits) (pc := 15) dX11_bits_15 tk_kl_1 ?_
      refine tq_lsub (M := mX11_bits) (pc := 16) dX11_bits_16 ?_
      refine tq_land (M := mX11_bits) (pc := 17) dX11_bits_17 ?_
      obtain ⟨x2, ex2, hf⟩ := tq_le hf
      refine tq_lstore_n (M := mX11_bits) (pc := 18) rfl dX11_bits_18 (L2 := [(3, .long x2), (2, .int x1)]) (by decide) (by rw [ex2]; rfl) ?_
      refine tq_goto (M := mX11_bits) (pc := 19) (tgt := 4) dX11_bits_19 (by decide) ?_
      refine tq_pick (L2 := [(2, .int x1), (3, .long x2)]) [1, 0] rfl ?_
      cases (Option.some.inj hf)
      exact ih _ _ o (tq_lc ho) hk
set_option maxHeartbeats 4000000 in
set_option maxRecDepth 20000 in
theorem w_X11_bits {l : Launch} {d : Nat} (hd9 : 0 ≤ d) {a0 : Int64} {h : tq_H} {o : Int32} {Q : tq_R → tq_H → Prop} (hf : f_X11_bits a0 h = some o) (hQ : ∀ r h9, r = .inl (some (.int o)) ∧ h = h9 → Q r h9) : tq_C l yX11_bits cX11_bits 5 (some .int) d 0 0 [.long a0] h Q := by
  refine tq_body (y := yX11_bits) false (by decide +kernel) (fun z => by cases z) (Nat.le_of_ble_eq_true rfl) ?_
  show tq_W l mX11_bits d 0 0 Q 0 [(0, .long a0)] [] h
  refine tq_iconst (M := mX11_bits) (pc := 0) dX11_bits_0 tk_ki_0 ?_
  refine tq_istore_n (M := mX11_bits) (pc := 1) rfl dX11_bits_1 (L2 := [(2, .int (0 : Int32)), (0, .long a0)]) (by decide) rfl ?_
  refine tq_lload_n (M := mX11_bits) (pc := 2) dX11_bits_2 rfl ?_
  refine tq_lstore_n (M := mX11_bits) (pc := 3) rfl dX11_bits_3 (L2 := [(3, .long a0), (2, .int (0 : Int32)), (0, .long a0)]) (by decide) rfl ?_
  obtain ⟨o3, eo3, hf⟩ := tq_be hf
  refine tq_pick (L2 := [(2, .int (0 : Int32)), (3, .long a0)]) [1, 0] rfl ?_
  refine l_X11_bits_4 (by omega) h _ (0 : Int32) a0 _ eo3 ?_
  refine tq_iload_n (M := mX11_bits) (pc := 22) dX11_bits_22 rfl ?_
  refine tq_iret (M := mX11_bits) (pc := 23) dX11_bits_23 rfl ?_
  cases (Option.some.inj hf)
  exact hQ _ _ ⟨rfl, rfl⟩
abbrev mX11_lookAtViews : tq_M := (RX11, cX11_lookAtViews, 4, none, false, [], none)
def f_X11_lookAtViews_b10 (i0 : Nat) (s : Int32 × tq_H) : Option ((Int32 × tq_H) ⊕ (tq_H)) := match s with
  | (y1, hh) =>
    (tq_gi hh i0 11 45).bind fun x5 =>
    if y1 ≥ x5 then
      some (.inr hh)
    else
      (tq_gr hh i0 11 29).bind fun k6 =>
      (tq_gr hh i0 11 46).bind fun k7 =>
      (tq_ai hh k7 y1).bind fun x8 =>
      (tq_aj hh k6 ((60 : Int32) * x8)).bind fun x9 =>
      (tq_gr hh i0 11 47).bind fun k10 =>
      (tq_gr hh i0 11 48).bind fun k11 =>
      (tq_aj hh k11 y1).bind fun x12 =>
      (f_X11_bits (x9 ^^^ x12) hh).bind fun v13 =>
      (tq_si hh k10 y1 v13).bind fun w14 =>
      (tq_gr w14 i0 11 48).bind fun k15 =>
      (tq_sl w14 k15 y1 x9).bind fun w16 =>
      tq_let (y1 + (1 : Int32)) fun x17 =>
      some (.inl (x17, w16))
def f_X11_lookAtViews (t : Nat) (h : tq_H) : Option (tq_H) :=
  (tq_is h t 11).bind fun _ =>
  (f_X11_all t h).bind fun v1 =>
  (tq_is h t 11).bind fun _ =>
  (f_X11_findAll t v1 h).bind fun v3 =>
  (tq_loop (f_X11_lookAtViews_b10 t) tq_N ((0 : Int32), v3)).bind fun o18 =>
  some o18
set_option maxHeartbeats 4000000 in
theorem l_X11_lookAtViews_10 {l : Launch} {d : Nat} {Q : tq_R → tq_H → Prop} (hd9 : 5 ≤ d) (i0 : Nat) : ∀ (n : Nat) (y1 : Int32) (hh : tq_H) (o : tq_H), tq_loop (f_X11_lookAtViews_b10 i0) n (y1, hh) = some o → tq_W l mX11_lookAtViews d 0 0 Q 63 [] [] o → tq_W l mX11_lookAtViews d 0 0 Q 10 [(0, .ref i0), (1, .int y1)] [] hh := by
  intro n
  induction n with
  | zero => intro y1 hh o hl; cases hl
  | succ n ih =>
    intro y1 hh o hl hk
    obtain ⟨oo, hf, ho⟩ := tq_loop_s hl
    refine tq_iload_n (M := mX11_lookAtViews) (pc := 10) dX11_lookAtViews_10 rfl ?_
    refine tq_aload_n (M := mX11_lookAtViews) (pc := 11) dX11_lookAtViews_11 rfl ?_
    obtain ⟨x5, ex5, hf⟩ := tq_be hf
    refine tq_getI (M := mX11_lookAtViews) (pc := 12) tk_c11 (by decide) dX11_lookAtViews_12 tk_RX11_299 rfl ex5 ?_
    refine tq_icmp_ge (M := mX11_lookAtViews) (pc := 15) (tgt := 63) dX11_lookAtViews_15 (by decide) (fun cc => ?_) (fun cc => ?_)
    · have hf := tq_ifp hf cc
      refine tq_pick (L2 := []) [] rfl ?_
      cases (Option.some.inj hf)
      cases (tq_lx ho)
      exact hk
    · have hf := tq_ifn hf cc
      refine tq_aload_n (M := mX11_lookAtViews) (pc := 18) dX11_lookAtViews_18 rfl ?_
      obtain ⟨k6, ek6, hf⟩ := tq_be hf
      refine tq_getR (M := mX11_lookAtViews) (pc := 19) tk_c11 (by decide) dX11_lookAtViews_19 tk_RX11_80 rfl ek6 ?_
      refine tq_bipush (M := mX11_lookAtViews) (pc := 22) dX11_lookAtViews_22 tk_kb_60 ?_
      refine tq_aload_n (M := mX11_lookAtViews) (pc := 24) dX11_lookAtViews_24 rfl ?_
      obtain ⟨k7, ek7, hf⟩ := tq_be hf
      refine tq_getR (M := mX11_lookAtViews) (pc := 25) tk_c11 (by decide) dX11_lookAtViews_25 tk_RX11_117 rfl ek7 ?_
      refine tq_iload_n (M := mX11_lookAtViews) (pc := 28) dX11_lookAtViews_28 rfl ?_
      obtain ⟨x8, ex8, hf⟩ := tq_be hf
      refine tq_ialdF (M := mX11_lookAtViews) (pc := 29) dX11_lookAtViews_29 ex8 ?_
      refine tq_imul (M := mX11_lookAtViews) (pc := 30) dX11_lookAtViews_30 ?_
      obtain ⟨x9, ex9, hf⟩ := tq_be hf
      refine tq_laldF (M := mX11_lookAtViews) (pc := 31) dX11_lookAtViews_31 ex9 ?_
      refine tq_lstore_n (M := mX11_lookAtViews) (pc := 32) rfl dX11_lookAtViews_32 (L2 := [(2, .long x9), (0, .ref i0), (1, .int y1)]) (by decide) rfl ?_
      refine tq_aload_n (M := mX11_lookAtViews) (pc := 33) dX11_lookAtViews_33 rfl ?_
      obtain ⟨k10, ek10, hf⟩ := tq_be hf
      refine tq_getR (M := mX11_lookAtViews) (pc := 34) tk_c11 (by decide) dX11_lookAtViews_34 tk_RX11_120 rfl ek10 ?_
      refine tq_iload_n (M := mX11_lookAtViews) (pc := 37) dX11_lookAtViews_37 rfl ?_
      refine tq_lload_n (M := mX11_lookAtViews) (pc := 38) dX11_lookAtViews_38 rfl ?_
      refine tq_aload_n (M := mX11_lookAtViews) (pc := 39) dX11_lookAtViews_39 rfl ?_
      obtain ⟨k11, ek11, hf⟩ := tq_be hf
      refine tq_getR (M := mX11_lookAtViews) (pc := 40) tk_c11 (by decide) dX11_lookAtViews_40 tk_RX11_123 rfl ek11 ?_
      refine tq_iload_n (M := mX11_lookAtViews) (pc := 43) dX11_lookAtViews_43 rfl ?_
      obtain ⟨x12, ex12, hf⟩ := tq_be hf
      refine tq_laldF (M := mX11_lookAtViews) (pc := 44) dX11_lookAtViews_44 ex12 ?_
      refine tq_lxor (M := mX11_lookAtViews) (pc := 45) dX11_lookAtViews_45 ?_
      obtain ⟨v13, ev13, hf⟩ := tq_be hf
      refine tq_calS (M := mX11_lookAtViews) (pc := 46) (S := [.int y1, .ref k10]) tk_y_X11_bits tk_s_X11_bits tk_RX11_361 dX11_lookAtViews_46 [.long ((x9 ^^^ x12))] rfl (Nat.le_of_ble_eq_true rfl) (d1 := d - 1) (b1 := 0) (s1 := 0) (bc' := 0) (bs' := 0) (Q1 := fun r h9 => r = .inl (some (.int v13)) ∧ hh = h9) (by omega) rfl rfl (w_X11_bits (by omega) ev13 (fun _ _ q => q)) (fun E h9 q => nomatch (show (Sum.inr E : tq_R) = Sum.inl _ from q.1)) (fun r9 h9 q => ?_)
      obtain ⟨q1, rfl⟩ := q
      cases (show (Sum.inl r9 : tq_R) = Sum.inl (some (.int v13)) from q1)
      obtain ⟨w14, ew14, hf⟩ := tq_be hf
      refine tq_iastF (M := mX11_lookAtViews) (pc := 49) dX11_lookAtViews_49 ew14 ?_
      refine tq_aload_n (M := mX11_lookAtViews) (pc := 50) dX11_lookAtViews_50 rfl ?_
      obtain ⟨k15, ek15, hf⟩ := tq_be hf
      refine tq_getR (M := mX11_lookAtViews) (pc := 51) tk_c11 (by decide) dX11_lookAtViews_51 tk_RX11_123 rfl ek15 ?_
      refine tq_iload_n (M := mX11_lookAtViews) (pc := 54) dX11_lookAtViews_54 rfl ?_
      refine tq_lload_n (M := mX11_lookAtViews) (pc := 55) dX11_lookAtViews_55 rfl ?_
      obtain ⟨w16, ew16, hf⟩ := tq_be hf
      refine tq_lastF (M := mX11_lookAtViews) (pc := 56) dX11_lookAtViews_56 ew16 ?_
      obtain ⟨x17, ex17, hf⟩ := tq_le hf
      refine tq_iinc (M := mX11_lookAtViews) (pc := 57) (v := x17) (L2 := [(1, .int x17), (2, .long x9), (0, .ref i0)]) dX11_lookAtViews_57 rfl (by rw [ex17, tk_ki_1]) (by decide) rfl ?_
      refine tq_goto (M := mX11_lookAtViews) (pc := 60) (tgt := 10) dX11_lookAtViews_60 (by decide) ?_
      refine tq_pick (L2 := [(0, .ref i0), (1, .int x17)]) [2, 0] rfl ?_
      cases (Option.some.inj hf)
      exact ih _ _ o (tq_lc ho) hk
set_option maxHeartbeats 4000000 in
set_option maxRecDepth 20000 in
theorem w_X11_lookAtViews {l : Launch} {d : Nat} (hd9 : 5 ≤ d) {t : Nat} {h : tq_H} {o : tq_H} {Q : tq_R → tq_H → Prop} (hf : f_X11_lookAtViews t h = some o) (hQ : ∀ r h9, r = .inl none ∧ o = h9 → Q r h9) : tq_C l yX11_lookAtViews cX11_lookAtViews 4 none d 0 0 [.ref t] h Q := by
  refine tq_body (y := yX11_lookAtViews) false (by decide +kernel) (fun z => by cases z) (Nat.le_of_ble_eq_true rfl) ?_
  show tq_W l mX11_lookAtViews d 0 0 Q 0 [(0, .ref t)] [] h
  refine tq_aload_n (M := mX11_lookAtViews) (pc := 0) dX11_lookAtViews_0 rfl ?_
  refine tq_aload_n (M := mX11_lookAtViews) (pc := 1) dX11_lookAtViews_1 rfl ?_
  obtain ⟨⟨⟩, eu2, hf⟩ := tq_be hf
  obtain ⟨fsu2, eu2⟩ := tq_is_s eu2
  obtain ⟨v1, ev1, hf⟩ := tq_be hf
  refine tq_calV (M := mX11_lookAtViews) (pc := 2) (S := [.ref t]) tk_y_X11_all tk_v_X11_all tk_RX11_228 dX11_lookAtViews_2 [] rfl (S0 := _) rfl eu2 rfl (Nat.le_of_ble_eq_true rfl) (d1 := d - 1) (b1 := 0) (s1 := 0) (bc' := 0) (bs' := 0) (Q1 := fun r h9 => r = .inl (some (.long v1)) ∧ h = h9) (by omega) rfl rfl (w_X11_all (by omega) ev1 (fun _ _ q => q)) (fun E h9 q => nomatch (show (Sum.inr E : tq_R) = Sum.inl _ from q.1)) (fun r9 h9 q => ?_)
  obtain ⟨q1, rfl⟩ := q
  cases (show (Sum.inl r9 : tq_R) = Sum.inl (some (.long v1)) from q1)
  obtain ⟨⟨⟩, eu4, hf⟩ := tq_be hf
  obtain ⟨fsu4, eu4⟩ := tq_is_s eu4
  obtain ⟨v3, ev3, hf⟩ := tq_be hf
  refine tq_calV (M := mX11_lookAtViews) (pc := 5) (S := []) tk_y_X11_findAll tk_v_X11_findAll tk_RX11_348 dX11_lookAtViews_5 [.long v1] rfl (S0 := _) rfl eu4 rfl (Nat.le_of_ble_eq_true rfl) (d1 := d - 1) (b1 := 0) (s1 := 0) (bc' := 0) (bs' := 0) (Q1 := fun r h9 => r = .inl none ∧ v3 = h9) (by omega) rfl rfl (w_X11_findAll (by omega) ev3 (fun _ _ q => q)) (fun E h9 q => nomatch (show (Sum.inr E : tq_R) = Sum.inl _ from q.1)) (fun r9 h9 q => ?_)
  obtain ⟨q1, rfl⟩ := q
  cases (show (Sum.inl r9 : tq_R) = Sum.inl (none) from q1)
  refine tq_iconst (M := mX11_lookAtViews) (pc := 8) dX11_lookAtViews_8 tk_ki_0 ?_
  refine tq_istore_n (M := mX11_lookAtViews) (pc := 9) rfl dX11_lookAtViews_9 (L2 := [(1, .int (0 : Int32)), (0, .ref t)]) (by decide) rfl ?_
  obtain ⟨o18, eo18, hf⟩ := tq_be hf
  refine tq_pick (L2 := [(0, .ref t), (1, .int (0 : Int32))]) [1, 0] rfl ?_
  refine l_X11_lookAtViews_10 (by omega) t _ (0 : Int32) v3 _ eo18 ?_
  refine tq_vret (M := mX11_lookAtViews) (pc := 63) dX11_lookAtViews_63 rfl ?_
  cases (Option.some.inj hf)
  exact hQ _ _ ⟨rfl, rfl⟩
abbrev mX11_apply : tq_M := (RX11, cX11_apply, 6, (some .int), false, [], none)
def f_X11_apply_b63 (i0 : Nat) (i1 : Int32) (i2 : Int64) (s : Int32 × tq_H) : Option ((Int32 × tq_H) ⊕ (tq_H)) := match s with
  | (y5, hh) =>
    (tq_gi hh i0 11 1).bind fun x17 =>
    if y5 ≥ x17 then
      some (.inr hh)
    else
      (tq_gr hh i0 11 9).bind fun k18 =>
      (tq_gr hh i0 11 9).bind fun k19 =>
      (tq_az hh k19 y5).bind fun x20 =>
      (if x20 = 0 then
        if y5 < i1 then
          some (0 : Int32)
        else
          (tq_is hh i0 11).bind fun _ =>
          (f_X11_hangs i0 y5 hh).bind fun v23 =>
          if v23 = 0 then
            some (0 : Int32)
          else
            some (1 : Int32)
      else
        (tq_is hh i0 11).bind fun _ =>
        (f_X11_hangs i0 y5 hh).bind fun v21 =>
        if v21 = 0 then
          some (0 : Int32)
        else
          some (1 : Int32)).bind fun p25 =>
      (tq_sz hh k18 y5 p25).bind fun w26 =>
      tq_let (y5 + (1 : Int32)) fun x27 =>
      some (.inl (x27, w26))
def f_X11_apply (t : Nat) (h : tq_H) : Option (Int32 × tq_H) :=
  (tq_is h t 11).bind fun _ =>
  (f_X11_isAtOdds t h).bind fun v1 =>
  (if v1 = 0 then
    (tq_is h t 11).bind fun _ =>
    (f_X11_madeBehind t h).bind fun v3 =>
    if v3 ≤ (60 : Int32) then
      some (0 : Int32)
    else
      some (1 : Int32)
  else
    some (1 : Int32)).bind fun p5 =>
  (tq_is h t 11).bind fun _ =>
  (f_X11_refused t p5 h).bind fun v6 =>
  if v6.1 = 0 then
    (tq_is v6.2 t 11).bind fun _ =>
    (f_X11_remember t v6.2).bind fun v8 =>
    (tq_gi v8 t 11 1).bind fun x10 =>
    (tq_is v8 t 11).bind fun _ =>
    (f_X11_all t v8).bind fun v11 =>
    (tq_is v8 t 11).bind fun _ =>
    (f_X11_perform t v8).bind fun v13 =>
    (tq_is v13 t 11).bind fun _ =>
    (f_X11_isSound t x10 v13).bind fun v15 =>
    (if v15 = 0 then
      some (v15, v13)
    else
      (tq_loop (f_X11_apply_b63 t x10 v11) tq_N ((0 : Int32), v13)).bind fun o28 =>
      (tq_is o28 t 11).bind fun _ =>
      (f_X11_arrange t o28).bind fun v29 =>
      (tq_is v29 t 11).bind fun _ =>
      (f_X11_hasTwice t v29).bind fun v31 =>
      (if v31 = 0 then
        (tq_gi v29 t 11 42).bind fun x33 =>
        if x33 = 0 then
          some ((1 : Int32), v29)
        else
          (tq_is v29 t 11).bind fun _ =>
          (f_X11_isRight t v29).bind fun v34 =>
          if v34.1 = 0 then
            some ((0 : Int32), v34.2)
          else
            some ((1 : Int32), v34.2)
      else
        some ((0 : Int32), v29)).bind fun p36 =>
      some (p36.1, p36.2)).bind fun p37 =>
    if p37.1 = 0 then
      (tq_pf p37.2 t 11 1 (.int x10)).bind fun w46 =>
      (tq_is w46 t 11).bind fun _ =>
      (f_X11_comeBack t w46).bind fun v47 =>
      (tq_is v47 t 11).bind fun _ =>
      (f_X11_arrange t v47).bind fun v49 =>
      (tq_is v49 t 11).bind fun _ =>
      (f_X11_refused t (1 : Int32) v49).bind fun v51 =>
      some ((0 : Int32), v51.2)
    else
      (tq_is p37.2 t 11).bind fun _ =>
      (f_X11_markNew t x10 v11 p37.2).bind fun v38 =>
      (tq_pf v38 t 11 15 (.int (0 : Int32))).bind fun w40 =>
      (tq_is w40 t 11).bind fun _ =>
      (f_X11_number t w40).bind fun v41 =>
      (tq_is v41 t 11).bind fun _ =>
      (f_X11_lookAtViews t v41).bind fun v43 =>
      (tq_gi v43 t 11 11).bind fun x45 =>
      some (x45, v43)
  else
    some ((0 : Int32), v6.2)
set_option maxHeartbeats 4000000 in
theorem l_X11_apply_63 {l : Launch} {d : Nat} {Q : tq_R → tq_H → Prop} (hd9 : 6 ≤ d) (i0 : Nat) (i1 : Int32) (i2 : Int64) : ∀ (n : Nat) (y5 : Int32) (hh : tq_H) (o : tq_H), tq_loop (f_X11_apply_b63 i0 i1 i2) n (y5, hh) = some o → tq_W l mX11_apply d 0 0 Q 115 [(0, .ref i0), (1, .int i1), (2, .long i2)] [] o → tq_W l mX11_apply d 0 0 Q 63 [(0, .ref i0), (1, .int i1), (2, .long i2), (5, .int y5)] [] hh := by
  intro n
  induction n with
  | zero => intro y5 hh o hl; cases hl
  | succ n ih =>
    intro y5 hh o hl hk
    obtain ⟨oo, hf, ho⟩ := tq_loop_s hl
    refine tq_iload (M := mX11_apply) (pc := 63) dX11_apply_63 rfl ?_
    refine tq_aload_n (M := mX11_apply) (pc := 65) dX11_apply_65 rfl ?_
    obtain ⟨x17, ex17, hf⟩ := tq_be hf
    refine tq_getI (M := mX11_apply) (pc := 66) tk_c11 (by decide) dX11_apply_66 tk_RX11_159 rfl ex17 ?_
    refine tq_icmp_ge (M := mX11_apply) (pc := 69) (tgt := 115) dX11_apply_69 (by decide) (fun cc => ?_) (fun cc => ?_)
    · have hf := tq_ifp hf cc
      refine tq_pick (L2 := [(0, .ref i0), (1, .int i1), (2, .long i2)]) [0, 1, 2] rfl ?_
      cases (Option.some.inj hf)
      cases (tq_lx ho)
      exact hk
    · have hf := tq_ifn hf cc
      refine tq_aload_n (M := mX11_apply) (pc := 72) dX11_apply_72 rfl ?_
      obtain ⟨k18, ek18, hf⟩ := tq_be hf
      refine tq_getR (M := mX11_apply) (pc := 73) tk_c11 (by decide) dX11_apply_73 tk_RX11_31 rfl ek18 ?_
      refine tq_iload (M := mX11_apply) (pc := 76) dX11_apply_76 rfl ?_
      refine tq_aload_n (M := mX11_apply) (pc := 78) dX11_apply_78 rfl ?_
      obtain ⟨k19, ek19, hf⟩ := tq_be hf
      refine tq_getR (M := mX11_apply) (pc := 79) tk_c11 (by decide) dX11_apply_79 tk_RX11_31 rfl ek19 ?_
      refine tq_iload (M := mX11_apply) (pc := 82) dX11_apply_82 rfl ?_
      obtain ⟨x20, ex20, hf⟩ := tq_be hf
      refine tq_zaldF (M := mX11_apply) (pc := 84) dX11_apply_84 ex20 ?_
      obtain ⟨p25, ep25, hf⟩ := tq_be hf
      have HJ85 : tq_W l mX11_apply d 0 0 Q 108 [(0, .ref i0), (1, .int i1), (2, .long i2), (5, .int y5)] [.int p25, .int y5, .ref k18] hh := by
        obtain ⟨w26, ew26, hf⟩ := tq_be hf
        refine tq_zastF (M := mX11_apply) (pc := 108) dX11_apply_108 ew26 ?_
        obtain ⟨x27, ex27, hf⟩ := tq_le hf
        refine tq_iinc (M := mX11_apply) (pc := 109) (v := x27) (L2 := [(5, .int x27), (0, .ref i0), (1, .int i1), (2, .long i2)]) dX11_apply_109 rfl (by rw [ex27, tk_ki_1]) (by decide) rfl ?_
        refine tq_goto (M := mX11_apply) (pc := 112) (tgt := 63) dX11_apply_112 (by decide) ?_
        refine tq_pick (L2 := [(0, .ref i0), (1, .int i1), (2, .long i2), (5, .int x27)]) [1, 2, 3, 0] rfl ?_
        cases (Option.some.inj hf)
        exact ih _ _ o (tq_lc ho) hk
      refine tq_if_ne (M := mX11_apply) (pc := 85) (tgt := 94) dX11_apply_85 (by decide) (fun cc => ?_) (fun cc => ?_)
      · have hf := tq_ifn ep25 cc
        refine tq_aload_n (M := mX11_apply) (pc := 94) dX11_apply_94 rfl ?_
        refine tq_iload (M := mX11_apply) (pc := 95) dX11_apply_95 rfl ?_
        obtain ⟨⟨⟩, eu22, hf⟩ := tq_be hf
        obtain ⟨fsu22, eu22⟩ := tq_is_s eu22
        obtain ⟨v21, ev21, hf⟩ := tq_be hf
        refine tq_calV (M := mX11_apply) (pc := 97) (S := [.int y5, .ref k18]) tk_y_X11_hangs tk_v_X11_hangs tk_RX11_238 dX11_apply_97 [.int y5] rfl (S0 := _) rfl eu22 rfl (Nat.le_of_ble_eq_true rfl) (d1 := d - 1) (b1 := 0) (s1 := 0) (bc' := 0) (bs' := 0) (Q1 := fun r h9 => r = .inl (some (.int v21)) ∧ hh = h9) (by omega) rfl rfl (w_X11_hangs (by omega) ev21 (fun _ _ q => q)) (fun E h9 q => nomatch (show (Sum.inr E : tq_R) = Sum.inl _ from q.1)) (fun r9 h9 q => ?_)
        obtain ⟨q1, rfl⟩ := q
        cases (show (Sum.inl r9 : tq_R) = Sum.inl (some (.int v21)) from q1)
        refine tq_if_eq (M := mX11_apply) (pc := 100) (tgt := 107) dX11_apply_100 (by decide) (fun cc => ?_) (fun cc => ?_)
        · have hf := tq_ifp hf cc
          refine tq_iconst (M := mX11_apply) (pc := 107) dX11_apply_107 tk_ki_0 ?_
          cases (Option.some.inj hf)
          exact HJ85
        · have hf := tq_ifn hf cc
          refine tq_iconst (M := mX11_apply) (pc := 103) dX11_apply_103 tk_ki_1 ?_
          refine tq_goto (M := mX11_apply) (pc := 104) (tgt := 108) dX11_apply_104 (by decide) ?_
          cases (Option.some.inj hf)
          exact HJ85
      · have hf := tq_ifp ep25 cc
        refine tq_iload (M := mX11_apply) (pc := 88) dX11_apply_88 rfl ?_
        refine tq_iload_n (M := mX11_apply) (pc := 90) dX11_apply_90 rfl ?_
        refine tq_icmp_lt (M := mX11_apply) (pc := 91) (tgt := 107) dX11_apply_91 (by decide) (fun cc => ?_) (fun cc => ?_)
        · have hf := tq_ifp hf cc
          refine tq_iconst (M := mX11_apply) (pc := 107) dX11_apply_107 tk_ki_0 ?_
          cases (Option.some.inj hf)
          exact HJ85
        · have hf := tq_ifn hf cc
          refine tq_aload_n (M := mX11_apply) (pc := 94) dX11_apply_94 rfl ?_
          refine tq_iload (M := mX11_apply) (pc := 95) dX11_apply_95 rfl ?_
          obtain ⟨⟨⟩, eu24, hf⟩ := tq_be hf
          obtain ⟨fsu24, eu24⟩ := tq_is_s eu24
          obtain ⟨v23, ev23, hf⟩ := tq_be hf
          refine tq_calV (M := mX11_apply) (pc := 97) (S := [.int y5, .ref k18]) tk_y_X11_hangs tk_v_X11_hangs tk_RX11_238 dX11_apply_97 [.int y5] rfl (S0 := _) rfl eu24 rfl (Nat.le_of_ble_eq_true rfl) (d1 := d - 1) (b1 := 0) (s1 := 0) (bc' := 0) (bs' := 0) (Q1 := fun r h9 => r = .inl (some (.int v23)) ∧ hh = h9) (by omega) rfl rfl (w_X11_hangs (by omega) ev23 (fun _ _ q => q)) (fun E h9 q => nomatch (show (Sum.inr E : tq_R) = Sum.inl _ from q.1)) (fun r9 h9 q => ?_)
          obtain ⟨q1, rfl⟩ := q
          cases (show (Sum.inl r9 : tq_R) = Sum.inl (some (.int v23)) from q1)
          refine tq_if_eq (M := mX11_apply) (pc := 100) (tgt := 107) dX11_apply_100 (by decide) (fun cc => ?_) (fun cc => ?_)
          · have hf := tq_ifp hf cc
            refine tq_iconst (M := mX11_apply) (pc := 107) dX11_apply_107 tk_ki_0 ?_
            cases (Option.some.inj hf)
            exact HJ85
          · have hf := tq_ifn hf cc
            refine tq_iconst (M := mX11_apply) (pc := 103) dX11_apply_103 tk_ki_1 ?_
            refine tq_goto (M := mX11_apply) (pc := 104) (tgt := 108) dX11_apply_104 (by decide) ?_
            cases (Option.some.inj hf)
            exact HJ85
set_option maxHeartbeats 4000000 in
set_option maxRecDepth 20000 in
theorem w_X11_apply {l : Launch} {d : Nat} (hd9 : 6 ≤ d) {t : Nat} {h : tq_H} {o : Int32 × tq_H} {Q : tq_R → tq_H → Prop} (hf : f_X11_apply t h = some o) (hQ : ∀ r h9, r = .inl (some (.int o.1)) ∧ o.2 = h9 → Q r h9) : tq_C l yX11_apply cX11_apply 6 (some .int) d 0 0 [.ref t] h Q := by
  refine tq_body (y := yX11_apply) false (by decide +kernel) (fun z => by cases z) (Nat.le_of_ble_eq_true rfl) ?_
  show tq_W l mX11_apply d 0 0 Q 0 [(0, .ref t)] [] h
  refine tq_aload_n (M := mX11_apply) (pc := 0) dX11_apply_0 rfl ?_
  refine tq_aload_n (M := mX11_apply) (pc := 1) dX11_apply_1 rfl ?_
  obtain ⟨⟨⟩, eu2, hf⟩ := tq_be hf
  obtain ⟨fsu2, eu2⟩ := tq_is_s eu2
  obtain ⟨v1, ev1, hf⟩ := tq_be hf
  refine tq_calV (M := mX11_apply) (pc := 2) (S := [.ref t]) tk_y_X11_isAtOdds tk_v_X11_isAtOdds tk_RX11_217 dX11_apply_2 [] rfl (S0 := _) rfl eu2 rfl (Nat.le_of_ble_eq_true rfl) (d1 := d - 1) (b1 := 0) (s1 := 0) (bc' := 0) (bs' := 0) (Q1 := fun r h9 => r = .inl (some (.int v1)) ∧ h = h9) (by omega) rfl rfl (w_X11_isAtOdds (by omega) ev1 (fun _ _ q => q)) (fun E h9 q => nomatch (show (Sum.inr E : tq_R) = Sum.inl _ from q.1)) (fun r9 h9 q => ?_)
  obtain ⟨q1, rfl⟩ := q
  cases (show (Sum.inl r9 : tq_R) = Sum.inl (some (.int v1)) from q1)
  obtain ⟨p5, ep5, hf⟩ := tq_be hf
  have HJ5 : tq_W l mX11_apply d 0 0 Q 22 [(0, .ref t)] [.int p5, .ref t] h := by
    obtain ⟨⟨⟩, eu7, hf⟩ := tq_be hf
    obtain ⟨fsu7, eu7⟩ := tq_is_s eu7
    obtain ⟨v6, ev6, hf⟩ := tq_be hf
    refine tq_calV (M := mX11_apply) (pc := 22) (S := []) tk_y_X11_refused tk_v_X11_refused tk_RX11_204 dX11_apply_22 [.int p5] rfl (S0 := _) rfl eu7 rfl (Nat.le_of_ble_eq_true rfl) (d1 := d - 1) (b1 := 0) (s1 := 0) (bc' := 0) (bs' := 0) (Q1 := fun r h9 => r = .inl (some (.int v6.1)) ∧ v6.2 = h9) (by omega) rfl rfl (w_X11_refused (by omega) ev6 (fun _ _ q => q)) (fun E h9 q => nomatch (show (Sum.inr E : tq_R) = Sum.inl _ from q.1)) (fun r9 h9 q => ?_)
    obtain ⟨q1, rfl⟩ := q
    cases (show (Sum.inl r9 : tq_R) = Sum.inl (some (.int v6.1)) from q1)
    refine tq_if_eq (M := mX11_apply) (pc := 25) (tgt := 30) dX11_apply_25 (by decide) (fun cc => ?_) (fun cc => ?_)
    · have hf := tq_ifp hf cc
      refine tq_aload_n (M := mX11_apply) (pc := 30) dX11_apply_30 rfl ?_
      obtain ⟨⟨⟩, eu9, hf⟩ := tq_be hf
      obtain ⟨fsu9, eu9⟩ := tq_is_s eu9
      obtain ⟨v8, ev8, hf⟩ := tq_be hf
      refine tq_calV (M := mX11_apply) (pc := 31) (S := []) tk_y_X11_remember tk_v_X11_remember tk_RX11_225 dX11_apply_31 [] rfl (S0 := _) rfl eu9 rfl (Nat.le_of_ble_eq_true rfl) (d1 := d - 1) (b1 := 0) (s1 := 0) (bc' := 0) (bs' := 0) (Q1 := fun r h9 => r = .inl none ∧ v8 = h9) (by omega) rfl rfl (w_X11_remember (by omega) ev8 (fun _ _ q => q)) (fun E h9 q => nomatch (show (Sum.inr E : tq_R) = Sum.inl _ from q.1)) (fun r9 h9 q => ?_)
      obtain ⟨q1, rfl⟩ := q
      cases (show (Sum.inl r9 : tq_R) = Sum.inl (none) from q1)
      refine tq_aload_n (M := mX11_apply) (pc := 34) dX11_apply_34 rfl ?_
      obtain ⟨x10, ex10, hf⟩ := tq_be hf
      refine tq_getI (M := mX11_apply) (pc := 35) tk_c11 (by decide) dX11_apply_35 tk_RX11_159 rfl ex10 ?_
      refine tq_istore_n (M := mX11_apply) (pc := 38) rfl dX11_apply_38 (L2 := [(1, .int x10), (0, .ref t)]) (by decide) rfl ?_
      refine tq_aload_n (M := mX11_apply) (pc := 39) dX11_apply_39 rfl ?_
      obtain ⟨⟨⟩, eu12, hf⟩ := tq_be hf
      obtain ⟨fsu12, eu12⟩ := tq_is_s eu12
      obtain ⟨v11, ev11, hf⟩ := tq_be hf
      refine tq_calV (M := mX11_apply) (pc := 40) (S := []) tk_y_X11_all tk_v_X11_all tk_RX11_228 dX11_apply_40 [] rfl (S0 := _) rfl eu12 rfl (Nat.le_of_ble_eq_true rfl) (d1 := d - 1) (b1 := 0) (s1 := 0) (bc' := 0) (bs' := 0) (Q1 := fun r h9 => r = .inl (some (.long v11)) ∧ v8 = h9) (by omega) rfl rfl (w_X11_all (by omega) ev11 (fun _ _ q => q)) (fun E h9 q => nomatch (show (Sum.inr E : tq_R) = Sum.inl _ from q.1)) (fun r9 h9 q => ?_)
      obtain ⟨q1, rfl⟩ := q
      cases (show (Sum.inl r9 : tq_R) = Sum.inl (some (.long v11)) from q1)
      refine tq_lstore_n (M := mX11_apply) (pc := 43) rfl dX11_apply_43 (L2 := [(2, .long v11), (1, .int x10), (0, .ref t)]) (by decide) rfl ?_
      refine tq_aload_n (M := mX11_apply) (pc := 44) dX11_apply_44 rfl ?_
      obtain ⟨⟨⟩, eu14, hf⟩ := tq_be hf
      obtain ⟨fsu14, eu14⟩ := tq_is_s eu14
      obtain ⟨v13, ev13, hf⟩ := tq_be hf
      refine tq_calV (M := mX11_apply) (pc := 45) (S := []) tk_y_X11_perform tk_v_X11_perform tk_RX11_232 dX11_apply_45 [] rfl (S0 := _) rfl eu14 rfl (Nat.le_of_ble_eq_true rfl) (d1 := d - 1) (b1 := 0) (s1 := 0) (bc' := 0) (bs' := 0) (Q1 := fun r h9 => r = .inl none ∧ v13 = h9) (by omega) rfl rfl (w_X11_perform (by omega) ev13 (fun _ _ q => q)) (fun E h9 q => nomatch (show (Sum.inr E : tq_R) = Sum.inl _ from q.1)) (fun r9 h9 q => ?_)
      obtain ⟨q1, rfl⟩ := q
      cases (show (Sum.inl r9 : tq_R) = Sum.inl (none) from q1)
      refine tq_aload_n (M := mX11_apply) (pc := 48) dX11_apply_48 rfl ?_
      refine tq_iload_n (M := mX11_apply) (pc := 49) dX11_apply_49 rfl ?_
      obtain ⟨⟨⟩, eu16, hf⟩ := tq_be hf
      obtain ⟨fsu16, eu16⟩ := tq_is_s eu16
      obtain ⟨v15, ev15, hf⟩ := tq_be hf
      refine tq_calV (M := mX11_apply) (pc := 50) (S := []) tk_y_X11_isSound tk_v_X11_isSound tk_RX11_235 dX11_apply_50 [.int x10] rfl (S0 := _) rfl eu16 rfl (Nat.le_of_ble_eq_true rfl) (d1 := d - 1) (b1 := 0) (s1 := 0) (bc' := 0) (bs' := 0) (Q1 := fun r h9 => r = .inl (some (.int v15)) ∧ v13 = h9) (by omega) rfl rfl (w_X11_isSound (by omega) ev15 (fun _ _ q => q)) (fun E h9 q => nomatch (show (Sum.inr E : tq_R) = Sum.inl _ from q.1)) (fun r9 h9 q => ?_)
      obtain ⟨q1, rfl⟩ := q
      cases (show (Sum.inl r9 : tq_R) = Sum.inl (some (.int v15)) from q1)
      refine tq_istore (M := mX11_apply) (pc := 53) dX11_apply_53 (L2 := [(4, .int v15), (2, .long v11), (1, .int x10), (0, .ref t)]) (by decide) rfl ?_
      refine tq_iload (M := mX11_apply) (pc := 55) dX11_apply_55 rfl ?_
      obtain ⟨p37, ep37, hf⟩ := tq_be hf
      have HJ57 : tq_W l mX11_apply d 0 0 Q 147 [(0, .ref t), (1, .int x10), (2, .long v11), (4, .int p37.1)] [] p37.2 := by
        refine tq_iload (M := mX11_apply) (pc := 147) dX11_apply_147 rfl ?_
        refine tq_if_ne (M := mX11_apply) (pc := 149) (tgt := 173) dX11_apply_149 (by decide) (fun cc => ?_) (fun cc => ?_)
        · have hf := tq_ifn hf cc
          refine tq_aload_n (M := mX11_apply) (pc := 173) dX11_apply_173 rfl ?_
          refine tq_iload_n (M := mX11_apply) (pc := 174) dX11_apply_174 rfl ?_
          refine tq_lload_n (M := mX11_apply) (pc := 175) dX11_apply_175 rfl ?_
          obtain ⟨⟨⟩, eu39, hf⟩ := tq_be hf
          obtain ⟨fsu39, eu39⟩ := tq_is_s eu39
          obtain ⟨v38, ev38, hf⟩ := tq_be hf
          refine tq_calV (M := mX11_apply) (pc := 176) (S := []) tk_y_X11_markNew tk_v_X11_markNew tk_RX11_254 dX11_apply_176 [.int x10, .long v11] rfl (S0 := _) rfl eu39 rfl (Nat.le_of_ble_eq_true rfl) (d1 := d - 1) (b1 := 0) (s1 := 0) (bc' := 0) (bs' := 0) (Q1 := fun r h9 => r = .inl none ∧ v38 = h9) (by omega) rfl rfl (w_X11_markNew (by omega) ev38 (fun _ _ q => q)) (fun E h9 q => nomatch (show (Sum.inr E : tq_R) = Sum.inl _ from q.1)) (fun r9 h9 q => ?_)
          obtain ⟨q1, rfl⟩ := q
          cases (show (Sum.inl r9 : tq_R) = Sum.inl (none) from q1)
          refine tq_aload_n (M := mX11_apply) (pc := 179) dX11_apply_179 rfl ?_
          refine tq_iconst (M := mX11_apply) (pc := 180) dX11_apply_180 tk_ki_0 ?_
          obtain ⟨w40, ew40, hf⟩ := tq_be hf
          refine tq_putv (M := mX11_apply) (pc := 181) tk_c11 (by decide) dX11_apply_181 tk_RX11_191 rfl (Or.inl rfl) ew40 (tq_nI _) ?_
          refine tq_aload_n (M := mX11_apply) (pc := 184) dX11_apply_184 rfl ?_
          obtain ⟨⟨⟩, eu42, hf⟩ := tq_be hf
          obtain ⟨fsu42, eu42⟩ := tq_is_s eu42
          obtain ⟨v41, ev41, hf⟩ := tq_be hf
          refine tq_calV (M := mX11_apply) (pc := 185) (S := []) tk_y_X11_number tk_v_X11_number tk_RX11_258 dX11_apply_185 [] rfl (S0 := _) rfl eu42 rfl (Nat.le_of_ble_eq_true rfl) (d1 := d - 1) (b1 := 0) (s1 := 0) (bc' := 0) (bs' := 0) (Q1 := fun r h9 => r = .inl none ∧ v41 = h9) (by omega) rfl rfl (w_X11_number (by omega) ev41 (fun _ _ q => q)) (fun E h9 q => nomatch (show (Sum.inr E : tq_R) = Sum.inl _ from q.1)) (fun r9 h9 q => ?_)
          obtain ⟨q1, rfl⟩ := q
          cases (show (Sum.inl r9 : tq_R) = Sum.inl (none) from q1)
          refine tq_aload_n (M := mX11_apply) (pc := 188) dX11_apply_188 rfl ?_
          obtain ⟨⟨⟩, eu44, hf⟩ := tq_be hf
          obtain ⟨fsu44, eu44⟩ := tq_is_s eu44
          obtain ⟨v43, ev43, hf⟩ := tq_be hf
          refine tq_calV (M := mX11_apply) (pc := 189) (S := []) tk_y_X11_lookAtViews tk_v_X11_lookAtViews tk_RX11_261 dX11_apply_189 [] rfl (S0 := _) rfl eu44 rfl (Nat.le_of_ble_eq_true rfl) (d1 := d - 1) (b1 := 0) (s1 := 0) (bc' := 0) (bs' := 0) (Q1 := fun r h9 => r = .inl none ∧ v43 = h9) (by omega) rfl rfl (w_X11_lookAtViews (by omega) ev43 (fun _ _ q => q)) (fun E h9 q => nomatch (show (Sum.inr E : tq_R) = Sum.inl _ from q.1)) (fun r9 h9 q => ?_)
          obtain ⟨q1, rfl⟩ := q
          cases (show (Sum.inl r9 : tq_R) = Sum.inl (none) from q1)
          refine tq_aload_n (M := mX11_apply) (pc := 192) dX11_apply_192 rfl ?_
          obtain ⟨x45, ex45, hf⟩ := tq_be hf
          refine tq_getI (M := mX11_apply) (pc := 193) tk_c11 (by decide) dX11_apply_193 tk_RX11_173 rfl ex45 ?_
          refine tq_iret (M := mX11_apply) (pc := 196) dX11_apply_196 rfl ?_
          cases (Option.some.inj hf)
          exact hQ _ _ ⟨rfl, rfl⟩
        · have hf := tq_ifp hf cc
          refine tq_aload_n (M := mX11_apply) (pc := 152) dX11_apply_152 rfl ?_
          refine tq_iload_n (M := mX11_apply) (pc := 153) dX11_apply_153 rfl ?_
          obtain ⟨w46, ew46, hf⟩ := tq_be hf
          refine tq_putv (M := mX11_apply) (pc := 154) tk_c11 (by decide) dX11_apply_154 tk_RX11_159 rfl (Or.inl rfl) ew46 (tq_nI _) ?_
          refine tq_aload_n (M := mX11_apply) (pc := 157) dX11_apply_157 rfl ?_
          obtain ⟨⟨⟩, eu48, hf⟩ := tq_be hf
          obtain ⟨fsu48, eu48⟩ := tq_is_s eu48
          obtain ⟨v47, ev47, hf⟩ := tq_be hf
          refine tq_calV (M := mX11_apply) (pc := 158) (S := []) tk_y_X11_comeBack tk_v_X11_comeBack tk_RX11_251 dX11_apply_158 [] rfl (S0 := _) rfl eu48 rfl (Nat.le_of_ble_eq_true rfl) (d1 := d - 1) (b1 := 0) (s1 := 0) (bc' := 0) (bs' := 0) (Q1 := fun r h9 => r = .inl none ∧ v47 = h9) (by omega) rfl rfl (w_X11_comeBack (by omega) ev47 (fun _ _ q => q)) (fun E h9 q => nomatch (show (Sum.inr E : tq_R) = Sum.inl _ from q.1)) (fun r9 h9 q => ?_)
          obtain ⟨q1, rfl⟩ := q
          cases (show (Sum.inl r9 : tq_R) = Sum.inl (none) from q1)
          refine tq_aload_n (M := mX11_apply) (pc := 161) dX11_apply_161 rfl ?_
          obtain ⟨⟨⟩, eu50, hf⟩ := tq_be hf
          obtain ⟨fsu50, eu50⟩ := tq_is_s eu50
          obtain ⟨v49, ev49, hf⟩ := tq_be hf
          refine tq_calV (M := mX11_apply) (pc := 162) (S := []) tk_y_X11_arrange tk_v_X11_arrange tk_RX11_163 dX11_apply_162 [] rfl (S0 := _) rfl eu50 rfl (Nat.le_of_ble_eq_true rfl) (d1 := d - 1) (b1 := 0) (s1 := 0) (bc' := 0) (bs' := 0) (Q1 := fun r h9 => r = .inl none ∧ v49 = h9) (by omega) rfl rfl (w_X11_arrange (by omega) ev49 (fun _ _ q => q)) (fun E h9 q => nomatch (show (Sum.inr E : tq_R) = Sum.inl _ from q.1)) (fun r9 h9 q => ?_)
          obtain ⟨q1, rfl⟩ := q
          cases (show (Sum.inl r9 : tq_R) = Sum.inl (none) from q1)
          refine tq_aload_n (M := mX11_apply) (pc := 165) dX11_apply_165 rfl ?_
          refine tq_iconst (M := mX11_apply) (pc := 166) dX11_apply_166 tk_ki_1 ?_
          obtain ⟨⟨⟩, eu52, hf⟩ := tq_be hf
          obtain ⟨fsu52, eu52⟩ := tq_is_s eu52
          obtain ⟨v51, ev51, hf⟩ := tq_be hf
          refine tq_calV (M := mX11_apply) (pc := 167) (S := []) tk_y_X11_refused tk_v_X11_refused tk_RX11_204 dX11_apply_167 [.int (1 : Int32)] rfl (S0 := _) rfl eu52 rfl (Nat.le_of_ble_eq_true rfl) (d1 := d - 1) (b1 := 0) (s1 := 0) (bc' := 0) (bs' := 0) (Q1 := fun r h9 => r = .inl (some (.int v51.1)) ∧ v51.2 = h9) (by omega) rfl rfl (w_X11_refused (by omega) ev51 (fun _ _ q => q)) (fun E h9 q => nomatch (show (Sum.inr E : tq_R) = Sum.inl _ from q.1)) (fun r9 h9 q => ?_)
          obtain ⟨q1, rfl⟩ := q
          cases (show (Sum.inl r9 : tq_R) = Sum.inl (some (.int v51.1)) from q1)
          refine tq_pop_ (M := mX11_apply) (pc := 170) dX11_apply_170 rfl ?_
          refine tq_iconst (M := mX11_apply) (pc := 171) dX11_apply_171 tk_ki_0 ?_
          refine tq_iret (M := mX11_apply) (pc := 172) dX11_apply_172 rfl ?_
          cases (Option.some.inj hf)
          exact hQ _ _ ⟨rfl, rfl⟩
      refine tq_if_eq (M := mX11_apply) (pc := 57) (tgt := 147) dX11_apply_57 (by decide) (fun cc => ?_) (fun cc => ?_)
      · have hf := tq_ifp ep37 cc
        refine tq_pick (L2 := [(0, .ref t), (1, .int x10), (2, .long v11), (4, .int v15)]) [3, 2, 1, 0] rfl ?_
        cases (Option.some.inj hf)
        exact HJ57
      · have hf := tq_ifn ep37 cc
        refine tq_iconst (M := mX11_apply) (pc := 60) dX11_apply_60 tk_ki_0 ?_
        refine tq_istore (M := mX11_apply) (pc := 61) dX11_apply_61 (L2 := [(5, .int (0 : Int32)), (4, .int v15), (2, .long v11), (1, .int x10), (0, .ref t)]) (by decide) rfl ?_
        obtain ⟨o28, eo28, hf⟩ := tq_be hf
        refine tq_pick (L2 := [(0, .ref t), (1, .int x10), (2, .long v11), (5, .int (0 : Int32))]) [4, 3, 2, 0] rfl ?_
        refine l_X11_apply_63 (by omega) t x10 v11 _ (0 : Int32) v13 _ eo28 ?_
        refine tq_aload_n (M := mX11_apply) (pc := 115) dX11_apply_115 rfl ?_
        obtain ⟨⟨⟩, eu30, hf⟩ := tq_be hf
        obtain ⟨fsu30, eu30⟩ := tq_is_s eu30
        obtain ⟨v29, ev29, hf⟩ := tq_be hf
        refine tq_calV (M := mX11_apply) (pc := 116) (S := []) tk_y_X11_arrange tk_v_X11_arrange tk_RX11_163 dX11_apply_116 [] rfl (S0 := _) rfl eu30 rfl (Nat.le_of_ble_eq_true rfl) (d1 := d - 1) (b1 := 0) (s1 := 0) (bc' := 0) (bs' := 0) (Q1 := fun r h9 => r = .inl none ∧ v29 = h9) (by omega) rfl rfl (w_X11_arrange (by omega) ev29 (fun _ _ q => q)) (fun E h9 q => nomatch (show (Sum.inr E : tq_R) = Sum.inl _ from q.1)) (fun r9 h9 q => ?_)
        obtain ⟨q1, rfl⟩ := q
        cases (show (Sum.inl r9 : tq_R) = Sum.inl (none) from q1)
        refine tq_aload_n (M := mX11_apply) (pc := 119) dX11_apply_119 rfl ?_
        obtain ⟨⟨⟩, eu32, hf⟩ := tq_be hf
        obtain ⟨fsu32, eu32⟩ := tq_is_s eu32
        obtain ⟨v31, ev31, hf⟩ := tq_be hf
        refine tq_calV (M := mX11_apply) (pc := 120) (S := []) tk_y_X11_hasTwice tk_v_X11_hasTwice tk_RX11_241 dX11_apply_120 [] rfl (S0 := _) rfl eu32 rfl (Nat.le_of_ble_eq_true rfl) (d1 := d - 1) (b1 := 0) (s1 := 0) (bc' := 0) (bs' := 0) (Q1 := fun r h9 => r = .inl (some (.int v31)) ∧ v29 = h9) (by omega) rfl rfl (w_X11_hasTwice (by omega) ev31 (fun _ _ q => q)) (fun E h9 q => nomatch (show (Sum.inr E : tq_R) = Sum.inl _ from q.1)) (fun r9 h9 q => ?_)
        obtain ⟨q1, rfl⟩ := q
        cases (show (Sum.inl r9 : tq_R) = Sum.inl (some (.int v31)) from q1)
        obtain ⟨p36, ep36, hf⟩ := tq_be hf
        have HJ123 : tq_W l mX11_apply d 0 0 Q 145 [(0, .ref t), (1, .int x10), (2, .long v11)] [.int p36.1] p36.2 := by
          refine tq_istore (M := mX11_apply) (pc := 145) dX11_apply_145 (L2 := [(4, .int p36.1), (0, .ref t), (1, .int x10), (2, .long v11)]) (by decide) rfl ?_
          refine tq_pick (L2 := [(0, .ref t), (1, .int x10), (2, .long v11), (4, .int p36.1)]) [1, 2, 3, 0] rfl ?_
          cases (Option.some.inj hf)
          exact HJ57
        refine tq_if_ne (M := mX11_apply) (pc := 123) (tgt := 144) dX11_apply_123 (by decide) (fun cc => ?_) (fun cc => ?_)
        · have hf := tq_ifn ep36 cc
          refine tq_iconst (M := mX11_apply) (pc := 144) dX11_apply_144 tk_ki_0 ?_
          cases (Option.some.inj hf)
          exact HJ123
        · have hf := tq_ifp ep36 cc
          refine tq_aload_n (M := mX11_apply) (pc := 126) dX11_apply_126 rfl ?_
          obtain ⟨x33, ex33, hf⟩ := tq_be hf
          refine tq_getI (M := mX11_apply) (pc := 127) tk_c11 (by decide) dX11_apply_127 tk_RX11_244 rfl ex33 ?_
          refine tq_if_eq (M := mX11_apply) (pc := 130) (tgt := 140) dX11_apply_130 (by decide) (fun cc => ?_) (fun cc => ?_)
          · have hf := tq_ifp hf cc
            refine tq_iconst (M := mX11_apply) (pc := 140) dX11_apply_140 tk_ki_1 ?_
            refine tq_goto (M := mX11_apply) (pc := 141) (tgt := 145) dX11_apply_141 (by decide) ?_
            cases (Option.some.inj hf)
            exact HJ123
          · have hf := tq_ifn hf cc
            refine tq_aload_n (M := mX11_apply) (pc := 133) dX11_apply_133 rfl ?_
            obtain ⟨⟨⟩, eu35, hf⟩ := tq_be hf
            obtain ⟨fsu35, eu35⟩ := tq_is_s eu35
            obtain ⟨v34, ev34, hf⟩ := tq_be hf
            refine tq_calV (M := mX11_apply) (pc := 134) (S := []) tk_y_X11_isRight tk_v_X11_isRight tk_RX11_248 dX11_apply_134 [] rfl (S0 := _) rfl eu35 rfl (Nat.le_of_ble_eq_true rfl) (d1 := d - 1) (b1 := 0) (s1 := 0) (bc' := 0) (bs' := 0) (Q1 := fun r h9 => r = .inl (some (.int v34.1)) ∧ v34.2 = h9) (by omega) rfl rfl (w_X11_isRight (by omega) ev34 (fun _ _ q => q)) (fun E h9 q => nomatch (show (Sum.inr E : tq_R) = Sum.inl _ from q.1)) (fun r9 h9 q => ?_)
            obtain ⟨q1, rfl⟩ := q
            cases (show (Sum.inl r9 : tq_R) = Sum.inl (some (.int v34.1)) from q1)
            refine tq_if_eq (M := mX11_apply) (pc := 137) (tgt := 144) dX11_apply_137 (by decide) (fun cc => ?_) (fun cc => ?_)
            · have hf := tq_ifp hf cc
              refine tq_iconst (M := mX11_apply) (pc := 144) dX11_apply_144 tk_ki_0 ?_
              cases (Option.some.inj hf)
              exact HJ123
            · have hf := tq_ifn hf cc
              refine tq_iconst (M := mX11_apply) (pc := 140) dX11_apply_140 tk_ki_1 ?_
              refine tq_goto (M := mX11_apply) (pc := 141) (tgt := 145) dX11_apply_141 (by decide) ?_
              cases (Option.some.inj hf)
              exact HJ123
    · have hf := tq_ifn hf cc
      refine tq_iconst (M := mX11_apply) (pc := 28) dX11_apply_28 tk_ki_0 ?_
      refine tq_iret (M := mX11_apply) (pc := 29) dX11_apply_29 rfl ?_
      cases (Option.some.inj hf)
      exact hQ _ _ ⟨rfl, rfl⟩
  refine tq_if_ne (M := mX11_apply) (pc := 5) (tgt := 17) dX11_apply_5 (by decide) (fun cc => ?_) (fun cc => ?_)
  · have hf := tq_ifn ep5 cc
    refine tq_iconst (M := mX11_apply) (pc := 17) dX11_apply_17 tk_ki_1 ?_
    refine tq_goto (M := mX11_apply) (pc := 18) (tgt := 22) dX11_apply_18 (by decide) ?_
    cases (Option.some.inj hf)
    exact HJ5
  · have hf := tq_ifp ep5 cc
    refine tq_aload_n (M := mX11_apply) (pc := 8) dX11_apply_8 rfl ?_
    obtain ⟨⟨⟩, eu4, hf⟩ := tq_be hf
    obtain ⟨fsu4, eu4⟩ := tq_is_s eu4
    obtain ⟨v3, ev3, hf⟩ := tq_be hf
    refine tq_calV (M := mX11_apply) (pc := 9) (S := [.ref t]) tk_y_X11_madeBehind tk_v_X11_madeBehind tk_RX11_221 dX11_apply_9 [] rfl (S0 := _) rfl eu4 rfl (Nat.le_of_ble_eq_true rfl) (d1 := d - 1) (b1 := 0) (s1 := 0) (bc' := 0) (bs' := 0) (Q1 := fun r h9 => r = .inl (some (.int v3)) ∧ h = h9) (by omega) rfl rfl (w_X11_madeBehind (by omega) ev3 (fun _ _ q => q)) (fun E h9 q => nomatch (show (Sum.inr E : tq_R) = Sum.inl _ from q.1)) (fun r9 h9 q => ?_)
    obtain ⟨q1, rfl⟩ := q
    cases (show (Sum.inl r9 : tq_R) = Sum.inl (some (.int v3)) from q1)
    refine tq_bipush (M := mX11_apply) (pc := 12) dX11_apply_12 tk_kb_60 ?_
    refine tq_icmp_le (M := mX11_apply) (pc := 14) (tgt := 21) dX11_apply_14 (by decide) (fun cc => ?_) (fun cc => ?_)
    · have hf := tq_ifp hf cc
      refine tq_iconst (M := mX11_apply) (pc := 21) dX11_apply_21 tk_ki_0 ?_
      cases (Option.some.inj hf)
      exact HJ5
    · have hf := tq_ifn hf cc
      refine tq_iconst (M := mX11_apply) (pc := 17) dX11_apply_17 tk_ki_1 ?_
      refine tq_goto (M := mX11_apply) (pc := 18) (tgt := 22) dX11_apply_18 (by decide) ?_
      cases (Option.some.inj hf)
      exact HJ5
abbrev mX11_forget : tq_M := (RX11, cX11_forget, 2, (some .int), false, [], none)
def f_X11_forget (t : Nat) (h : tq_H) : Option (Int32 × tq_H) :=
  (tq_gi h t 11 15).bind fun x1 =>
  (tq_pf h t 11 15 (.int (0 : Int32))).bind fun w2 =>
  (tq_is w2 t 11).bind fun _ =>
  (f_X11_fine t x1 w2).bind fun v3 =>
  some (v3.1, v3.2)
set_option maxHeartbeats 4000000 in
set_option maxRecDepth 20000 in
theorem w_X11_forget {l : Launch} {d : Nat} (hd9 : 1 ≤ d) {t : Nat} {h : tq_H} {o : Int32 × tq_H} {Q : tq_R → tq_H → Prop} (hf : f_X11_forget t h = some o) (hQ : ∀ r h9, r = .inl (some (.int o.1)) ∧ o.2 = h9 → Q r h9) : tq_C l yX11_forget cX11_forget 2 (some .int) d 0 0 [.ref t] h Q := by
  refine tq_body (y := yX11_forget) false (by decide +kernel) (fun z => by cases z) (Nat.le_of_ble_eq_true rfl) ?_
  show tq_W l mX11_forget d 0 0 Q 0 [(0, .ref t)] [] h
  refine tq_aload_n (M := mX11_forget) (pc := 0) dX11_forget_0 rfl ?_
  obtain ⟨x1, ex1, hf⟩ := tq_be hf
  refine tq_getI (M := mX11_forget) (pc := 1) tk_c11 (by decide) dX11_forget_1 tk_RX11_191 rfl ex1 ?_
  refine tq_istore_n (M := mX11_forget) (pc := 4) rfl dX11_forget_4 (L2 := [(1, .int x1), (0, .ref t)]) (by decide) rfl ?_
  refine tq_aload_n (M := mX11_forget) (pc := 5) dX11_forget_5 rfl ?_
  refine tq_iconst (M := mX11_forget) (pc := 6) dX11_forget_6 tk_ki_0 ?_
  obtain ⟨w2, ew2, hf⟩ := tq_be hf
  refine tq_putv (M := mX11_forget) (pc := 7) tk_c11 (by decide) dX11_forget_7 tk_RX11_191 rfl (Or.inl rfl) ew2 (tq_nI _) ?_
  refine tq_aload_n (M := mX11_forget) (pc := 10) dX11_forget_10 rfl ?_
  refine tq_iload_n (M := mX11_forget) (pc := 11) dX11_forget_11 rfl ?_
  obtain ⟨⟨⟩, eu4, hf⟩ := tq_be hf
  obtain ⟨fsu4, eu4⟩ := tq_is_s eu4
  obtain ⟨v3, ev3, hf⟩ := tq_be hf
  refine tq_calV (M := mX11_forget) (pc := 12) (S := []) tk_y_X11_fine tk_v_X11_fine tk_RX11_283 dX11_forget_12 [.int x1] rfl (S0 := _) rfl eu4 rfl (Nat.le_of_ble_eq_true rfl) (d1 := d - 1) (b1 := 0) (s1 := 0) (bc' := 0) (bs' := 0) (Q1 := fun r h9 => r = .inl (some (.int v3.1)) ∧ v3.2 = h9) (by omega) rfl rfl (w_X11_fine (by omega) ev3 (fun _ _ q => q)) (fun E h9 q => nomatch (show (Sum.inr E : tq_R) = Sum.inl _ from q.1)) (fun r9 h9 q => ?_)
  obtain ⟨q1, rfl⟩ := q
  cases (show (Sum.inl r9 : tq_R) = Sum.inl (some (.int v3.1)) from q1)
  refine tq_iret (M := mX11_forget) (pc := 15) dX11_forget_15 rfl ?_
  cases (Option.some.inj hf)
  exact hQ _ _ ⟨rfl, rfl⟩
abbrev mX11_made : tq_M := (RX11, cX11_made, 1, (some .int), false, [], none)
def f_X11_made (t : Nat) (h : tq_H) : Option (Int32 × tq_H) :=
  (tq_gi h t 11 1).bind fun x1 =>
  (tq_is h t 11).bind fun _ =>
  (f_X11_fine t x1 h).bind fun v2 =>
  some (v2.1, v2.2)
set_option maxHeartbeats 4000000 in
set_option maxRecDepth 20000 in
theorem w_X11_made {l : Launch} {d : Nat} (hd9 : 1 ≤ d) {t : Nat} {h : tq_H} {o : Int32 × tq_H} {Q : tq_R → tq_H → Prop} (hf : f_X11_made t h = some o) (hQ : ∀ r h9, r = .inl (some (.int o.1)) ∧ o.2 = h9 → Q r h9) : tq_C l yX11_made cX11_made 1 (some .int) d 0 0 [.ref t] h Q := by
  refine tq_body (y := yX11_made) false (by decide +kernel) (fun z => by cases z) (Nat.le_of_ble_eq_true rfl) ?_
  show tq_W l mX11_made d 0 0 Q 0 [(0, .ref t)] [] h
  refine tq_aload_n (M := mX11_made) (pc := 0) dX11_made_0 rfl ?_
  refine tq_aload_n (M := mX11_made) (pc := 1) dX11_made_1 rfl ?_
  obtain ⟨x1, ex1, hf⟩ := tq_be hf
  refine tq_getI (M := mX11_made) (pc := 2) tk_c11 (by decide) dX11_made_2 tk_RX11_159 rfl ex1 ?_
  obtain ⟨⟨⟩, eu3, hf⟩ := tq_be hf
  obtain ⟨fsu3, eu3⟩ := tq_is_s eu3
  obtain ⟨v2, ev2, hf⟩ := tq_be hf
  refine tq_calV (M := mX11_made) (pc := 5) (S := []) tk_y_X11_fine tk_v_X11_fine tk_RX11_283 dX11_made_5 [.int x1] rfl (S0 := _) rfl eu3 rfl (Nat.le_of_ble_eq_true rfl) (d1 := d - 1) (b1 := 0) (s1 := 0) (bc' := 0) (bs' := 0) (Q1 := fun r h9 => r = .inl (some (.int v2.1)) ∧ v2.2 = h9) (by omega) rfl rfl (w_X11_fine (by omega) ev2 (fun _ _ q => q)) (fun E h9 q => nomatch (show (Sum.inr E : tq_R) = Sum.inl _ from q.1)) (fun r9 h9 q => ?_)
  obtain ⟨q1, rfl⟩ := q
  cases (show (Sum.inl r9 : tq_R) = Sum.inl (some (.int v2.1)) from q1)
  refine tq_iret (M := mX11_made) (pc := 8) dX11_made_8 rfl ?_
  cases (Option.some.inj hf)
  exact hQ _ _ ⟨rfl, rfl⟩
abbrev mX11_nodes : tq_M := (RX11, cX11_nodes, 1, (some .int), false, [], none)
def f_X11_nodes (t : Nat) (h : tq_H) : Option (Int32 × tq_H) :=
  (tq_gi h t 11 11).bind fun x1 =>
  (tq_is h t 11).bind fun _ =>
  (f_X11_fine t x1 h).bind fun v2 =>
  some (v2.1, v2.2)
set_option maxHeartbeats 4000000 in
set_option maxRecDepth 20000 in
theorem w_X11_nodes {l : Launch} {d : Nat} (hd9 : 1 ≤ d) {t : Nat} {h : tq_H} {o : Int32 × tq_H} {Q : tq_R → tq_H → Prop} (hf : f_X11_nodes t h = some o) (hQ : ∀ r h9, r = .inl (some (.int o.1)) ∧ o.2 = h9 → Q r h9) : tq_C l yX11_nodes cX11_nodes 1 (some .int) d 0 0 [.ref t] h Q := by
  refine tq_body (y := yX11_nodes) false (by decide +kernel) (fun z => by cases z) (Nat.le_of_ble_eq_true rfl) ?_
  show tq_W l mX11_nodes d 0 0 Q 0 [(0, .ref t)] [] h
  refine tq_aload_n (M := mX11_nodes) (pc := 0) dX11_nodes_0 rfl ?_
  refine tq_aload_n (M := mX11_nodes) (pc := 1) dX11_nodes_1 rfl ?_
  obtain ⟨x1, ex1, hf⟩ := tq_be hf
  refine tq_getI (M := mX11_nodes) (pc := 2) tk_c11 (by decide) dX11_nodes_2 tk_RX11_173 rfl ex1 ?_
  obtain ⟨⟨⟩, eu3, hf⟩ := tq_be hf
  obtain ⟨fsu3, eu3⟩ := tq_is_s eu3
  obtain ⟨v2, ev2, hf⟩ := tq_be hf
  refine tq_calV (M := mX11_nodes) (pc := 5) (S := []) tk_y_X11_fine tk_v_X11_fine tk_RX11_283 dX11_nodes_5 [.int x1] rfl (S0 := _) rfl eu3 rfl (Nat.le_of_ble_eq_true rfl) (d1 := d - 1) (b1 := 0) (s1 := 0) (bc' := 0) (bs' := 0) (Q1 := fun r h9 => r = .inl (some (.int v2.1)) ∧ v2.2 = h9) (by omega) rfl rfl (w_X11_fine (by omega) ev2 (fun _ _ q => q)) (fun E h9 q => nomatch (show (Sum.inr E : tq_R) = Sum.inl _ from q.1)) (fun r9 h9 q => ?_)
  obtain ⟨q1, rfl⟩ := q
  cases (show (Sum.inl r9 : tq_R) = Sum.inl (some (.int v2.1)) from q1)
  refine tq_iret (M := mX11_nodes) (pc := 8) dX11_nodes_8 rfl ?_
  cases (Option.some.inj hf)
  exact hQ _ _ ⟨rfl, rfl⟩
abbrev mX11_isThere : tq_M := (RX11, cX11_isThere, 2, (some .boolean), false, [], none)
def f_X11_isThere (t : Nat) (a1 : Int32) (h : tq_H) : Option (Int32 × tq_H) :=
  (tq_pf h t 11 0 (.int (0 : Int32))).bind fun w1 =>
  (tq_is w1 t 11).bind fun _ =>
  (f_X11_isNode t a1 w1).bind fun v2 =>
  (tq_bz v2).bind fun z4 =>
  some (z4, w1)
set_option maxHeartbeats 4000000 in
set_option maxRecDepth 20000 in
theorem w_X11_isThere {l : Launch} {d : Nat} (hd9 : 2 ≤ d) {t : Nat} {a1 : Int32} {h : tq_H} {o : Int32 × tq_H} {Q : tq_R → tq_H → Prop} (hf : f_X11_isThere t a1 h = some o) (hQ : ∀ r h9, r = .inl (some (.int o.1)) ∧ o.2 = h9 → Q r h9) : tq_C l yX11_isThere cX11_isThere 2 (some .boolean) d 0 0 [.ref t, .int a1] h Q := by
  refine tq_body (y := yX11_isThere) false (by decide +kernel) (fun z => by cases z) (Nat.le_of_ble_eq_true rfl) ?_
  show tq_W l mX11_isThere d 0 0 Q 0 [(0, .ref t), (1, .int a1)] [] h
  refine tq_aload_n (M := mX11_isThere) (pc := 0) dX11_isThere_0 rfl ?_
  refine tq_iconst (M := mX11_isThere) (pc := 1) dX11_isThere_1 tk_ki_0 ?_
  obtain ⟨w1, ew1, hf⟩ := tq_be hf
  refine tq_putv (M := mX11_isThere) (pc := 2) tk_c11 (by decide) dX11_isThere_2 tk_RX11_166 rfl (Or.inl rfl) ew1 (tq_nI _) ?_
  refine tq_aload_n (M := mX11_isThere) (pc := 5) dX11_isThere_5 rfl ?_
  refine tq_iload_n (M := mX11_isThere) (pc := 6) dX11_isThere_6 rfl ?_
  obtain ⟨⟨⟩, eu3, hf⟩ := tq_be hf
  obtain ⟨fsu3, eu3⟩ := tq_is_s eu3
  obtain ⟨v2, ev2, hf⟩ := tq_be hf
  refine tq_calV (M := mX11_isThere) (pc := 7) (S := []) tk_y_X11_isNode tk_v_X11_isNode tk_RX11_194 dX11_isThere_7 [.int a1] rfl (S0 := _) rfl eu3 rfl (Nat.le_of_ble_eq_true rfl) (d1 := d - 1) (b1 := 0) (s1 := 0) (bc' := 0) (bs' := 0) (Q1 := fun r h9 => r = .inl (some (.int v2)) ∧ w1 = h9) (by omega) rfl rfl (w_X11_isNode (by omega) ev2 (fun _ _ q => q)) (fun E h9 q => nomatch (show (Sum.inr E : tq_R) = Sum.inl _ from q.1)) (fun r9 h9 q => ?_)
  obtain ⟨q1, rfl⟩ := q
  cases (show (Sum.inl r9 : tq_R) = Sum.inl (some (.int v2)) from q1)
  obtain ⟨z4, ez4, hf⟩ := tq_be hf
  refine tq_zretB (M := mX11_isThere) (pc := 10) dX11_isThere_10 rfl ez4 ?_
  cases (Option.some.inj hf)
  exact hQ _ _ ⟨rfl, rfl⟩
abbrev mX11_noNode : tq_M := (RX11, cX11_noNode, 2, (some .boolean), false, [], none)
def f_X11_noNode (t : Nat) (a1 : Int32) (h : tq_H) : Option (Int32 × tq_H) :=
  (tq_is h t 11).bind fun _ =>
  (f_X11_isNode t a1 h).bind fun v1 =>
  tq_let (if v1 = 0 then (1 : Int32) else (0 : Int32)) fun p3 =>
  (tq_is h t 11).bind fun _ =>
  (f_X11_refused t p3 h).bind fun v4 =>
  (tq_bz v4.1).bind fun z6 =>
  some (z6, v4.2)
set_option maxHeartbeats 4000000 in
set_option maxRecDepth 20000 in
theorem w_X11_noNode {l : Launch} {d : Nat} (hd9 : 2 ≤ d) {t : Nat} {a1 : Int32} {h : tq_H} {o : Int32 × tq_H} {Q : tq_R → tq_H → Prop} (hf : f_X11_noNode t a1 h = some o) (hQ : ∀ r h9, r = .inl (some (.int o.1)) ∧ o.2 = h9 → Q r h9) : tq_C l yX11_noNode cX11_noNode 2 (some .boolean) d 0 0 [.ref t, .int a1] h Q := by
  refine tq_body (y := yX11_noNode) false (by decide +kernel) (fun z => by cases z) (Nat.le_of_ble_eq_true rfl) ?_
  show tq_W l mX11_noNode d 0 0 Q 0 [(0, .ref t), (1, .int a1)] [] h
  refine tq_aload_n (M := mX11_noNode) (pc := 0) dX11_noNode_0 rfl ?_
  refine tq_aload_n (M := mX11_noNode) (pc := 1) dX11_noNode_1 rfl ?_
  refine tq_iload_n (M := mX11_noNode) (pc := 2) dX11_noNode_2 rfl ?_
  obtain ⟨⟨⟩, eu2, hf⟩ := tq_be hf
  obtain ⟨fsu2, eu2⟩ := tq_is_s eu2
  obtain ⟨v1, ev1, hf⟩ := tq_be hf
  refine tq_calV (M := mX11_noNode) (pc := 3) (S := [.ref t]) tk_y_X11_isNode tk_v_X11_isNode tk_RX11_194 dX11_noNode_3 [.int a1] rfl (S0 := _) rfl eu2 rfl (Nat.le_of_ble_eq_true rfl) (d1 := d - 1) (b1 := 0) (s1 := 0) (bc' := 0) (bs' := 0) (Q1 := fun r h9 => r = .inl (some (.int v1)) ∧ h = h9) (by omega) rfl rfl (w_X11_isNode (by omega) ev1 (fun _ _ q => q)) (fun E h9 q => nomatch (show (Sum.inr E : tq_R) = Sum.inl _ from q.1)) (fun r9 h9 q => ?_)
  obtain ⟨q1, rfl⟩ := q
  cases (show (Sum.inl r9 : tq_R) = Sum.inl (some (.int v1)) from q1)
  obtain ⟨p3, ep3, hf⟩ := tq_le hf
  have HJ6 : tq_W l mX11_noNode d 0 0 Q 14 [] [.int p3, .ref t] h := by
    obtain ⟨⟨⟩, eu5, hf⟩ := tq_be hf
    obtain ⟨fsu5, eu5⟩ := tq_is_s eu5
    obtain ⟨v4, ev4, hf⟩ := tq_be hf
    refine tq_calV (M := mX11_noNode) (pc := 14) (S := []) tk_y_X11_refused tk_v_X11_refused tk_RX11_204 dX11_noNode_14 [.int p3] rfl (S0 := _) rfl eu5 rfl (Nat.le_of_ble_eq_true rfl) (d1 := d - 1) (b1 := 0) (s1 := 0) (bc' := 0) (bs' := 0) (Q1 := fun r h9 => r = .inl (some (.int v4.1)) ∧ v4.2 = h9) (by omega) rfl rfl (w_X11_refused (by omega) ev4 (fun _ _ q => q)) (fun E h9 q => nomatch (show (Sum.inr E : tq_R) = Sum.inl _ from q.1)) (fun r9 h9 q => ?_)
    obtain ⟨q1, rfl⟩ := q
    cases (show (Sum.inl r9 : tq_R) = Sum.inl (some (.int v4.1)) from q1)
    obtain ⟨z6, ez6, hf⟩ := tq_be hf
    refine tq_zretB (M := mX11_noNode) (pc := 17) dX11_noNode_17 rfl ez6 ?_
    cases (Option.some.inj hf)
    exact hQ _ _ ⟨rfl, rfl⟩
  refine tq_if_eq (M := mX11_noNode) (pc := 6) (tgt := 13) dX11_noNode_6 (by decide) (fun cc => ?_) (fun cc => ?_)
  · have hf := tq_ifp ep3.symm cc
    refine tq_iconst (M := mX11_noNode) (pc := 13) dX11_noNode_13 tk_ki_1 ?_
    refine tq_pick (L2 := []) [] rfl ?_
    cases hf
    exact HJ6
  · have hf := tq_ifn ep3.symm cc
    refine tq_iconst (M := mX11_noNode) (pc := 9) dX11_noNode_9 tk_ki_0 ?_
    refine tq_goto (M := mX11_noNode) (pc := 10) (tgt := 14) dX11_noNode_10 (by decide) ?_
    refine tq_pick (L2 := []) [] rfl ?_
    cases hf
    exact HJ6
abbrev mX11_kind : tq_M := (RX11, cX11_kind, 2, (some .int), false, [], none)
def f_X11_kind (t : Nat) (a1 : Int32) (h : tq_H) : Option (Int32 × tq_H) :=
  (tq_is h t 11).bind fun _ =>
  (f_X11_noNode t a1 h).bind fun v1 =>
  (if v1.1 = 0 then
    (tq_gr v1.2 t 11 2).bind fun k3 =>
    (tq_ai v1.2 k3 a1).bind fun x4 =>
    some x4
  else
    some (0 : Int32)).bind fun p5 =>
  some (p5, v1.2)
set_option maxHeartbeats 4000000 in
set_option maxRecDepth 20000 in
theorem w_X11_kind {l : Launch} {d : Nat} (hd9 : 3 ≤ d) {t : Nat} {a1 : Int32} {h : tq_H} {o : Int32 × tq_H} {Q : tq_R → tq_H → Prop} (hf : f_X11_kind t a1 h = some o) (hQ : ∀ r h9, r = .inl (some (.int o.1)) ∧ o.2 = h9 → Q r h9) : tq_C l yX11_kind cX11_kind 2 (some .int) d 0 0 [.ref t, .int a1] h Q := by
  refine tq_body (y := yX11_kind) false (by decide +kernel) (fun z => by cases z) (Nat.le_of_ble_eq_true rfl) ?_
  show tq_W l mX11_kind d 0 0 Q 0 [(0, .ref t), (1, .int a1)] [] h
  refine tq_aload_n (M := mX11_kind) (pc := 0) dX11_kind_0 rfl ?_
  refine tq_iload_n (M := mX11_kind) (pc := 1) dX11_kind_1 rfl ?_
  obtain ⟨⟨⟩, eu2, hf⟩ := tq_be hf
  obtain ⟨fsu2, eu2⟩ := tq_is_s eu2
  obtain ⟨v1, ev1, hf⟩ := tq_be hf
  refine tq_calV (M := mX11_kind) (pc := 2) (S := []) tk_y_X11_noNode tk_v_X11_noNode tk_RX11_286 dX11_kind_2 [.int a1] rfl (S0 := _) rfl eu2 rfl (Nat.le_of_ble_eq_true rfl) (d1 := d - 1) (b1 := 0) (s1 := 0) (bc' := 0) (bs' := 0) (Q1 := fun r h9 => r = .inl (some (.int v1.1)) ∧ v1.2 = h9) (by omega) rfl rfl (w_X11_noNode (by omega) ev1 (fun _ _ q => q)) (fun E h9 q => nomatch (show (Sum.inr E : tq_R) = Sum.inl _ from q.1)) (fun r9 h9 q => ?_)
  obtain ⟨q1, rfl⟩ := q
  cases (show (Sum.inl r9 : tq_R) = Sum.inl (some (.int v1.1)) from q1)
  obtain ⟨p5, ep5, hf⟩ := tq_be hf
  have HJ5 : tq_W l mX11_kind d 0 0 Q 18 [] [.int p5] v1.2 := by
    refine tq_iret (M := mX11_kind) (pc := 18) dX11_kind_18 rfl ?_
    cases (Option.some.inj hf)
    exact hQ _ _ ⟨rfl, rfl⟩
  refine tq_if_eq (M := mX11_kind) (pc := 5) (tgt := 12) dX11_kind_5 (by decide) (fun cc => ?_) (fun cc => ?_)
  · have hf := tq_ifp ep5 cc
    refine tq_aload_n (M := mX11_kind) (pc := 12) dX11_kind_12 rfl ?_
    obtain ⟨k3, ek3, hf⟩ := tq_be hf
    refine tq_getR (M := mX11_kind) (pc := 13) tk_c11 (by decide) dX11_kind_13 tk_RX11_7 rfl ek3 ?_
    refine tq_iload_n (M := mX11_kind) (pc := 16) dX11_kind_16 rfl ?_
    obtain ⟨x4, ex4, hf⟩ := tq_be hf
    refine tq_ialdF (M := mX11_kind) (pc := 17) dX11_kind_17 ex4 ?_
    refine tq_pick (L2 := []) [] rfl ?_
    cases (Option.some.inj hf)
    exact HJ5
  · have hf := tq_ifn ep5 cc
    refine tq_iconst (M := mX11_kind) (pc := 8) dX11_kind_8 tk_ki_0 ?_
    refine tq_goto (M := mX11_kind) (pc := 9) (tgt := 18) dX11_kind_9 (by decide) ?_
    refine tq_pick (L2 := []) [] rfl ?_
    cases (Option.some.inj hf)
    exact HJ5
abbrev mX11_name : tq_M := (RX11, cX11_name, 2, (some .int), false, [], none)
def f_X11_name (t : Nat) (a1 : Int32) (h : tq_H) : Option (Int32 × tq_H) :=
  (tq_is h t 11).bind fun _ =>
  (f_X11_noNode t a1 h).bind fun v1 =>
  (if v1.1 = 0 then
    (tq_gr v1.2 t 11 2).bind fun k3 =>
    (tq_ai v1.2 k3 a1).bind fun x4 =>
    if x4 = (1 : Int32) then
      some (-1 : Int32)
    else
      (tq_gr v1.2 t 11 3).bind fun k5 =>
      (tq_ai v1.2 k5 a1).bind fun x6 =>
      some x6
  else
    some (0 : Int32)).bind fun p7 =>
  some (p7, v1.2)
set_option maxHeartbeats 4000000 in
set_option maxRecDepth 20000 in
theorem w_X11_name {l : Launch} {d : Nat} (hd9 : 3 ≤ d) {t : Nat} {a1 : Int32} {h : tq_H} {o : Int32 × tq_H} {Q : tq_R → tq_H → Prop} (hf : f_X11_name t a1 h = some o) (hQ : ∀ r h9, r = .inl (some (.int o.1)) ∧ o.2 = h9 → Q r h9) : tq_C l yX11_name cX11_name 2 (some .int) d 0 0 [.ref t, .int a1] h Q := by
  refine tq_body (y := yX11_name) false (by decide +kernel) (fun z => by cases z) (Nat.le_of_ble_eq_true rfl) ?_
  show tq_W l mX11_name d 0 0 Q 0 [(0, .ref t), (1, .int a1)] [] h
  refine tq_aload_n (M := mX11_name) (pc := 0) dX11_name_0 rfl ?_
  refine tq_iload_n (M := mX11_name) (pc := 1) dX11_name_1 rfl ?_
  obtain ⟨⟨⟩, eu2, hf⟩ := tq_be hf
  obtain ⟨fsu2, eu2⟩ := tq_is_s eu2
  obtain ⟨v1, ev1, hf⟩ := tq_be hf
  refine tq_calV (M := mX11_name) (pc := 2) (S := []) tk_y_X11_noNode tk_v_X11_noNode tk_RX11_286 dX11_name_2 [.int a1] rfl (S0 := _) rfl eu2 rfl (Nat.le_of_ble_eq_true rfl) (d1 := d - 1) (b1 := 0) (s1 := 0) (bc' := 0) (bs' := 0) (Q1 := fun r h9 => r = .inl (some (.int v1.1)) ∧ v1.2 = h9) (by omega) rfl rfl (w_X11_noNode (by omega) ev1 (fun _ _ q => q)) (fun E h9 q => nomatch (show (Sum.inr E : tq_R) = Sum.inl _ from q.1)) (fun r9 h9 q => ?_)
  obtain ⟨q1, rfl⟩ := q
  cases (show (Sum.inl r9 : tq_R) = Sum.inl (some (.int v1.1)) from q1)
  obtain ⟨p7, ep7, hf⟩ := tq_be hf
  have HJ5 : tq_W l mX11_name d 0 0 Q 32 [] [.int p7] v1.2 := by
    refine tq_iret (M := mX11_name) (pc := 32) dX11_name_32 rfl ?_
    cases (Option.some.inj hf)
    exact hQ _ _ ⟨rfl, rfl⟩
  refine tq_if_eq (M := mX11_name) (pc := 5) (tgt := 12) dX11_name_5 (by decide) (fun cc => ?_) (fun cc => ?_)
  · have hf := tq_ifp ep7 cc
    refine tq_aload_n (M := mX11_name) (pc := 12) dX11_name_12 rfl ?_
    obtain ⟨k3, ek3, hf⟩ := tq_be hf
    refine tq_getR (M := mX11_name) (pc := 13) tk_c11 (by decide) dX11_name_13 tk_RX11_7 rfl ek3 ?_
    refine tq_iload_n (M := mX11_name) (pc := 16) dX11_name_16 rfl ?_
    obtain ⟨x4, ex4, hf⟩ := tq_be hf
    refine tq_ialdF (M := mX11_name) (pc := 17) dX11_name_17 ex4 ?_
    refine tq_iconst (M := mX11_name) (pc := 18) dX11_name_18 tk_ki_1 ?_
    refine tq_icmp_ne (M := mX11_name) (pc := 19) (tgt := 26) dX11_name_19 (by decide) (fun cc => ?_) (fun cc => ?_)
    · have hf := tq_ifn hf cc
      refine tq_aload_n (M := mX11_name) (pc := 26) dX11_name_26 rfl ?_
      obtain ⟨k5, ek5, hf⟩ := tq_be hf
      refine tq_getR (M := mX11_name) (pc := 27) tk_c11 (by decide) dX11_name_27 tk_RX11_13 rfl ek5 ?_
      refine tq_iload_n (M := mX11_name) (pc := 30) dX11_name_30 rfl ?_
      obtain ⟨x6, ex6, hf⟩ := tq_be hf
      refine tq_ialdF (M := mX11_name) (pc := 31) dX11_name_31 ex6 ?_
      refine tq_pick (L2 := []) [] rfl ?_
      cases (Option.some.inj hf)
      exact HJ5
    · have hf := tq_ifp hf cc
      refine tq_iconst (M := mX11_name) (pc := 22) dX11_name_22 tk_ki_m1 ?_
      refine tq_goto (M := mX11_name) (pc := 23) (tgt := 32) dX11_name_23 (by decide) ?_
      refine tq_pick (L2 := []) [] rfl ?_
      cases (Option.some.inj hf)
      exact HJ5
  · have hf := tq_ifn ep7 cc
    refine tq_iconst (M := mX11_name) (pc := 8) dX11_name_8 tk_ki_0 ?_
    refine tq_goto (M := mX11_name) (pc := 9) (tgt := 32) dX11_name_9 (by decide) ?_
    refine tq_pick (L2 := []) [] rfl ?_
    cases (Option.some.inj hf)
    exact HJ5
abbrev mX11_value : tq_M := (RX11, cX11_value, 2, (some .int), false, [], none)
def f_X11_value (t : Nat) (a1 : Int32) (h : tq_H) : Option (Int32 × tq_H) :=
  (tq_is h t 11).bind fun _ =>
  (f_X11_noNode t a1 h).bind fun v1 =>
  (if v1.1 = 0 then
    (tq_is v1.2 t 11).bind fun _ =>
    (f_X11_all t v1.2).bind fun v3 =>
    (tq_is v1.2 t 11).bind fun _ =>
    (f_X11_valueOf t a1 v3 v1.2).bind fun v5 =>
    some v5
  else
    some (0 : Int32)).bind fun p7 =>
  some (p7, v1.2)
set_option maxHeartbeats 4000000 in
set_option maxRecDepth 20000 in
theorem w_X11_value {l : Launch} {d : Nat} (hd9 : 3 ≤ d) {t : Nat} {a1 : Int32} {h : tq_H} {o : Int32 × tq_H} {Q : tq_R → tq_H → Prop} (hf : f_X11_value t a1 h = some o) (hQ : ∀ r h9, r = .inl (some (.int o.1)) ∧ o.2 = h9 → Q r h9) : tq_C l yX11_value cX11_value 2 (some .int) d 0 0 [.ref t, .int a1] h Q := by
  refine tq_body (y := yX11_value) false (by decide +kernel) (fun z => by cases z) (Nat.le_of_ble_eq_true rfl) ?_
  show tq_W l mX11_value d 0 0 Q 0 [(0, .ref t), (1, .int a1)] [] h
  refine tq_aload_n (M := mX11_value) (pc := 0) dX11_value_0 rfl ?_
  refine tq_iload_n (M := mX11_value) (pc := 1) dX11_value_1 rfl ?_
  obtain ⟨⟨⟩, eu2, hf⟩ := tq_be hf
  obtain ⟨fsu2, eu2⟩ := tq_is_s eu2
  obtain ⟨v1, ev1, hf⟩ := tq_be hf
  refine tq_calV (M := mX11_value) (pc := 2) (S := []) tk_y_X11_noNode tk_v_X11_noNode tk_RX11_286 dX11_value_2 [.int a1] rfl (S0 := _) rfl eu2 rfl (Nat.le_of_ble_eq_true rfl) (d1 := d - 1) (b1 := 0) (s1 := 0) (bc' := 0) (bs' := 0) (Q1 := fun r h9 => r = .inl (some (.int v1.1)) ∧ v1.2 = h9) (by omega) rfl rfl (w_X11_noNode (by omega) ev1 (fun _ _ q => q)) (fun E h9 q => nomatch (show (Sum.inr E : tq_R) = Sum.inl _ from q.1)) (fun r9 h9 q => ?_)
  obtain ⟨q1, rfl⟩ := q
  cases (show (Sum.inl r9 : tq_R) = Sum.inl (some (.int v1.1)) from q1)
  obtain ⟨p7, ep7, hf⟩ := tq_be hf
  have HJ5 : tq_W l mX11_value d 0 0 Q 21 [] [.int p7] v1.2 := by
    refine tq_iret (M := mX11_value) (pc := 21) dX11_value_21 rfl ?_
    cases (Option.some.inj hf)
    exact hQ _ _ ⟨rfl, rfl⟩
  refine tq_if_eq (M := mX11_value) (pc := 5) (tgt := 12) dX11_value_5 (by decide) (fun cc => ?_) (fun cc => ?_)
  · have hf := tq_ifp ep7 cc
    refine tq_aload_n (M := mX11_value) (pc := 12) dX11_value_12 rfl ?_
    refine tq_iload_n (M := mX11_value) (pc := 13) dX11_value_13 rfl ?_
    refine tq_aload_n (M := mX11_value) (pc := 14) dX11_value_14 rfl ?_
    obtain ⟨⟨⟩, eu4, hf⟩ := tq_be hf
    obtain ⟨fsu4, eu4⟩ := tq_is_s eu4
    obtain ⟨v3, ev3, hf⟩ := tq_be hf
    refine tq_calV (M := mX11_value) (pc := 15) (S := [.int a1, .ref t]) tk_y_X11_all tk_v_X11_all tk_RX11_228 dX11_value_15 [] rfl (S0 := _) rfl eu4 rfl (Nat.le_of_ble_eq_true rfl) (d1 := d - 1) (b1 := 0) (s1 := 0) (bc' := 0) (bs' := 0) (Q1 := fun r h9 => r = .inl (some (.long v3)) ∧ v1.2 = h9) (by omega) rfl rfl (w_X11_all (by omega) ev3 (fun _ _ q => q)) (fun E h9 q => nomatch (show (Sum.inr E : tq_R) = Sum.inl _ from q.1)) (fun r9 h9 q => ?_)
    obtain ⟨q1, rfl⟩ := q
    cases (show (Sum.inl r9 : tq_R) = Sum.inl (some (.long v3)) from q1)
    obtain ⟨⟨⟩, eu6, hf⟩ := tq_be hf
    obtain ⟨fsu6, eu6⟩ := tq_is_s eu6
    obtain ⟨v5, ev5, hf⟩ := tq_be hf
    refine tq_calV (M := mX11_value) (pc := 18) (S := []) tk_y_X11_valueOf tk_v_X11_valueOf tk_RX11_289 dX11_value_18 [.int a1, .long v3] rfl (S0 := _) rfl eu6 rfl (Nat.le_of_ble_eq_true rfl) (d1 := d - 1) (b1 := 0) (s1 := 0) (bc' := 0) (bs' := 0) (Q1 := fun r h9 => r = .inl (some (.int v5)) ∧ v1.2 = h9) (by omega) rfl rfl (w_X11_valueOf (by omega) ev5 (fun _ _ q => q)) (fun E h9 q => nomatch (show (Sum.inr E : tq_R) = Sum.inl _ from q.1)) (fun r9 h9 q => ?_)
    obtain ⟨q1, rfl⟩ := q
    cases (show (Sum.inl r9 : tq_R) = Sum.inl (some (.int v5)) from q1)
    refine tq_pick (L2 := []) [] rfl ?_
    cases (Option.some.inj hf)
    exact HJ5
  · have hf := tq_ifn ep7 cc
    refine tq_iconst (M := mX11_value) (pc := 8) dX11_value_8 tk_ki_0 ?_
    refine tq_goto (M := mX11_value) (pc := 9) (tgt := 21) dX11_value_9 (by decide) ?_
    refine tq_pick (L2 := []) [] rfl ?_
    cases (Option.some.inj hf)
    exact HJ5
abbrev mX11_parent : tq_M := (RX11, cX11_parent, 2, (some .int), false, [], none)
def f_X11_parent (t : Nat) (a1 : Int32) (h : tq_H) : Option (Int32 × tq_H) :=
  (tq_is h t 11).bind fun _ =>
  (f_X11_noNode t a1 h).bind fun v1 =>
  (if v1.1 = 0 then
    (tq_gr v1.2 t 11 6).bind fun k3 =>
    (tq_ai v1.2 k3 a1).bind fun x4 =>
    some x4
  else
    some (0 : Int32)).bind fun p5 =>
  some (p5, v1.2)
set_option maxHeartbeats 4000000 in
set_option maxRecDepth 20000 in
theorem w_X11_parent {l : Launch} {d : Nat} (hd9 : 3 ≤ d) {t : Nat} {a1 : Int32} {h : tq_H} {o : Int32 × tq_H} {Q : tq_R → tq_H → Prop} (hf : f_X11_parent t a1 h = some o) (hQ : ∀ r h9, r = .inl (some (.int o.1)) ∧ o.2 = h9 → Q r h9) : tq_C l yX11_parent cX11_parent 2 (some .int) d 0 0 [.ref t, .int a1] h Q := by
  refine tq_body (y := yX11_parent) false (by decide +kernel) (fun z => by cases z) (Nat.le_of_ble_eq_true rfl) ?_
  show tq_W l mX11_parent d 0 0 Q 0 [(0, .ref t), (1, .int a1)] [] h
  refine tq_aload_n (M := mX11_parent) (pc := 0) dX11_parent_0 rfl ?_
  refine tq_iload_n (M := mX11_parent) (pc := 1) dX11_parent_1 rfl ?_
  obtain ⟨⟨⟩, eu2, hf⟩ := tq_be hf
  obtain ⟨fsu2, eu2⟩ := tq_is_s eu2
  obtain ⟨v1, ev1, hf⟩ := tq_be hf
  refine tq_calV (M := mX11_parent) (pc := 2) (S := []) tk_y_X11_noNode tk_v_X11_noNode tk_RX11_286 dX11_parent_2 [.int a1] rfl (S0 := _) rfl eu2 rfl (Nat.le_of_ble_eq_true rfl) (d1 := d - 1) (b1 := 0) (s1 := 0) (bc' := 0) (bs' := 0) (Q1 := fun r h9 => r = .inl (some (.int v1.1)) ∧ v1.2 = h9) (by omega) rfl rfl (w_X11_noNode (by omega) ev1 (fun _ _ q => q)) (fun E h9 q => nomatch (show (Sum.inr E : tq_R) = Sum.inl _ from q.1)) (fun r9 h9 q => ?_)
  obtain ⟨q1, rfl⟩ := q
  cases (show (Sum.inl r9 : tq_R) = Sum.inl (some (.int v1.1)) from q1)
  obtain ⟨p5, ep5, hf⟩ := tq_be hf
  have HJ5 : tq_W l mX11_parent d 0 0 Q 18 [] [.int p5] v1.2 := by
    refine tq_iret (M := mX11_parent) (pc := 18) dX11_parent_18 rfl ?_
    cases (Option.some.inj hf)
    exact hQ _ _ ⟨rfl, rfl⟩
  refine tq_if_eq (M := mX11_parent) (pc := 5) (tgt := 12) dX11_parent_5 (by decide) (fun cc => ?_) (fun cc => ?_)
  · have hf := tq_ifp ep5 cc
    refine tq_aload_n (M := mX11_parent) (pc := 12) dX11_parent_12 rfl ?_
    obtain ⟨k3, ek3, hf⟩ := tq_be hf
    refine tq_getR (M := mX11_parent) (pc := 13) tk_c11 (by decide) dX11_parent_13 tk_RX11_22 rfl ek3 ?_
    refine tq_iload_n (M := mX11_parent) (pc := 16) dX11_parent_16 rfl ?_
    obtain ⟨x4, ex4, hf⟩ := tq_be hf
    refine tq_ialdF (M := mX11_parent) (pc := 17) dX11_parent_17 ex4 ?_
    refine tq_pick (L2 := []) [] rfl ?_
    cases (Option.some.inj hf)
    exact HJ5
  · have hf := tq_ifn ep5 cc
    refine tq_iconst (M := mX11_parent) (pc := 8) dX11_parent_8 tk_ki_0 ?_
    refine tq_goto (M := mX11_parent) (pc := 9) (tgt := 18) dX11_parent_9 (by decide) ?_
    refine tq_pick (L2 := []) [] rfl ?_
    cases (Option.some.inj hf)
    exact HJ5
abbrev mX11_child : tq_M := (RX11, cX11_child, 3, (some .int), false, [], none)
def f_X11_child (t : Nat) (a1 : Int32) (a2 : Int32) (h : tq_H) : Option (Int32 × tq_H) :=
  (tq_is h t 11).bind fun _ =>
  (f_X11_isNode t a1 h).bind fun v1 =>
  tq_let (if v1 = 0 then (1 : Int32) else (if a2 < 0 then (1 : Int32) else (0 : Int32))) fun p3 =>
  (tq_is h t 11).bind fun _ =>
  (f_X11_refused t p3 h).bind fun v4 =>
  (if v4.1 = 0 then
    (tq_is v4.2 t 11).bind fun _ =>
    (f_X11_childAt t a1 a2 v4.2).bind fun v6 =>
    some v6
  else
    some (0 : Int32)).bind fun p8 =>
  some (p8, v4.2)
set_option maxHeartbeats 4000000 in
set_option maxRecDepth 20000 in
theorem w_X11_child {l : Launch} {d : Nat} (hd9 : 2 ≤ d) {t : Nat} {a1 : Int32} {a2 : Int32} {h : tq_H} {o : Int32 × tq_H} {Q : tq_R → tq_H → Prop} (hf : f_X11_child t a1 a2 h = some o) (hQ : ∀ r h9, r = .inl (some (.int o.1)) ∧ o.2 = h9 → Q r h9) : tq_C l yX11_child cX11_child 3 (some .int) d 0 0 [.ref t, .int a1, .int a2] h Q := by
  refine tq_body (y := yX11_child) false (by decide +kernel) (fun z => by cases z) (Nat.le_of_ble_eq_true rfl) ?_
  show tq_W l mX11_child d 0 0 Q 0 [(0, .ref t), (1, .int a1), (2, .int a2)] [] h
  refine tq_aload_n (M := mX11_child) (pc := 0) dX11_child_0 rfl ?_
  refine tq_aload_n (M := mX11_child) (pc := 1) dX11_child_1 rfl ?_
  refine tq_iload_n (M := mX11_child) (pc := 2) dX11_child_2 rfl ?_
  obtain ⟨⟨⟩, eu2, hf⟩ := tq_be hf
  obtain ⟨fsu2, eu2⟩ := tq_is_s eu2
  obtain ⟨v1, ev1, hf⟩ := tq_be hf
  refine tq_calV (M := mX11_child) (pc := 3) (S := [.ref t]) tk_y_X11_isNode tk_v_X11_isNode tk_RX11_194 dX11_child_3 [.int a1] rfl (S0 := _) rfl eu2 rfl (Nat.le_of_ble_eq_true rfl) (d1 := d - 1) (b1 := 0) (s1 := 0) (bc' := 0) (bs' := 0) (Q1 := fun r h9 => r = .inl (some (.int v1)) ∧ h = h9) (by omega) rfl rfl (w_X11_isNode (by omega) ev1 (fun _ _ q => q)) (fun E h9 q => nomatch (show (Sum.inr E : tq_R) = Sum.inl _ from q.1)) (fun r9 h9 q => ?_)
  obtain ⟨q1, rfl⟩ := q
  cases (show (Sum.inl r9 : tq_R) = Sum.inl (some (.int v1)) from q1)
  obtain ⟨p3, ep3, hf⟩ := tq_le hf
  have HJ6 : tq_W l mX11_child d 0 0 Q 18 [(0, .ref t), (1, .int a1), (2, .int a2)] [.int p3, .ref t] h := by
    obtain ⟨⟨⟩, eu5, hf⟩ := tq_be hf
    obtain ⟨fsu5, eu5⟩ := tq_is_s eu5
    obtain ⟨v4, ev4, hf⟩ := tq_be hf
    refine tq_calV (M := mX11_child) (pc := 18) (S := []) tk_y_X11_refused tk_v_X11_refused tk_RX11_204 dX11_child_18 [.int p3] rfl (S0 := _) rfl eu5 rfl (Nat.le_of_ble_eq_true rfl) (d1 := d - 1) (b1 := 0) (s1 := 0) (bc' := 0) (bs' := 0) (Q1 := fun r h9 => r = .inl (some (.int v4.1)) ∧ v4.2 = h9) (by omega) rfl rfl (w_X11_refused (by omega) ev4 (fun _ _ q => q)) (fun E h9 q => nomatch (show (Sum.inr E : tq_R) = Sum.inl _ from q.1)) (fun r9 h9 q => ?_)
    obtain ⟨q1, rfl⟩ := q
    cases (show (Sum.inl r9 : tq_R) = Sum.inl (some (.int v4.1)) from q1)
    obtain ⟨p8, ep8, hf⟩ := tq_be hf
    have HJ21 : tq_W l mX11_child d 0 0 Q 34 [] [.int p8] v4.2 := by
      refine tq_iret (M := mX11_child) (pc := 34) dX11_child_34 rfl ?_
      cases (Option.some.inj hf)
      exact hQ _ _ ⟨rfl, rfl⟩
    refine tq_if_eq (M := mX11_child) (pc := 21) (tgt := 28) dX11_child_21 (by decide) (fun cc => ?_) (fun cc => ?_)
    · have hf := tq_ifp ep8 cc
      refine tq_aload_n (M := mX11_child) (pc := 28) dX11_child_28 rfl ?_
      refine tq_iload_n (M := mX11_child) (pc := 29) dX11_child_29 rfl ?_
      refine tq_iload_n (M := mX11_child) (pc := 30) dX11_child_30 rfl ?_
      obtain ⟨⟨⟩, eu7, hf⟩ := tq_be hf
      obtain ⟨fsu7, eu7⟩ := tq_is_s eu7
      obtain ⟨v6, ev6, hf⟩ := tq_be hf
      refine tq_calV (M := mX11_child) (pc := 31) (S := []) tk_y_X11_childAt tk_v_X11_childAt tk_RX11_184 dX11_child_31 [.int a1, .int a2] rfl (S0 := _) rfl eu7 rfl (Nat.le_of_ble_eq_true rfl) (d1 := d - 1) (b1 := 0) (s1 := 0) (bc' := 0) (bs' := 0) (Q1 := fun r h9 => r = .inl (some (.int v6)) ∧ v4.2 = h9) (by omega) rfl rfl (w_X11_childAt (by omega) ev6 (fun _ _ q => q)) (fun E h9 q => nomatch (show (Sum.inr E : tq_R) = Sum.inl _ from q.1)) (fun r9 h9 q => ?_)
      obtain ⟨q1, rfl⟩ := q
      cases (show (Sum.inl r9 : tq_R) = Sum.inl (some (.int v6)) from q1)
      refine tq_pick (L2 := []) [] rfl ?_
      cases (Option.some.inj hf)
      exact HJ21
    · have hf := tq_ifn ep8 cc
      refine tq_iconst (M := mX11_child) (pc := 24) dX11_child_24 tk_ki_0 ?_
      refine tq_goto (M := mX11_child) (pc := 25) (tgt := 34) dX11_child_25 (by decide) ?_
      refine tq_pick (L2 := []) [] rfl ?_
      cases (Option.some.inj hf)
      exact HJ21
  refine tq_if_eq (M := mX11_child) (pc := 6) (tgt := 17) dX11_child_6 (by decide) (fun cc => ?_) (fun cc => ?_)
  · have hf := tq_ifp ep3.symm cc
    refine tq_iconst (M := mX11_child) (pc := 17) dX11_child_17 tk_ki_1 ?_
    cases hf
    exact HJ6
  · have hf := tq_ifn ep3.symm cc
    refine tq_iload_n (M := mX11_child) (pc := 9) dX11_child_9 rfl ?_
    refine tq_if_lt (M := mX11_child) (pc := 10) (tgt := 17) dX11_child_10 (by decide) (fun cc => ?_) (fun cc => ?_)
    · have hf := tq_ifp hf cc
      refine tq_iconst (M := mX11_child) (pc := 17) dX11_child_17 tk_ki_1 ?_
      cases hf
      exact HJ6
    · have hf := tq_ifn hf cc
      refine tq_iconst (M := mX11_child) (pc := 13) dX11_child_13 tk_ki_0 ?_
      refine tq_goto (M := mX11_child) (pc := 14) (tgt := 18) dX11_child_14 (by decide) ?_
      cases hf
      exact HJ6
abbrev mX11_space : tq_M := (RX11, cX11_space, 2, (some .int), false, [], none)
def f_X11_space (t : Nat) (a1 : Int32) (h : tq_H) : Option (Int32 × tq_H) :=
  (tq_is h t 11).bind fun _ =>
  (f_X11_noNode t a1 h).bind fun v1 =>
  (if v1.1 = 0 then
    (tq_gr v1.2 t 11 2).bind fun k3 =>
    (tq_ai v1.2 k3 a1).bind fun x4 =>
    if x4 = 0 then
      (tq_is v1.2 t 11).bind fun _ =>
      (f_X11_spaceOf t a1 v1.2).bind fun v5 =>
      some v5
    else
      some (-1 : Int32)
  else
    some (0 : Int32)).bind fun p7 =>
  some (p7, v1.2)
set_option maxHeartbeats 4000000 in
set_option maxRecDepth 20000 in
theorem w_X11_space {l : Launch} {d : Nat} (hd9 : 3 ≤ d) {t : Nat} {a1 : Int32} {h : tq_H} {o : Int32 × tq_H} {Q : tq_R → tq_H → Prop} (hf : f_X11_space t a1 h = some o) (hQ : ∀ r h9, r = .inl (some (.int o.1)) ∧ o.2 = h9 → Q r h9) : tq_C l yX11_space cX11_space 2 (some .int) d 0 0 [.ref t, .int a1] h Q := by
  refine tq_body (y := yX11_space) false (by decide +kernel) (fun z => by cases z) (Nat.le_of_ble_eq_true rfl) ?_
  show tq_W l mX11_space d 0 0 Q 0 [(0, .ref t), (1, .int a1)] [] h
  refine tq_aload_n (M := mX11_space) (pc := 0) dX11_space_0 rfl ?_
  refine tq_iload_n (M := mX11_space) (pc := 1) dX11_space_1 rfl ?_
  obtain ⟨⟨⟩, eu2, hf⟩ := tq_be hf
  obtain ⟨fsu2, eu2⟩ := tq_is_s eu2
  obtain ⟨v1, ev1, hf⟩ := tq_be hf
  refine tq_calV (M := mX11_space) (pc := 2) (S := []) tk_y_X11_noNode tk_v_X11_noNode tk_RX11_286 dX11_space_2 [.int a1] rfl (S0 := _) rfl eu2 rfl (Nat.le_of_ble_eq_true rfl) (d1 := d - 1) (b1 := 0) (s1 := 0) (bc' := 0) (bs' := 0) (Q1 := fun r h9 => r = .inl (some (.int v1.1)) ∧ v1.2 = h9) (by omega) rfl rfl (w_X11_noNode (by omega) ev1 (fun _ _ q => q)) (fun E h9 q => nomatch (show (Sum.inr E : tq_R) = Sum.inl _ from q.1)) (fun r9 h9 q => ?_)
  obtain ⟨q1, rfl⟩ := q
  cases (show (Sum.inl r9 : tq_R) = Sum.inl (some (.int v1.1)) from q1)
  obtain ⟨p7, ep7, hf⟩ := tq_be hf
  have HJ5 : tq_W l mX11_space d 0 0 Q 30 [] [.int p7] v1.2 := by
    refine tq_iret (M := mX11_space) (pc := 30) dX11_space_30 rfl ?_
    cases (Option.some.inj hf)
    exact hQ _ _ ⟨rfl, rfl⟩
  refine tq_if_eq (M := mX11_space) (pc := 5) (tgt := 12) dX11_space_5 (by decide) (fun cc => ?_) (fun cc => ?_)
  · have hf := tq_ifp ep7 cc
    refine tq_aload_n (M := mX11_space) (pc := 12) dX11_space_12 rfl ?_
    obtain ⟨k3, ek3, hf⟩ := tq_be hf
    refine tq_getR (M := mX11_space) (pc := 13) tk_c11 (by decide) dX11_space_13 tk_RX11_7 rfl ek3 ?_
    refine tq_iload_n (M := mX11_space) (pc := 16) dX11_space_16 rfl ?_
    obtain ⟨x4, ex4, hf⟩ := tq_be hf
    refine tq_ialdF (M := mX11_space) (pc := 17) dX11_space_17 ex4 ?_
    refine tq_if_ne (M := mX11_space) (pc := 18) (tgt := 29) dX11_space_18 (by decide) (fun cc => ?_) (fun cc => ?_)
    · have hf := tq_ifn hf cc
      refine tq_iconst (M := mX11_space) (pc := 29) dX11_space_29 tk_ki_m1 ?_
      refine tq_pick (L2 := []) [] rfl ?_
      cases (Option.some.inj hf)
      exact HJ5
    · have hf := tq_ifp hf cc
      refine tq_aload_n (M := mX11_space) (pc := 21) dX11_space_21 rfl ?_
      refine tq_iload_n (M := mX11_space) (pc := 22) dX11_space_22 rfl ?_
      obtain ⟨⟨⟩, eu6, hf⟩ := tq_be hf
      obtain ⟨fsu6, eu6⟩ := tq_is_s eu6
      obtain ⟨v5, ev5, hf⟩ := tq_be hf
      refine tq_calV (M := mX11_space) (pc := 23) (S := []) tk_y_X11_spaceOf tk_v_X11_spaceOf tk_RX11_293 dX11_space_23 [.int a1] rfl (S0 := _) rfl eu6 rfl (Nat.le_of_ble_eq_true rfl) (d1 := d - 1) (b1 := 0) (s1 := 0) (bc' := 0) (bs' := 0) (Q1 := fun r h9 => r = .inl (some (.int v5)) ∧ v1.2 = h9) (by omega) rfl rfl (w_X11_spaceOf (by omega) ev5 (fun _ _ q => q)) (fun E h9 q => nomatch (show (Sum.inr E : tq_R) = Sum.inl _ from q.1)) (fun r9 h9 q => ?_)
      obtain ⟨q1, rfl⟩ := q
      cases (show (Sum.inl r9 : tq_R) = Sum.inl (some (.int v5)) from q1)
      refine tq_goto (M := mX11_space) (pc := 26) (tgt := 30) dX11_space_26 (by decide) ?_
      refine tq_pick (L2 := []) [] rfl ?_
      cases (Option.some.inj hf)
      exact HJ5
  · have hf := tq_ifn ep7 cc
    refine tq_iconst (M := mX11_space) (pc := 8) dX11_space_8 tk_ki_0 ?_
    refine tq_goto (M := mX11_space) (pc := 9) (tgt := 30) dX11_space_9 (by decide) ?_
    refine tq_pick (L2 := []) [] rfl ?_
    cases (Option.some.inj hf)
    exact HJ5
abbrev mX11_number_ : tq_M := (RX11, cX11_number_, 2, (some .int), false, [], none)
def f_X11_number_ (t : Nat) (a1 : Int32) (h : tq_H) : Option (Int32 × tq_H) :=
  (tq_is h t 11).bind fun _ =>
  (f_X11_noNode t a1 h).bind fun v1 =>
  (if v1.1 = 0 then
    (tq_gr v1.2 t 11 2).bind fun k3 =>
    (tq_ai v1.2 k3 a1).bind fun x4 =>
    if x4 = (2 : Int32) then
      some (-1 : Int32)
    else
      (tq_gr v1.2 t 11 8).bind fun k5 =>
      (tq_ai v1.2 k5 a1).bind fun x6 =>
      some x6
  else
    some (0 : Int32)).bind fun p7 =>
  some (p7, v1.2)
set_option maxHeartbeats 4000000 in
set_option maxRecDepth 20000 in
theorem w_X11_number_ {l : Launch} {d : Nat} (hd9 : 3 ≤ d) {t : Nat} {a1 : Int32} {h : tq_H} {o : Int32 × tq_H} {Q : tq_R → tq_H → Prop} (hf : f_X11_number_ t a1 h = some o) (hQ : ∀ r h9, r = .inl (some (.int o.1)) ∧ o.2 = h9 → Q r h9) : tq_C l yX11_number_ cX11_number_ 2 (some .int) d 0 0 [.ref t, .int a1] h Q := by
  refine tq_body (y := yX11_number_) false (by decide +kernel) (fun z => by cases z) (Nat.le_of_ble_eq_true rfl) ?_
  show tq_W l mX11_number_ d 0 0 Q 0 [(0, .ref t), (1, .int a1)] [] h
  refine tq_aload_n (M := mX11_number_) (pc := 0) dX11_number__0 rfl ?_
  refine tq_iload_n (M := mX11_number_) (pc := 1) dX11_number__1 rfl ?_
  obtain ⟨⟨⟩, eu2, hf⟩ := tq_be hf
  obtain ⟨fsu2, eu2⟩ := tq_is_s eu2
  obtain ⟨v1, ev1, hf⟩ := tq_be hf
  refine tq_calV (M := mX11_number_) (pc := 2) (S := []) tk_y_X11_noNode tk_v_X11_noNode tk_RX11_286 dX11_number__2 [.int a1] rfl (S0 := _) rfl eu2 rfl (Nat.le_of_ble_eq_true rfl) (d1 := d - 1) (b1 := 0) (s1 := 0) (bc' := 0) (bs' := 0) (Q1 := fun r h9 => r = .inl (some (.int v1.1)) ∧ v1.2 = h9) (by omega) rfl rfl (w_X11_noNode (by omega) ev1 (fun _ _ q => q)) (fun E h9 q => nomatch (show (Sum.inr E : tq_R) = Sum.inl _ from q.1)) (fun r9 h9 q => ?_)
  obtain ⟨q1, rfl⟩ := q
  cases (show (Sum.inl r9 : tq_R) = Sum.inl (some (.int v1.1)) from q1)
  obtain ⟨p7, ep7, hf⟩ := tq_be hf
  have HJ5 : tq_W l mX11_number_ d 0 0 Q 32 [] [.int p7] v1.2 := by
    refine tq_iret (M := mX11_number_) (pc := 32) dX11_number__32 rfl ?_
    cases (Option.some.inj hf)
    exact hQ _ _ ⟨rfl, rfl⟩
  refine tq_if_eq (M := mX11_number_) (pc := 5) (tgt := 12) dX11_number__5 (by decide) (fun cc => ?_) (fun cc => ?_)
  · have hf := tq_ifp ep7 cc
    refine tq_aload_n (M := mX11_number_) (pc := 12) dX11_number__12 rfl ?_
    obtain ⟨k3, ek3, hf⟩ := tq_be hf
    refine tq_getR (M := mX11_number_) (pc := 13) tk_c11 (by decide) dX11_number__13 tk_RX11_7 rfl ek3 ?_
    refine tq_iload_n (M := mX11_number_) (pc := 16) dX11_number__16 rfl ?_
    obtain ⟨x4, ex4, hf⟩ := tq_be hf
    refine tq_ialdF (M := mX11_number_) (pc := 17) dX11_number__17 ex4 ?_
    refine tq_iconst (M := mX11_number_) (pc := 18) dX11_number__18 tk_ki_2 ?_
    refine tq_icmp_ne (M := mX11_number_) (pc := 19) (tgt := 26) dX11_number__19 (by decide) (fun cc => ?_) (fun cc => ?_)
    · have hf := tq_ifn hf cc
      refine tq_aload_n (M := mX11_number_) (pc := 26) dX11_number__26 rfl ?_
      obtain ⟨k5, ek5, hf⟩ := tq_be hf
      refine tq_getR (M := mX11_number_) (pc := 27) tk_c11 (by decide) dX11_number__27 tk_RX11_28 rfl ek5 ?_
      refine tq_iload_n (M := mX11_number_) (pc := 30) dX11_number__30 rfl ?_
      obtain ⟨x6, ex6, hf⟩ := tq_be hf
      refine tq_ialdF (M := mX11_number_) (pc := 31) dX11_number__31 ex6 ?_
      refine tq_pick (L2 := []) [] rfl ?_
      cases (Option.some.inj hf)
      exact HJ5
    · have hf := tq_ifp hf cc
      refine tq_iconst (M := mX11_number_) (pc := 22) dX11_number__22 tk_ki_m1 ?_
      refine tq_goto (M := mX11_number_) (pc := 23) (tgt := 32) dX11_number__23 (by decide) ?_
      refine tq_pick (L2 := []) [] rfl ?_
      cases (Option.some.inj hf)
      exact HJ5
  · have hf := tq_ifn ep7 cc
    refine tq_iconst (M := mX11_number_) (pc := 8) dX11_number__8 tk_ki_0 ?_
    refine tq_goto (M := mX11_number_) (pc := 9) (tgt := 32) dX11_number__9 (by decide) ?_
    refine tq_pick (L2 := []) [] rfl ?_
    cases (Option.some.inj hf)
    exact HJ5
abbrev mX11_numbered : tq_M := (RX11, cX11_numbered, 1, (some .int), false, [], none)
def f_X11_numbered (t : Nat) (h : tq_H) : Option (Int32 × tq_H) :=
  (tq_gi h t 11 10).bind fun x1 =>
  (tq_is h t 11).bind fun _ =>
  (f_X11_fine t x1 h).bind fun v2 =>
  some (v2.1, v2.2)
set_option maxHeartbeats 4000000 in
set_option maxRecDepth 20000 in
theorem w_X11_numbered {l : Launch} {d : Nat} (hd9 : 1 ≤ d) {t : Nat} {h : tq_H} {o : Int32 × tq_H} {Q : tq_R → tq_H → Prop} (hf : f_X11_numbered t h = some o) (hQ : ∀ r h9, r = .inl (some (.int o.1)) ∧ o.2 = h9 → Q r h9) : tq_C l yX11_numbered cX11_numbered 1 (some .int) d 0 0 [.ref t] h Q := by
  refine tq_body (y := yX11_numbered) false (by decide +kernel) (fun z => by cases z) (Nat.le_of_ble_eq_true rfl) ?_
  show tq_W l mX11_numbered d 0 0 Q 0 [(0, .ref t)] [] h
  refine tq_aload_n (M := mX11_numbered) (pc := 0) dX11_numbered_0 rfl ?_
  refine tq_aload_n (M := mX11_numbered) (pc := 1) dX11_numbered_1 rfl ?_
  obtain ⟨x1, ex1, hf⟩ := tq_be hf
  refine tq_getI (M := mX11_numbered) (pc := 2) tk_c11 (by decide) dX11_numbered_2 tk_RX11_280 rfl ex1 ?_
  obtain ⟨⟨⟩, eu3, hf⟩ := tq_be hf
  obtain ⟨fsu3, eu3⟩ := tq_is_s eu3
  obtain ⟨v2, ev2, hf⟩ := tq_be hf
  refine tq_calV (M := mX11_numbered) (pc := 5) (S := []) tk_y_X11_fine tk_v_X11_fine tk_RX11_283 dX11_numbered_5 [.int x1] rfl (S0 := _) rfl eu3 rfl (Nat.le_of_ble_eq_true rfl) (d1 := d - 1) (b1 := 0) (s1 := 0) (bc' := 0) (bs' := 0) (Q1 := fun r h9 => r = .inl (some (.int v2.1)) ∧ v2.2 = h9) (by omega) rfl rfl (w_X11_fine (by omega) ev2 (fun _ _ q => q)) (fun E h9 q => nomatch (show (Sum.inr E : tq_R) = Sum.inl _ from q.1)) (fun r9 h9 q => ?_)
  obtain ⟨q1, rfl⟩ := q
  cases (show (Sum.inl r9 : tq_R) = Sum.inl (some (.int v2.1)) from q1)
  refine tq_iret (M := mX11_numbered) (pc := 8) dX11_numbered_8 rfl ?_
  cases (Option.some.inj hf)
  exact hQ _ _ ⟨rfl, rfl⟩
abbrev mX11_isPath : tq_M := (RX11, cX11_isPath, 2, (some .boolean), false, [], none)
def f_X11_isPath (t : Nat) (a1 : Int32) (h : tq_H) : Option (Int32) :=
  (tq_gi h t 11 24).bind fun x1 =>
  (f_X11_in a1 (0 : Int32) (x1 - (1 : Int32)) h).bind fun v2 =>
  (tq_bz v2).bind fun z3 =>
  some z3
set_option maxHeartbeats 4000000 in
set_option maxRecDepth 20000 in
theorem w_X11_isPath {l : Launch} {d : Nat} (hd9 : 1 ≤ d) {t : Nat} {a1 : Int32} {h : tq_H} {o : Int32} {Q : tq_R → tq_H → Prop} (hf : f_X11_isPath t a1 h = some o) (hQ : ∀ r h9, r = .inl (some (.int o)) ∧ h = h9 → Q r h9) : tq_C l yX11_isPath cX11_isPath 2 (some .boolean) d 0 0 [.ref t, .int a1] h Q := by
  refine tq_body (y := yX11_isPath) false (by decide +kernel) (fun z => by cases z) (Nat.le_of_ble_eq_true rfl) ?_
  show tq_W l mX11_isPath d 0 0 Q 0 [(0, .ref t), (1, .int a1)] [] h
  refine tq_iload_n (M := mX11_isPath) (pc := 0) dX11_isPath_0 rfl ?_
  refine tq_iconst (M := mX11_isPath) (pc := 1) dX11_isPath_1 tk_ki_0 ?_
  refine tq_aload_n (M := mX11_isPath) (pc := 2) dX11_isPath_2 rfl ?_
  obtain ⟨x1, ex1, hf⟩ := tq_be hf
  refine tq_getI (M := mX11_isPath) (pc := 3) tk_c11 (by decide) dX11_isPath_3 tk_RX11_296 rfl ex1 ?_
  refine tq_iconst (M := mX11_isPath) (pc := 6) dX11_isPath_6 tk_ki_1 ?_
  refine tq_isub (M := mX11_isPath) (pc := 7) dX11_isPath_7 ?_
  obtain ⟨v2, ev2, hf⟩ := tq_be hf
  refine tq_calS (M := mX11_isPath) (pc := 8) (S := []) tk_y_X11_in tk_s_X11_in tk_RX11_169 dX11_isPath_8 [.int a1, .int (0 : Int32), .int ((x1 - (1 : Int32)))] rfl (Nat.le_of_ble_eq_true rfl) (d1 := d - 1) (b1 := 0) (s1 := 0) (bc' := 0) (bs' := 0) (Q1 := fun r h9 => r = .inl (some (.int v2)) ∧ h = h9) (by omega) rfl rfl (w_X11_in (by omega) ev2 (fun _ _ q => q)) (fun E h9 q => nomatch (show (Sum.inr E : tq_R) = Sum.inl _ from q.1)) (fun r9 h9 q => ?_)
  obtain ⟨q1, rfl⟩ := q
  cases (show (Sum.inl r9 : tq_R) = Sum.inl (some (.int v2)) from q1)
  obtain ⟨z3, ez3, hf⟩ := tq_be hf
  refine tq_zretB (M := mX11_isPath) (pc := 11) dX11_isPath_11 rfl ez3 ?_
  cases (Option.some.inj hf)
  exact hQ _ _ ⟨rfl, rfl⟩
abbrev mX11_path : tq_M := (RX11, cX11_path, 1, (some .int), false, [], none)
def f_X11_path (t : Nat) (h : tq_H) : Option (Int32 × tq_H) :=
  (tq_gi h t 11 24).bind fun x1 =>
  tq_let (if x1 = (20 : Int32) then (1 : Int32) else (0 : Int32)) fun p2 =>
  (tq_is h t 11).bind fun _ =>
  (f_X11_refused t p2 h).bind fun v3 =>
  if v3.1 = 0 then
    (tq_gr v3.2 t 11 25).bind fun k5 =>
    (tq_gi v3.2 t 11 24).bind fun x6 =>
    (tq_si v3.2 k5 x6 (0 : Int32)).bind fun w7 =>
    (tq_gi w7 t 11 24).bind fun x8 =>
    (tq_pf w7 t 11 24 (.int ((x8 + (1 : Int32))))).bind fun w9 =>
    (tq_gi w9 t 11 24).bind fun x10 =>
    some ((x10 - (1 : Int32)), w9)
  else
    some ((0 : Int32), v3.2)
set_option maxHeartbeats 4000000 in
set_option maxRecDepth 20000 in
theorem w_X11_path {l : Launch} {d : Nat} (hd9 : 1 ≤ d) {t : Nat} {h : tq_H} {o : Int32 × tq_H} {Q : tq_R → tq_H → Prop} (hf : f_X11_path t h = some o) (hQ : ∀ r h9, r = .inl (some (.int o.1)) ∧ o.2 = h9 → Q r h9) : tq_C l yX11_path cX11_path 1 (some .int) d 0 0 [.ref t] h Q := by
  refine tq_body (y := yX11_path) false (by decide +kernel) (fun z => by cases z) (Nat.le_of_ble_eq_true rfl) ?_
  show tq_W l mX11_path d 0 0 Q 0 [(0, .ref t)] [] h
  refine tq_aload_n (M := mX11_path) (pc := 0) dX11_path_0 rfl ?_
  refine tq_aload_n (M := mX11_path) (pc := 1) dX11_path_1 rfl ?_
  obtain ⟨x1, ex1, hf⟩ := tq_be hf
  refine tq_getI (M := mX11_path) (pc := 2) tk_c11 (by decide) dX11_path_2 tk_RX11_296 rfl ex1 ?_
  refine tq_bipush (M := mX11_path) (pc := 5) dX11_path_5 tk_kb_20 ?_
  obtain ⟨p2, ep2, hf⟩ := tq_le hf
  have HJ7 : tq_W l mX11_path d 0 0 Q 15 [(0, .ref t)] [.int p2, .ref t] h := by
    obtain ⟨⟨⟩, eu4, hf⟩ := tq_be hf
    obtain ⟨fsu4, eu4⟩ := tq_is_s eu4
    obtain ⟨v3, ev3, hf⟩ := tq_be hf
    refine tq_calV (M := mX11_path) (pc := 15) (S := []) tk_y_X11_refused tk_v_X11_refused tk_RX11_204 dX11_path_15 [.int p2] rfl (S0 := _) rfl eu4 rfl (Nat.le_of_ble_eq_true rfl) (d1 := d - 1) (b1 := 0) (s1 := 0) (bc' := 0) (bs' := 0) (Q1 := fun r h9 => r = .inl (some (.int v3.1)) ∧ v3.2 = h9) (by omega) rfl rfl (w_X11_refused (by omega) ev3 (fun _ _ q => q)) (fun E h9 q => nomatch (show (Sum.inr E : tq_R) = Sum.inl _ from q.1)) (fun r9 h9 q => ?_)
    obtain ⟨q1, rfl⟩ := q
    cases (show (Sum.inl r9 : tq_R) = Sum.inl (some (.int v3.1)) from q1)
    refine tq_if_eq (M := mX11_path) (pc := 18) (tgt := 23) dX11_path_18 (by decide) (fun cc => ?_) (fun cc => ?_)
    · have hf := tq_ifp hf cc
      refine tq_aload_n (M := mX11_path) (pc := 23) dX11_path_23 rfl ?_
      obtain ⟨k5, ek5, hf⟩ := tq_be hf
      refine tq_getR (M := mX11_path) (pc := 24) tk_c11 (by decide) dX11_path_24 tk_RX11_68 rfl ek5 ?_
      refine tq_aload_n (M := mX11_path) (pc := 27) dX11_path_27 rfl ?_
      obtain ⟨x6, ex6, hf⟩ := tq_be hf
      refine tq_getI (M := mX11_path) (pc := 28) tk_c11 (by decide) dX11_path_28 tk_RX11_296 rfl ex6 ?_
      refine tq_iconst (M := mX11_path) (pc := 31) dX11_path_31 tk_ki_0 ?_
      obtain ⟨w7, ew7, hf⟩ := tq_be hf
      refine tq_iastF (M := mX11_path) (pc := 32) dX11_path_32 ew7 ?_
      refine tq_aload_n (M := mX11_path) (pc := 33) dX11_path_33 rfl ?_
      refine tq_dup (M := mX11_path) (pc := 34) dX11_path_34 rfl ?_
      obtain ⟨x8, ex8, hf⟩ := tq_be hf
      refine tq_getI (M := mX11_path) (pc := 35) tk_c11 (by decide) dX11_path_35 tk_RX11_296 rfl ex8 ?_
      refine tq_iconst (M := mX11_path) (pc := 38) dX11_path_38 tk_ki_1 ?_
      refine tq_iadd (M := mX11_path) (pc := 39) dX11_path_39 ?_
      obtain ⟨w9, ew9, hf⟩ := tq_be hf
      refine tq_putv (M := mX11_path) (pc := 40) tk_c11 (by decide) dX11_path_40 tk_RX11_296 rfl (Or.inl rfl) ew9 (tq_nI _) ?_
      refine tq_aload_n (M := mX11_path) (pc := 43) dX11_path_43 rfl ?_
      obtain ⟨x10, ex10, hf⟩ := tq_be hf
      refine tq_getI (M := mX11_path) (pc := 44) tk_c11 (by decide) dX11_path_44 tk_RX11_296 rfl ex10 ?_
      refine tq_iconst (M := mX11_path) (pc := 47) dX11_path_47 tk_ki_1 ?_
      refine tq_isub (M := mX11_path) (pc := 48) dX11_path_48 ?_
      refine tq_iret (M := mX11_path) (pc := 49) dX11_path_49 rfl ?_
      cases (Option.some.inj hf)
      exact hQ _ _ ⟨rfl, rfl⟩
    · have hf := tq_ifn hf cc
      refine tq_iconst (M := mX11_path) (pc := 21) dX11_path_21 tk_ki_0 ?_
      refine tq_iret (M := mX11_path) (pc := 22) dX11_path_22 rfl ?_
      cases (Option.some.inj hf)
      exact hQ _ _ ⟨rfl, rfl⟩
  refine tq_icmp_ne (M := mX11_path) (pc := 7) (tgt := 14) dX11_path_7 (by decide) (fun cc => ?_) (fun cc => ?_)
  · have hf := tq_ifn ep2.symm cc
    refine tq_iconst (M := mX11_path) (pc := 14) dX11_path_14 tk_ki_0 ?_
    cases hf
    exact HJ7
  · have hf := tq_ifp ep2.symm cc
    refine tq_iconst (M := mX11_path) (pc := 10) dX11_path_10 tk_ki_1 ?_
    refine tq_goto (M := mX11_path) (pc := 11) (tgt := 15) dX11_path_11 (by decide) ?_
    cases hf
    exact HJ7
abbrev mX11_hasView : tq_M := (RX11, cX11_hasView, 4, (some .boolean), false, [], none)
def f_X11_hasView_b4 (i0 : Nat) (i1 : Int32) (hh : tq_H) (s : Int32 × Int32) : Option ((Int32 × Int32) ⊕ (Int32)) := match s with
  | (y2, y3) =>
    (tq_gi hh i0 11 45).bind fun x1 =>
    if y3 ≥ x1 then
      some (.inr y2)
    else
      (if y2 = 0 then
        (tq_gr hh i0 11 46).bind fun k2 =>
        (tq_ai hh k2 y3).bind fun x3 =>
        if x3 = i1 then
          some (1 : Int32)
        else
          some (0 : Int32)
      else
        some (1 : Int32)).bind fun p4 =>
      tq_let (y3 + (1 : Int32)) fun x5 =>
      some (.inl (p4, x5))
def f_X11_hasView (t : Nat) (a1 : Int32) (h : tq_H) : Option (Int32) :=
  (tq_loop (f_X11_hasView_b4 t a1 h) tq_N ((0 : Int32), (0 : Int32))).bind fun o6 =>
  (tq_bz o6).bind fun z7 =>
  some z7
set_option maxHeartbeats 4000000 in
theorem l_X11_hasView_4 {l : Launch} {d : Nat} {Q : tq_R → tq_H → Prop} (hd9 : 0 ≤ d) (i0 : Nat) (i1 : Int32) (hh : tq_H) : ∀ (n : Nat) (y2 : Int32) (y3 : Int32) (o : Int32), tq_loop (f_X11_hasView_b4 i0 i1 hh) n (y2, y3) = some o → tq_W l mX11_hasView d 0 0 Q 38 [(2, .int o)] [] hh → tq_W l mX11_hasView d 0 0 Q 4 [(0, .ref i0), (1, .int i1), (2, .int y2), (3, .int y3)] [] hh := by
  intro n
  induction n with
  | zero => intro y2 y3 o hl; cases hl
  | succ n ih =>
    intro y2 y3 o hl hk
    obtain ⟨oo, hf, ho⟩ := tq_loop_s hl
    refine tq_iload_n (M := mX11_hasView) (pc := 4) dX11_hasView_4 rfl ?_
    refine tq_aload_n (M := mX11_hasView) (pc := 5) dX11_hasView_5 rfl ?_
    obtain ⟨x1, ex1, hf⟩ := tq_be hf
    refine tq_getI (M := mX11_hasView) (pc := 6) tk_c11 (by decide) dX11_hasView_6 tk_RX11_299 rfl ex1 ?_
    refine tq_icmp_ge (M := mX11_hasView) (pc := 9) (tgt := 38) dX11_hasView_9 (by decide) (fun cc => ?_) (fun cc => ?_)
    · have hf := tq_ifp hf cc
      refine tq_pick (L2 := [(2, .int y2)]) [2] rfl ?_
      cases (Option.some.inj hf)
      cases (tq_lx ho)
      exact hk
    · have hf := tq_ifn hf cc
      refine tq_iload_n (M := mX11_hasView) (pc := 12) dX11_hasView_12 rfl ?_
      obtain ⟨p4, ep4, hf⟩ := tq_be hf
      have HJ13 : tq_W l mX11_hasView d 0 0 Q 31 [(0, .ref i0), (1, .int i1), (3, .int y3)] [.int p4] hh := by
        refine tq_istore_n (M := mX11_hasView) (pc := 31) rfl dX11_hasView_31 (L2 := [(2, .int p4), (0, .ref i0), (1, .int i1), (3, .int y3)]) (by decide) rfl ?_
        obtain ⟨x5, ex5, hf⟩ := tq_le hf
        refine tq_iinc (M := mX11_hasView) (pc := 32) (v := x5) (L2 := [(3, .int x5), (2, .int p4), (0, .ref i0), (1, .int i1)]) dX11_hasView_32 rfl (by rw [ex5, tk_ki_1]) (by decide) rfl ?_
        refine tq_goto (M := mX11_hasView) (pc := 35) (tgt := 4) dX11_hasView_35 (by decide) ?_
        refine tq_pick (L2 := [(0, .ref i0), (1, .int i1), (2, .int p4), (3, .int x5)]) [2, 3, 1, 0] rfl ?_
        cases (Option.some.inj hf)
        exact ih _ _ o (tq_lc ho) hk
      refine tq_if_ne (M := mX11_hasView) (pc := 13) (tgt := 26) dX11_hasView_13 (by decide) (fun cc => ?_) (fun cc => ?_)
      · have hf := tq_ifn ep4 cc
        refine tq_iconst (M := mX11_hasView) (pc := 26) dX11_hasView_26 tk_ki_1 ?_
        refine tq_goto (M := mX11_hasView) (pc := 27) (tgt := 31) dX11_hasView_27 (by decide) ?_
        refine tq_pick (L2 := [(0, .ref i0), (1, .int i1), (3, .int y3)]) [0, 1, 3] rfl ?_
        cases (Option.some.inj hf)
        exact HJ13
      · have hf := tq_ifp ep4 cc
        refine tq_aload_n (M := mX11_hasView) (pc := 16) dX11_hasView_16 rfl ?_
        obtain ⟨k2, ek2, hf⟩ := tq_be hf
        refine tq_getR (M := mX11_hasView) (pc := 17) tk_c11 (by decide) dX11_hasView_17 tk_RX11_117 rfl ek2 ?_
        refine tq_iload_n (M := mX11_hasView) (pc := 20) dX11_hasView_20 rfl ?_
        obtain ⟨x3, ex3, hf⟩ := tq_be hf
        refine tq_ialdF (M := mX11_hasView) (pc := 21) dX11_hasView_21 ex3 ?_
        refine tq_iload_n (M := mX11_hasView) (pc := 22) dX11_hasView_22 rfl ?_
        refine tq_icmp_ne (M := mX11_hasView) (pc := 23) (tgt := 30) dX11_hasView_23 (by decide) (fun cc => ?_) (fun cc => ?_)
        · have hf := tq_ifn hf cc
          refine tq_iconst (M := mX11_hasView) (pc := 30) dX11_hasView_30 tk_ki_0 ?_
          refine tq_pick (L2 := [(0, .ref i0), (1, .int i1), (3, .int y3)]) [0, 1, 3] rfl ?_
          cases (Option.some.inj hf)
          exact HJ13
        · have hf := tq_ifp hf cc
          refine tq_iconst (M := mX11_hasView) (pc := 26) dX11_hasView_26 tk_ki_1 ?_
          refine tq_goto (M := mX11_hasView) (pc := 27) (tgt := 31) dX11_hasView_27 (by decide) ?_
          refine tq_pick (L2 := [(0, .ref i0), (1, .int i1), (3, .int y3)]) [0, 1, 3] rfl ?_
          cases (Option.some.inj hf)
          exact HJ13
set_option maxHeartbeats 4000000 in
set_option maxRecDepth 20000 in
theorem w_X11_hasView {l : Launch} {d : Nat} (hd9 : 0 ≤ d) {t : Nat} {a1 : Int32} {h : tq_H} {o : Int32} {Q : tq_R → tq_H → Prop} (hf : f_X11_hasView t a1 h = some o) (hQ : ∀ r h9, r = .inl (some (.int o)) ∧ h = h9 → Q r h9) : tq_C l yX11_hasView cX11_hasView 4 (some .boolean) d 0 0 [.ref t, .int a1] h Q := by
  refine tq_body (y := yX11_hasView) false (by decide +kernel) (fun z => by cases z) (Nat.le_of_ble_eq_true rfl) ?_
  show tq_W l mX11_hasView d 0 0 Q 0 [(0, .ref t), (1, .int a1)] [] h
  refine tq_iconst (M := mX11_hasView) (pc := 0) dX11_hasView_0 tk_ki_0 ?_
  refine tq_istore_n (M := mX11_hasView) (pc := 1) rfl dX11_hasView_1 (L2 := [(2, .int (0 : Int32)), (0, .ref t), (1, .int a1)]) (by decide) rfl ?_
  refine tq_iconst (M := mX11_hasView) (pc := 2) dX11_hasView_2 tk_ki_0 ?_
  refine tq_istore_n (M := mX11_hasView) (pc := 3) rfl dX11_hasView_3 (L2 := [(3, .int (0 : Int32)), (2, .int (0 : Int32)), (0, .ref t), (1, .int a1)]) (by decide) rfl ?_
  obtain ⟨o6, eo6, hf⟩ := tq_be hf
  refine tq_pick (L2 := [(0, .ref t), (1, .int a1), (2, .int (0 : Int32)), (3, .int (0 : Int32))]) [2, 3, 1, 0] rfl ?_
  refine l_X11_hasView_4 (by omega) t a1 h _ (0 : Int32) (0 : Int32) _ eo6 ?_
  refine tq_iload_n (M := mX11_hasView) (pc := 38) dX11_hasView_38 rfl ?_
  obtain ⟨z7, ez7, hf⟩ := tq_be hf
  refine tq_zretB (M := mX11_hasView) (pc := 39) dX11_hasView_39 rfl ez7 ?_
  cases (Option.some.inj hf)
  exact hQ _ _ ⟨rfl, rfl⟩
abbrev mX11_isOpen : tq_M := (RX11, cX11_isOpen, 2, (some .boolean), false, [], none)
def f_X11_isOpen (t : Nat) (a1 : Int32) (h : tq_H) : Option (Int32) :=
  (tq_gi h t 11 24).bind fun x1 =>
  (if a1 = (x1 - (1 : Int32)) then
    (tq_is h t 11).bind fun _ =>
    (f_X11_hasView t a1 h).bind fun v2 =>
    if v2 = 0 then
      some (1 : Int32)
    else
      some (0 : Int32)
  else
    some (0 : Int32)).bind fun p4 =>
  (tq_bz p4).bind fun z5 =>
  some z5
set_option maxHeartbeats 4000000 in
set_option maxRecDepth 20000 in
theorem w_X11_isOpen {l : Launch} {d : Nat} (hd9 : 1 ≤ d) {t : Nat} {a1 : Int32} {h : tq_H} {o : Int32} {Q : tq_R → tq_H → Prop} (hf : f_X11_isOpen t a1 h = some o) (hQ : ∀ r h9, r = .inl (some (.int o)) ∧ h = h9 → Q r h9) : tq_C l yX11_isOpen cX11_isOpen 2 (some .boolean) d 0 0 [.ref t, .int a1] h Q := by
  refine tq_body (y := yX11_isOpen) false (by decide +kernel) (fun z => by cases z) (Nat.le_of_ble_eq_true rfl) ?_
  show tq_W l mX11_isOpen d 0 0 Q 0 [(0, .ref t), (1, .int a1)] [] h
  refine tq_iload_n (M := mX11_isOpen) (pc := 0) dX11_isOpen_0 rfl ?_
  refine tq_aload_n (M := mX11_isOpen) (pc := 1) dX11_isOpen_1 rfl ?_
  obtain ⟨x1, ex1, hf⟩ := tq_be hf
  refine tq_getI (M := mX11_isOpen) (pc := 2) tk_c11 (by decide) dX11_isOpen_2 tk_RX11_296 rfl ex1 ?_
  refine tq_iconst (M := mX11_isOpen) (pc := 5) dX11_isOpen_5 tk_ki_1 ?_
  refine tq_isub (M := mX11_isOpen) (pc := 6) dX11_isOpen_6 ?_
  obtain ⟨p4, ep4, hf⟩ := tq_be hf
  have HJ7 : tq_W l mX11_isOpen d 0 0 Q 23 [] [.int p4] h := by
    obtain ⟨z5, ez5, hf⟩ := tq_be hf
    refine tq_zretB (M := mX11_isOpen) (pc := 23) dX11_isOpen_23 rfl ez5 ?_
    cases (Option.some.inj hf)
    exact hQ _ _ ⟨rfl, rfl⟩
  refine tq_icmp_ne (M := mX11_isOpen) (pc := 7) (tgt := 22) dX11_isOpen_7 (by decide) (fun cc => ?_) (fun cc => ?_)
  · have hf := tq_ifn ep4 cc
    refine tq_iconst (M := mX11_isOpen) (pc := 22) dX11_isOpen_22 tk_ki_0 ?_
    refine tq_pick (L2 := []) [] rfl ?_
    cases (Option.some.inj hf)
    exact HJ7
  · have hf := tq_ifp ep4 cc
    refine tq_aload_n (M := mX11_isOpen) (pc := 10) dX11_isOpen_10 rfl ?_
    refine tq_iload_n (M := mX11_isOpen) (pc := 11) dX11_isOpen_11 rfl ?_
    obtain ⟨⟨⟩, eu3, hf⟩ := tq_be hf
    obtain ⟨fsu3, eu3⟩ := tq_is_s eu3
    obtain ⟨v2, ev2, hf⟩ := tq_be hf
    refine tq_calV (M := mX11_isOpen) (pc := 12) (S := []) tk_y_X11_hasView tk_v_X11_hasView tk_RX11_302 dX11_isOpen_12 [.int a1] rfl (S0 := _) rfl eu3 rfl (Nat.le_of_ble_eq_true rfl) (d1 := d - 1) (b1 := 0) (s1 := 0) (bc' := 0) (bs' := 0) (Q1 := fun r h9 => r = .inl (some (.int v2)) ∧ h = h9) (by omega) rfl rfl (w_X11_hasView (by omega) ev2 (fun _ _ q => q)) (fun E h9 q => nomatch (show (Sum.inr E : tq_R) = Sum.inl _ from q.1)) (fun r9 h9 q => ?_)
    obtain ⟨q1, rfl⟩ := q
    cases (show (Sum.inl r9 : tq_R) = Sum.inl (some (.int v2)) from q1)
    refine tq_if_ne (M := mX11_isOpen) (pc := 15) (tgt := 22) dX11_isOpen_15 (by decide) (fun cc => ?_) (fun cc => ?_)
    · have hf := tq_ifn hf cc
      refine tq_iconst (M := mX11_isOpen) (pc := 22) dX11_isOpen_22 tk_ki_0 ?_
      refine tq_pick (L2 := []) [] rfl ?_
      cases (Option.some.inj hf)
      exact HJ7
    · have hf := tq_ifp hf cc
      refine tq_iconst (M := mX11_isOpen) (pc := 18) dX11_isOpen_18 tk_ki_1 ?_
      refine tq_goto (M := mX11_isOpen) (pc := 19) (tgt := 23) dX11_isOpen_19 (by decide) ?_
      refine tq_pick (L2 := []) [] rfl ?_
      cases (Option.some.inj hf)
      exact HJ7
abbrev mX11_step : tq_M := (RX11, cX11_step, 8, (some .int), false, [], none)
def f_X11_step (t : Nat) (a1 : Int32) (a2 : Int32) (a3 : Int32) (a4 : Int32) (h : tq_H) : Option (Int32 × tq_H) :=
  (tq_is h t 11).bind fun _ =>
  (f_X11_isPath t a1 h).bind fun v1 =>
  (if v1 = 0 then
    some (0 : Int32)
  else
    if a2 = (12 : Int32) then
      (f_X11_in a4 (0 : Int32) (a1 - (1 : Int32)) h).bind fun v3 =>
      if v3 = 0 then
        some (0 : Int32)
      else
        some (1 : Int32)
    else
      some (1 : Int32)).bind fun p4 =>
  (f_X11_in a2 (0 : Int32) (12 : Int32) h).bind fun v5 =>
  (if v5 = 0 then
    some (0 : Int32)
  else
    (f_X11_in a3 (0 : Int32) (13 : Int32) h).bind fun v6 =>
    if v6 = 0 then
      some (0 : Int32)
    else
      if a2 = (12 : Int32) then
        some (1 : Int32)
      else
        if a4 = (-1 : Int32) then
          some (1 : Int32)
        else
          some (0 : Int32)).bind fun p7 =>
  (if p4 = 0 then
    some (1 : Int32)
  else
    if p7 = 0 then
      some (2 : Int32)
    else
      (tq_gr h t 11 25).bind fun k8 =>
      (tq_ai h k8 a1).bind fun x9 =>
      if x9 = (5 : Int32) then
        some (3 : Int32)
      else
        (tq_is h t 11).bind fun _ =>
        (f_X11_isOpen t a1 h).bind fun v10 =>
        if v10 = 0 then
          some (3 : Int32)
        else
          some (0 : Int32)).bind fun p12 =>
  (tq_is h t 11).bind fun _ =>
  (f_X11_refused t p12 h).bind fun v13 =>
  if v13.1 = 0 then
    (tq_gr v13.2 t 11 25).bind fun k15 =>
    (tq_ai v13.2 k15 a1).bind fun x16 =>
    tq_let ((((5 : Int32) * a1) + x16)) fun x17 =>
    (tq_gr v13.2 t 11 26).bind fun k18 =>
    (tq_si v13.2 k18 ((3 : Int32) * x17) a2).bind fun w19 =>
    (tq_gr w19 t 11 26).bind fun k20 =>
    (tq_si w19 k20 (((3 : Int32) * x17) + (1 : Int32)) a3).bind fun w21 =>
    (tq_gr w21 t 11 26).bind fun k22 =>
    (tq_si w21 k22 (((3 : Int32) * x17) + (2 : Int32)) a4).bind fun w23 =>
    (tq_gr w23 t 11 27).bind fun k24 =>
    (tq_si w23 k24 x17 (0 : Int32)).bind fun w25 =>
    (tq_gr w25 t 11 25).bind fun k26 =>
    (tq_ai w25 k26 a1).bind fun x27 =>
    (tq_si w25 k26 a1 (x27 + (1 : Int32))).bind fun w28 =>
    (tq_gr w28 t 11 25).bind fun k29 =>
    (tq_ai w28 k29 a1).bind fun x30 =>
    some (x30, w28)
  else
    some ((0 : Int32), v13.2)
set_option maxHeartbeats 4000000 in
set_option maxRecDepth 20000 in
theorem w_X11_step {l : Launch} {d : Nat} (hd9 : 2 ≤ d) {t : Nat} {a1 : Int32} {a2 : Int32} {a3 : Int32} {a4 : Int32} {h : tq_H} {o : Int32 × tq_H} {Q : tq_R → tq_H → Prop} (hf : f_X11_step t a1 a2 a3 a4 h = some o) (hQ : ∀ r h9, r = .inl (some (.int o.1)) ∧ o.2 = h9 → Q r h9) : tq_C l yX11_step cX11_step 8 (some .int) d 0 0 [.ref t, .int a1, .int a2, .int a3, .int a4] h Q := by
  refine tq_body (y := yX11_step) false (by decide +kernel) (fun z => by cases z) (Nat.le_of_ble_eq_true rfl) ?_
  show tq_W l mX11_step d 0 0 Q 0 [(0, .ref t), (1, .int a1), (2, .int a2), (3, .int a3), (4, .int a4)] [] h
  refine tq_aload_n (M := mX11_step) (pc := 0) dX11_step_0 rfl ?_
  refine tq_iload_n (M := mX11_step) (pc := 1) dX11_step_1 rfl ?_
  obtain ⟨⟨⟩, eu2, hf⟩ := tq_be hf
  obtain ⟨fsu2, eu2⟩ := tq_is_s eu2
  obtain ⟨v1, ev1, hf⟩ := tq_be hf
  refine tq_calV (M := mX11_step) (pc := 2) (S := []) tk_y_X11_isPath tk_v_X11_isPath tk_RX11_305 dX11_step_2 [.int a1] rfl (S0 := _) rfl eu2 rfl (Nat.le_of_ble_eq_true rfl) (d1 := d - 1) (b1 := 0) (s1 := 0) (bc' := 0) (bs' := 0) (Q1 := fun r h9 => r = .inl (some (.int v1)) ∧ h = h9) (by omega) rfl rfl (w_X11_isPath (by omega) ev1 (fun _ _ q => q)) (fun E h9 q => nomatch (show (Sum.inr E : tq_R) = Sum.inl _ from q.1)) (fun r9 h9 q => ?_)
  obtain ⟨q1, rfl⟩ := q
  cases (show (Sum.inl r9 : tq_R) = Sum.inl (some (.int v1)) from q1)
  obtain ⟨p4, ep4, hf⟩ := tq_be hf
  have HJ5 : tq_W l mX11_step d 0 0 Q 31 [(0, .ref t), (1, .int a1), (2, .int a2), (3, .int a3), (4, .int a4)] [.int p4] h := by
    refine tq_istore (M := mX11_step) (pc := 31) dX11_step_31 (L2 := [(5, .int p4), (0, .ref t), (1, .int a1), (2, .int a2), (3, .int a3), (4, .int a4)]) (by decide) rfl ?_
    refine tq_iload_n (M := mX11_step) (pc := 33) dX11_step_33 rfl ?_
    refine tq_iconst (M := mX11_step) (pc := 34) dX11_step_34 tk_ki_0 ?_
    refine tq_bipush (M := mX11_step) (pc := 35) dX11_step_35 tk_kb_12 ?_
    obtain ⟨v5, ev5, hf⟩ := tq_be hf
    refine tq_calS (M := mX11_step) (pc := 37) (S := []) tk_y_X11_in tk_s_X11_in tk_RX11_169 dX11_step_37 [.int a2, .int (0 : Int32), .int (12 : Int32)] rfl (Nat.le_of_ble_eq_true rfl) (d1 := d - 1) (b1 := 0) (s1 := 0) (bc' := 0) (bs' := 0) (Q1 := fun r h9 => r = .inl (some (.int v5)) ∧ h = h9) (by omega) rfl rfl (w_X11_in (by omega) ev5 (fun _ _ q => q)) (fun E h9 q => nomatch (show (Sum.inr E : tq_R) = Sum.inl _ from q.1)) (fun r9 h9 q => ?_)
    obtain ⟨q1, rfl⟩ := q
    cases (show (Sum.inl r9 : tq_R) = Sum.inl (some (.int v5)) from q1)
    obtain ⟨p7, ep7, hf⟩ := tq_be hf
    have HJ40 : tq_W l mX11_step d 0 0 Q 70 [(0, .ref t), (1, .int a1), (2, .int a2), (3, .int a3), (4, .int a4), (5, .int p4)] [.int p7] h := by
      refine tq_istore (M := mX11_step) (pc := 70) dX11_step_70 (L2 := [(6, .int p7), (0, .ref t), (1, .int a1), (2, .int a2), (3, .int a3), (4, .int a4), (5, .int p4)]) (by decide) rfl ?_
      refine tq_aload_n (M := mX11_step) (pc := 72) dX11_step_72 rfl ?_
      refine tq_iload (M := mX11_step) (pc := 73) dX11_step_73 rfl ?_
      obtain ⟨p12, ep12, hf⟩ := tq_be hf
      have HJ75 : tq_W l mX11_step d 0 0 Q 114 [(0, .ref t), (1, .int a1), (2, .int a2), (3, .int a3), (4, .int a4)] [.int p12, .ref t] h := by
        obtain ⟨⟨⟩, eu14, hf⟩ := tq_be hf
        obtain ⟨fsu14, eu14⟩ := tq_is_s eu14
        obtain ⟨v13, ev13, hf⟩ := tq_be hf
        refine tq_calV (M := mX11_step) (pc := 114) (S := []) tk_y_X11_refused tk_v_X11_refused tk_RX11_204 dX11_step_114 [.int p12] rfl (S0 := _) rfl eu14 rfl (Nat.le_of_ble_eq_true rfl) (d1 := d - 1) (b1 := 0) (s1 := 0) (bc' := 0) (bs' := 0) (Q1 := fun r h9 => r = .inl (some (.int v13.1)) ∧ v13.2 = h9) (by omega) rfl rfl (w_X11_refused (by omega) ev13 (fun _ _ q => q)) (fun E h9 q => nomatch (show (Sum.inr E : tq_R) = Sum.inl _ from q.1)) (fun r9 h9 q => ?_)
        obtain ⟨q1, rfl⟩ := q
        cases (show (Sum.inl r9 : tq_R) = Sum.inl (some (.int v13.1)) from q1)
        refine tq_if_eq (M := mX11_step) (pc := 117) (tgt := 122) dX11_step_117 (by decide) (fun cc => ?_) (fun cc => ?_)
        · have hf := tq_ifp hf cc
          refine tq_iconst (M := mX11_step) (pc := 122) dX11_step_122 tk_ki_5 ?_
          refine tq_iload_n (M := mX11_step) (pc := 123) dX11_step_123 rfl ?_
          refine tq_imul (M := mX11_step) (pc := 124) dX11_step_124 ?_
          refine tq_aload_n (M := mX11_step) (pc := 125) dX11_step_125 rfl ?_
          obtain ⟨k15, ek15, hf⟩ := tq_be hf
          refine tq_getR (M := mX11_step) (pc := 126) tk_c11 (by decide) dX11_step_126 tk_RX11_68 rfl ek15 ?_
          refine tq_iload_n (M := mX11_step) (pc := 129) dX11_step_129 rfl ?_
          obtain ⟨x16, ex16, hf⟩ := tq_be hf
          refine tq_ialdF (M := mX11_step) (pc := 130) dX11_step_130 ex16 ?_
          refine tq_iadd (M := mX11_step) (pc := 131) dX11_step_131 ?_
          obtain ⟨x17, ex17, hf⟩ := tq_le hf
          refine tq_istore (M := mX11_step) (pc := 132) dX11_step_132 (L2 := [(7, .int x17), (0, .ref t), (1, .int a1), (2, .int a2), (3, .int a3), (4, .int a4)]) (by decide) (by rw [ex17]; rfl) ?_
          refine tq_aload_n (M := mX11_step) (pc := 134) dX11_step_134 rfl ?_
          obtain ⟨k18, ek18, hf⟩ := tq_be hf
          refine tq_getR (M := mX11_step) (pc := 135) tk_c11 (by decide) dX11_step_135 tk_RX11_71 rfl ek18 ?_
          refine tq_iconst (M := mX11_step) (pc := 138) dX11_step_138 tk_ki_3 ?_
          refine tq_iload (M := mX11_step) (pc := 139) dX11_step_139 rfl ?_
          refine tq_imul (M := mX11_step) (pc := 141) dX11_step_141 ?_
          refine tq_iload_n (M := mX11_step) (pc := 142) dX11_step_142 rfl ?_
          obtain ⟨w19, ew19, hf⟩ := tq_be hf
          refine tq_iastF (M := mX11_step) (pc := 143) dX11_step_143 ew19 ?_
          refine tq_aload_n (M := mX11_step) (pc := 144) dX11_step_144 rfl ?_
          obtain ⟨k20, ek20, hf⟩ := tq_be hf
          refine tq_getR (M := mX11_step) (pc := 145) tk_c11 (by decide) dX11_step_145 tk_RX11_71 rfl ek20 ?_
          refine tq_iconst (M := mX11_step) (pc := 148) dX11_step_148 tk_ki_3 ?_
          refine tq_iload (M := mX11_step) (pc := 149) dX11_step_149 rfl ?_
          refine tq_imul (M := mX11_step) (pc := 151) dX11_step_151 ?_
          refine tq_iconst (M := mX11_step) (pc := 152) dX11_step_152 tk_ki_1 ?_
          refine tq_iadd (M := mX11_step) (pc := 153) dX11_step_153 ?_
          refine tq_iload_n (M := mX11_step) (pc := 154) dX11_step_154 rfl ?_
          obtain ⟨w21, ew21, hf⟩ := tq_be hf
          refine tq_iastF (M := mX11_step) (pc := 155) dX11_step_155 ew21 ?_
          refine tq_aload_n (M := mX11_step) (pc := 156) dX11_step_156 rfl ?_
          obtain ⟨k22, ek22, hf⟩ := tq_be hf
          refine tq_getR (M := mX11_step) (pc := 157) tk_c11 (by decide) dX11_step_157 tk_RX11_71 rfl ek22 ?_
          refine tq_iconst (M := mX11_step) (pc := 160) dX11_step_160 tk_ki_3 ?_
          refine tq_iload (M := mX11_step) (pc := 161) dX11_step_161 rfl ?_
          refine tq_imul (M := mX11_step) (pc := 163) dX11_step_163 ?_
          refine tq_iconst (M := mX11_step) (pc := 164) dX11_step_164 tk_ki_2 ?_
          refine tq_iadd (M := mX11_step) (pc := 165) dX11_step_165 ?_
          refine tq_iload (M := mX11_step) (pc := 166) dX11_step_166 rfl ?_
          obtain ⟨w23, ew23, hf⟩ := tq_be hf
          refine tq_iastF (M := mX11_step) (pc := 168) dX11_step_168 ew23 ?_
          refine tq_aload_n (M := mX11_step) (pc := 169) dX11_step_169 rfl ?_
          obtain ⟨k24, ek24, hf⟩ := tq_be hf
          refine tq_getR (M := mX11_step) (pc := 170) tk_c11 (by decide) dX11_step_170 tk_RX11_74 rfl ek24 ?_
          refine tq_iload (M := mX11_step) (pc := 173) dX11_step_173 rfl ?_
          refine tq_iconst (M := mX11_step) (pc := 175) dX11_step_175 tk_ki_0 ?_
          obtain ⟨w25, ew25, hf⟩ := tq_be hf
          refine tq_iastF (M := mX11_step) (pc := 176) dX11_step_176 ew25 ?_
          refine tq_aload_n (M := mX11_step) (pc := 177) dX11_step_177 rfl ?_
          obtain ⟨k26, ek26, hf⟩ := tq_be hf
          refine tq_getR (M := mX11_step) (pc := 178) tk_c11 (by decide) dX11_step_178 tk_RX11_68 rfl ek26 ?_
          refine tq_iload_n (M := mX11_step) (pc := 181) dX11_step_181 rfl ?_
          refine tq_dup2 (M := mX11_step) (pc := 182) dX11_step_182 rfl rfl ?_
          obtain ⟨x27, ex27, hf⟩ := tq_be hf
          refine tq_ialdF (M := mX11_step) (pc := 183) dX11_step_183 ex27 ?_
          refine tq_iconst (M := mX11_step) (pc := 184) dX11_step_184 tk_ki_1 ?_
          refine tq_iadd (M := mX11_step) (pc := 185) dX11_step_185 ?_
          obtain ⟨w28, ew28, hf⟩ := tq_be hf
          refine tq_iastF (M := mX11_step) (pc := 186) dX11_step_186 ew28 ?_
          refine tq_aload_n (M := mX11_step) (pc := 187) dX11_step_187 rfl ?_
          obtain ⟨k29, ek29, hf⟩ := tq_be hf
          refine tq_getR (M := mX11_step) (pc := 188) tk_c11 (by decide) dX11_step_188 tk_RX11_68 rfl ek29 ?_
          refine tq_iload_n (M := mX11_step) (pc := 191) dX11_step_191 rfl ?_
          obtain ⟨x30, ex30, hf⟩ := tq_be hf
          refine tq_ialdF (M := mX11_step) (pc := 192) dX11_step_192 ex30 ?_
          refine tq_iret (M := mX11_step) (pc := 193) dX11_step_193 rfl ?_
          cases (Option.some.inj hf)
          exact hQ _ _ ⟨rfl, rfl⟩
        · have hf := tq_ifn hf cc
          refine tq_iconst (M := mX11_step) (pc := 120) dX11_step_120 tk_ki_0 ?_
          refine tq_iret (M := mX11_step) (pc := 121) dX11_step_121 rfl ?_
          cases (Option.some.inj hf)
          exact hQ _ _ ⟨rfl, rfl⟩
      refine tq_if_ne (M := mX11_step) (pc := 75) (tgt := 82) dX11_step_75 (by decide) (fun cc => ?_) (fun cc => ?_)
      · have hf := tq_ifn ep12 cc
        refine tq_iload (M := mX11_step) (pc := 82) dX11_step_82 rfl ?_
        refine tq_if_ne (M := mX11_step) (pc := 84) (tgt := 91) dX11_step_84 (by decide) (fun cc => ?_) (fun cc => ?_)
        · have hf := tq_ifn hf cc
          refine tq_aload_n (M := mX11_step) (pc := 91) dX11_step_91 rfl ?_
          obtain ⟨k8, ek8, hf⟩ := tq_be hf
          refine tq_getR (M := mX11_step) (pc := 92) tk_c11 (by decide) dX11_step_92 tk_RX11_68 rfl ek8 ?_
          refine tq_iload_n (M := mX11_step) (pc := 95) dX11_step_95 rfl ?_
          obtain ⟨x9, ex9, hf⟩ := tq_be hf
          refine tq_ialdF (M := mX11_step) (pc := 96) dX11_step_96 ex9 ?_
          refine tq_iconst (M := mX11_step) (pc := 97) dX11_step_97 tk_ki_5 ?_
          refine tq_icmp_eq (M := mX11_step) (pc := 98) (tgt := 109) dX11_step_98 (by decide) (fun cc => ?_) (fun cc => ?_)
          · have hf := tq_ifp hf cc
            refine tq_iconst (M := mX11_step) (pc := 109) dX11_step_109 tk_ki_3 ?_
            refine tq_goto (M := mX11_step) (pc := 110) (tgt := 114) dX11_step_110 (by decide) ?_
            refine tq_pick (L2 := [(0, .ref t), (1, .int a1), (2, .int a2), (3, .int a3), (4, .int a4)]) [1, 2, 3, 4, 5] rfl ?_
            cases (Option.some.inj hf)
            exact HJ75
          · have hf := tq_ifn hf cc
            refine tq_aload_n (M := mX11_step) (pc := 101) dX11_step_101 rfl ?_
            refine tq_iload_n (M := mX11_step) (pc := 102) dX11_step_102 rfl ?_
            obtain ⟨⟨⟩, eu11, hf⟩ := tq_be hf
            obtain ⟨fsu11, eu11⟩ := tq_is_s eu11
            obtain ⟨v10, ev10, hf⟩ := tq_be hf
            refine tq_calV (M := mX11_step) (pc := 103) (S := [.ref t]) tk_y_X11_isOpen tk_v_X11_isOpen tk_RX11_308 dX11_step_103 [.int a1] rfl (S0 := _) rfl eu11 rfl (Nat.le_of_ble_eq_true rfl) (d1 := d - 1) (b1 := 0) (s1 := 0) (bc' := 0) (bs' := 0) (Q1 := fun r h9 => r = .inl (some (.int v10)) ∧ h = h9) (by omega) rfl rfl (w_X11_isOpen (by omega) ev10 (fun _ _ q => q)) (fun E h9 q => nomatch (show (Sum.inr E : tq_R) = Sum.inl _ from q.1)) (fun r9 h9 q => ?_)
            obtain ⟨q1, rfl⟩ := q
            cases (show (Sum.inl r9 : tq_R) = Sum.inl (some (.int v10)) from q1)
            refine tq_if_ne (M := mX11_step) (pc := 106) (tgt := 113) dX11_step_106 (by decide) (fun cc => ?_) (fun cc => ?_)
            · have hf := tq_ifn hf cc
              refine tq_iconst (M := mX11_step) (pc := 113) dX11_step_113 tk_ki_0 ?_
              refine tq_pick (L2 := [(0, .ref t), (1, .int a1), (2, .int a2), (3, .int a3), (4, .int a4)]) [1, 2, 3, 4, 5] rfl ?_
              cases (Option.some.inj hf)
              exact HJ75
            · have hf := tq_ifp hf cc
              refine tq_iconst (M := mX11_step) (pc := 109) dX11_step_109 tk_ki_3 ?_
              refine tq_goto (M := mX11_step) (pc := 110) (tgt := 114) dX11_step_110 (by decide) ?_
              refine tq_pick (L2 := [(0, .ref t), (1, .int a1), (2, .int a2), (3, .int a3), (4, .int a4)]) [1, 2, 3, 4, 5] rfl ?_
              cases (Option.some.inj hf)
              exact HJ75
        · have hf := tq_ifp hf cc
          refine tq_iconst (M := mX11_step) (pc := 87) dX11_step_87 tk_ki_2 ?_
          refine tq_goto (M := mX11_step) (pc := 88) (tgt := 114) dX11_step_88 (by decide) ?_
          refine tq_pick (L2 := [(0, .ref t), (1, .int a1), (2, .int a2), (3, .int a3), (4, .int a4)]) [1, 2, 3, 4, 5] rfl ?_
          cases (Option.some.inj hf)
          exact HJ75
      · have hf := tq_ifp ep12 cc
        refine tq_iconst (M := mX11_step) (pc := 78) dX11_step_78 tk_ki_1 ?_
        refine tq_goto (M := mX11_step) (pc := 79) (tgt := 114) dX11_step_79 (by decide) ?_
        refine tq_pick (L2 := [(0, .ref t), (1, .int a1), (2, .int a2), (3, .int a3), (4, .int a4)]) [1, 2, 3, 4, 5] rfl ?_
        cases (Option.some.inj hf)
        exact HJ75
    refine tq_if_eq (M := mX11_step) (pc := 40) (tgt := 69) dX11_step_40 (by decide) (fun cc => ?_) (fun cc => ?_)
    · have hf := tq_ifp ep7 cc
      refine tq_iconst (M := mX11_step) (pc := 69) dX11_step_69 tk_ki_0 ?_
      refine tq_pick (L2 := [(0, .ref t), (1, .int a1), (2, .int a2), (3, .int a3), (4, .int a4), (5, .int p4)]) [1, 2, 3, 4, 5, 0] rfl ?_
      cases (Option.some.inj hf)
      exact HJ40
    · have hf := tq_ifn ep7 cc
      refine tq_iload_n (M := mX11_step) (pc := 43) dX11_step_43 rfl ?_
      refine tq_iconst (M := mX11_step) (pc := 44) dX11_step_44 tk_ki_0 ?_
      refine tq_bipush (M := mX11_step) (pc := 45) dX11_step_45 tk_kb_13 ?_
      obtain ⟨v6, ev6, hf⟩ := tq_be hf
      refine tq_calS (M := mX11_step) (pc := 47) (S := []) tk_y_X11_in tk_s_X11_in tk_RX11_169 dX11_step_47 [.int a3, .int (0 : Int32), .int (13 : Int32)] rfl (Nat.le_of_ble_eq_true rfl) (d1 := d - 1) (b1 := 0) (s1 := 0) (bc' := 0) (bs' := 0) (Q1 := fun r h9 => r = .inl (some (.int v6)) ∧ h = h9) (by omega) rfl rfl (w_X11_in (by omega) ev6 (fun _ _ q => q)) (fun E h9 q => nomatch (show (Sum.inr E : tq_R) = Sum.inl _ from q.1)) (fun r9 h9 q => ?_)
      obtain ⟨q1, rfl⟩ := q
      cases (show (Sum.inl r9 : tq_R) = Sum.inl (some (.int v6)) from q1)
      refine tq_if_eq (M := mX11_step) (pc := 50) (tgt := 69) dX11_step_50 (by decide) (fun cc => ?_) (fun cc => ?_)
      · have hf := tq_ifp hf cc
        refine tq_iconst (M := mX11_step) (pc := 69) dX11_step_69 tk_ki_0 ?_
        refine tq_pick (L2 := [(0, .ref t), (1, .int a1), (2, .int a2), (3, .int a3), (4, .int a4), (5, .int p4)]) [1, 2, 3, 4, 5, 0] rfl ?_
        cases (Option.some.inj hf)
        exact HJ40
      · have hf := tq_ifn hf cc
        refine tq_iload_n (M := mX11_step) (pc := 53) dX11_step_53 rfl ?_
        refine tq_bipush (M := mX11_step) (pc := 54) dX11_step_54 tk_kb_12 ?_
        refine tq_icmp_eq (M := mX11_step) (pc := 56) (tgt := 65) dX11_step_56 (by decide) (fun cc => ?_) (fun cc => ?_)
        · have hf := tq_ifp hf cc
          refine tq_iconst (M := mX11_step) (pc := 65) dX11_step_65 tk_ki_1 ?_
          refine tq_goto (M := mX11_step) (pc := 66) (tgt := 70) dX11_step_66 (by decide) ?_
          refine tq_pick (L2 := [(0, .ref t), (1, .int a1), (2, .int a2), (3, .int a3), (4, .int a4), (5, .int p4)]) [1, 2, 3, 4, 5, 0] rfl ?_
          cases (Option.some.inj hf)
          exact HJ40
        · have hf := tq_ifn hf cc
          refine tq_iload (M := mX11_step) (pc := 59) dX11_step_59 rfl ?_
          refine tq_iconst (M := mX11_step) (pc := 61) dX11_step_61 tk_ki_m1 ?_
          refine tq_icmp_ne (M := mX11_step) (pc := 62) (tgt := 69) dX11_step_62 (by decide) (fun cc => ?_) (fun cc => ?_)
          · have hf := tq_ifn hf cc
            refine tq_iconst (M := mX11_step) (pc := 69) dX11_step_69 tk_ki_0 ?_
            refine tq_pick (L2 := [(0, .ref t), (1, .int a1), (2, .int a2), (3, .int a3), (4, .int a4), (5, .int p4)]) [1, 2, 3, 4, 5, 0] rfl ?_
            cases (Option.some.inj hf)
            exact HJ40
          · have hf := tq_ifp hf cc
            refine tq_iconst (M := mX11_step) (pc := 65) dX11_step_65 tk_ki_1 ?_
            refine tq_goto (M := mX11_step) (pc := 66) (tgt := 70) dX11_step_66 (by decide) ?_
            refine tq_pick (L2 := [(0, .ref t), (1, .int a1), (2, .int a2), (3, .int a3), (4, .int a4), (5, .int p4)]) [1, 2, 3, 4, 5, 0] rfl ?_
            cases (Option.some.inj hf)
            exact HJ40
  refine tq_if_eq (M := mX11_step) (pc := 5) (tgt := 30) dX11_step_5 (by decide) (fun cc => ?_) (fun cc => ?_)
  · have hf := tq_ifp ep4 cc
    refine tq_iconst (M := mX11_step) (pc := 30) dX11_step_30 tk_ki_0 ?_
    cases (Option.some.inj hf)
    exact HJ5
  · have hf := tq_ifn ep4 cc
    refine tq_iload_n (M := mX11_step) (pc := 8) dX11_step_8 rfl ?_
    refine tq_bipush (M := mX11_step) (pc := 9) dX11_step_9 tk_kb_12 ?_
    refine tq_icmp_ne (M := mX11_step) (pc := 11) (tgt := 26) dX11_step_11 (by decide) (fun cc => ?_) (fun cc => ?_)
    · have hf := tq_ifn hf cc
      refine tq_iconst (M := mX11_step) (pc := 26) dX11_step_26 tk_ki_1 ?_
      refine tq_goto (M := mX11_step) (pc := 27) (tgt := 31) dX11_step_27 (by decide) ?_
      cases (Option.some.inj hf)
      exact HJ5
    · have hf := tq_ifp hf cc
      refine tq_iload (M := mX11_step) (pc := 14) dX11_step_14 rfl ?_
      refine tq_iconst (M := mX11_step) (pc := 16) dX11_step_16 tk_ki_0 ?_
      refine tq_iload_n (M := mX11_step) (pc := 17) dX11_step_17 rfl ?_
      refine tq_iconst (M := mX11_step) (pc := 18) dX11_step_18 tk_ki_1 ?_
      refine tq_isub (M := mX11_step) (pc := 19) dX11_step_19 ?_
      obtain ⟨v3, ev3, hf⟩ := tq_be hf
      refine tq_calS (M := mX11_step) (pc := 20) (S := []) tk_y_X11_in tk_s_X11_in tk_RX11_169 dX11_step_20 [.int a4, .int (0 : Int32), .int ((a1 - (1 : Int32)))] rfl (Nat.le_of_ble_eq_true rfl) (d1 := d - 1) (b1 := 0) (s1 := 0) (bc' := 0) (bs' := 0) (Q1 := fun r h9 => r = .inl (some (.int v3)) ∧ h = h9) (by omega) rfl rfl (w_X11_in (by omega) ev3 (fun _ _ q => q)) (fun E h9 q => nomatch (show (Sum.inr E : tq_R) = Sum.inl _ from q.1)) (fun r9 h9 q => ?_)
      obtain ⟨q1, rfl⟩ := q
      cases (show (Sum.inl r9 : tq_R) = Sum.inl (some (.int v3)) from q1)
      refine tq_if_eq (M := mX11_step) (pc := 23) (tgt := 30) dX11_step_23 (by decide) (fun cc => ?_) (fun cc => ?_)
      · have hf := tq_ifp hf cc
        refine tq_iconst (M := mX11_step) (pc := 30) dX11_step_30 tk_ki_0 ?_
        cases (Option.some.inj hf)
        exact HJ5
      · have hf := tq_ifn hf cc
        refine tq_iconst (M := mX11_step) (pc := 26) dX11_step_26 tk_ki_1 ?_
        refine tq_goto (M := mX11_step) (pc := 27) (tgt := 31) dX11_step_27 (by decide) ?_
        cases (Option.some.inj hf)
        exact HJ5
abbrev mX11_takesCondition : tq_M := (RX11, cX11_takesCondition, 2, (some .boolean), false, [], none)
def f_X11_takesCondition (t : Nat) (a1 : Int32) (h : tq_H) : Option (Int32) :=
  (tq_gr h t 11 25).bind fun k1 =>
  (tq_ai h k1 a1).bind fun x2 =>
  (if x2 ≤ 0 then
    some (0 : Int32)
  else
    (tq_gr h t 11 27).bind fun k3 =>
    (tq_gr h t 11 25).bind fun k4 =>
    (tq_ai h k4 a1).bind fun x5 =>
    (tq_ai h k3 ((((5 : Int32) * a1) + x5) - (1 : Int32))).bind fun x6 =>
    if x6 ≥ (2 : Int32) then
      some (0 : Int32)
    else
      (tq_is h t 11).bind fun _ =>
      (f_X11_isOpen t a1 h).bind fun v7 =>
      if v7 = 0 then
        some (0 : Int32)
      else
        some (1 : Int32)).bind fun p9 =>
  (tq_bz p9).bind fun z10 =>
  some z10
set_option maxHeartbeats 4000000 in
set_option maxRecDepth 20000 in
theorem w_X11_takesCondition {l : Launch} {d : Nat} (hd9 : 2 ≤ d) {t : Nat} {a1 : Int32} {h : tq_H} {o : Int32} {Q : tq_R → tq_H → Prop} (hf : f_X11_takesCondition t a1 h = some o) (hQ : ∀ r h9, r = .inl (some (.int o)) ∧ h = h9 → Q r h9) : tq_C l yX11_takesCondition cX11_takesCondition 2 (some .boolean) d 0 0 [.ref t, .int a1] h Q := by
  refine tq_body (y := yX11_takesCondition) false (by decide +kernel) (fun z => by cases z) (Nat.le_of_ble_eq_true rfl) ?_
  show tq_W l mX11_takesCondition d 0 0 Q 0 [(0, .ref t), (1, .int a1)] [] h
  refine tq_aload_n (M := mX11_takesCondition) (pc := 0) dX11_takesCondition_0 rfl ?_
  obtain ⟨k1, ek1, hf⟩ := tq_be hf
  refine tq_getR (M := mX11_takesCondition) (pc := 1) tk_c11 (by decide) dX11_takesCondition_1 tk_RX11_68 rfl ek1 ?_
  refine tq_iload_n (M := mX11_takesCondition) (pc := 4) dX11_takesCondition_4 rfl ?_
  obtain ⟨x2, ex2, hf⟩ := tq_be hf
  refine tq_ialdF (M := mX11_takesCondition) (pc := 5) dX11_takesCondition_5 ex2 ?_
  obtain ⟨p9, ep9, hf⟩ := tq_be hf
  have HJ6 : tq_W l mX11_takesCondition d 0 0 Q 43 [] [.int p9] h := by
    obtain ⟨z10, ez10, hf⟩ := tq_be hf
    refine tq_zretB (M := mX11_takesCondition) (pc := 43) dX11_takesCondition_43 rfl ez10 ?_
    cases (Option.some.inj hf)
    exact hQ _ _ ⟨rfl, rfl⟩
  refine tq_if_le (M := mX11_takesCondition) (pc := 6) (tgt := 42) dX11_takesCondition_6 (by decide) (fun cc => ?_) (fun cc => ?_)
  · have hf := tq_ifp ep9 cc
    refine tq_iconst (M := mX11_takesCondition) (pc := 42) dX11_takesCondition_42 tk_ki_0 ?_
    refine tq_pick (L2 := []) [] rfl ?_
    cases (Option.some.inj hf)
    exact HJ6
  · have hf := tq_ifn ep9 cc
    refine tq_aload_n (M := mX11_takesCondition) (pc := 9) dX11_takesCondition_9 rfl ?_
    obtain ⟨k3, ek3, hf⟩ := tq_be hf
    refine tq_getR (M := mX11_takesCondition) (pc := 10) tk_c11 (by decide) dX11_takesCondition_10 tk_RX11_74 rfl ek3 ?_
    refine tq_iconst (M := mX11_takesCondition) (pc := 13) dX11_takesCondition_13 tk_ki_5 ?_
    refine tq_iload_n (M := mX11_takesCondition) (pc := 14) dX11_takesCondition_14 rfl ?_
    refine tq_imul (M := mX11_takesCondition) (pc := 15) dX11_takesCondition_15 ?_
    refine tq_aload_n (M := mX11_takesCondition) (pc := 16) dX11_takesCondition_16 rfl ?_
    obtain ⟨k4, ek4, hf⟩ := tq_be hf
    refine tq_getR (M := mX11_takesCondition) (pc := 17) tk_c11 (by decide) dX11_takesCondition_17 tk_RX11_68 rfl ek4 ?_
    refine tq_iload_n (M := mX11_takesCondition) (pc := 20) dX11_takesCondition_20 rfl ?_
    obtain ⟨x5, ex5, hf⟩ := tq_be hf
    refine tq_ialdF (M := mX11_takesCondition) (pc := 21) dX11_takesCondition_21 ex5 ?_
    refine tq_iadd (M := mX11_takesCondition) (pc := 22) dX11_takesCondition_22 ?_
    refine tq_iconst (M := mX11_takesCondition) (pc := 23) dX11_takesCondition_23 tk_ki_1 ?_
    refine tq_isub (M := mX11_takesCondition) (pc := 24) dX11_takesCondition_24 ?_
    obtain ⟨x6, ex6, hf⟩ := tq_be hf
    refine tq_ialdF (M := mX11_takesCondition) (pc := 25) dX11_takesCondition_25 ex6 ?_
    refine tq_iconst (M := mX11_takesCondition) (pc := 26) dX11_takesCondition_26 tk_ki_2 ?_
    refine tq_icmp_ge (M := mX11_takesCondition) (pc := 27) (tgt := 42) dX11_takesCondition_27 (by decide) (fun cc => ?_) (fun cc => ?_)
    · have hf := tq_ifp hf cc
      refine tq_iconst (M := mX11_takesCondition) (pc := 42) dX11_takesCondition_42 tk_ki_0 ?_
      refine tq_pick (L2 := []) [] rfl ?_
      cases (Option.some.inj hf)
      exact HJ6
    · have hf := tq_ifn hf cc
      refine tq_aload_n (M := mX11_takesCondition) (pc := 30) dX11_takesCondition_30 rfl ?_
      refine tq_iload_n (M := mX11_takesCondition) (pc := 31) dX11_takesCondition_31 rfl ?_
      obtain ⟨⟨⟩, eu8, hf⟩ := tq_be hf
      obtain ⟨fsu8, eu8⟩ := tq_is_s eu8
      obtain ⟨v7, ev7, hf⟩ := tq_be hf
      refine tq_calV (M := mX11_takesCondition) (pc := 32) (S := []) tk_y_X11_isOpen tk_v_X11_isOpen tk_RX11_308 dX11_takesCondition_32 [.int a1] rfl (S0 := _) rfl eu8 rfl (Nat.le_of_ble_eq_true rfl) (d1 := d - 1) (b1 := 0) (s1 := 0) (bc' := 0) (bs' := 0) (Q1 := fun r h9 => r = .inl (some (.int v7)) ∧ h = h9) (by omega) rfl rfl (w_X11_isOpen (by omega) ev7 (fun _ _ q => q)) (fun E h9 q => nomatch (show (Sum.inr E : tq_R) = Sum.inl _ from q.1)) (fun r9 h9 q => ?_)
      obtain ⟨q1, rfl⟩ := q
      cases (show (Sum.inl r9 : tq_R) = Sum.inl (some (.int v7)) from q1)
      refine tq_if_eq (M := mX11_takesCondition) (pc := 35) (tgt := 42) dX11_takesCondition_35 (by decide) (fun cc => ?_) (fun cc => ?_)
      · have hf := tq_ifp hf cc
        refine tq_iconst (M := mX11_takesCondition) (pc := 42) dX11_takesCondition_42 tk_ki_0 ?_
        refine tq_pick (L2 := []) [] rfl ?_
        cases (Option.some.inj hf)
        exact HJ6
      · have hf := tq_ifn hf cc
        refine tq_iconst (M := mX11_takesCondition) (pc := 38) dX11_takesCondition_38 tk_ki_1 ?_
        refine tq_goto (M := mX11_takesCondition) (pc := 39) (tgt := 43) dX11_takesCondition_39 (by decide) ?_
        refine tq_pick (L2 := []) [] rfl ?_
        cases (Option.some.inj hf)
        exact HJ6
abbrev mX11_condition : tq_M := (RX11, cX11_condition, 8, (some .int), false, [], none)
def f_X11_condition (t : Nat) (a1 : Int32) (a2 : Int32) (a3 : Int32) (a4 : Int32) (a5 : Int32) (h : tq_H) : Option (Int32 × tq_H) :=
  (tq_gr h t 11 25).bind fun k1 =>
  (tq_ai h k1 a1).bind fun x2 =>
  tq_let (((((5 : Int32) * a1) + x2) - (1 : Int32))) fun x3 =>
  (tq_gr h t 11 27).bind fun k4 =>
  (tq_ai h k4 x3).bind fun x5 =>
  tq_let (((4 : Int32) * (((2 : Int32) * x3) + x5))) fun x6 =>
  (tq_gr h t 11 28).bind fun k7 =>
  (tq_si h k7 x6 a2).bind fun w8 =>
  (tq_gr w8 t 11 28).bind fun k9 =>
  (tq_si w8 k9 (x6 + (1 : Int32)) a3).bind fun w10 =>
  (tq_gr w10 t 11 28).bind fun k11 =>
  (tq_si w10 k11 (x6 + (2 : Int32)) a4).bind fun w12 =>
  (tq_gr w12 t 11 28).bind fun k13 =>
  (tq_si w12 k13 (x6 + (3 : Int32)) a5).bind fun w14 =>
  (tq_gr w14 t 11 27).bind fun k15 =>
  (tq_ai w14 k15 x3).bind fun x16 =>
  (tq_si w14 k15 x3 (x16 + (1 : Int32))).bind fun w17 =>
  (tq_gr w17 t 11 27).bind fun k18 =>
  (tq_ai w17 k18 x3).bind fun x19 =>
  some (x19, w17)
set_option maxHeartbeats 4000000 in
set_option maxRecDepth 20000 in
theorem w_X11_condition {l : Launch} {d : Nat} (hd9 : 0 ≤ d) {t : Nat} {a1 : Int32} {a2 : Int32} {a3 : Int32} {a4 : Int32} {a5 : Int32} {h : tq_H} {o : Int32 × tq_H} {Q : tq_R → tq_H → Prop} (hf : f_X11_condition t a1 a2 a3 a4 a5 h = some o) (hQ : ∀ r h9, r = .inl (some (.int o.1)) ∧ o.2 = h9 → Q r h9) : tq_C l yX11_condition cX11_condition 8 (some .int) d 0 0 [.ref t, .int a1, .int a2, .int a3, .int a4, .int a5] h Q := by
  refine tq_body (y := yX11_condition) false (by decide +kernel) (fun z => by cases z) (Nat.le_of_ble_eq_true rfl) ?_
  show tq_W l mX11_condition d 0 0 Q 0 [(0, .ref t), (1, .int a1), (2, .int a2), (3, .int a3), (4, .int a4), (5, .int a5)] [] h
  refine tq_iconst (M := mX11_condition) (pc := 0) dX11_condition_0 tk_ki_5 ?_
  refine tq_iload_n (M := mX11_condition) (pc := 1) dX11_condition_1 rfl ?_
  refine tq_imul (M := mX11_condition) (pc := 2) dX11_condition_2 ?_
  refine tq_aload_n (M := mX11_condition) (pc := 3) dX11_condition_3 rfl ?_
  obtain ⟨k1, ek1, hf⟩ := tq_be hf
  refine tq_getR (M := mX11_condition) (pc := 4) tk_c11 (by decide) dX11_condition_4 tk_RX11_68 rfl ek1 ?_
  refine tq_iload_n (M := mX11_condition) (pc := 7) dX11_condition_7 rfl ?_
  obtain ⟨x2, ex2, hf⟩ := tq_be hf
  refine tq_ialdF (M := mX11_condition) (pc := 8) dX11_condition_8 ex2 ?_
  refine tq_iadd (M := mX11_condition) (pc := 9) dX11_condition_9 ?_
  refine tq_iconst (M := mX11_condition) (pc := 10) dX11_condition_10 tk_ki_1 ?_
  refine tq_isub (M := mX11_condition) (pc := 11) dX11_condition_11 ?_
  obtain ⟨x3, ex3, hf⟩ := tq_le hf
  refine tq_istore (M := mX11_condition) (pc := 12) dX11_condition_12 (L2 := [(6, .int x3), (0, .ref t), (1, .int a1), (2, .int a2), (3, .int a3), (4, .int a4), (5, .int a5)]) (by decide) (by rw [ex3]; rfl) ?_
  refine tq_iconst (M := mX11_condition) (pc := 14) dX11_condition_14 tk_ki_4 ?_
  refine tq_iconst (M := mX11_condition) (pc := 15) dX11_condition_15 tk_ki_2 ?_
  refine tq_iload (M := mX11_condition) (pc := 16) dX11_condition_16 rfl ?_
  refine tq_imul (M := mX11_condition) (pc := 18) dX11_condition_18 ?_
  refine tq_aload_n (M := mX11_condition) (pc := 19) dX11_condition_19 rfl ?_
  obtain ⟨k4, ek4, hf⟩ := tq_be hf
  refine tq_getR (M := mX11_condition) (pc := 20) tk_c11 (by decide) dX11_condition_20 tk_RX11_74 rfl ek4 ?_
  refine tq_iload (M := mX11_condition) (pc := 23) dX11_condition_23 rfl ?_
  obtain ⟨x5, ex5, hf⟩ := tq_be hf
  refine tq_ialdF (M := mX11_condition) (pc := 25) dX11_condition_25 ex5 ?_
  refine tq_iadd (M := mX11_condition) (pc := 26) dX11_condition_26 ?_
  refine tq_imul (M := mX11_condition) (pc := 27) dX11_condition_27 ?_
  obtain ⟨x6, ex6, hf⟩ := tq_le hf
  refine tq_istore (M := mX11_condition) (pc := 28) dX11_condition_28 (L2 := [(7, .int x6), (6, .int x3), (0, .ref t), (1, .int a1), (2, .int a2), (3, .int a3), (4, .int a4), (5, .int a5)]) (by decide) (by rw [ex6]; rfl) ?_
  refine tq_aload_n (M := mX11_condition) (pc := 30) dX11_condition_30 rfl ?_
  obtain ⟨k7, ek7, hf⟩ := tq_be hf
  refine tq_getR (M := mX11_condition) (pc := 31) tk_c11 (by decide) dX11_condition_31 tk_RX11_77 rfl ek7 ?_
  refine tq_iload (M := mX11_condition) (pc := 34) dX11_condition_34 rfl ?_
  refine tq_iload_n (M := mX11_condition) (pc := 36) dX11_condition_36 rfl ?_
  obtain ⟨w8, ew8, hf⟩ := tq_be hf
  refine tq_iastF (M := mX11_condition) (pc := 37) dX11_condition_37 ew8 ?_
  refine tq_aload_n (M := mX11_condition) (pc := 38) dX11_condition_38 rfl ?_
  obtain ⟨k9, ek9, hf⟩ := tq_be hf
  refine tq_getR (M := mX11_condition) (pc := 39) tk_c11 (by decide) dX11_condition_39 tk_RX11_77 rfl ek9 ?_
  refine tq_iload (M := mX11_condition) (pc := 42) dX11_condition_42 rfl ?_
  refine tq_iconst (M := mX11_condition) (pc := 44) dX11_condition_44 tk_ki_1 ?_
  refine tq_iadd (M := mX11_condition) (pc := 45) dX11_condition_45 ?_
  refine tq_iload_n (M := mX11_condition) (pc := 46) dX11_condition_46 rfl ?_
  obtain ⟨w10, ew10, hf⟩ := tq_be hf
  refine tq_iastF (M := mX11_condition) (pc := 47) dX11_condition_47 ew10 ?_
  refine tq_aload_n (M := mX11_condition) (pc := 48) dX11_condition_48 rfl ?_
  obtain ⟨k11, ek11, hf⟩ := tq_be hf
  refine tq_getR (M := mX11_condition) (pc := 49) tk_c11 (by decide) dX11_condition_49 tk_RX11_77 rfl ek11 ?_
  refine tq_iload (M := mX11_condition) (pc := 52) dX11_condition_52 rfl ?_
  refine tq_iconst (M := mX11_condition) (pc := 54) dX11_condition_54 tk_ki_2 ?_
  refine tq_iadd (M := mX11_condition) (pc := 55) dX11_condition_55 ?_
  refine tq_iload (M := mX11_condition) (pc := 56) dX11_condition_56 rfl ?_
  obtain ⟨w12, ew12, hf⟩ := tq_be hf
  refine tq_iastF (M := mX11_condition) (pc := 58) dX11_condition_58 ew12 ?_
  refine tq_aload_n (M := mX11_condition) (pc := 59) dX11_condition_59 rfl ?_
  obtain ⟨k13, ek13, hf⟩ := tq_be hf
  refine tq_getR (M := mX11_condition) (pc := 60) tk_c11 (by decide) dX11_condition_60 tk_RX11_77 rfl ek13 ?_
  refine tq_iload (M := mX11_condition) (pc := 63) dX11_condition_63 rfl ?_
  refine tq_iconst (M := mX11_condition) (pc := 65) dX11_condition_65 tk_ki_3 ?_
  refine tq_iadd (M := mX11_condition) (pc := 66) dX11_condition_66 ?_
  refine tq_iload (M := mX11_condition) (pc := 67) dX11_condition_67 rfl ?_
  obtain ⟨w14, ew14, hf⟩ := tq_be hf
  refine tq_iastF (M := mX11_condition) (pc := 69) dX11_condition_69 ew14 ?_
  refine tq_aload_n (M := mX11_condition) (pc := 70) dX11_condition_70 rfl ?_
  obtain ⟨k15, ek15, hf⟩ := tq_be hf
  refine tq_getR (M := mX11_condition) (pc := 71) tk_c11 (by decide) dX11_condition_71 tk_RX11_74 rfl ek15 ?_
  refine tq_iload (M := mX11_condition) (pc := 74) dX11_condition_74 rfl ?_
  refine tq_dup2 (M := mX11_condition) (pc := 76) dX11_condition_76 rfl rfl ?_
  obtain ⟨x16, ex16, hf⟩ := tq_be hf
  refine tq_ialdF (M := mX11_condition) (pc := 77) dX11_condition_77 ex16 ?_
  refine tq_iconst (M := mX11_condition) (pc := 78) dX11_condition_78 tk_ki_1 ?_
  refine tq_iadd (M := mX11_condition) (pc := 79) dX11_condition_79 ?_
  obtain ⟨w17, ew17, hf⟩ := tq_be hf
  refine tq_iastF (M := mX11_condition) (pc := 80) dX11_condition_80 ew17 ?_
  refine tq_aload_n (M := mX11_condition) (pc := 81) dX11_condition_81 rfl ?_
  obtain ⟨k18, ek18, hf⟩ := tq_be hf
  refine tq_getR (M := mX11_condition) (pc := 82) tk_c11 (by decide) dX11_condition_82 tk_RX11_74 rfl ek18 ?_
  refine tq_iload (M := mX11_condition) (pc := 85) dX11_condition_85 rfl ?_
  obtain ⟨x19, ex19, hf⟩ := tq_be hf
  refine tq_ialdF (M := mX11_condition) (pc := 87) dX11_condition_87 ex19 ?_
  refine tq_iret (M := mX11_condition) (pc := 88) dX11_condition_88 rfl ?_
  cases (Option.some.inj hf)
  exact hQ _ _ ⟨rfl, rfl⟩
abbrev mX11_place : tq_M := (RX11, cX11_place, 5, (some .int), false, [], none)
def f_X11_place (t : Nat) (a1 : Int32) (a2 : Int32) (a3 : Int32) (h : tq_H) : Option (Int32 × tq_H) :=
  (f_X11_in a2 (0 : Int32) (2 : Int32) h).bind fun v1 =>
  (if v1 = 0 then
    some (0 : Int32)
  else
    (f_X11_in a3 (0 : Int32) (99 : Int32) h).bind fun v2 =>
    if v2 = 0 then
      some (0 : Int32)
    else
      some (1 : Int32)).bind fun p3 =>
  (tq_is h t 11).bind fun _ =>
  (f_X11_isPath t a1 h).bind fun v4 =>
  (if v4 = 0 then
    some (1 : Int32)
  else
    if p3 = 0 then
      some (2 : Int32)
    else
      (tq_is h t 11).bind fun _ =>
      (f_X11_takesCondition t a1 h).bind fun v6 =>
      if v6 = 0 then
        some (3 : Int32)
      else
        some (0 : Int32)).bind fun p8 =>
  (tq_is h t 11).bind fun _ =>
  (f_X11_refused t p8 h).bind fun v9 =>
  if v9.1 = 0 then
    (tq_is v9.2 t 11).bind fun _ =>
    (f_X11_condition t a1 (0 : Int32) (-1 : Int32) a2 a3 v9.2).bind fun v11 =>
    some (v11.1, v11.2)
  else
    some ((0 : Int32), v9.2)
set_option maxHeartbeats 4000000 in
set_option maxRecDepth 20000 in
theorem w_X11_place {l : Launch} {d : Nat} (hd9 : 3 ≤ d) {t : Nat} {a1 : Int32} {a2 : Int32} {a3 : Int32} {h : tq_H} {o : Int32 × tq_H} {Q : tq_R → tq_H → Prop} (hf : f_X11_place t a1 a2 a3 h = some o) (hQ : ∀ r h9, r = .inl (some (.int o.1)) ∧ o.2 = h9 → Q r h9) : tq_C l yX11_place cX11_place 5 (some .int) d 0 0 [.ref t, .int a1, .int a2, .int a3] h Q := by
  refine tq_body (y := yX11_place) false (by decide +kernel) (fun z => by cases z) (Nat.le_of_ble_eq_true rfl) ?_
  show tq_W l mX11_place d 0 0 Q 0 [(0, .ref t), (1, .int a1), (2, .int a2), (3, .int a3)] [] h
  refine tq_iload_n (M := mX11_place) (pc := 0) dX11_place_0 rfl ?_
  refine tq_iconst (M := mX11_place) (pc := 1) dX11_place_1 tk_ki_0 ?_
  refine tq_iconst (M := mX11_place) (pc := 2) dX11_place_2 tk_ki_2 ?_
  obtain ⟨v1, ev1, hf⟩ := tq_be hf
  refine tq_calS (M := mX11_place) (pc := 3) (S := []) tk_y_X11_in tk_s_X11_in tk_RX11_169 dX11_place_3 [.int a2, .int (0 : Int32), .int (2 : Int32)] rfl (Nat.le_of_ble_eq_true rfl) (d1 := d - 1) (b1 := 0) (s1 := 0) (bc' := 0) (bs' := 0) (Q1 := fun r h9 => r = .inl (some (.int v1)) ∧ h = h9) (by omega) rfl rfl (w_X11_in (by omega) ev1 (fun _ _ q => q)) (fun E h9 q => nomatch (show (Sum.inr E : tq_R) = Sum.inl _ from q.1)) (fun r9 h9 q => ?_)
  obtain ⟨q1, rfl⟩ := q
  cases (show (Sum.inl r9 : tq_R) = Sum.inl (some (.int v1)) from q1)
  obtain ⟨p3, ep3, hf⟩ := tq_be hf
  have HJ6 : tq_W l mX11_place d 0 0 Q 24 [(0, .ref t), (1, .int a1), (2, .int a2), (3, .int a3)] [.int p3] h := by
    refine tq_istore (M := mX11_place) (pc := 24) dX11_place_24 (L2 := [(4, .int p3), (0, .ref t), (1, .int a1), (2, .int a2), (3, .int a3)]) (by decide) rfl ?_
    refine tq_aload_n (M := mX11_place) (pc := 26) dX11_place_26 rfl ?_
    refine tq_aload_n (M := mX11_place) (pc := 27) dX11_place_27 rfl ?_
    refine tq_iload_n (M := mX11_place) (pc := 28) dX11_place_28 rfl ?_
    obtain ⟨⟨⟩, eu5, hf⟩ := tq_be hf
    obtain ⟨fsu5, eu5⟩ := tq_is_s eu5
    obtain ⟨v4, ev4, hf⟩ := tq_be hf
    refine tq_calV (M := mX11_place) (pc := 29) (S := [.ref t]) tk_y_X11_isPath tk_v_X11_isPath tk_RX11_305 dX11_place_29 [.int a1] rfl (S0 := _) rfl eu5 rfl (Nat.le_of_ble_eq_true rfl) (d1 := d - 1) (b1 := 0) (s1 := 0) (bc' := 0) (bs' := 0) (Q1 := fun r h9 => r = .inl (some (.int v4)) ∧ h = h9) (by omega) rfl rfl (w_X11_isPath (by omega) ev4 (fun _ _ q => q)) (fun E h9 q => nomatch (show (Sum.inr E : tq_R) = Sum.inl _ from q.1)) (fun r9 h9 q => ?_)
    obtain ⟨q1, rfl⟩ := q
    cases (show (Sum.inl r9 : tq_R) = Sum.inl (some (.int v4)) from q1)
    obtain ⟨p8, ep8, hf⟩ := tq_be hf
    have HJ32 : tq_W l mX11_place d 0 0 Q 61 [(0, .ref t), (1, .int a1), (2, .int a2), (3, .int a3)] [.int p8, .ref t] h := by
      obtain ⟨⟨⟩, eu10, hf⟩ := tq_be hf
      obtain ⟨fsu10, eu10⟩ := tq_is_s eu10
      obtain ⟨v9, ev9, hf⟩ := tq_be hf
      refine tq_calV (M := mX11_place) (pc := 61) (S := []) tk_y_X11_refused tk_v_X11_refused tk_RX11_204 dX11_place_61 [.int p8] rfl (S0 := _) rfl eu10 rfl (Nat.le_of_ble_eq_true rfl) (d1 := d - 1) (b1 := 0) (s1 := 0) (bc' := 0) (bs' := 0) (Q1 := fun r h9 => r = .inl (some (.int v9.1)) ∧ v9.2 = h9) (by omega) rfl rfl (w_X11_refused (by omega) ev9 (fun _ _ q => q)) (fun E h9 q => nomatch (show (Sum.inr E : tq_R) = Sum.inl _ from q.1)) (fun r9 h9 q => ?_)
      obtain ⟨q1, rfl⟩ := q
      cases (show (Sum.inl r9 : tq_R) = Sum.inl (some (.int v9.1)) from q1)
      refine tq_if_eq (M := mX11_place) (pc := 64) (tgt := 69) dX11_place_64 (by decide) (fun cc => ?_) (fun cc => ?_)
      · have hf := tq_ifp hf cc
        refine tq_aload_n (M := mX11_place) (pc := 69) dX11_place_69 rfl ?_
        refine tq_iload_n (M := mX11_place) (pc := 70) dX11_place_70 rfl ?_
        refine tq_iconst (M := mX11_place) (pc := 71) dX11_place_71 tk_ki_0 ?_
        refine tq_iconst (M := mX11_place) (pc := 72) dX11_place_72 tk_ki_m1 ?_
        refine tq_iload_n (M := mX11_place) (pc := 73) dX11_place_73 rfl ?_
        refine tq_iload_n (M := mX11_place) (pc := 74) dX11_place_74 rfl ?_
        obtain ⟨⟨⟩, eu12, hf⟩ := tq_be hf
        obtain ⟨fsu12, eu12⟩ := tq_is_s eu12
        obtain ⟨v11, ev11, hf⟩ := tq_be hf
        refine tq_calV (M := mX11_place) (pc := 75) (S := []) tk_y_X11_condition tk_v_X11_condition tk_RX11_314 dX11_place_75 [.int a1, .int (0 : Int32), .int (-1 : Int32), .int a2, .int a3] rfl (S0 := _) rfl eu12 rfl (Nat.le_of_ble_eq_true rfl) (d1 := d - 1) (b1 := 0) (s1 := 0) (bc' := 0) (bs' := 0) (Q1 := fun r h9 => r = .inl (some (.int v11.1)) ∧ v11.2 = h9) (by omega) rfl rfl (w_X11_condition (by omega) ev11 (fun _ _ q => q)) (fun E h9 q => nomatch (show (Sum.inr E : tq_R) = Sum.inl _ from q.1)) (fun r9 h9 q => ?_)
        obtain ⟨q1, rfl⟩ := q
        cases (show (Sum.inl r9 : tq_R) = Sum.inl (some (.int v11.1)) from q1)
        refine tq_iret (M := mX11_place) (pc := 78) dX11_place_78 rfl ?_
        cases (Option.some.inj hf)
        exact hQ _ _ ⟨rfl, rfl⟩
      · have hf := tq_ifn hf cc
        refine tq_iconst (M := mX11_place) (pc := 67) dX11_place_67 tk_ki_0 ?_
        refine tq_iret (M := mX11_place) (pc := 68) dX11_place_68 rfl ?_
        cases (Option.some.inj hf)
        exact hQ _ _ ⟨rfl, rfl⟩
    refine tq_if_ne (M := mX11_place) (pc := 32) (tgt := 39) dX11_place_32 (by decide) (fun cc => ?_) (fun cc => ?_)
    · have hf := tq_ifn ep8 cc
      refine tq_iload (M := mX11_place) (pc := 39) dX11_place_39 rfl ?_
      refine tq_if_ne (M := mX11_place) (pc := 41) (tgt := 48) dX11_place_41 (by decide) (fun cc => ?_) (fun cc => ?_)
      · have hf := tq_ifn hf cc
        refine tq_aload_n (M := mX11_place) (pc := 48) dX11_place_48 rfl ?_
        refine tq_iload_n (M := mX11_place) (pc := 49) dX11_place_49 rfl ?_
        obtain ⟨⟨⟩, eu7, hf⟩ := tq_be hf
        obtain ⟨fsu7, eu7⟩ := tq_is_s eu7
        obtain ⟨v6, ev6, hf⟩ := tq_be hf
        refine tq_calV (M := mX11_place) (pc := 50) (S := [.ref t]) tk_y_X11_takesCondition tk_v_X11_takesCondition tk_RX11_311 dX11_place_50 [.int a1] rfl (S0 := _) rfl eu7 rfl (Nat.le_of_ble_eq_true rfl) (d1 := d - 1) (b1 := 0) (s1 := 0) (bc' := 0) (bs' := 0) (Q1 := fun r h9 => r = .inl (some (.int v6)) ∧ h = h9) (by omega) rfl rfl (w_X11_takesCondition (by omega) ev6 (fun _ _ q => q)) (fun E h9 q => nomatch (show (Sum.inr E : tq_R) = Sum.inl _ from q.1)) (fun r9 h9 q => ?_)
        obtain ⟨q1, rfl⟩ := q
        cases (show (Sum.inl r9 : tq_R) = Sum.inl (some (.int v6)) from q1)
        refine tq_if_eq (M := mX11_place) (pc := 53) (tgt := 60) dX11_place_53 (by decide) (fun cc => ?_) (fun cc => ?_)
        · have hf := tq_ifp hf cc
          refine tq_iconst (M := mX11_place) (pc := 60) dX11_place_60 tk_ki_3 ?_
          refine tq_pick (L2 := [(0, .ref t), (1, .int a1), (2, .int a2), (3, .int a3)]) [1, 2, 3, 4] rfl ?_
          cases (Option.some.inj hf)
          exact HJ32
        · have hf := tq_ifn hf cc
          refine tq_iconst (M := mX11_place) (pc := 56) dX11_place_56 tk_ki_0 ?_
          refine tq_goto (M := mX11_place) (pc := 57) (tgt := 61) dX11_place_57 (by decide) ?_
          refine tq_pick (L2 := [(0, .ref t), (1, .int a1), (2, .int a2), (3, .int a3)]) [1, 2, 3, 4] rfl ?_
          cases (Option.some.inj hf)
          exact HJ32
      · have hf := tq_ifp hf cc
        refine tq_iconst (M := mX11_place) (pc := 44) dX11_place_44 tk_ki_2 ?_
        refine tq_goto (M := mX11_place) (pc := 45) (tgt := 61) dX11_place_45 (by decide) ?_
        refine tq_pick (L2 := [(0, .ref t), (1, .int a1), (2, .int a2), (3, .int a3)]) [1, 2, 3, 4] rfl ?_
        cases (Option.some.inj hf)
        exact HJ32
    · have hf := tq_ifp ep8 cc
      refine tq_iconst (M := mX11_place) (pc := 35) dX11_place_35 tk_ki_1 ?_
      refine tq_goto (M := mX11_place) (pc := 36) (tgt := 61) dX11_place_36 (by decide) ?_
      refine tq_pick (L2 := [(0, .ref t), (1, .int a1), (2, .int a2), (3, .int a3)]) [1, 2, 3, 4] rfl ?_
      cases (Option.some.inj hf)
      exact HJ32
  refine tq_if_eq (M := mX11_place) (pc := 6) (tgt := 23) dX11_place_6 (by decide) (fun cc => ?_) (fun cc => ?_)
  · have hf := tq_ifp ep3 cc
    refine tq_iconst (M := mX11_place) (pc := 23) dX11_place_23 tk_ki_0 ?_
    cases (Option.some.inj hf)
    exact HJ6
  · have hf := tq_ifn ep3 cc
    refine tq_iload_n (M := mX11_place) (pc := 9) dX11_place_9 rfl ?_
    refine tq_iconst (M := mX11_place) (pc := 10) dX11_place_10 tk_ki_0 ?_
    refine tq_bipush (M := mX11_place) (pc := 11) dX11_place_11 tk_kb_99 ?_
    obtain ⟨v2, ev2, hf⟩ := tq_be hf
    refine tq_calS (M := mX11_place) (pc := 13) (S := []) tk_y_X11_in tk_s_X11_in tk_RX11_169 dX11_place_13 [.int a3, .int (0 : Int32), .int (99 : Int32)] rfl (Nat.le_of_ble_eq_true rfl) (d1 := d - 1) (b1 := 0) (s1 := 0) (bc' := 0) (bs' := 0) (Q1 := fun r h9 => r = .inl (some (.int v2)) ∧ h = h9) (by omega) rfl rfl (w_X11_in (by omega) ev2 (fun _ _ q => q)) (fun E h9 q => nomatch (show (Sum.inr E : tq_R) = Sum.inl _ from q.1)) (fun r9 h9 q => ?_)
    obtain ⟨q1, rfl⟩ := q
    cases (show (Sum.inl r9 : tq_R) = Sum.inl (some (.int v2)) from q1)
    refine tq_if_eq (M := mX11_place) (pc := 16) (tgt := 23) dX11_place_16 (by decide) (fun cc => ?_) (fun cc => ?_)
    · have hf := tq_ifp hf cc
      refine tq_iconst (M := mX11_place) (pc := 23) dX11_place_23 tk_ki_0 ?_
      cases (Option.some.inj hf)
      exact HJ6
    · have hf := tq_ifn hf cc
      refine tq_iconst (M := mX11_place) (pc := 19) dX11_place_19 tk_ki_1 ?_
      refine tq_goto (M := mX11_place) (pc := 20) (tgt := 24) dX11_place_20 (by decide) ?_
      cases (Option.some.inj hf)
      exact HJ6
abbrev mX11_last : tq_M := (RX11, cX11_last, 2, (some .int), false, [], none)
def f_X11_last (t : Nat) (a1 : Int32) (h : tq_H) : Option (Int32 × tq_H) :=
  (tq_is h t 11).bind fun _ =>
  (f_X11_isPath t a1 h).bind fun v1 =>
  (if v1 = 0 then
    some (1 : Int32)
  else
    (tq_is h t 11).bind fun _ =>
    (f_X11_takesCondition t a1 h).bind fun v3 =>
    if v3 = 0 then
      some (2 : Int32)
    else
      some (0 : Int32)).bind fun p5 =>
  (tq_is h t 11).bind fun _ =>
  (f_X11_refused t p5 h).bind fun v6 =>
  if v6.1 = 0 then
    (tq_is v6.2 t 11).bind fun _ =>
    (f_X11_condition t a1 (1 : Int32) (-1 : Int32) (0 : Int32) (0 : Int32) v6.2).bind fun v8 =>
    some (v8.1, v8.2)
  else
    some ((0 : Int32), v6.2)
set_option maxHeartbeats 4000000 in
set_option maxRecDepth 20000 in
theorem w_X11_last {l : Launch} {d : Nat} (hd9 : 3 ≤ d) {t : Nat} {a1 : Int32} {h : tq_H} {o : Int32 × tq_H} {Q : tq_R → tq_H → Prop} (hf : f_X11_last t a1 h = some o) (hQ : ∀ r h9, r = .inl (some (.int o.1)) ∧ o.2 = h9 → Q r h9) : tq_C l yX11_last cX11_last 2 (some .int) d 0 0 [.ref t, .int a1] h Q := by
  refine tq_body (y := yX11_last) false (by decide +kernel) (fun z => by cases z) (Nat.le_of_ble_eq_true rfl) ?_
  show tq_W l mX11_last d 0 0 Q 0 [(0, .ref t), (1, .int a1)] [] h
  refine tq_aload_n (M := mX11_last) (pc := 0) dX11_last_0 rfl ?_
  refine tq_aload_n (M := mX11_last) (pc := 1) dX11_last_1 rfl ?_
  refine tq_iload_n (M := mX11_last) (pc := 2) dX11_last_2 rfl ?_
  obtain ⟨⟨⟩, eu2, hf⟩ := tq_be hf
  obtain ⟨fsu2, eu2⟩ := tq_is_s eu2
  obtain ⟨v1, ev1, hf⟩ := tq_be hf
  refine tq_calV (M := mX11_last) (pc := 3) (S := [.ref t]) tk_y_X11_isPath tk_v_X11_isPath tk_RX11_305 dX11_last_3 [.int a1] rfl (S0 := _) rfl eu2 rfl (Nat.le_of_ble_eq_true rfl) (d1 := d - 1) (b1 := 0) (s1 := 0) (bc' := 0) (bs' := 0) (Q1 := fun r h9 => r = .inl (some (.int v1)) ∧ h = h9) (by omega) rfl rfl (w_X11_isPath (by omega) ev1 (fun _ _ q => q)) (fun E h9 q => nomatch (show (Sum.inr E : tq_R) = Sum.inl _ from q.1)) (fun r9 h9 q => ?_)
  obtain ⟨q1, rfl⟩ := q
  cases (show (Sum.inl r9 : tq_R) = Sum.inl (some (.int v1)) from q1)
  obtain ⟨p5, ep5, hf⟩ := tq_be hf
  have HJ6 : tq_W l mX11_last d 0 0 Q 26 [(0, .ref t), (1, .int a1)] [.int p5, .ref t] h := by
    obtain ⟨⟨⟩, eu7, hf⟩ := tq_be hf
    obtain ⟨fsu7, eu7⟩ := tq_is_s eu7
    obtain ⟨v6, ev6, hf⟩ := tq_be hf
    refine tq_calV (M := mX11_last) (pc := 26) (S := []) tk_y_X11_refused tk_v_X11_refused tk_RX11_204 dX11_last_26 [.int p5] rfl (S0 := _) rfl eu7 rfl (Nat.le_of_ble_eq_true rfl) (d1 := d - 1) (b1 := 0) (s1 := 0) (bc' := 0) (bs' := 0) (Q1 := fun r h9 => r = .inl (some (.int v6.1)) ∧ v6.2 = h9) (by omega) rfl rfl (w_X11_refused (by omega) ev6 (fun _ _ q => q)) (fun E h9 q => nomatch (show (Sum.inr E : tq_R) = Sum.inl _ from q.1)) (fun r9 h9 q => ?_)
    obtain ⟨q1, rfl⟩ := q
    cases (show (Sum.inl r9 : tq_R) = Sum.inl (some (.int v6.1)) from q1)
    refine tq_if_eq (M := mX11_last) (pc := 29) (tgt := 34) dX11_last_29 (by decide) (fun cc => ?_) (fun cc => ?_)
    · have hf := tq_ifp hf cc
      refine tq_aload_n (M := mX11_last) (pc := 34) dX11_last_34 rfl ?_
      refine tq_iload_n (M := mX11_last) (pc := 35) dX11_last_35 rfl ?_
      refine tq_iconst (M := mX11_last) (pc := 36) dX11_last_36 tk_ki_1 ?_
      refine tq_iconst (M := mX11_last) (pc := 37) dX11_last_37 tk_ki_m1 ?_
      refine tq_iconst (M := mX11_last) (pc := 38) dX11_last_38 tk_ki_0 ?_
      refine tq_iconst (M := mX11_last) (pc := 39) dX11_last_39 tk_ki_0 ?_
      obtain ⟨⟨⟩, eu9, hf⟩ := tq_be hf
      obtain ⟨fsu9, eu9⟩ := tq_is_s eu9
      obtain ⟨v8, ev8, hf⟩ := tq_be hf
      refine tq_calV (M := mX11_last) (pc := 40) (S := []) tk_y_X11_condition tk_v_X11_condition tk_RX11_314 dX11_last_40 [.int a1, .int (1 : Int32), .int (-1 : Int32), .int (0 : Int32), .int (0 : Int32)] rfl (S0 := _) rfl eu9 rfl (Nat.le_of_ble_eq_true rfl) (d1 := d - 1) (b1 := 0) (s1 := 0) (bc' := 0) (bs' := 0) (Q1 := fun r h9 => r = .inl (some (.int v8.1)) ∧ v8.2 = h9) (by omega) rfl rfl (w_X11_condition (by omega) ev8 (fun _ _ q => q)) (fun E h9 q => nomatch (show (Sum.inr E : tq_R) = Sum.inl _ from q.1)) (fun r9 h9 q => ?_)
      obtain ⟨q1, rfl⟩ := q
      cases (show (Sum.inl r9 : tq_R) = Sum.inl (some (.int v8.1)) from q1)
      refine tq_iret (M := mX11_last) (pc := 43) dX11_last_43 rfl ?_
      cases (Option.some.inj hf)
      exact hQ _ _ ⟨rfl, rfl⟩
    · have hf := tq_ifn hf cc
      refine tq_iconst (M := mX11_last) (pc := 32) dX11_last_32 tk_ki_0 ?_
      refine tq_iret (M := mX11_last) (pc := 33) dX11_last_33 rfl ?_
      cases (Option.some.inj hf)
      exact hQ _ _ ⟨rfl, rfl⟩
  refine tq_if_ne (M := mX11_last) (pc := 6) (tgt := 13) dX11_last_6 (by decide) (fun cc => ?_) (fun cc => ?_)
  · have hf := tq_ifn ep5 cc
    refine tq_aload_n (M := mX11_last) (pc := 13) dX11_last_13 rfl ?_
    refine tq_iload_n (M := mX11_last) (pc := 14) dX11_last_14 rfl ?_
    obtain ⟨⟨⟩, eu4, hf⟩ := tq_be hf
    obtain ⟨fsu4, eu4⟩ := tq_is_s eu4
    obtain ⟨v3, ev3, hf⟩ := tq_be hf
    refine tq_calV (M := mX11_last) (pc := 15) (S := [.ref t]) tk_y_X11_takesCondition tk_v_X11_takesCondition tk_RX11_311 dX11_last_15 [.int a1] rfl (S0 := _) rfl eu4 rfl (Nat.le_of_ble_eq_true rfl) (d1 := d - 1) (b1 := 0) (s1 := 0) (bc' := 0) (bs' := 0) (Q1 := fun r h9 => r = .inl (some (.int v3)) ∧ h = h9) (by omega) rfl rfl (w_X11_takesCondition (by omega) ev3 (fun _ _ q => q)) (fun E h9 q => nomatch (show (Sum.inr E : tq_R) = Sum.inl _ from q.1)) (fun r9 h9 q => ?_)
    obtain ⟨q1, rfl⟩ := q
    cases (show (Sum.inl r9 : tq_R) = Sum.inl (some (.int v3)) from q1)
    refine tq_if_eq (M := mX11_last) (pc := 18) (tgt := 25) dX11_last_18 (by decide) (fun cc => ?_) (fun cc => ?_)
    · have hf := tq_ifp hf cc
      refine tq_iconst (M := mX11_last) (pc := 25) dX11_last_25 tk_ki_2 ?_
      cases (Option.some.inj hf)
      exact HJ6
    · have hf := tq_ifn hf cc
      refine tq_iconst (M := mX11_last) (pc := 21) dX11_last_21 tk_ki_0 ?_
      refine tq_goto (M := mX11_last) (pc := 22) (tgt := 26) dX11_last_22 (by decide) ?_
      cases (Option.some.inj hf)
      exact HJ6
  · have hf := tq_ifp ep5 cc
    refine tq_iconst (M := mX11_last) (pc := 9) dX11_last_9 tk_ki_1 ?_
    refine tq_goto (M := mX11_last) (pc := 10) (tgt := 26) dX11_last_10 (by decide) ?_
    cases (Option.some.inj hf)
    exact HJ6
abbrev mX11_has : tq_M := (RX11, cX11_has, 5, (some .int), false, [], none)
def f_X11_has (t : Nat) (a1 : Int32) (a2 : Int32) (a3 : Int32) (h : tq_H) : Option (Int32 × tq_H) :=
  (tq_is h t 11).bind fun _ =>
  (f_X11_isPath t a1 h).bind fun v1 =>
  (if v1 = 0 then
    some (0 : Int32)
  else
    (f_X11_in a2 (0 : Int32) (a1 - (1 : Int32)) h).bind fun v3 =>
    if v3 = 0 then
      some (0 : Int32)
    else
      some (1 : Int32)).bind fun p4 =>
  (if p4 = 0 then
    some (1 : Int32)
  else
    (tq_is h t 11).bind fun _ =>
    (f_X11_takesCondition t a1 h).bind fun v5 =>
    if v5 = 0 then
      some (2 : Int32)
    else
      some (0 : Int32)).bind fun p7 =>
  (tq_is h t 11).bind fun _ =>
  (f_X11_refused t p7 h).bind fun v8 =>
  if v8.1 = 0 then
    tq_let (if a3 = 0 then (3 : Int32) else (2 : Int32)) fun p10 =>
    (tq_is v8.2 t 11).bind fun _ =>
    (f_X11_condition t a1 p10 a2 (0 : Int32) (0 : Int32) v8.2).bind fun v11 =>
    some (v11.1, v11.2)
  else
    some ((0 : Int32), v8.2)
set_option maxHeartbeats 4000000 in
set_option maxRecDepth 20000 in
theorem w_X11_has {l : Launch} {d : Nat} (hd9 : 3 ≤ d) {t : Nat} {a1 : Int32} {a2 : Int32} {a3 : Int32} {h : tq_H} {o : Int32 × tq_H} {Q : tq_R → tq_H → Prop} (hf : f_X11_has t a1 a2 a3 h = some o) (hQ : ∀ r h9, r = .inl (some (.int o.1)) ∧ o.2 = h9 → Q r h9) : tq_C l yX11_has cX11_has 5 (some .int) d 0 0 [.ref t, .int a1, .int a2, .int a3] h Q := by
  refine tq_body (y := yX11_has) false (by decide +kernel) (fun z => by cases z) (Nat.le_of_ble_eq_true rfl) ?_
  show tq_W l mX11_has d 0 0 Q 0 [(0, .ref t), (1, .int a1), (2, .int a2), (3, .int a3)] [] h
  refine tq_aload_n (M := mX11_has) (pc := 0) dX11_has_0 rfl ?_
  refine tq_iload_n (M := mX11_has) (pc := 1) dX11_has_1 rfl ?_
  obtain ⟨⟨⟩, eu2, hf⟩ := tq_be hf
  obtain ⟨fsu2, eu2⟩ := tq_is_s eu2
  obtain ⟨v1, ev1, hf⟩ := tq_be hf
  refine tq_calV (M := mX11_has) (pc := 2) (S := []) tk_y_X11_isPath tk_v_X11_isPath tk_RX11_305 dX11_has_2 [.int a1] rfl (S0 := _) rfl eu2 rfl (Nat.le_of_ble_eq_true rfl) (d1 := d - 1) (b1 := 0) (s1 := 0) (bc' := 0) (bs' := 0) (Q1 := fun r h9 => r = .inl (some (.int v1)) ∧ h = h9) (by omega) rfl rfl (w_X11_isPath (by omega) ev1 (fun _ _ q => q)) (fun E h9 q => nomatch (show (Sum.inr E : tq_R) = Sum.inl _ from q.1)) (fun r9 h9 q => ?_)
  obtain ⟨q1, rfl⟩ := q
  cases (show (Sum.inl r9 : tq_R) = Sum.inl (some (.int v1)) from q1)
  obtain ⟨p4, ep4, hf⟩ := tq_be hf
  have HJ5 : tq_W l mX11_has d 0 0 Q 24 [(0, .ref t), (1, .int a1), (2, .int a2), (3, .int a3)] [.int p4] h := by
    refine tq_istore (M := mX11_has) (pc := 24) dX11_has_24 (L2 := [(4, .int p4), (0, .ref t), (1, .int a1), (2, .int a2), (3, .int a3)]) (by decide) rfl ?_
    refine tq_aload_n (M := mX11_has) (pc := 26) dX11_has_26 rfl ?_
    refine tq_iload (M := mX11_has) (pc := 27) dX11_has_27 rfl ?_
    obtain ⟨p7, ep7, hf⟩ := tq_be hf
    have HJ29 : tq_W l mX11_has d 0 0 Q 49 [(0, .ref t), (1, .int a1), (2, .int a2), (3, .int a3)] [.int p7, .ref t] h := by
      obtain ⟨⟨⟩, eu9, hf⟩ := tq_be hf
      obtain ⟨fsu9, eu9⟩ := tq_is_s eu9
      obtain ⟨v8, ev8, hf⟩ := tq_be hf
      refine tq_calV (M := mX11_has) (pc := 49) (S := []) tk_y_X11_refused tk_v_X11_refused tk_RX11_204 dX11_has_49 [.int p7] rfl (S0 := _) rfl eu9 rfl (Nat.le_of_ble_eq_true rfl) (d1 := d - 1) (b1 := 0) (s1 := 0) (bc' := 0) (bs' := 0) (Q1 := fun r h9 => r = .inl (some (.int v8.1)) ∧ v8.2 = h9) (by omega) rfl rfl (w_X11_refused (by omega) ev8 (fun _ _ q => q)) (fun E h9 q => nomatch (show (Sum.inr E : tq_R) = Sum.inl _ from q.1)) (fun r9 h9 q => ?_)
      obtain ⟨q1, rfl⟩ := q
      cases (show (Sum.inl r9 : tq_R) = Sum.inl (some (.int v8.1)) from q1)
      refine tq_if_eq (M := mX11_has) (pc := 52) (tgt := 57) dX11_has_52 (by decide) (fun cc => ?_) (fun cc => ?_)
      · have hf := tq_ifp hf cc
        refine tq_aload_n (M := mX11_has) (pc := 57) dX11_has_57 rfl ?_
        refine tq_iload_n (M := mX11_has) (pc := 58) dX11_has_58 rfl ?_
        refine tq_iload_n (M := mX11_has) (pc := 59) dX11_has_59 rfl ?_
        obtain ⟨p10, ep10, hf⟩ := tq_le hf
        have HJ60 : tq_W l mX11_has d 0 0 Q 68 [(2, .int a2)] [.int p10, .int a1, .ref t] v8.2 := by
          refine tq_iload_n (M := mX11_has) (pc := 68) dX11_has_68 rfl ?_
          refine tq_iconst (M := mX11_has) (pc := 69) dX11_has_69 tk_ki_0 ?_
          refine tq_iconst (M := mX11_has) (pc := 70) dX11_has_70 tk_ki_0 ?_
          obtain ⟨⟨⟩, eu12, hf⟩ := tq_be hf
          obtain ⟨fsu12, eu12⟩ := tq_is_s eu12
          obtain ⟨v11, ev11, hf⟩ := tq_be hf
          refine tq_calV (M := mX11_has) (pc := 71) (S := []) tk_y_X11_condition tk_v_X11_condition tk_RX11_314 dX11_has_71 [.int a1, .int p10, .int a2, .int (0 : Int32), .int (0 : Int32)] rfl (S0 := _) rfl eu12 rfl (Nat.le_of_ble_eq_true rfl) (d1 := d - 1) (b1 := 0) (s1 := 0) (bc' := 0) (bs' := 0) (Q1 := fun r h9 => r = .inl (some (.int v11.1)) ∧ v11.2 = h9) (by omega) rfl rfl (w_X11_condition (by omega) ev11 (fun _ _ q => q)) (fun E h9 q => nomatch (show (Sum.inr E : tq_R) = Sum.inl _ from q.1)) (fun r9 h9 q => ?_)
          obtain ⟨q1, rfl⟩ := q
          cases (show (Sum.inl r9 : tq_R) = Sum.inl (some (.int v11.1)) from q1)
          refine tq_iret (M := mX11_has) (pc := 74) dX11_has_74 rfl ?_
          cases (Option.some.inj hf)
          exact hQ _ _ ⟨rfl, rfl⟩
        refine tq_if_eq (M := mX11_has) (pc := 60) (tgt := 67) dX11_has_60 (by decide) (fun cc => ?_) (fun cc => ?_)
        · have hf := tq_ifp ep10.symm cc
          refine tq_iconst (M := mX11_has) (pc := 67) dX11_has_67 tk_ki_3 ?_
          refine tq_pick (L2 := [(2, .int a2)]) [2] rfl ?_
          cases hf
          exact HJ60
        · have hf := tq_ifn ep10.symm cc
          refine tq_iconst (M := mX11_has) (pc := 63) dX11_has_63 tk_ki_2 ?_
          refine tq_goto (M := mX11_has) (pc := 64) (tgt := 68) dX11_has_64 (by decide) ?_
          refine tq_pick (L2 := [(2, .int a2)]) [2] rfl ?_
          cases hf
          exact HJ60
      · have hf := tq_ifn hf cc
        refine tq_iconst (M := mX11_has) (pc := 55) dX11_has_55 tk_ki_0 ?_
        refine tq_iret (M := mX11_has) (pc := 56) dX11_has_56 rfl ?_
        cases (Option.some.inj hf)
        exact hQ _ _ ⟨rfl, rfl⟩
    refine tq_if_ne (M := mX11_has) (pc := 29) (tgt := 36) dX11_has_29 (by decide) (fun cc => ?_) (fun cc => ?_)
    · have hf := tq_ifn ep7 cc
      refine tq_aload_n (M := mX11_has) (pc := 36) dX11_has_36 rfl ?_
      refine tq_iload_n (M := mX11_has) (pc := 37) dX11_has_37 rfl ?_
      obtain ⟨⟨⟩, eu6, hf⟩ := tq_be hf
      obtain ⟨fsu6, eu6⟩ := tq_is_s eu6
      obtain ⟨v5, ev5, hf⟩ := tq_be hf
      refine tq_calV (M := mX11_has) (pc := 38) (S := [.ref t]) tk_y_X11_takesCondition tk_v_X11_takesCondition tk_RX11_311 dX11_has_38 [.int a1] rfl (S0 := _) rfl eu6 rfl (Nat.le_of_ble_eq_true rfl) (d1 := d - 1) (b1 := 0) (s1 := 0) (bc' := 0) (bs' := 0) (Q1 := fun r h9 => r = .inl (some (.int v5)) ∧ h = h9) (by omega) rfl rfl (w_X11_takesCondition (by omega) ev5 (fun _ _ q => q)) (fun E h9 q => nomatch (show (Sum.inr E : tq_R) = Sum.inl _ from q.1)) (fun r9 h9 q => ?_)
      obtain ⟨q1, rfl⟩ := q
      cases (show (Sum.inl r9 : tq_R) = Sum.inl (some (.int v5)) from q1)
      refine tq_if_eq (M := mX11_has) (pc := 41) (tgt := 48) dX11_has_41 (by decide) (fun cc => ?_) (fun cc => ?_)
      · have hf := tq_ifp hf cc
        refine tq_iconst (M := mX11_has) (pc := 48) dX11_has_48 tk_ki_2 ?_
        refine tq_pick (L2 := [(0, .ref t), (1, .int a1), (2, .int a2), (3, .int a3)]) [1, 2, 3, 4] rfl ?_
        cases (Option.some.inj hf)
        exact HJ29
      · have hf := tq_ifn hf cc
        refine tq_iconst (M := mX11_has) (pc := 44) dX11_has_44 tk_ki_0 ?_
        refine tq_goto (M := mX11_has) (pc := 45) (tgt := 49) dX11_has_45 (by decide) ?_
        refine tq_pick (L2 := [(0, .ref t), (1, .int a1), (2, .int a2), (3, .int a3)]) [1, 2, 3, 4] rfl ?_
        cases (Option.some.inj hf)
        exact HJ29
    · have hf := tq_ifp ep7 cc
      refine tq_iconst (M := mX11_has) (pc := 32) dX11_has_32 tk_ki_1 ?_
      refine tq_goto (M := mX11_has) (pc := 33) (tgt := 49) dX11_has_33 (by decide) ?_
      refine tq_pick (L2 := [(0, .ref t), (1, .int a1), (2, .int a2), (3, .int a3)]) [1, 2, 3, 4] rfl ?_
      cases (Option.some.inj hf)
      exact HJ29
  refine tq_if_eq (M := mX11_has) (pc := 5) (tgt := 23) dX11_has_5 (by decide) (fun cc => ?_) (fun cc => ?_)
  · have hf := tq_ifp ep4 cc
    refine tq_iconst (M := mX11_has) (pc := 23) dX11_has_23 tk_ki_0 ?_
    cases (Option.some.inj hf)
    exact HJ5
  · have hf := tq_ifn ep4 cc
    refine tq_iload_n (M := mX11_has) (pc := 8) dX11_has_8 rfl ?_
    refine tq_iconst (M := mX11_has) (pc := 9) dX11_has_9 tk_ki_0 ?_
    refine tq_iload_n (M := mX11_has) (pc := 10) dX11_has_10 rfl ?_
    refine tq_iconst (M := mX11_has) (pc := 11) dX11_has_11 tk_ki_1 ?_
    refine tq_isub (M := mX11_has) (pc := 12) dX11_has_12 ?_
    obtain ⟨v3, ev3, hf⟩ := tq_be hf
    refine tq_calS (M := mX11_has) (pc := 13) (S := []) tk_y_X11_in tk_s_X11_in tk_RX11_169 dX11_has_13 [.int a2, .int (0 : Int32), .int ((a1 - (1 : Int32)))] rfl (Nat.le_of_ble_eq_true rfl) (d1 := d - 1) (b1 := 0) (s1 := 0) (bc' := 0) (bs' := 0) (Q1 := fun r h9 => r = .inl (some (.int v3)) ∧ h = h9) (by omega) rfl rfl (w_X11_in (by omega) ev3 (fun _ _ q => q)) (fun E h9 q => nomatch (show (Sum.inr E : tq_R) = Sum.inl _ from q.1)) (fun r9 h9 q => ?_)
    obtain ⟨q1, rfl⟩ := q
    cases (show (Sum.inl r9 : tq_R) = Sum.inl (some (.int v3)) from q1)
    refine tq_if_eq (M := mX11_has) (pc := 16) (tgt := 23) dX11_has_16 (by decide) (fun cc => ?_) (fun cc => ?_)
    · have hf := tq_ifp hf cc
      refine tq_iconst (M := mX11_has) (pc := 23) dX11_has_23 tk_ki_0 ?_
      cases (Option.some.inj hf)
      exact HJ5
    · have hf := tq_ifn hf cc
      refine tq_iconst (M := mX11_has) (pc := 19) dX11_has_19 tk_ki_1 ?_
      refine tq_goto (M := mX11_has) (pc := 20) (tgt := 24) dX11_has_20 (by decide) ?_
      cases (Option.some.inj hf)
      exact HJ5
abbrev mX11_worth : tq_M := (RX11, cX11_worth, 7, (some .int), false, [], none)
def f_X11_worth (t : Nat) (a1 : Int32) (a2 : Int32) (a3 : Int32) (a4 : Int32) (h : tq_H) : Option (Int32 × tq_H) :=
  (tq_is h t 11).bind fun _ =>
  (f_X11_isPath t a1 h).bind fun v1 =>
  (if v1 = 0 then
    some (0 : Int32)
  else
    (f_X11_in a2 (0 : Int32) (a1 - (1 : Int32)) h).bind fun v3 =>
    if v3 = 0 then
      some (0 : Int32)
    else
      some (1 : Int32)).bind fun p4 =>
  (f_X11_in a3 (0 : Int32) (2 : Int32) h).bind fun v5 =>
  (if v5 = 0 then
    some (0 : Int32)
  else
    (f_X11_in a4 (0 : Int32) (999 : Int32) h).bind fun v6 =>
    if v6 = 0 then
      some (0 : Int32)
    else
      some (1 : Int32)).bind fun p7 =>
  (if p4 = 0 then
    some (1 : Int32)
  else
    if p7 = 0 then
      some (2 : Int32)
    else
      (tq_is h t 11).bind fun _ =>
      (f_X11_takesCondition t a1 h).bind fun v8 =>
      if v8 = 0 then
        some (3 : Int32)
      else
        some (0 : Int32)).bind fun p10 =>
  (tq_is h t 11).bind fun _ =>
  (f_X11_refused t p10 h).bind fun v11 =>
  if v11.1 = 0 then
    (tq_is v11.2 t 11).bind fun _ =>
    (f_X11_condition t a1 (4 : Int32) a2 a3 a4 v11.2).bind fun v13 =>
    some (v13.1, v13.2)
  else
    some ((0 : Int32), v11.2)
set_option maxHeartbeats 4000000 in
set_option maxRecDepth 20000 in
theorem w_X11_worth {l : Launch} {d : Nat} (hd9 : 3 ≤ d) {t : Nat} {a1 : Int32} {a2 : Int32} {a3 : Int32} {a4 : Int32} {h : tq_H} {o : Int32 × tq_H} {Q : tq_R → tq_H → Prop} (hf : f_X11_worth t a1 a2 a3 a4 h = some o) (hQ : ∀ r h9, r = .inl (some (.int o.1)) ∧ o.2 = h9 → Q r h9) : tq_C l yX11_worth cX11_worth 7 (some .int) d 0 0 [.ref t, .int a1, .int a2, .int a3, .int a4] h Q := by
  refine tq_body (y := yX11_worth) false (by decide +kernel) (fun z => by cases z) (Nat.le_of_ble_eq_true rfl) ?_
  show tq_W l mX11_worth d 0 0 Q 0 [(0, .ref t), (1, .int a1), (2, .int a2), (3, .int a3), (4, .int a4)] [] h
  refine tq_aload_n (M := mX11_worth) (pc := 0) dX11_worth_0 rfl ?_
  refine tq_iload_n (M := mX11_worth) (pc := 1) dX11_worth_1 rfl ?_
  obtain ⟨⟨⟩, eu2, hf⟩ := tq_be hf
  obtain ⟨fsu2, eu2⟩ := tq_is_s eu2
  obtain ⟨v1, ev1, hf⟩ := tq_be hf
  refine tq_calV (M := mX11_worth) (pc := 2) (S := []) tk_y_X11_isPath tk_v_X11_isPath tk_RX11_305 dX11_worth_2 [.int a1] rfl (S0 := _) rfl eu2 rfl (Nat.le_of_ble_eq_true rfl) (d1 := d - 1) (b1 := 0) (s1 := 0) (bc' := 0) (bs' := 0) (Q1 := fun r h9 => r = .inl (some (.int v1)) ∧ h = h9) (by omega) rfl rfl (w_X11_isPath (by omega) ev1 (fun _ _ q => q)) (fun E h9 q => nomatch (show (Sum.inr E : tq_R) = Sum.inl _ from q.1)) (fun r9 h9 q => ?_)
  obtain ⟨q1, rfl⟩ := q
  cases (show (Sum.inl r9 : tq_R) = Sum.inl (some (.int v1)) from q1)
  obtain ⟨p4, ep4, hf⟩ := tq_be hf
  have HJ5 : tq_W l mX11_worth d 0 0 Q 24 [(0, .ref t), (1, .int a1), (2, .int a2), (3, .int a3), (4, .int a4)] [.int p4] h := by
    refine tq_istore (M := mX11_worth) (pc := 24) dX11_worth_24 (L2 := [(5, .int p4), (0, .ref t), (1, .int a1), (2, .int a2), (3, .int a3), (4, .int a4)]) (by decide) rfl ?_
    refine tq_iload_n (M := mX11_worth) (pc := 26) dX11_worth_26 rfl ?_
    refine tq_iconst (M := mX11_worth) (pc := 27) dX11_worth_27 tk_ki_0 ?_
    refine tq_iconst (M := mX11_worth) (pc := 28) dX11_worth_28 tk_ki_2 ?_
    obtain ⟨v5, ev5, hf⟩ := tq_be hf
    refine tq_calS (M := mX11_worth) (pc := 29) (S := []) tk_y_X11_in tk_s_X11_in tk_RX11_169 dX11_worth_29 [.int a3, .int (0 : Int32), .int (2 : Int32)] rfl (Nat.le_of_ble_eq_true rfl) (d1 := d - 1) (b1 := 0) (s1 := 0) (bc' := 0) (bs' := 0) (Q1 := fun r h9 => r = .inl (some (.int v5)) ∧ h = h9) (by omega) rfl rfl (w_X11_in (by omega) ev5 (fun _ _ q => q)) (fun E h9 q => nomatch (show (Sum.inr E : tq_R) = Sum.inl _ from q.1)) (fun r9 h9 q => ?_)
    obtain ⟨q1, rfl⟩ := q
    cases (show (Sum.inl r9 : tq_R) = Sum.inl (some (.int v5)) from q1)
    obtain ⟨p7, ep7, hf⟩ := tq_be hf
    have HJ32 : tq_W l mX11_worth d 0 0 Q 52 [(0, .ref t), (1, .int a1), (2, .int a2), (3, .int a3), (4, .int a4), (5, .int p4)] [.int p7] h := by
      refine tq_istore (M := mX11_worth) (pc := 52) dX11_worth_52 (L2 := [(6, .int p7), (0, .ref t), (1, .int a1), (2, .int a2), (3, .int a3), (4, .int a4), (5, .int p4)]) (by decide) rfl ?_
      refine tq_aload_n (M := mX11_worth) (pc := 54) dX11_worth_54 rfl ?_
      refine tq_iload (M := mX11_worth) (pc := 55) dX11_worth_55 rfl ?_
      obtain ⟨p10, ep10, hf⟩ := tq_be hf
      have HJ57 : tq_W l mX11_worth d 0 0 Q 86 [(0, .ref t), (1, .int a1), (2, .int a2), (3, .int a3), (4, .int a4)] [.int p10, .ref t] h := by
        obtain ⟨⟨⟩, eu12, hf⟩ := tq_be hf
        obtain ⟨fsu12, eu12⟩ := tq_is_s eu12
        obtain ⟨v11, ev11, hf⟩ := tq_be hf
        refine tq_calV (M := mX11_worth) (pc := 86) (S := []) tk_y_X11_refused tk_v_X11_refused tk_RX11_204 dX11_worth_86 [.int p10] rfl (S0 := _) rfl eu12 rfl (Nat.le_of_ble_eq_true rfl) (d1 := d - 1) (b1 := 0) (s1 := 0) (bc' := 0) (bs' := 0) (Q1 := fun r h9 => r = .inl (some (.int v11.1)) ∧ v11.2 = h9) (by omega) rfl rfl (w_X11_refused (by omega) ev11 (fun _ _ q => q)) (fun E h9 q => nomatch (show (Sum.inr E : tq_R) = Sum.inl _ from q.1)) (fun r9 h9 q => ?_)
        obtain ⟨q1, rfl⟩ := q
        cases (show (Sum.inl r9 : tq_R) = Sum.inl (some (.int v11.1)) from q1)
        refine tq_if_eq (M := mX11_worth) (pc := 89) (tgt := 94) dX11_worth_89 (by decide) (fun cc => ?_) (fun cc => ?_)
        · have hf := tq_ifp hf cc
          refine tq_aload_n (M := mX11_worth) (pc := 94) dX11_worth_94 rfl ?_
          refine tq_iload_n (M := mX11_worth) (pc := 95) dX11_worth_95 rfl ?_
          refine tq_iconst (M := mX11_worth) (pc := 96) dX11_worth_96 tk_ki_4 ?_
          refine tq_iload_n (M := mX11_worth) (pc := 97) dX11_worth_97 rfl ?_
          refine tq_iload_n (M := mX11_worth) (pc := 98) dX11_worth_98 rfl ?_
          refine tq_iload (M := mX11_worth) (pc := 99) dX11_worth_99 rfl ?_
          obtain ⟨⟨⟩, eu14, hf⟩ := tq_be hf
          obtain ⟨fsu14, eu14⟩ := tq_is_s eu14
          obtain ⟨v13, ev13, hf⟩ := tq_be hf
          refine tq_calV (M := mX11_worth) (pc := 101) (S := []) tk_y_X11_condition tk_v_X11_condition tk_RX11_314 dX11_worth_101 [.int a1, .int (4 : Int32), .int a2, .int a3, .int a4] rfl (S0 := _) rfl eu14 rfl (Nat.le_of_ble_eq_true rfl) (d1 := d - 1) (b1 := 0) (s1 := 0) (bc' := 0) (bs' := 0) (Q1 := fun r h9 => r = .inl (some (.int v13.1)) ∧ v13.2 = h9) (by omega) rfl rfl (w_X11_condition (by omega) ev13 (fun _ _ q => q)) (fun E h9 q => nomatch (show (Sum.inr E : tq_R) = Sum.inl _ from q.1)) (fun r9 h9 q => ?_)
          obtain ⟨q1, rfl⟩ := q
          cases (show (Sum.inl r9 : tq_R) = Sum.inl (some (.int v13.1)) from q1)
          refine tq_iret (M := mX11_worth) (pc := 104) dX11_worth_104 rfl ?_
          cases (Option.some.inj hf)
          exact hQ _ _ ⟨rfl, rfl⟩
        · have hf := tq_ifn hf cc
          refine tq_iconst (M := mX11_worth) (pc := 92) dX11_worth_92 tk_ki_0 ?_
          refine tq_iret (M := mX11_worth) (pc := 93) dX11_worth_93 rfl ?_
          cases (Option.some.inj hf)
          exact hQ _ _ ⟨rfl, rfl⟩
      refine tq_if_ne (M := mX11_worth) (pc := 57) (tgt := 64) dX11_worth_57 (by decide) (fun cc => ?_) (fun cc => ?_)
      · have hf := tq_ifn ep10 cc
        refine tq_iload (M := mX11_worth) (pc := 64) dX11_worth_64 rfl ?_
        refine tq_if_ne (M := mX11_worth) (pc := 66) (tgt := 73) dX11_worth_66 (by decide) (fun cc => ?_) (fun cc => ?_)
        · have hf := tq_ifn hf cc
          refine tq_aload_n (M := mX11_worth) (pc := 73) dX11_worth_73 rfl ?_
          refine tq_iload_n (M := mX11_worth) (pc := 74) dX11_worth_74 rfl ?_
          obtain ⟨⟨⟩, eu9, hf⟩ := tq_be hf
          obtain ⟨fsu9, eu9⟩ := tq_is_s eu9
          obtain ⟨v8, ev8, hf⟩ := tq_be hf
          refine tq_calV (M := mX11_worth) (pc := 75) (S := [.ref t]) tk_y_X11_takesCondition tk_v_X11_takesCondition tk_RX11_311 dX11_worth_75 [.int a1] rfl (S0 := _) rfl eu9 rfl (Nat.le_of_ble_eq_true rfl) (d1 := d - 1) (b1 := 0) (s1 := 0) (bc' := 0) (bs' := 0) (Q1 := fun r h9 => r = .inl (some (.int v8)) ∧ h = h9) (by omega) rfl rfl (w_X11_takesCondition (by omega) ev8 (fun _ _ q => q)) (fun E h9 q => nomatch (show (Sum.inr E : tq_R) = Sum.inl _ from q.1)) (fun r9 h9 q => ?_)
          obtain ⟨q1, rfl⟩ := q
          cases (show (Sum.inl r9 : tq_R) = Sum.inl (some (.int v8)) from q1)
          refine tq_if_eq (M := mX11_worth) (pc := 78) (tgt := 85) dX11_worth_78 (by decide) (fun cc => ?_) (fun cc => ?_)
          · have hf := tq_ifp hf cc
            refine tq_iconst (M := mX11_worth) (pc := 85) dX11_worth_85 tk_ki_3 ?_
            refine tq_pick (L2 := [(0, .ref t), (1, .int a1), (2, .int a2), (3, .int a3), (4, .int a4)]) [1, 2, 3, 4, 5] rfl ?_
            cases (Option.some.inj hf)
            exact HJ57
          · have hf := tq_ifn hf cc
            refine tq_iconst (M := mX11_worth) (pc := 81) dX11_worth_81 tk_ki_0 ?_
            refine tq_goto (M := mX11_worth) (pc := 82) (tgt := 86) dX11_worth_82 (by decide) ?_
            refine tq_pick (L2 := [(0, .ref t), (1, .int a1), (2, .int a2), (3, .int a3), (4, .int a4)]) [1, 2, 3, 4, 5] rfl ?_
            cases (Option.some.inj hf)
            exact HJ57
        · have hf := tq_ifp hf cc
          refine tq_iconst (M := mX11_worth) (pc := 69) dX11_worth_69 tk_ki_2 ?_
          refine tq_goto (M := mX11_worth) (pc := 70) (tgt := 86) dX11_worth_70 (by decide) ?_
          refine tq_pick (L2 := [(0, .ref t), (1, .int a1), (2, .int a2), (3, .int a3), (4, .int a4)]) [1, 2, 3, 4, 5] rfl ?_
          cases (Option.some.inj hf)
          exact HJ57
      · have hf := tq_ifp ep10 cc
        refine tq_iconst (M := mX11_worth) (pc := 60) dX11_worth_60 tk_ki_1 ?_
        refine tq_goto (M := mX11_worth) (pc := 61) (tgt := 86) dX11_worth_61 (by decide) ?_
        refine tq_pick (L2 := [(0, .ref t), (1, .int a1), (2, .int a2), (3, .int a3), (4, .int a4)]) [1, 2, 3, 4, 5] rfl ?_
        cases (Option.some.inj hf)
        exact HJ57
    refine tq_if_eq (M := mX11_worth) (pc := 32) (tgt := 51) dX11_worth_32 (by decide) (fun cc => ?_) (fun cc => ?_)
    · have hf := tq_ifp ep7 cc
      refine tq_iconst (M := mX11_worth) (pc := 51) dX11_worth_51 tk_ki_0 ?_
      refine tq_pick (L2 := [(0, .ref t), (1, .int a1), (2, .int a2), (3, .int a3), (4, .int a4), (5, .int p4)]) [1, 2, 3, 4, 5, 0] rfl ?_
      cases (Option.some.inj hf)
      exact HJ32
    · have hf := tq_ifn ep7 cc
      refine tq_iload (M := mX11_worth) (pc := 35) dX11_worth_35 rfl ?_
      refine tq_iconst (M := mX11_worth) (pc := 37) dX11_worth_37 tk_ki_0 ?_
      refine tq_sipush (M := mX11_worth) (pc := 38) dX11_worth_38 tk_ks_999 ?_
      obtain ⟨v6, ev6, hf⟩ := tq_be hf
      refine tq_calS (M := mX11_worth) (pc := 41) (S := []) tk_y_X11_in tk_s_X11_in tk_RX11_169 dX11_worth_41 [.int a4, .int (0 : Int32), .int (999 : Int32)] rfl (Nat.le_of_ble_eq_true rfl) (d1 := d - 1) (b1 := 0) (s1 := 0) (bc' := 0) (bs' := 0) (Q1 := fun r h9 => r = .inl (some (.int v6)) ∧ h = h9) (by omega) rfl rfl (w_X11_in (by omega) ev6 (fun _ _ q => q)) (fun E h9 q => nomatch (show (Sum.inr E : tq_R) = Sum.inl _ from q.1)) (fun r9 h9 q => ?_)
      obtain ⟨q1, rfl⟩ := q
      cases (show (Sum.inl r9 : tq_R) = Sum.inl (some (.int v6)) from q1)
      refine tq_if_eq (M := mX11_worth) (pc := 44) (tgt := 51) dX11_worth_44 (by decide) (fun cc => ?_) (fun cc => ?_)
      · have hf := tq_ifp hf cc
        refine tq_iconst (M := mX11_worth) (pc := 51) dX11_worth_51 tk_ki_0 ?_
        refine tq_pick (L2 := [(0, .ref t), (1, .int a1), (2, .int a2), (3, .int a3), (4, .int a4), (5, .int p4)]) [1, 2, 3, 4, 5, 0] rfl ?_
        cases (Option.some.inj hf)
        exact HJ32
      · have hf := tq_ifn hf cc
        refine tq_iconst (M := mX11_worth) (pc := 47) dX11_worth_47 tk_ki_1 ?_
        refine tq_goto (M := mX11_worth) (pc := 48) (tgt := 52) dX11_worth_48 (by decide) ?_
        refine tq_pick (L2 := [(0, .ref t), (1, .int a1), (2, .int a2), (3, .int a3), (4, .int a4), (5, .int p4)]) [1, 2, 3, 4, 5, 0] rfl ?_
        cases (Option.some.inj hf)
        exact HJ32
  refine tq_if_eq (M := mX11_worth) (pc := 5) (tgt := 23) dX11_worth_5 (by decide) (fun cc => ?_) (fun cc => ?_)
  · have hf := tq_ifp ep4 cc
    refine tq_iconst (M := mX11_worth) (pc := 23) dX11_worth_23 tk_ki_0 ?_
    cases (Option.some.inj hf)
    exact HJ5
  · have hf := tq_ifn ep4 cc
    refine tq_iload_n (M := mX11_worth) (pc := 8) dX11_worth_8 rfl ?_
    refine tq_iconst (M := mX11_worth) (pc := 9) dX11_worth_9 tk_ki_0 ?_
    refine tq_iload_n (M := mX11_worth) (pc := 10) dX11_worth_10 rfl ?_
    refine tq_iconst (M := mX11_worth) (pc := 11) dX11_worth_11 tk_ki_1 ?_
    refine tq_isub (M := mX11_worth) (pc := 12) dX11_worth_12 ?_
    obtain ⟨v3, ev3, hf⟩ := tq_be hf
    refine tq_calS (M := mX11_worth) (pc := 13) (S := []) tk_y_X11_in tk_s_X11_in tk_RX11_169 dX11_worth_13 [.int a2, .int (0 : Int32), .int ((a1 - (1 : Int32)))] rfl (Nat.le_of_ble_eq_true rfl) (d1 := d - 1) (b1 := 0) (s1 := 0) (bc' := 0) (bs' := 0) (Q1 := fun r h9 => r = .inl (some (.int v3)) ∧ h = h9) (by omega) rfl rfl (w_X11_in (by omega) ev3 (fun _ _ q => q)) (fun E h9 q => nomatch (show (Sum.inr E : tq_R) = Sum.inl _ from q.1)) (fun r9 h9 q => ?_)
    obtain ⟨q1, rfl⟩ := q
    cases (show (Sum.inl r9 : tq_R) = Sum.inl (some (.int v3)) from q1)
    refine tq_if_eq (M := mX11_worth) (pc := 16) (tgt := 23) dX11_worth_16 (by decide) (fun cc => ?_) (fun cc => ?_)
    · have hf := tq_ifp hf cc
      refine tq_iconst (M := mX11_worth) (pc := 23) dX11_worth_23 tk_ki_0 ?_
      cases (Option.some.inj hf)
      exact HJ5
    · have hf := tq_ifn hf cc
      refine tq_iconst (M := mX11_worth) (pc := 19) dX11_worth_19 tk_ki_1 ?_
      refine tq_goto (M := mX11_worth) (pc := 20) (tgt := 24) dX11_worth_20 (by decide) ?_
      cases (Option.some.inj hf)
      exact HJ5
abbrev mX11_paths : tq_M := (RX11, cX11_paths, 1, (some .int), false, [], none)
def f_X11_paths (t : Nat) (h : tq_H) : Option (Int32 × tq_H) :=
  (tq_gi h t 11 24).bind fun x1 =>
  (tq_is h t 11).bind fun _ =>
  (f_X11_fine t x1 h).bind fun v2 =>
  some (v2.1, v2.2)
set_option maxHeartbeats 4000000 in
set_option maxRecDepth 20000 in
theorem w_X11_paths {l : Launch} {d : Nat} (hd9 : 1 ≤ d) {t : Nat} {h : tq_H} {o : Int32 × tq_H} {Q : tq_R → tq_H → Prop} (hf : f_X11_paths t h = some o) (hQ : ∀ r h9, r = .inl (some (.int o.1)) ∧ o.2 = h9 → Q r h9) : tq_C l yX11_paths cX11_paths 1 (some .int) d 0 0 [.ref t] h Q := by
  refine tq_body (y := yX11_paths) false (by decide +kernel) (fun z => by cases z) (Nat.le_of_ble_eq_true rfl) ?_
  show tq_W l mX11_paths d 0 0 Q 0 [(0, .ref t)] [] h
  refine tq_aload_n (M := mX11_paths) (pc := 0) dX11_paths_0 rfl ?_
  refine tq_aload_n (M := mX11_paths) (pc := 1) dX11_paths_1 rfl ?_
  obtain ⟨x1, ex1, hf⟩ := tq_be hf
  refine tq_getI (M := mX11_paths) (pc := 2) tk_c11 (by decide) dX11_paths_2 tk_RX11_296 rfl ex1 ?_
  obtain ⟨⟨⟩, eu3, hf⟩ := tq_be hf
  obtain ⟨fsu3, eu3⟩ := tq_is_s eu3
  obtain ⟨v2, ev2, hf⟩ := tq_be hf
  refine tq_calV (M := mX11_paths) (pc := 5) (S := []) tk_y_X11_fine tk_v_X11_fine tk_RX11_283 dX11_paths_5 [.int x1] rfl (S0 := _) rfl eu3 rfl (Nat.le_of_ble_eq_true rfl) (d1 := d - 1) (b1 := 0) (s1 := 0) (bc' := 0) (bs' := 0) (Q1 := fun r h9 => r = .inl (some (.int v2.1)) ∧ v2.2 = h9) (by omega) rfl rfl (w_X11_fine (by omega) ev2 (fun _ _ q => q)) (fun E h9 q => nomatch (show (Sum.inr E : tq_R) = Sum.inl _ from q.1)) (fun r9 h9 q => ?_)
  obtain ⟨q1, rfl⟩ := q
  cases (show (Sum.inl r9 : tq_R) = Sum.inl (some (.int v2.1)) from q1)
  refine tq_iret (M := mX11_paths) (pc := 8) dX11_paths_8 rfl ?_
  cases (Option.some.inj hf)
  exact hQ _ _ ⟨rfl, rfl⟩
abbrev mX11_readAsReader : tq_M := (RX11, cX11_readAsReader, 3, (some .boolean), false, [], none)
def f_X11_readAsReader (t : Nat) (a1 : Int32) (h : tq_H) : Option (Int32 × tq_H) :=
  (tq_pf h t 11 0 (.int (0 : Int32))).bind fun w1 =>
  (tq_gi w1 t 11 32).bind fun x2 =>
  (tq_bz a1).bind fun z4 =>
  (tq_pf w1 t 11 32 (.int z4)).bind fun w3 =>
  (tq_bz x2).bind fun z5 =>
  some (z5, w3)
set_option maxHeartbeats 4000000 in
set_option maxRecDepth 20000 in
theorem w_X11_readAsReader {l : Launch} {d : Nat} (hd9 : 0 ≤ d) {t : Nat} {a1 : Int32} {h : tq_H} {o : Int32 × tq_H} {Q : tq_R → tq_H → Prop} (hf : f_X11_readAsReader t a1 h = some o) (hQ : ∀ r h9, r = .inl (some (.int o.1)) ∧ o.2 = h9 → Q r h9) : tq_C l yX11_readAsReader cX11_readAsReader 3 (some .boolean) d 0 0 [.ref t, .int a1] h Q := by
  refine tq_body (y := yX11_readAsReader) false (by decide +kernel) (fun z => by cases z) (Nat.le_of_ble_eq_true rfl) ?_
  show tq_W l mX11_readAsReader d 0 0 Q 0 [(0, .ref t), (1, .int a1)] [] h
  refine tq_aload_n (M := mX11_readAsReader) (pc := 0) dX11_readAsReader_0 rfl ?_
  refine tq_iconst (M := mX11_readAsReader) (pc := 1) dX11_readAsReader_1 tk_ki_0 ?_
  obtain ⟨w1, ew1, hf⟩ := tq_be hf
  refine tq_putv (M := mX11_readAsReader) (pc := 2) tk_c11 (by decide) dX11_readAsReader_2 tk_RX11_166 rfl (Or.inl rfl) ew1 (tq_nI _) ?_
  refine tq_aload_n (M := mX11_readAsReader) (pc := 5) dX11_readAsReader_5 rfl ?_
  obtain ⟨x2, ex2, hf⟩ := tq_be hf
  refine tq_getI (M := mX11_readAsReader) (pc := 6) tk_c11 (by decide) dX11_readAsReader_6 tk_RX11_318 rfl ex2 ?_
  refine tq_istore_n (M := mX11_readAsReader) (pc := 9) rfl dX11_readAsReader_9 (L2 := [(2, .int x2), (0, .ref t), (1, .int a1)]) (by decide) rfl ?_
  refine tq_aload_n (M := mX11_readAsReader) (pc := 10) dX11_readAsReader_10 rfl ?_
  refine tq_iload_n (M := mX11_readAsReader) (pc := 11) dX11_readAsReader_11 rfl ?_
  obtain ⟨z4, ez4, hf⟩ := tq_be hf
  obtain ⟨w3, ew3, hf⟩ := tq_be hf
  refine tq_putB (M := mX11_readAsReader) (pc := 12) tk_c11 (by decide) rfl dX11_readAsReader_12 tk_RX11_318 rfl (Or.inl rfl) ez4 ew3 ?_
  refine tq_iload_n (M := mX11_readAsReader) (pc := 15) dX11_readAsReader_15 rfl ?_
  obtain ⟨z5, ez5, hf⟩ := tq_be hf
  refine tq_zretB (M := mX11_readAsReader) (pc := 16) dX11_readAsReader_16 rfl ez5 ?_
  cases (Option.some.inj hf)
  exact hQ _ _ ⟨rfl, rfl⟩
abbrev mX11_seen : tq_M := (RX11, cX11_seen, 8, (some .long), false, [], none)
def f_X11_seen_b12 (i0 : Nat) (hh : tq_H) (s : Int64 × Int32) : Option ((Int64 × Int32) ⊕ (Int64)) := match s with
  | (y1, y3) =>
    (tq_gi hh i0 11 33).bind fun x5 =>
    if y3 ≥ x5 then
      some (.inr y1)
    else
      (tq_gr hh i0 11 29).bind fun k6 =>
      (tq_gr hh i0 11 34).bind fun k7 =>
      (tq_ai hh k7 y3).bind fun x8 =>
      (tq_aj hh k6 ((60 : Int32) * x8)).bind fun x9 =>
      tq_let ((y1 ||| x9)) fun x10 =>
      tq_let (y3 + (1 : Int32)) fun x11 =>
      some (.inl (x10, x11))
def f_X11_seen_b69 (i0 : Nat) (i1 : Int64) (i3 : Int64) (i5 : Int32) (hh : tq_H) (s : Int32 × Int32) : Option ((Int32 × Int32) ⊕ (Int32)) := match s with
  | (y6, y7) =>
    if y7 ≤ 0 then
      some (.inr y6)
    else
      tq_let (if y6 = 0 then (0 : Int32) else (if (lg_cmp ((i1 >>> (y7.toInt64 &&& 63)) &&& (1 : Int64)) (0 : Int64)) = 0 then (1 : Int32) else (0 : Int32))) fun p16 =>
      (tq_gr hh i0 11 6).bind fun k17 =>
      (tq_ai hh k17 y7).bind fun x18 =>
      some (.inl (p16, x18))
def f_X11_seen_b48 (i0 : Nat) (i1 : Int64) (hh : tq_H) (s : Int64 × Int32) : Option ((Int64 × Int32) ⊕ (Int64)) := match s with
  | (y3, y5) =>
    (tq_gi hh i0 11 11).bind fun x13 =>
    if y5 ≥ x13 then
      some (.inr y3)
    else
      (tq_gr hh i0 11 12).bind fun k14 =>
      (tq_ai hh k14 y5).bind fun x15 =>
      (tq_loop (f_X11_seen_b69 i0 i1 y3 y5 hh) tq_N ((1 : Int32), x15)).bind fun o19 =>
      (if o19 = 0 then
        some (0 : Int64)
      else
        (tq_gr hh i0 11 12).bind fun k20 =>
        (tq_ai hh k20 y5).bind fun x21 =>
        some ((1 : Int64) <<< (x21.toInt64 &&& 63))).bind fun p22 =>
      tq_let ((y3 ||| p22)) fun x23 =>
      tq_let (y5 + (1 : Int32)) fun x24 =>
      some (.inl (x23, x24))
def f_X11_seen (t : Nat) (h : tq_H) : Option (Int64 × tq_H) :=
  (tq_is h t 11).bind fun _ =>
  (f_X11_all t h).bind fun v1 =>
  (tq_is h t 11).bind fun _ =>
  (f_X11_findAll t v1 h).bind fun v3 =>
  (tq_loop (f_X11_seen_b12 t v3) tq_N ((0 : Int64), (0 : Int32))).bind fun o12 =>
  (tq_loop (f_X11_seen_b48 t o12 v3) tq_N ((1 : Int64), (0 : Int32))).bind fun o25 =>
  some (o25, v3)
set_option maxHeartbeats 4000000 in
theorem l_X11_seen_12 {l : Launch} {d : Nat} {Q : tq_R → tq_H → Prop} (hd9 : 5 ≤ d) (i0 : Nat) (hh : tq_H) : ∀ (n : Nat) (y1 : Int64) (y3 : Int32) (o : Int64), tq_loop (f_X11_seen_b12 i0 hh) n (y1, y3) = some o → tq_W l mX11_seen d 0 0 Q 43 [(0, .ref i0), (1, .long o)] [] hh → tq_W l mX11_seen d 0 0 Q 12 [(0, .ref i0), (1, .long y1), (3, .int y3)] [] hh := by
  intro n
  induction n with
  | zero => intro y1 y3 o hl; cases hl
  | succ n ih =>
    intro y1 y3 o hl hk
    obtain ⟨oo, hf, ho⟩ := tq_loop_s hl
    refine tq_iload_n (M := mX11_seen) (pc := 12) dX11_seen_12 rfl ?_
    refine tq_aload_n (M := mX11_seen) (pc := 13) dX11_seen_13 rfl ?_
    obtain ⟨x5, ex5, hf⟩ := tq_be hf
    refine tq_getI (M := mX11_seen) (pc := 14) tk_c11 (by decide) dX11_seen_14 tk_RX11_352 rfl ex5 ?_
    refine tq_icmp_ge (M := mX11_seen) (pc := 17) (tgt := 43) dX11_seen_17 (by decide) (fun cc => ?_) (fun cc => ?_)
    · have hf := tq_ifp hf cc
      refine tq_pick (L2 := [(0, .ref i0), (1, .long y1)]) [0, 1] rfl ?_
      cases (Option.some.inj hf)
      cases (tq_lx ho)
      exact hk
    · have hf := tq_ifn hf cc
      refine tq_lload_n (M := mX11_seen) (pc := 20) dX11_seen_20 rfl ?_
      refine tq_aload_n (M := mX11_seen) (pc := 21) dX11_seen_21 rfl ?_
      obtain ⟨k6, ek6, hf⟩ := tq_be hf
      refine tq_getR (M := mX11_seen) (pc := 22) tk_c11 (by decide) dX11_seen_22 tk_RX11_80 rfl ek6 ?_
      refine tq_bipush (M := mX11_seen) (pc := 25) dX11_seen_25 tk_kb_60 ?_
      refine tq_aload_n (M := mX11_seen) (pc := 27) dX11_seen_27 rfl ?_
      obtain ⟨k7, ek7, hf⟩ := tq_be hf
      refine tq_getR (M := mX11_seen) (pc := 28) tk_c11 (by decide) dX11_seen_28 tk_RX11_87 rfl ek7 ?_
      refine tq_iload_n (M := mX11_seen) (pc := 31) dX11_seen_31 rfl ?_
      obtain ⟨x8, ex8, hf⟩ := tq_be hf
      refine tq_ialdF (M := mX11_seen) (pc := 32) dX11_seen_32 ex8 ?_
      refine tq_imul (M := mX11_seen) (pc := 33) dX11_seen_33 ?_
      obtain ⟨x9, ex9, hf⟩ := tq_be hf
      refine tq_laldF (M := mX11_seen) (pc := 34) dX11_seen_34 ex9 ?_
      refine tq_lor (M := mX11_seen) (pc := 35) dX11_seen_35 ?_
      obtain ⟨x10, ex10, hf⟩ := tq_le hf
      refine tq_lstore_n (M := mX11_seen) (pc := 36) rfl dX11_seen_36 (L2 := [(1, .long x10), (0, .ref i0), (3, .int y3)]) (by decide) (by rw [ex10]; rfl) ?_
      obtain ⟨x11, ex11, hf⟩ := tq_le hf
      refine tq_iinc (M := mX11_seen) (pc := 37) (v := x11) (L2 := [(3, .int x11), (1, .long x10), (0, .ref i0)]) dX11_seen_37 rfl (by rw [ex11, tk_ki_1]) (by decide) rfl ?_
      refine tq_goto (M := mX11_seen) (pc := 40) (tgt := 12) dX11_seen_40 (by decide) ?_
      refine tq_pick (L2 := [(0, .ref i0), (1, .long x10), (3, .int x11)]) [2, 1, 0] rfl ?_
      cases (Option.some.inj hf)
      exact ih _ _ o (tq_lc ho) hk
set_option maxHeartbeats 4000000 in
theorem l_X11_seen_69 {l : Launch} {d : Nat} {Q : tq_R → tq_H → Prop} (hd9 : 5 ≤ d) (i0 : Nat) (i1 : Int64) (i3 : Int64) (i5 : Int32) (hh : tq_H) : ∀ (n : Nat) (y6 : Int32) (y7 : Int32) (o : Int32), tq_loop (f_X11_seen_b69 i0 i1 i3 i5 hh) n (y6, y7) = some o → tq_W l mX11_seen d 0 0 Q 109 [(0, .ref i0), (1, .long i1), (3, .long i3), (5, .int i5), (6, .int o)] [] hh → tq_W l mX11_seen d 0 0 Q 69 [(0, .ref i0), (1, .long i1), (3, .long i3), (5, .int i5), (6, .int y6), (7, .int y7)] [] hh := by
  intro n
  induction n with
  | zero => intro y6 y7 o hl; cases hl
  | succ n ih =>
    intro y6 y7 o hl hk
    obtain ⟨oo, hf, ho⟩ := tq_loop_s hl
    refine tq_iload (M := mX11_seen) (pc := 69) dX11_seen_69 rfl ?_
    refine tq_if_le (M := mX11_seen) (pc := 71) (tgt := 109) dX11_seen_71 (by decide) (fun cc => ?_) (fun cc => ?_)
    · have hf := tq_ifp hf cc
      refine tq_pick (L2 := [(0, .ref i0), (1, .long i1), (3, .long i3), (5, .int i5), (6, .int y6)]) [0, 1, 2, 3, 4] rfl ?_
      cases (Option.some.inj hf)
      cases (tq_lx ho)
      exact hk
    · have hf := tq_ifn hf cc
      refine tq_iload (M := mX11_seen) (pc := 74) dX11_seen_74 rfl ?_
      obtain ⟨p16, ep16, hf⟩ := tq_le hf
      have HJ76 : tq_W l mX11_seen d 0 0 Q 95 [(0, .ref i0), (1, .long i1), (3, .long i3), (5, .int i5), (7, .int y7)] [.int p16] hh := by
        refine tq_istore (M := mX11_seen) (pc := 95) dX11_seen_95 (L2 := [(6, .int p16), (0, .ref i0), (1, .long i1), (3, .long i3), (5, .int i5), (7, .int y7)]) (by decide) rfl ?_
        refine tq_aload_n (M := mX11_seen) (pc := 97) dX11_seen_97 rfl ?_
        obtain ⟨k17, ek17, hf⟩ := tq_be hf
        refine tq_getR (M := mX11_seen) (pc := 98) tk_c11 (by decide) dX11_seen_98 tk_RX11_22 rfl ek17 ?_
        refine tq_iload (M := mX11_seen) (pc := 101) dX11_seen_101 rfl ?_
        obtain ⟨x18, ex18, hf⟩ := tq_be hf
        refine tq_ialdF (M := mX11_seen) (pc := 103) dX11_seen_103 ex18 ?_
        refine tq_istore (M := mX11_seen) (pc := 104) dX11_seen_104 (L2 := [(7, .int x18), (6, .int p16), (0, .ref i0), (1, .long i1), (3, .long i3), (5, .int i5)]) (by decide) rfl ?_
        refine tq_goto (M := mX11_seen) (pc := 106) (tgt := 69) dX11_seen_106 (by decide) ?_
        refine tq_pick (L2 := [(0, .ref i0), (1, .long i1), (3, .long i3), (5, .int i5), (6, .int p16), (7, .int x18)]) [2, 3, 4, 5, 1, 0] rfl ?_
        cases (Option.some.inj hf)
        exact ih _ _ o (tq_lc ho) hk
      refine tq_if_eq (M := mX11_seen) (pc := 76) (tgt := 94) dX11_seen_76 (by decide) (fun cc => ?_) (fun cc => ?_)
      · have hf := tq_ifp ep16.symm cc
        refine tq_iconst (M := mX11_seen) (pc := 94) dX11_seen_94 tk_ki_0 ?_
        refine tq_pick (L2 := [(0, .ref i0), (1, .long i1), (3, .long i3), (5, .int i5), (7, .int y7)]) [0, 1, 2, 3, 5] rfl ?_
        cases hf
        exact HJ76
      · have hf := tq_ifn ep16.symm cc
        refine tq_lload_n (M := mX11_seen) (pc := 79) dX11_seen_79 rfl ?_
        refine tq_iload (M := mX11_seen) (pc := 80) dX11_seen_80 rfl ?_
        refine tq_lshr (M := mX11_seen) (pc := 82) dX11_seen_82 ?_
        refine tq_lconst (M := mX11_seen) (pc := 83) dX11_seen_83 tk_kl_1 ?_
        refine tq_land (M := mX11_seen) (pc := 84) dX11_seen_84 ?_
        refine tq_lconst (M := mX11_seen) (pc := 85) dX11_seen_85 tk_kl_0 ?_
        refine tq_lcmp (M := mX11_seen) (pc := 86) dX11_seen_86 ?_
        refine tq_if_ne (M := mX11_seen) (pc := 87) (tgt := 94) dX11_seen_87 (by decide) (fun cc => ?_) (fun cc => ?_)
        · have hf := tq_ifn hf cc
          refine tq_iconst (M := mX11_seen) (pc := 94) dX11_seen_94 tk_ki_0 ?_
          refine tq_pick (L2 := [(0, .ref i0), (1, .long i1), (3, .long i3), (5, .int i5), (7, .int y7)]) [0, 1, 2, 3, 5] rfl ?_
          cases hf
          exact HJ76
        · have hf := tq_ifp hf cc
          refine tq_iconst (M := mX11_seen) (pc := 90) dX11_seen_90 tk_ki_1 ?_
          refine tq_goto (M := mX11_seen) (pc := 91) (tgt := 95) dX11_seen_91 (by decide) ?_
          refine tq_pick (L2 := [(0, .ref i0), (1, .long i1), (3, .long i3), (5, .int i5), (7, .int y7)]) [0, 1, 2, 3, 5] rfl ?_
          cases hf
          exact HJ76
set_option maxHeartbeats 4000000 in
theorem l_X11_seen_48 {l : Launch} {d : Nat} {Q : tq_R → tq_H → Prop} (hd9 : 5 ≤ d) (i0 : Nat) (i1 : Int64) (hh : tq_H) : ∀ (n : Nat) (y3 : Int64) (y5 : Int32) (o : Int64), tq_loop (f_X11_seen_b48 i0 i1 hh) n (y3, y5) = some o → tq_W l mX11_seen d 0 0 Q 136 [(3, .long o)] [] hh → tq_W l mX11_seen d 0 0 Q 48 [(0, .ref i0), (1, .long i1), (3, .long y3), (5, .int y5)] [] hh := by
  intro n
  induction n with
  | zero => intro y3 y5 o hl; cases hl
  | succ n ih =>
    intro y3 y5 o hl hk
    obtain ⟨oo, hf, ho⟩ := tq_loop_s hl
    refine tq_iload (M := mX11_seen) (pc := 48) dX11_seen_48 rfl ?_
    refine tq_aload_n (M := mX11_seen) (pc := 50) dX11_seen_50 rfl ?_
    obtain ⟨x13, ex13, hf⟩ := tq_be hf
    refine tq_getI (M := mX11_seen) (pc := 51) tk_c11 (by decide) dX11_seen_51 tk_RX11_173 rfl ex13 ?_
    refine tq_icmp_ge (M := mX11_seen) (pc := 54) (tgt := 136) dX11_seen_54 (by decide) (fun cc => ?_) (fun cc => ?_)
    · have hf := tq_ifp hf cc
      refine tq_pick (L2 := [(3, .long y3)]) [2] rfl ?_
      cases (Option.some.inj hf)
      cases (tq_lx ho)
      exact hk
    · have hf := tq_ifn hf cc
      refine tq_iconst (M := mX11_seen) (pc := 57) dX11_seen_57 tk_ki_1 ?_
      refine tq_istore (M := mX11_seen) (pc := 58) dX11_seen_58 (L2 := [(6, .int (1 : Int32)), (0, .ref i0), (1, .long i1), (3, .long y3), (5, .int y5)]) (by decide) rfl ?_
      refine tq_aload_n (M := mX11_seen) (pc := 60) dX11_seen_60 rfl ?_
      obtain ⟨k14, ek14, hf⟩ := tq_be hf
      refine tq_getR (M := mX11_seen) (pc := 61) tk_c11 (by decide) dX11_seen_61 tk_RX11_35 rfl ek14 ?_
      refine tq_iload (M := mX11_seen) (pc := 64) dX11_seen_64 rfl ?_
      obtain ⟨x15, ex15, hf⟩ := tq_be hf
      refine tq_ialdF (M := mX11_seen) (pc := 66) dX11_seen_66 ex15 ?_
      refine tq_istore (M := mX11_seen) (pc := 67) dX11_seen_67 (L2 := [(7, .int x15), (6, .int (1 : Int32)), (0, .ref i0), (1, .long i1), (3, .long y3), (5, .int y5)]) (by decide) rfl ?_
      obtain ⟨o19, eo19, hf⟩ := tq_be hf
      refine tq_pick (L2 := [(0, .ref i0), (1, .long i1), (3, .long y3), (5, .int y5), (6, .int (1 : Int32)), (7, .int x15)]) [2, 3, 4, 5, 1, 0] rfl ?_
      refine l_X11_seen_69 (by omega) i0 i1 y3 y5 hh _ (1 : Int32) x15 _ eo19 ?_
      refine tq_lload_n (M := mX11_seen) (pc := 109) dX11_seen_109 rfl ?_
      refine tq_iload (M := mX11_seen) (pc := 110) dX11_seen_110 rfl ?_
      obtain ⟨p22, ep22, hf⟩ := tq_be hf
      have HJ112 : tq_W l mX11_seen d 0 0 Q 128 [(0, .ref i0), (1, .long i1), (5, .int y5)] [.long p22, .long y3] hh := by
        refine tq_lor (M := mX11_seen) (pc := 128) dX11_seen_128 ?_
        obtain ⟨x23, ex23, hf⟩ := tq_le hf
        refine tq_lstore_n (M := mX11_seen) (pc := 129) rfl dX11_seen_129 (L2 := [(3, .long x23), (0, .ref i0), (1, .long i1), (5, .int y5)]) (by decide) (by rw [ex23]; rfl) ?_
        obtain ⟨x24, ex24, hf⟩ := tq_le hf
        refine tq_iinc (M := mX11_seen) (pc := 130) (v := x24) (L2 := [(5, .int x24), (3, .long x23), (0, .ref i0), (1, .long i1)]) dX11_seen_130 rfl (by rw [ex24, tk_ki_1]) (by decide) rfl ?_
        refine tq_goto (M := mX11_seen) (pc := 133) (tgt := 48) dX11_seen_133 (by decide) ?_
        refine tq_pick (L2 := [(0, .ref i0), (1, .long i1), (3, .long x23), (5, .int x24)]) [2, 3, 1, 0] rfl ?_
        cases (Option.some.inj hf)
        exact ih _ _ o (tq_lc ho) hk
      refine tq_if_eq (M := mX11_seen) (pc := 112) (tgt := 127) dX11_seen_112 (by decide) (fun cc => ?_) (fun cc => ?_)
      · have hf := tq_ifp ep22 cc
        refine tq_lconst (M := mX11_seen) (pc := 127) dX11_seen_127 tk_kl_0 ?_
        refine tq_pick (L2 := [(0, .ref i0), (1, .long i1), (5, .int y5)]) [0, 1, 3] rfl ?_
        cases (Option.some.inj hf)
        exact HJ112
      · have hf := tq_ifn ep22 cc
        refine tq_lconst (M := mX11_seen) (pc := 115) dX11_seen_115 tk_kl_1 ?_
        refine tq_aload_n (M := mX11_seen) (pc := 116) dX11_seen_116 rfl ?_
        obtain ⟨k20, ek20, hf⟩ := tq_be hf
        refine tq_getR (M := mX11_seen) (pc := 117) tk_c11 (by decide) dX11_seen_117 tk_RX11_35 rfl ek20 ?_
        refine tq_iload (M := mX11_seen) (pc := 120) dX11_seen_120 rfl ?_
        obtain ⟨x21, ex21, hf⟩ := tq_be hf
        refine tq_ialdF (M := mX11_seen) (pc := 122) dX11_seen_122 ex21 ?_
        refine tq_lshl (M := mX11_seen) (pc := 123) dX11_seen_123 ?_
        refine tq_goto (M := mX11_seen) (pc := 124) (tgt := 128) dX11_seen_124 (by decide) ?_
        refine tq_pick (L2 := [(0, .ref i0), (1, .long i1), (5, .int y5)]) [0, 1, 3] rfl ?_
        cases (Option.some.inj hf)
        exact HJ112
set_option maxHeartbeats 4000000 in
set_option maxRecDepth 20000 in
theorem w_X11_seen {l : Launch} {d : Nat} (hd9 : 5 ≤ d) {t : Nat} {h : tq_H} {o : Int64 × tq_H} {Q : tq_R → tq_H → Prop} (hf : f_X11_seen t h = some o) (hQ : ∀ r h9, r = .inl (some (.long o.1)) ∧ o.2 = h9 → Q r h9) : tq_C l yX11_seen cX11_seen 8 (some .long) d 0 0 [.ref t] h Q := by
  refine tq_body (y := yX11_seen) false (by decide +kernel) (fun z => by cases z) (Nat.le_of_ble_eq_true rfl) ?_
  show tq_W l mX11_seen d 0 0 Q 0 [(0, .ref t)] [] h
  refine tq_aload_n (M := mX11_seen) (pc := 0) dX11_seen_0 rfl ?_
  refine tq_aload_n (M := mX11_seen) (pc := 1) dX11_seen_1 rfl ?_
  obtain ⟨⟨⟩, eu2, hf⟩ := tq_be hf
  obtain ⟨fsu2, eu2⟩ := tq_is_s eu2
  obtain ⟨v1, ev1, hf⟩ := tq_be hf
  refine tq_calV (M := mX11_seen) (pc := 2) (S := [.ref t]) tk_y_X11_all tk_v_X11_all tk_RX11_228 dX11_seen_2 [] rfl (S0 := _) rfl eu2 rfl (Nat.le_of_ble_eq_true rfl) (d1 := d - 1) (b1 := 0) (s1 := 0) (bc' := 0) (bs' := 0) (Q1 := fun r h9 => r = .inl (some (.long v1)) ∧ h = h9) (by omega) rfl rfl (w_X11_all (by omega) ev1 (fun _ _ q => q)) (fun E h9 q => nomatch (show (Sum.inr E : tq_R) = Sum.inl _ from q.1)) (fun r9 h9 q => ?_)
  obtain ⟨q1, rfl⟩ := q
  cases (show (Sum.inl r9 : tq_R) = Sum.inl (some (.long v1)) from q1)
  obtain ⟨⟨⟩, eu4, hf⟩ := tq_be hf
  obtain ⟨fsu4, eu4⟩ := tq_is_s eu4
  obtain ⟨v3, ev3, hf⟩ := tq_be hf
  refine tq_calV (M := mX11_seen) (pc := 5) (S := []) tk_y_X11_findAll tk_v_X11_findAll tk_RX11_348 dX11_seen_5 [.long v1] rfl (S0 := _) rfl eu4 rfl (Nat.le_of_ble_eq_true rfl) (d1 := d - 1) (b1 := 0) (s1 := 0) (bc' := 0) (bs' := 0) (Q1 := fun r h9 => r = .inl none ∧ v3 = h9) (by omega) rfl rfl (w_X11_findAll (by omega) ev3 (fun _ _ q => q)) (fun E h9 q => nomatch (show (Sum.inr E : tq_R) = Sum.inl _ from q.1)) (fun r9 h9 q => ?_)
  obtain ⟨q1, rfl⟩ := q
  cases (show (Sum.inl r9 : tq_R) = Sum.inl (none) from q1)
  refine tq_lconst (M := mX11_seen) (pc := 8) dX11_seen_8 tk_kl_0 ?_
  refine tq_lstore_n (M := mX11_seen) (pc := 9) rfl dX11_seen_9 (L2 := [(1, .long (0 : Int64)), (0, .ref t)]) (by decide) rfl ?_
  refine tq_iconst (M := mX11_seen) (pc := 10) dX11_seen_10 tk_ki_0 ?_
  refine tq_istore_n (M := mX11_seen) (pc := 11) rfl dX11_seen_11 (L2 := [(3, .int (0 : Int32)), (1, .long (0 : Int64)), (0, .ref t)]) (by decide) rfl ?_
  obtain ⟨o12, eo12, hf⟩ := tq_be hf
  refine tq_pick (L2 := [(0, .ref t), (1, .long (0 : Int64)), (3, .int (0 : Int32))]) [2, 1, 0] rfl ?_
  refine l_X11_seen_12 (by omega) t v3 _ (0 : Int64) (0 : Int32) _ eo12 ?_
  refine tq_lconst (M := mX11_seen) (pc := 43) dX11_seen_43 tk_kl_1 ?_
  refine tq_lstore_n (M := mX11_seen) (pc := 44) rfl dX11_seen_44 (L2 := [(3, .long (1 : Int64)), (0, .ref t), (1, .long o12)]) (by decide) rfl ?_
  refine tq_iconst (M := mX11_seen) (pc := 45) dX11_seen_45 tk_ki_0 ?_
  refine tq_istore (M := mX11_seen) (pc := 46) dX11_seen_46 (L2 := [(5, .int (0 : Int32)), (3, .long (1 : Int64)), (0, .ref t), (1, .long o12)]) (by decide) rfl ?_
  obtain ⟨o25, eo25, hf⟩ := tq_be hf
  refine tq_pick (L2 := [(0, .ref t), (1, .long o12), (3, .long (1 : Int64)), (5, .int (0 : Int32))]) [2, 3, 1, 0] rfl ?_
  refine l_X11_seen_48 (by omega) t o12 v3 _ (1 : Int64) (0 : Int32) _ eo25 ?_
  refine tq_lload_n (M := mX11_seen) (pc := 136) dX11_seen_136 rfl ?_
  refine tq_lret (M := mX11_seen) (pc := 137) dX11_seen_137 rfl ?_
  cases (Option.some.inj hf)
  exact hQ _ _ ⟨rfl, rfl⟩
abbrev mX11_read : tq_M := (RX11, cX11_read, 1, none, false, [], none)
def f_X11_read (t : Nat) (h : tq_H) : Option (tq_H) :=
  (tq_gi h t 11 32).bind fun x1 =>
  (if x1 = 0 then
    (tq_is h t 11).bind fun _ =>
    (f_X11_all t h).bind fun v2 =>
    some (v2, h)
  else
    (tq_is h t 11).bind fun _ =>
    (f_X11_seen t h).bind fun v4 =>
    some (v4.1, v4.2)).bind fun p6 =>
  (tq_is p6.2 t 11).bind fun _ =>
  (f_X11_findAll t p6.1 p6.2).bind fun v7 =>
  some v7
set_option maxHeartbeats 4000000 in
set_option maxRecDepth 20000 in
theorem w_X11_read {l : Launch} {d : Nat} (hd9 : 6 ≤ d) {t : Nat} {h : tq_H} {o : tq_H} {Q : tq_R → tq_H → Prop} (hf : f_X11_read t h = some o) (hQ : ∀ r h9, r = .inl none ∧ o = h9 → Q r h9) : tq_C l yX11_read cX11_read 1 none d 0 0 [.ref t] h Q := by
  refine tq_body (y := yX11_read) false (by decide +kernel) (fun z => by cases z) (Nat.le_of_ble_eq_true rfl) ?_
  show tq_W l mX11_read d 0 0 Q 0 [(0, .ref t)] [] h
  refine tq_aload_n (M := mX11_read) (pc := 0) dX11_read_0 rfl ?_
  refine tq_aload_n (M := mX11_read) (pc := 1) dX11_read_1 rfl ?_
  obtain ⟨x1, ex1, hf⟩ := tq_be hf
  refine tq_getI (M := mX11_read) (pc := 2) tk_c11 (by decide) dX11_read_2 tk_RX11_318 rfl ex1 ?_
  obtain ⟨p6, ep6, hf⟩ := tq_be hf
  have HJ5 : tq_W l mX11_read d 0 0 Q 19 [] [.long p6.1, .ref t] p6.2 := by
    obtain ⟨⟨⟩, eu8, hf⟩ := tq_be hf
    obtain ⟨fsu8, eu8⟩ := tq_is_s eu8
    obtain ⟨v7, ev7, hf⟩ := tq_be hf
    refine tq_calV (M := mX11_read) (pc := 19) (S := []) tk_y_X11_findAll tk_v_X11_findAll tk_RX11_348 dX11_read_19 [.long p6.1] rfl (S0 := _) rfl eu8 rfl (Nat.le_of_ble_eq_true rfl) (d1 := d - 1) (b1 := 0) (s1 := 0) (bc' := 0) (bs' := 0) (Q1 := fun r h9 => r = .inl none ∧ v7 = h9) (by omega) rfl rfl (w_X11_findAll (by omega) ev7 (fun _ _ q => q)) (fun E h9 q => nomatch (show (Sum.inr E : tq_R) = Sum.inl _ from q.1)) (fun r9 h9 q => ?_)
    obtain ⟨q1, rfl⟩ := q
    cases (show (Sum.inl r9 : tq_R) = Sum.inl (none) from q1)
    refine tq_vret (M := mX11_read) (pc := 22) dX11_read_22 rfl ?_
    cases (Option.some.inj hf)
    exact hQ _ _ ⟨rfl, rfl⟩
  refine tq_if_eq (M := mX11_read) (pc := 5) (tgt := 15) dX11_read_5 (by decide) (fun cc => ?_) (fun cc => ?_)
  · have hf := tq_ifp ep6 cc
    refine tq_aload_n (M := mX11_read) (pc := 15) dX11_read_15 rfl ?_
    obtain ⟨⟨⟩, eu3, hf⟩ := tq_be hf
    obtain ⟨fsu3, eu3⟩ := tq_is_s eu3
    obtain ⟨v2, ev2, hf⟩ := tq_be hf
    refine tq_calV (M := mX11_read) (pc := 16) (S := [.ref t]) tk_y_X11_all tk_v_X11_all tk_RX11_228 dX11_read_16 [] rfl (S0 := _) rfl eu3 rfl (Nat.le_of_ble_eq_true rfl) (d1 := d - 1) (b1 := 0) (s1 := 0) (bc' := 0) (bs' := 0) (Q1 := fun r h9 => r = .inl (some (.long v2)) ∧ h = h9) (by omega) rfl rfl (w_X11_all (by omega) ev2 (fun _ _ q => q)) (fun E h9 q => nomatch (show (Sum.inr E : tq_R) = Sum.inl _ from q.1)) (fun r9 h9 q => ?_)
    obtain ⟨q1, rfl⟩ := q
    cases (show (Sum.inl r9 : tq_R) = Sum.inl (some (.long v2)) from q1)
    refine tq_pick (L2 := []) [] rfl ?_
    cases (Option.some.inj hf)
    exact HJ5
  · have hf := tq_ifn ep6 cc
    refine tq_aload_n (M := mX11_read) (pc := 8) dX11_read_8 rfl ?_
    obtain ⟨⟨⟩, eu5, hf⟩ := tq_be hf
    obtain ⟨fsu5, eu5⟩ := tq_is_s eu5
    obtain ⟨v4, ev4, hf⟩ := tq_be hf
    refine tq_calV (M := mX11_read) (pc := 9) (S := [.ref t]) tk_y_X11_seen tk_v_X11_seen tk_RX11_355 dX11_read_9 [] rfl (S0 := _) rfl eu5 rfl (Nat.le_of_ble_eq_true rfl) (d1 := d - 1) (b1 := 0) (s1 := 0) (bc' := 0) (bs' := 0) (Q1 := fun r h9 => r = .inl (some (.long v4.1)) ∧ v4.2 = h9) (by omega) rfl rfl (w_X11_seen (by omega) ev4 (fun _ _ q => q)) (fun E h9 q => nomatch (show (Sum.inr E : tq_R) = Sum.inl _ from q.1)) (fun r9 h9 q => ?_)
    obtain ⟨q1, rfl⟩ := q
    cases (show (Sum.inl r9 : tq_R) = Sum.inl (some (.long v4.1)) from q1)
    refine tq_goto (M := mX11_read) (pc := 12) (tgt := 19) dX11_read_12 (by decide) ?_
    refine tq_pick (L2 := []) [] rfl ?_
    cases (Option.some.inj hf)
    exact HJ5
abbrev mX11_found : tq_M := (RX11, cX11_found, 4, (some .int), false, [], none)
def f_X11_found (t : Nat) (a1 : Int32) (a2 : Int32) (h : tq_H) : Option (Int32 × tq_H) :=
  (tq_is h t 11).bind fun _ =>
  (f_X11_isPath t a1 h).bind fun v1 =>
  (if v1 = 0 then
    some (0 : Int32)
  else
    (tq_is h t 11).bind fun _ =>
    (f_X11_isNode t a2 h).bind fun v3 =>
    if v3 = 0 then
      some (0 : Int32)
    else
      some (1 : Int32)).bind fun p5 =>
  (if p5 = 0 then
    some (p5, h)
  else
    (tq_is h t 11).bind fun _ =>
    (f_X11_read t h).bind fun v6 =>
    (tq_gl v6 t 11 31).bind fun x8 =>
    tq_let (if (lg_cmp ((x8 >>> (a2.toInt64 &&& 63)) &&& (1 : Int64)) (1 : Int64)) = 0 then (1 : Int32) else (0 : Int32)) fun p9 =>
    some (p9, v6)).bind fun p10 =>
  tq_let (if p10.1 = 0 then (1 : Int32) else (0 : Int32)) fun p11 =>
  (tq_is p10.2 t 11).bind fun _ =>
  (f_X11_refused t p11 p10.2).bind fun v12 =>
  (if v12.1 = 0 then
    (tq_gr v12.2 t 11 29).bind fun k14 =>
    (tq_aj v12.2 k14 (((60 : Int32) * a1) + a2)).bind fun x15 =>
    (f_X11_bits x15 v12.2).bind fun v16 =>
    some v16
  else
    some (0 : Int32)).bind fun p17 =>
  some (p17, v12.2)
set_option maxHeartbeats 4000000 in
set_option maxRecDepth 20000 in
theorem w_X11_found {l : Launch} {d : Nat} (hd9 : 7 ≤ d) {t : Nat} {a1 : Int32} {a2 : Int32} {h : tq_H} {o : Int32 × tq_H} {Q : tq_R → tq_H → Prop} (hf : f_X11_found t a1 a2 h = some o) (hQ : ∀ r h9, r = .inl (some (.int o.1)) ∧ o.2 = h9 → Q r h9) : tq_C l yX11_found cX11_found 4 (some .int) d 0 0 [.ref t, .int a1, .int a2] h Q := by
  refine tq_body (y := yX11_found) false (by decide +kernel) (fun z => by cases z) (Nat.le_of_ble_eq_true rfl) ?_
  show tq_W l mX11_found d 0 0 Q 0 [(0, .ref t), (1, .int a1), (2, .int a2)] [] h
  refine tq_aload_n (M := mX11_found) (pc := 0) dX11_found_0 rfl ?_
  refine tq_iload_n (M := mX11_found) (pc := 1) dX11_found_1 rfl ?_
  obtain ⟨⟨⟩, eu2, hf⟩ := tq_be hf
  obtain ⟨fsu2, eu2⟩ := tq_is_s eu2
  obtain ⟨v1, ev1, hf⟩ := tq_be hf
  refine tq_calV (M := mX11_found) (pc := 2) (S := []) tk_y_X11_isPath tk_v_X11_isPath tk_RX11_305 dX11_found_2 [.int a1] rfl (S0 := _) rfl eu2 rfl (Nat.le_of_ble_eq_true rfl) (d1 := d - 1) (b1 := 0) (s1 := 0) (bc' := 0) (bs' := 0) (Q1 := fun r h9 => r = .inl (some (.int v1)) ∧ h = h9) (by omega) rfl rfl (w_X11_isPath (by omega) ev1 (fun _ _ q => q)) (fun E h9 q => nomatch (show (Sum.inr E : tq_R) = Sum.inl _ from q.1)) (fun r9 h9 q => ?_)
  obtain ⟨q1, rfl⟩ := q
  cases (show (Sum.inl r9 : tq_R) = Sum.inl (some (.int v1)) from q1)
  obtain ⟨p5, ep5, hf⟩ := tq_be hf
  have HJ5 : tq_W l mX11_found d 0 0 Q 21 [(0, .ref t), (1, .int a1), (2, .int a2)] [.int p5] h := by
    refine tq_istore_n (M := mX11_found) (pc := 21) rfl dX11_found_21 (L2 := [(3, .int p5), (0, .ref t), (1, .int a1), (2, .int a2)]) (by decide) rfl ?_
    refine tq_iload_n (M := mX11_found) (pc := 22) dX11_found_22 rfl ?_
    obtain ⟨p10, ep10, hf⟩ := tq_be hf
    have HJ23 : tq_W l mX11_found d 0 0 Q 49 [(0, .ref t), (1, .int a1), (2, .int a2), (3, .int p10.1)] [] p10.2 := by
      refine tq_aload_n (M := mX11_found) (pc := 49) dX11_found_49 rfl ?_
      refine tq_iload_n (M := mX11_found) (pc := 50) dX11_found_50 rfl ?_
      obtain ⟨p11, ep11, hf⟩ := tq_le hf
      have HJ51 : tq_W l mX11_found d 0 0 Q 59 [(0, .ref t), (1, .int a1), (2, .int a2)] [.int p11, .ref t] p10.2 := by
        obtain ⟨⟨⟩, eu13, hf⟩ := tq_be hf
        obtain ⟨fsu13, eu13⟩ := tq_is_s eu13
        obtain ⟨v12, ev12, hf⟩ := tq_be hf
        refine tq_calV (M := mX11_found) (pc := 59) (S := []) tk_y_X11_refused tk_v_X11_refused tk_RX11_204 dX11_found_59 [.int p11] rfl (S0 := _) rfl eu13 rfl (Nat.le_of_ble_eq_true rfl) (d1 := d - 1) (b1 := 0) (s1 := 0) (bc' := 0) (bs' := 0) (Q1 := fun r h9 => r = .inl (some (.int v12.1)) ∧ v12.2 = h9) (by omega) rfl rfl (w_X11_refused (by omega) ev12 (fun _ _ q => q)) (fun E h9 q => nomatch (show (Sum.inr E : tq_R) = Sum.inl _ from q.1)) (fun r9 h9 q => ?_)
        obtain ⟨q1, rfl⟩ := q
        cases (show (Sum.inl r9 : tq_R) = Sum.inl (some (.int v12.1)) from q1)
        obtain ⟨p17, ep17, hf⟩ := tq_be hf
        have HJ62 : tq_W l mX11_found d 0 0 Q 83 [] [.int p17] v12.2 := by
          refine tq_iret (M := mX11_found) (pc := 83) dX11_found_83 rfl ?_
          cases (Option.some.inj hf)
          exact hQ _ _ ⟨rfl, rfl⟩
        refine tq_if_eq (M := mX11_found) (pc := 62) (tgt := 69) dX11_found_62 (by decide) (fun cc => ?_) (fun cc => ?_)
        · have hf := tq_ifp ep17 cc
          refine tq_aload_n (M := mX11_found) (pc := 69) dX11_found_69 rfl ?_
          obtain ⟨k14, ek14, hf⟩ := tq_be hf
          refine tq_getR (M := mX11_found) (pc := 70) tk_c11 (by decide) dX11_found_70 tk_RX11_80 rfl ek14 ?_
          refine tq_bipush (M := mX11_found) (pc := 73) dX11_found_73 tk_kb_60 ?_
          refine tq_iload_n (M := mX11_found) (pc := 75) dX11_found_75 rfl ?_
          refine tq_imul (M := mX11_found) (pc := 76) dX11_found_76 ?_
          refine tq_iload_n (M := mX11_found) (pc := 77) dX11_found_77 rfl ?_
          refine tq_iadd (M := mX11_found) (pc := 78) dX11_found_78 ?_
          obtain ⟨x15, ex15, hf⟩ := tq_be hf
          refine tq_laldF (M := mX11_found) (pc := 79) dX11_found_79 ex15 ?_
          obtain ⟨v16, ev16, hf⟩ := tq_be hf
          refine tq_calS (M := mX11_found) (pc := 80) (S := []) tk_y_X11_bits tk_s_X11_bits tk_RX11_361 dX11_found_80 [.long x15] rfl (Nat.le_of_ble_eq_true rfl) (d1 := d - 1) (b1 := 0) (s1 := 0) (bc' := 0) (bs' := 0) (Q1 := fun r h9 => r = .inl (some (.int v16)) ∧ v12.2 = h9) (by omega) rfl rfl (w_X11_bits (by omega) ev16 (fun _ _ q => q)) (fun E h9 q => nomatch (show (Sum.inr E : tq_R) = Sum.inl _ from q.1)) (fun r9 h9 q => ?_)
          obtain ⟨q1, rfl⟩ := q
          cases (show (Sum.inl r9 : tq_R) = Sum.inl (some (.int v16)) from q1)
          refine tq_pick (L2 := []) [] rfl ?_
          cases (Option.some.inj hf)
          exact HJ62
        · have hf := tq_ifn ep17 cc
          refine tq_iconst (M := mX11_found) (pc := 65) dX11_found_65 tk_ki_0 ?_
          refine tq_goto (M := mX11_found) (pc := 66) (tgt := 83) dX11_found_66 (by decide) ?_
          refine tq_pick (L2 := []) [] rfl ?_
          cases (Option.some.inj hf)
          exact HJ62
      refine tq_if_eq (M := mX11_found) (pc := 51) (tgt := 58) dX11_found_51 (by decide) (fun cc => ?_) (fun cc => ?_)
      · have hf := tq_ifp ep11.symm cc
        refine tq_iconst (M := mX11_found) (pc := 58) dX11_found_58 tk_ki_1 ?_
        refine tq_pick (L2 := [(0, .ref t), (1, .int a1), (2, .int a2)]) [0, 1, 2] rfl ?_
        cases hf
        exact HJ51
      · have hf := tq_ifn ep11.symm cc
        refine tq_iconst (M := mX11_found) (pc := 54) dX11_found_54 tk_ki_0 ?_
        refine tq_goto (M := mX11_found) (pc := 55) (tgt := 59) dX11_found_55 (by decide) ?_
        refine tq_pick (L2 := [(0, .ref t), (1, .int a1), (2, .int a2)]) [0, 1, 2] rfl ?_
        cases hf
        exact HJ51
    refine tq_if_eq (M := mX11_found) (pc := 23) (tgt := 49) dX11_found_23 (by decide) (fun cc => ?_) (fun cc => ?_)
    · have hf := tq_ifp ep10 cc
      refine tq_pick (L2 := [(0, .ref t), (1, .int a1), (2, .int a2), (3, .int p5)]) [1, 2, 3, 0] rfl ?_
      cases (Option.some.inj hf)
      exact HJ23
    · have hf := tq_ifn ep10 cc
      refine tq_aload_n (M := mX11_found) (pc := 26) dX11_found_26 rfl ?_
      obtain ⟨⟨⟩, eu7, hf⟩ := tq_be hf
      obtain ⟨fsu7, eu7⟩ := tq_is_s eu7
      obtain ⟨v6, ev6, hf⟩ := tq_be hf
      refine tq_calV (M := mX11_found) (pc := 27) (S := []) tk_y_X11_read tk_v_X11_read tk_RX11_358 dX11_found_27 [] rfl (S0 := _) rfl eu7 rfl (Nat.le_of_ble_eq_true rfl) (d1 := d - 1) (b1 := 0) (s1 := 0) (bc' := 0) (bs' := 0) (Q1 := fun r h9 => r = .inl none ∧ v6 = h9) (by omega) rfl rfl (w_X11_read (by omega) ev6 (fun _ _ q => q)) (fun E h9 q => nomatch (show (Sum.inr E : tq_R) = Sum.inl _ from q.1)) (fun r9 h9 q => ?_)
      obtain ⟨q1, rfl⟩ := q
      cases (show (Sum.inl r9 : tq_R) = Sum.inl (none) from q1)
      refine tq_aload_n (M := mX11_found) (pc := 30) dX11_found_30 rfl ?_
      obtain ⟨x8, ex8, hf⟩ := tq_be hf
      refine tq_getL (M := mX11_found) (pc := 31) tk_c11 (by decide) dX11_found_31 tk_RX11_325 rfl ex8 ?_
      refine tq_iload_n (M := mX11_found) (pc := 34) dX11_found_34 rfl ?_
      refine tq_lshr (M := mX11_found) (pc := 35) dX11_found_35 ?_
      refine tq_lconst (M := mX11_found) (pc := 36) dX11_found_36 tk_kl_1 ?_
      refine tq_land (M := mX11_found) (pc := 37) dX11_found_37 ?_
      refine tq_lconst (M := mX11_found) (pc := 38) dX11_found_38 tk_kl_1 ?_
      refine tq_lcmp (M := mX11_found) (pc := 39) dX11_found_39 ?_
      obtain ⟨p9, ep9, hf⟩ := tq_le hf
      have HJ40 : tq_W l mX11_found d 0 0 Q 48 [(0, .ref t), (1, .int a1), (2, .int a2)] [.int p9] v6 := by
        refine tq_istore_n (M := mX11_found) (pc := 48) rfl dX11_found_48 (L2 := [(3, .int p9), (0, .ref t), (1, .int a1), (2, .int a2)]) (by decide) rfl ?_
        refine tq_pick (L2 := [(0, .ref t), (1, .int a1), (2, .int a2), (3, .int p9)]) [1, 2, 3, 0] rfl ?_
        cases (Option.some.inj hf)
        exact HJ23
      refine tq_if_ne (M := mX11_found) (pc := 40) (tgt := 47) dX11_found_40 (by decide) (fun cc => ?_) (fun cc => ?_)
      · have hf := tq_ifn ep9.symm cc
        refine tq_iconst (M := mX11_found) (pc := 47) dX11_found_47 tk_ki_0 ?_
        refine tq_pick (L2 := [(0, .ref t), (1, .int a1), (2, .int a2)]) [1, 2, 3] rfl ?_
        cases hf
        exact HJ40
      · have hf := tq_ifp ep9.symm cc
        refine tq_iconst (M := mX11_found) (pc := 43) dX11_found_43 tk_ki_1 ?_
        refine tq_goto (M := mX11_found) (pc := 44) (tgt := 48) dX11_found_44 (by decide) ?_
        refine tq_pick (L2 := [(0, .ref t), (1, .int a1), (2, .int a2)]) [1, 2, 3] rfl ?_
        cases hf
        exact HJ40
  refine tq_if_eq (M := mX11_found) (pc := 5) (tgt := 20) dX11_found_5 (by decide) (fun cc => ?_) (fun cc => ?_)
  · have hf := tq_ifp ep5 cc
    refine tq_iconst (M := mX11_found) (pc := 20) dX11_found_20 tk_ki_0 ?_
    cases (Option.some.inj hf)
    exact HJ5
  · have hf := tq_ifn ep5 cc
    refine tq_aload_n (M := mX11_found) (pc := 8) dX11_found_8 rfl ?_
    refine tq_iload_n (M := mX11_found) (pc := 9) dX11_found_9 rfl ?_
    obtain ⟨⟨⟩, eu4, hf⟩ := tq_be hf
    obtain ⟨fsu4, eu4⟩ := tq_is_s eu4
    obtain ⟨v3, ev3, hf⟩ := tq_be hf
    refine tq_calV (M := mX11_found) (pc := 10) (S := []) tk_y_X11_isNode tk_v_X11_isNode tk_RX11_194 dX11_found_10 [.int a2] rfl (S0 := _) rfl eu4 rfl (Nat.le_of_ble_eq_true rfl) (d1 := d - 1) (b1 := 0) (s1 := 0) (bc' := 0) (bs' := 0) (Q1 := fun r h9 => r = .inl (some (.int v3)) ∧ h = h9) (by omega) rfl rfl (w_X11_isNode (by omega) ev3 (fun _ _ q => q)) (fun E h9 q => nomatch (show (Sum.inr E : tq_R) = Sum.inl _ from q.1)) (fun r9 h9 q => ?_)
    obtain ⟨q1, rfl⟩ := q
    cases (show (Sum.inl r9 : tq_R) = Sum.inl (some (.int v3)) from q1)
    refine tq_if_eq (M := mX11_found) (pc := 13) (tgt := 20) dX11_found_13 (by decide) (fun cc => ?_) (fun cc => ?_)
    · have hf := tq_ifp hf cc
      refine tq_iconst (M := mX11_found) (pc := 20) dX11_found_20 tk_ki_0 ?_
      cases (Option.some.inj hf)
      exact HJ5
    · have hf := tq_ifn hf cc
      refine tq_iconst (M := mX11_found) (pc := 16) dX11_found_16 tk_ki_1 ?_
      refine tq_goto (M := mX11_found) (pc := 17) (tgt := 21) dX11_found_17 (by decide) ?_
      cases (Option.some.inj hf)
      exact HJ5
abbrev mX11_foundAnew : tq_M := (RX11, cX11_foundAnew, 3, (some .int), false, [], none)
def f_X11_foundAnew (t : Nat) (a1 : Int32) (a2 : Int32) (h : tq_H) : Option (Int32 × tq_H) :=
  (tq_is h t 11).bind fun _ =>
  (f_X11_found t a1 a2 h).bind fun v1 =>
  some (v1.1, v1.2)
set_option maxHeartbeats 4000000 in
set_option maxRecDepth 20000 in
theorem w_X11_foundAnew {l : Launch} {d : Nat} (hd9 : 8 ≤ d) {t : Nat} {a1 : Int32} {a2 : Int32} {h : tq_H} {o : Int32 × tq_H} {Q : tq_R → tq_H → Prop} (hf : f_X11_foundAnew t a1 a2 h = some o) (hQ : ∀ r h9, r = .inl (some (.int o.1)) ∧ o.2 = h9 → Q r h9) : tq_C l yX11_foundAnew cX11_foundAnew 3 (some .int) d 0 0 [.ref t, .int a1, .int a2] h Q := by
  refine tq_body (y := yX11_foundAnew) false (by decide +kernel) (fun z => by cases z) (Nat.le_of_ble_eq_true rfl) ?_
  show tq_W l mX11_foundAnew d 0 0 Q 0 [(0, .ref t), (1, .int a1), (2, .int a2)] [] h
  refine tq_aload_n (M := mX11_foundAnew) (pc := 0) dX11_foundAnew_0 rfl ?_
  refine tq_iload_n (M := mX11_foundAnew) (pc := 1) dX11_foundAnew_1 rfl ?_
  refine tq_iload_n (M := mX11_foundAnew) (pc := 2) dX11_foundAnew_2 rfl ?_
  obtain ⟨⟨⟩, eu2, hf⟩ := tq_be hf
  obtain ⟨fsu2, eu2⟩ := tq_is_s eu2
  obtain ⟨v1, ev1, hf⟩ := tq_be hf
  refine tq_calV (M := mX11_foundAnew) (pc := 3) (S := []) tk_y_X11_found tk_v_X11_found tk_RX11_365 dX11_foundAnew_3 [.int a1, .int a2] rfl (S0 := _) rfl eu2 rfl (Nat.le_of_ble_eq_true rfl) (d1 := d - 1) (b1 := 0) (s1 := 0) (bc' := 0) (bs' := 0) (Q1 := fun r h9 => r = .inl (some (.int v1.1)) ∧ v1.2 = h9) (by omega) rfl rfl (w_X11_found (by omega) ev1 (fun _ _ q => q)) (fun E h9 q => nomatch (show (Sum.inr E : tq_R) = Sum.inl _ from q.1)) (fun r9 h9 q => ?_)
  obtain ⟨q1, rfl⟩ := q
  cases (show (Sum.inl r9 : tq_R) = Sum.inl (some (.int v1.1)) from q1)
  refine tq_iret (M := mX11_foundAnew) (pc := 6) dX11_foundAnew_6 rfl ?_
  cases (Option.some.inj hf)
  exact hQ _ _ ⟨rfl, rfl⟩
abbrev mX11_pick : tq_M := (RX11, cX11_pick, 8, (some .int), false, [], none)
def f_X11_pick_b9 (i0 : Nat) (i1 : Int64) (i3 : Int32) (hh : tq_H) (s : Int32 × Int32 × Int32) : Option ((Int32 × Int32 × Int32) ⊕ (Int32)) := match s with
  | (y4, y5, y6) =>
    (tq_gi hh i0 11 11).bind fun x1 =>
    if y6 ≥ x1 then
      some (.inr y4)
    else
      (tq_gr hh i0 11 12).bind fun k2 =>
      (tq_ai hh k2 y6).bind fun x3 =>
      tq_let (if (lg_cmp ((i1 >>> (x3.toInt64 &&& 63)) &&& (1 : Int64)) (1 : Int64)) = 0 then (1 : Int32) else (0 : Int32)) fun p4 =>
      (if p4 = 0 then
        some y4
      else
        if y5 = i3 then
          (tq_gr hh i0 11 12).bind fun k5 =>
          (tq_ai hh k5 y6).bind fun x6 =>
          some x6
        else
          some y4).bind fun p7 =>
      tq_let (if p4 = 0 then (0 : Int32) else (1 : Int32)) fun p8 =>
      tq_let ((y5 + p8)) fun x9 =>
      tq_let (y6 + (1 : Int32)) fun x10 =>
      some (.inl (p7, x9, x10))
def f_X11_pick (t : Nat) (a1 : Int64) (a3 : Int32) (h : tq_H) : Option (Int32) :=
  (tq_loop (f_X11_pick_b9 t a1 a3 h) tq_N ((-1 : Int32), (0 : Int32), (0 : Int32))).bind fun o11 =>
  some o11
set_option maxHeartbeats 4000000 in
theorem l_X11_pick_9 {l : Launch} {d : Nat} {Q : tq_R → tq_H → Prop} (hd9 : 0 ≤ d) (i0 : Nat) (i1 : Int64) (i3 : Int32) (hh : tq_H) : ∀ (n : Nat) (y4 : Int32) (y5 : Int32) (y6 : Int32) (o : Int32), tq_loop (f_X11_pick_b9 i0 i1 i3 hh) n (y4, y5, y6) = some o → tq_W l mX11_pick d 0 0 Q 87 [(4, .int o)] [] hh → tq_W l mX11_pick d 0 0 Q 9 [(0, .ref i0), (1, .long i1), (3, .int i3), (4, .int y4), (5, .int y5), (6, .int y6)] [] hh := by
  intro n
  induction n with
  | zero => intro y4 y5 y6 o hl; cases hl
  | succ n ih =>
    intro y4 y5 y6 o hl hk
    obtain ⟨oo, hf, ho⟩ := tq_loop_s hl
    refine tq_iload (M := mX11_pick) (pc := 9) dX11_pick_9 rfl ?_
    refine tq_aload_n (M := mX11_pick) (pc := 11) dX11_pick_11 rfl ?_
    obtain ⟨x1, ex1, hf⟩ := tq_be hf
    refine tq_getI (M := mX11_pick) (pc := 12) tk_c11 (by decide) dX11_pick_12 tk_RX11_173 rfl ex1 ?_
    refine tq_icmp_ge (M := mX11_pick) (pc := 15) (tgt := 87) dX11_pick_15 (by decide) (fun cc => ?_) (fun cc => ?_)
    · have hf := tq_ifp hf cc
      refine tq_pick (L2 := [(4, .int y4)]) [3] rfl ?_
      cases (Option.some.inj hf)
      cases (tq_lx ho)
      exact hk
    · have hf := tq_ifn hf cc
      refine tq_lload_n (M := mX11_pick) (pc := 18) dX11_pick_18 rfl ?_
      refine tq_aload_n (M := mX11_pick) (pc := 19) dX11_pick_19 rfl ?_
      obtain ⟨k2, ek2, hf⟩ := tq_be hf
      refine tq_getR (M := mX11_pick) (pc := 20) tk_c11 (by decide) dX11_pick_20 tk_RX11_35 rfl ek2 ?_
      refine tq_iload (M := mX11_pick) (pc := 23) dX11_pick_23 rfl ?_
      obtain ⟨x3, ex3, hf⟩ := tq_be hf
      refine tq_ialdF (M := mX11_pick) (pc := 25) dX11_pick_25 ex3 ?_
      refine tq_lshr (M := mX11_pick) (pc := 26) dX11_pick_26 ?_
      refine tq_lconst (M := mX11_pick) (pc := 27) dX11_pick_27 tk_kl_1 ?_
      refine tq_land (M := mX11_pick) (pc := 28) dX11_pick_28 ?_
      refine tq_lconst (M := mX11_pick) (pc := 29) dX11_pick_29 tk_kl_1 ?_
      refine tq_lcmp (M := mX11_pick) (pc := 30) dX11_pick_30 ?_
      obtain ⟨p4, ep4, hf⟩ := tq_le hf
      have HJ31 : tq_W l mX11_pick d 0 0 Q 39 [(0, .ref i0), (1, .long i1), (3, .int i3), (4, .int y4), (5, .int y5), (6, .int y6)] [.int p4] hh := by
        refine tq_istore (M := mX11_pick) (pc := 39) dX11_pick_39 (L2 := [(7, .int p4), (0, .ref i0), (1, .long i1), (3, .int i3), (4, .int y4), (5, .int y5), (6, .int y6)]) (by decide) rfl ?_
        refine tq_iload (M := mX11_pick) (pc := 41) dX11_pick_41 rfl ?_
        obtain ⟨p7, ep7, hf⟩ := tq_be hf
        have HJ43 : tq_W l mX11_pick d 0 0 Q 64 [(0, .ref i0), (1, .long i1), (3, .int i3), (5, .int y5), (6, .int y6), (7, .int p4)] [.int p7] hh := by
          refine tq_istore (M := mX11_pick) (pc := 64) dX11_pick_64 (L2 := [(4, .int p7), (0, .ref i0), (1, .long i1), (3, .int i3), (5, .int y5), (6, .int y6), (7, .int p4)]) (by decide) rfl ?_
          refine tq_iload (M := mX11_pick) (pc := 66) dX11_pick_66 rfl ?_
          refine tq_iload (M := mX11_pick) (pc := 68) dX11_pick_68 rfl ?_
          obtain ⟨p8, ep8, hf⟩ := tq_le hf
          have HJ70 : tq_W l mX11_pick d 0 0 Q 78 [(0, .ref i0), (1, .long i1), (3, .int i3), (4, .int p7), (6, .int y6)] [.int p8, .int y5] hh := by
            refine tq_iadd (M := mX11_pick) (pc := 78) dX11_pick_78 ?_
            obtain ⟨x9, ex9, hf⟩ := tq_le hf
            refine tq_istore (M := mX11_pick) (pc := 79) dX11_pick_79 (L2 := [(5, .int x9), (0, .ref i0), (1, .long i1), (3, .int i3), (4, .int p7), (6, .int y6)]) (by decide) (by rw [ex9]; rfl) ?_
            obtain ⟨x10, ex10, hf⟩ := tq_le hf
            refine tq_iinc (M := mX11_pick) (pc := 81) (v := x10) (L2 := [(6, .int x10), (5, .int x9), (0, .ref i0), (1, .long i1), (3, .int i3), (4, .int p7)]) dX11_pick_81 rfl (by rw [ex10, tk_ki_1]) (by decide) rfl ?_
            refine tq_goto (M := mX11_pick) (pc := 84) (tgt := 9) dX11_pick_84 (by decide) ?_
            refine tq_pick (L2 := [(0, .ref i0), (1, .long i1), (3, .int i3), (4, .int p7), (5, .int x9), (6, .int x10)]) [2, 3, 4, 5, 1, 0] rfl ?_
            cases (Option.some.inj hf)
            exact ih _ _ _ o (tq_lc ho) hk
          refine tq_if_eq (M := mX11_pick) (pc := 70) (tgt := 77) dX11_pick_70 (by decide) (fun cc => ?_) (fun cc => ?_)
          · have hf := tq_ifp ep8.symm cc
            refine tq_iconst (M := mX11_pick) (pc := 77) dX11_pick_77 tk_ki_0 ?_
            refine tq_pick (L2 := [(0, .ref i0), (1, .long i1), (3, .int i3), (4, .int p7), (6, .int y6)]) [1, 2, 3, 0, 5] rfl ?_
            cases hf
            exact HJ70
          · have hf := tq_ifn ep8.symm cc
            refine tq_iconst (M := mX11_pick) (pc := 73) dX11_pick_73 tk_ki_1 ?_
            refine tq_goto (M := mX11_pick) (pc := 74) (tgt := 78) dX11_pick_74 (by decide) ?_
            refine tq_pick (L2 := [(0, .ref i0), (1, .long i1), (3, .int i3), (4, .int p7), (6, .int y6)]) [1, 2, 3, 0, 5] rfl ?_
            cases hf
            exact HJ70
        refine tq_if_eq (M := mX11_pick) (pc := 43) (tgt := 62) dX11_pick_43 (by decide) (fun cc => ?_) (fun cc => ?_)
        · have hf := tq_ifp ep7 cc
          refine tq_iload (M := mX11_pick) (pc := 62) dX11_pick_62 rfl ?_
          refine tq_pick (L2 := [(0, .ref i0), (1, .long i1), (3, .int i3), (5, .int y5), (6, .int y6), (7, .int p4)]) [1, 2, 3, 5, 6, 0] rfl ?_
          cases (Option.some.inj hf)
          exact HJ43
        · have hf := tq_ifn ep7 cc
          refine tq_iload (M := mX11_pick) (pc := 46) dX11_pick_46 rfl ?_
          refine tq_iload_n (M := mX11_pick) (pc := 48) dX11_pick_48 rfl ?_
          refine tq_icmp_ne (M := mX11_pick) (pc := 49) (tgt := 62) dX11_pick_49 (by decide) (fun cc => ?_) (fun cc => ?_)
          · have hf := tq_ifn hf cc
            refine tq_iload (M := mX11_pick) (pc := 62) dX11_pick_62 rfl ?_
            refine tq_pick (L2 := [(0, .ref i0), (1, .long i1), (3, .int i3), (5, .int y5), (6, .int y6), (7, .int p4)]) [1, 2, 3, 5, 6, 0] rfl ?_
            cases (Option.some.inj hf)
            exact HJ43
          · have hf := tq_ifp hf cc
            refine tq_aload_n (M := mX11_pick) (pc := 52) dX11_pick_52 rfl ?_
            obtain ⟨k5, ek5, hf⟩ := tq_be hf
            refine tq_getR (M := mX11_pick) (pc := 53) tk_c11 (by decide) dX11_pick_53 tk_RX11_35 rfl ek5 ?_
            refine tq_iload (M := mX11_pick) (pc := 56) dX11_pick_56 rfl ?_
            obtain ⟨x6, ex6, hf⟩ := tq_be hf
            refine tq_ialdF (M := mX11_pick) (pc := 58) dX11_pick_58 ex6 ?_
            refine tq_goto (M := mX11_pick) (pc := 59) (tgt := 64) dX11_pick_59 (by decide) ?_
            refine tq_pick (L2 := [(0, .ref i0), (1, .long i1), (3, .int i3), (5, .int y5), (6, .int y6), (7, .int p4)]) [1, 2, 3, 5, 6, 0] rfl ?_
            cases (Option.some.inj hf)
            exact HJ43
      refine tq_if_ne (M := mX11_pick) (pc := 31) (tgt := 38) dX11_pick_31 (by decide) (fun cc => ?_) (fun cc => ?_)
      · have hf := tq_ifn ep4.symm cc
        refine tq_iconst (M := mX11_pick) (pc := 38) dX11_pick_38 tk_ki_0 ?_
        cases hf
        exact HJ31
      · have hf := tq_ifp ep4.symm cc
        refine tq_iconst (M := mX11_pick) (pc := 34) dX11_pick_34 tk_ki_1 ?_
        refine tq_goto (M := mX11_pick) (pc := 35) (tgt := 39) dX11_pick_35 (by decide) ?_
        cases hf
        exact HJ31
set_option maxHeartbeats 4000000 in
set_option maxRecDepth 20000 in
theorem w_X11_pick {l : Launch} {d : Nat} (hd9 : 0 ≤ d) {t : Nat} {a1 : Int64} {a3 : Int32} {h : tq_H} {o : Int32} {Q : tq_R → tq_H → Prop} (hf : f_X11_pick t a1 a3 h = some o) (hQ : ∀ r h9, r = .inl (some (.int o)) ∧ h = h9 → Q r h9) : tq_C l yX11_pick cX11_pick 8 (some .int) d 0 0 [.ref t, .long a1, .int a3] h Q := by
  refine tq_body (y := yX11_pick) false (by decide +kernel) (fun z => by cases z) (Nat.le_of_ble_eq_true rfl) ?_
  show tq_W l mX11_pick d 0 0 Q 0 [(0, .ref t), (1, .long a1), (3, .int a3)] [] h
  refine tq_iconst (M := mX11_pick) (pc := 0) dX11_pick_0 tk_ki_m1 ?_
  refine tq_istore (M := mX11_pick) (pc := 1) dX11_pick_1 (L2 := [(4, .int (-1 : Int32)), (0, .ref t), (1, .long a1), (3, .int a3)]) (by decide) rfl ?_
  refine tq_iconst (M := mX11_pick) (pc := 3) dX11_pick_3 tk_ki_0 ?_
  refine tq_istore (M := mX11_pick) (pc := 4) dX11_pick_4 (L2 := [(5, .int (0 : Int32)), (4, .int (-1 : Int32)), (0, .ref t), (1, .long a1), (3, .int a3)]) (by decide) rfl ?_
  refine tq_iconst (M := mX11_pick) (pc := 6) dX11_pick_6 tk_ki_0 ?_
  refine tq_istore (M := mX11_pick) (pc := 7) dX11_pick_7 (L2 := [(6, .int (0 : Int32)), (5, .int (0 : Int32)), (4, .int (-1 : Int32)), (0, .ref t), (1, .long a1), (3, .int a3)]) (by decide) rfl ?_
  obtain ⟨o11, eo11, hf⟩ := tq_be hf
  refine tq_pick (L2 := [(0, .ref t), (1, .long a1), (3, .int a3), (4, .int (-1 : Int32)), (5, .int (0 : Int32)), (6, .int (0 : Int32))]) [3, 4, 5, 2, 1, 0] rfl ?_
  refine l_X11_pick_9 (by omega) t a1 a3 h _ (-1 : Int32) (0 : Int32) (0 : Int32) _ eo11 ?_
  refine tq_iload (M := mX11_pick) (pc := 87) dX11_pick_87 rfl ?_
  refine tq_iret (M := mX11_pick) (pc := 89) dX11_pick_89 rfl ?_
  cases (Option.some.inj hf)
  exact hQ _ _ ⟨rfl, rfl⟩
abbrev mX11_foundBy : tq_M := (RX11, cX11_foundBy, 2, (some .long), false, [], none)
def f_X11_foundBy (t : Nat) (a1 : Int32) (h : tq_H) : Option (Int64 × tq_H) :=
  (tq_is h t 11).bind fun _ =>
  (f_X11_isPath t a1 h).bind fun v1 =>
  if v1 = 0 then
    some ((0 : Int64), h)
  else
    (tq_is h t 11).bind fun _ =>
    (f_X11_read t h).bind fun v3 =>
    (tq_gr v3 t 11 29).bind fun k5 =>
    (tq_aj v3 k5 ((60 : Int32) * a1)).bind fun x6 =>
    some (x6, v3)
set_option maxHeartbeats 4000000 in
set_option maxRecDepth 20000 in
theorem w_X11_foundBy {l : Launch} {d : Nat} (hd9 : 7 ≤ d) {t : Nat} {a1 : Int32} {h : tq_H} {o : Int64 × tq_H} {Q : tq_R → tq_H → Prop} (hf : f_X11_foundBy t a1 h = some o) (hQ : ∀ r h9, r = .inl (some (.long o.1)) ∧ o.2 = h9 → Q r h9) : tq_C l yX11_foundBy cX11_foundBy 2 (some .long) d 0 0 [.ref t, .int a1] h Q := by
  refine tq_body (y := yX11_foundBy) false (by decide +kernel) (fun z => by cases z) (Nat.le_of_ble_eq_true rfl) ?_
  show tq_W l mX11_foundBy d 0 0 Q 0 [(0, .ref t), (1, .int a1)] [] h
  refine tq_aload_n (M := mX11_foundBy) (pc := 0) dX11_foundBy_0 rfl ?_
  refine tq_iload_n (M := mX11_foundBy) (pc := 1) dX11_foundBy_1 rfl ?_
  obtain ⟨⟨⟩, eu2, hf⟩ := tq_be hf
  obtain ⟨fsu2, eu2⟩ := tq_is_s eu2
  obtain ⟨v1, ev1, hf⟩ := tq_be hf
  refine tq_calV (M := mX11_foundBy) (pc := 2) (S := []) tk_y_X11_isPath tk_v_X11_isPath tk_RX11_305 dX11_foundBy_2 [.int a1] rfl (S0 := _) rfl eu2 rfl (Nat.le_of_ble_eq_true rfl) (d1 := d - 1) (b1 := 0) (s1 := 0) (bc' := 0) (bs' := 0) (Q1 := fun r h9 => r = .inl (some (.int v1)) ∧ h = h9) (by omega) rfl rfl (w_X11_isPath (by omega) ev1 (fun _ _ q => q)) (fun E h9 q => nomatch (show (Sum.inr E : tq_R) = Sum.inl _ from q.1)) (fun r9 h9 q => ?_)
  obtain ⟨q1, rfl⟩ := q
  cases (show (Sum.inl r9 : tq_R) = Sum.inl (some (.int v1)) from q1)
  refine tq_if_ne (M := mX11_foundBy) (pc := 5) (tgt := 10) dX11_foundBy_5 (by decide) (fun cc => ?_) (fun cc => ?_)
  · have hf := tq_ifn hf cc
    refine tq_aload_n (M := mX11_foundBy) (pc := 10) dX11_foundBy_10 rfl ?_
    obtain ⟨⟨⟩, eu4, hf⟩ := tq_be hf
    obtain ⟨fsu4, eu4⟩ := tq_is_s eu4
    obtain ⟨v3, ev3, hf⟩ := tq_be hf
    refine tq_calV (M := mX11_foundBy) (pc := 11) (S := []) tk_y_X11_read tk_v_X11_read tk_RX11_358 dX11_foundBy_11 [] rfl (S0 := _) rfl eu4 rfl (Nat.le_of_ble_eq_true rfl) (d1 := d - 1) (b1 := 0) (s1 := 0) (bc' := 0) (bs' := 0) (Q1 := fun r h9 => r = .inl none ∧ v3 = h9) (by omega) rfl rfl (w_X11_read (by omega) ev3 (fun _ _ q => q)) (fun E h9 q => nomatch (show (Sum.inr E : tq_R) = Sum.inl _ from q.1)) (fun r9 h9 q => ?_)
    obtain ⟨q1, rfl⟩ := q
    cases (show (Sum.inl r9 : tq_R) = Sum.inl (none) from q1)
    refine tq_aload_n (M := mX11_foundBy) (pc := 14) dX11_foundBy_14 rfl ?_
    obtain ⟨k5, ek5, hf⟩ := tq_be hf
    refine tq_getR (M := mX11_foundBy) (pc := 15) tk_c11 (by decide) dX11_foundBy_15 tk_RX11_80 rfl ek5 ?_
    refine tq_bipush (M := mX11_foundBy) (pc := 18) dX11_foundBy_18 tk_kb_60 ?_
    refine tq_iload_n (M := mX11_foundBy) (pc := 20) dX11_foundBy_20 rfl ?_
    refine tq_imul (M := mX11_foundBy) (pc := 21) dX11_foundBy_21 ?_
    obtain ⟨x6, ex6, hf⟩ := tq_be hf
    refine tq_laldF (M := mX11_foundBy) (pc := 22) dX11_foundBy_22 ex6 ?_
    refine tq_lret (M := mX11_foundBy) (pc := 23) dX11_foundBy_23 rfl ?_
    cases (Option.some.inj hf)
    exact hQ _ _ ⟨rfl, rfl⟩
  · have hf := tq_ifp hf cc
    refine tq_lconst (M := mX11_foundBy) (pc := 8) dX11_foundBy_8 tk_kl_0 ?_
    refine tq_lret (M := mX11_foundBy) (pc := 9) dX11_foundBy_9 rfl ?_
    cases (Option.some.inj hf)
    exact hQ _ _ ⟨rfl, rfl⟩
abbrev mX11_foundAt : tq_M := (RX11, cX11_foundAt, 5, (some .int), false, [], none)
def f_X11_foundAt (t : Nat) (a1 : Int32) (a2 : Int32) (h : tq_H) : Option (Int32 × tq_H) :=
  (tq_is h t 11).bind fun _ =>
  (f_X11_foundBy t a1 h).bind fun v1 =>
  (f_X11_bits v1.1 v1.2).bind fun v3 =>
  (f_X11_in a2 (0 : Int32) (v3 - (1 : Int32)) v1.2).bind fun v4 =>
  tq_let (if v4 = 0 then (1 : Int32) else (0 : Int32)) fun p5 =>
  (tq_is v1.2 t 11).bind fun _ =>
  (f_X11_refused t p5 v1.2).bind fun v6 =>
  (if v6.1 = 0 then
    (tq_is v6.2 t 11).bind fun _ =>
    (f_X11_pick t v1.1 a2 v6.2).bind fun v8 =>
    some v8
  else
    some (0 : Int32)).bind fun p10 =>
  some (p10, v6.2)
set_option maxHeartbeats 4000000 in
set_option maxRecDepth 20000 in
theorem w_X11_foundAt {l : Launch} {d : Nat} (hd9 : 8 ≤ d) {t : Nat} {a1 : Int32} {a2 : Int32} {h : tq_H} {o : Int32 × tq_H} {Q : tq_R → tq_H → Prop} (hf : f_X11_foundAt t a1 a2 h = some o) (hQ : ∀ r h9, r = .inl (some (.int o.1)) ∧ o.2 = h9 → Q r h9) : tq_C l yX11_foundAt cX11_foundAt 5 (some .int) d 0 0 [.ref t, .int a1, .int a2] h Q := by
  refine tq_body (y := yX11_foundAt) false (by decide +kernel) (fun z => by cases z) (Nat.le_of_ble_eq_true rfl) ?_
  show tq_W l mX11_foundAt d 0 0 Q 0 [(0, .ref t), (1, .int a1), (2, .int a2)] [] h
  refine tq_aload_n (M := mX11_foundAt) (pc := 0) dX11_foundAt_0 rfl ?_
  refine tq_iload_n (M := mX11_foundAt) (pc := 1) dX11_foundAt_1 rfl ?_
  obtain ⟨⟨⟩, eu2, hf⟩ := tq_be hf
  obtain ⟨fsu2, eu2⟩ := tq_is_s eu2
  obtain ⟨v1, ev1, hf⟩ := tq_be hf
  refine tq_calV (M := mX11_foundAt) (pc := 2) (S := []) tk_y_X11_foundBy tk_v_X11_foundBy tk_RX11_368 dX11_foundAt_2 [.int a1] rfl (S0 := _) rfl eu2 rfl (Nat.le_of_ble_eq_true rfl) (d1 := d - 1) (b1 := 0) (s1 := 0) (bc' := 0) (bs' := 0) (Q1 := fun r h9 => r = .inl (some (.long v1.1)) ∧ v1.2 = h9) (by omega) rfl rfl (w_X11_foundBy (by omega) ev1 (fun _ _ q => q)) (fun E h9 q => nomatch (show (Sum.inr E : tq_R) = Sum.inl _ from q.1)) (fun r9 h9 q => ?_)
  obtain ⟨q1, rfl⟩ := q
  cases (show (Sum.inl r9 : tq_R) = Sum.inl (some (.long v1.1)) from q1)
  refine tq_lstore_n (M := mX11_foundAt) (pc := 5) rfl dX11_foundAt_5 (L2 := [(3, .long v1.1), (0, .ref t), (1, .int a1), (2, .int a2)]) (by decide) rfl ?_
  refine tq_aload_n (M := mX11_foundAt) (pc := 6) dX11_foundAt_6 rfl ?_
  refine tq_iload_n (M := mX11_foundAt) (pc := 7) dX11_foundAt_7 rfl ?_
  refine tq_iconst (M := mX11_foundAt) (pc := 8) dX11_foundAt_8 tk_ki_0 ?_
  refine tq_lload_n (M := mX11_foundAt) (pc := 9) dX11_foundAt_9 rfl ?_
  obtain ⟨v3, ev3, hf⟩ := tq_be hf
  refine tq_calS (M := mX11_foundAt) (pc := 10) (S := [.int (0 : Int32), .int a2, .ref t]) tk_y_X11_bits tk_s_X11_bits tk_RX11_361 dX11_foundAt_10 [.long v1.1] rfl (Nat.le_of_ble_eq_true rfl) (d1 := d - 1) (b1 := 0) (s1 := 0) (bc' := 0) (bs' := 0) (Q1 := fun r h9 => r = .inl (some (.int v3)) ∧ v1.2 = h9) (by omega) rfl rfl (w_X11_bits (by omega) ev3 (fun _ _ q => q)) (fun E h9 q => nomatch (show (Sum.inr E : tq_R) = Sum.inl _ from q.1)) (fun r9 h9 q => ?_)
  obtain ⟨q1, rfl⟩ := q
  cases (show (Sum.inl r9 : tq_R) = Sum.inl (some (.int v3)) from q1)
  refine tq_iconst (M := mX11_foundAt) (pc := 13) dX11_foundAt_13 tk_ki_1 ?_
  refine tq_isub (M := mX11_foundAt) (pc := 14) dX11_foundAt_14 ?_
  obtain ⟨v4, ev4, hf⟩ := tq_be hf
  refine tq_calS (M := mX11_foundAt) (pc := 15) (S := [.ref t]) tk_y_X11_in tk_s_X11_in tk_RX11_169 dX11_foundAt_15 [.int a2, .int (0 : Int32), .int ((v3 - (1 : Int32)))] rfl (Nat.le_of_ble_eq_true rfl) (d1 := d - 1) (b1 := 0) (s1 := 0) (bc' := 0) (bs' := 0) (Q1 := fun r h9 => r = .inl (some (.int v4)) ∧ v1.2 = h9) (by omega) rfl rfl (w_X11_in (by omega) ev4 (fun _ _ q => q)) (fun E h9 q => nomatch (show (Sum.inr E : tq_R) = Sum.inl _ from q.1)) (fun r9 h9 q => ?_)
  obtain ⟨q1, rfl⟩ := q
  cases (show (Sum.inl r9 : tq_R) = Sum.inl (some (.int v4)) from q1)
  obtain ⟨p5, ep5, hf⟩ := tq_le hf
  have HJ18 : tq_W l mX11_foundAt d 0 0 Q 26 [(0, .ref t), (2, .int a2), (3, .long v1.1)] [.int p5, .ref t] v1.2 := by
    obtain ⟨⟨⟩, eu7, hf⟩ := tq_be hf
    obtain ⟨fsu7, eu7⟩ := tq_is_s eu7
    obtain ⟨v6, ev6, hf⟩ := tq_be hf
    refine tq_calV (M := mX11_foundAt) (pc := 26) (S := []) tk_y_X11_refused tk_v_X11_refused tk_RX11_204 dX11_foundAt_26 [.int p5] rfl (S0 := _) rfl eu7 rfl (Nat.le_of_ble_eq_true rfl) (d1 := d - 1) (b1 := 0) (s1 := 0) (bc' := 0) (bs' := 0) (Q1 := fun r h9 => r = .inl (some (.int v6.1)) ∧ v6.2 = h9) (by omega) rfl rfl (w_X11_refused (by omega) ev6 (fun _ _ q => q)) (fun E h9 q => nomatch (show (Sum.inr E : tq_R) = Sum.inl _ from q.1)) (fun r9 h9 q => ?_)
    obtain ⟨q1, rfl⟩ := q
    cases (show (Sum.inl r9 : tq_R) = Sum.inl (some (.int v6.1)) from q1)
    obtain ⟨p10, ep10, hf⟩ := tq_be hf
    have HJ29 : tq_W l mX11_foundAt d 0 0 Q 42 [] [.int p10] v6.2 := by
      refine tq_iret (M := mX11_foundAt) (pc := 42) dX11_foundAt_42 rfl ?_
      cases (Option.some.inj hf)
      exact hQ _ _ ⟨rfl, rfl⟩
    refine tq_if_eq (M := mX11_foundAt) (pc := 29) (tgt := 36) dX11_foundAt_29 (by decide) (fun cc => ?_) (fun cc => ?_)
    · have hf := tq_ifp ep10 cc
      refine tq_aload_n (M := mX11_foundAt) (pc := 36) dX11_foundAt_36 rfl ?_
      refine tq_lload_n (M := mX11_foundAt) (pc := 37) dX11_foundAt_37 rfl ?_
      refine tq_iload_n (M := mX11_foundAt) (pc := 38) dX11_foundAt_38 rfl ?_
      obtain ⟨⟨⟩, eu9, hf⟩ := tq_be hf
      obtain ⟨fsu9, eu9⟩ := tq_is_s eu9
      obtain ⟨v8, ev8, hf⟩ := tq_be hf
      refine tq_calV (M := mX11_foundAt) (pc := 39) (S := []) tk_y_X11_pick tk_v_X11_pick tk_RX11_372 dX11_foundAt_39 [.long v1.1, .int a2] rfl (S0 := _) rfl eu9 rfl (Nat.le_of_ble_eq_true rfl) (d1 := d - 1) (b1 := 0) (s1 := 0) (bc' := 0) (bs' := 0) (Q1 := fun r h9 => r = .inl (some (.int v8)) ∧ v6.2 = h9) (by omega) rfl rfl (w_X11_pick (by omega) ev8 (fun _ _ q => q)) (fun E h9 q => nomatch (show (Sum.inr E : tq_R) = Sum.inl _ from q.1)) (fun r9 h9 q => ?_)
      obtain ⟨q1, rfl⟩ := q
      cases (show (Sum.inl r9 : tq_R) = Sum.inl (some (.int v8)) from q1)
      refine tq_pick (L2 := []) [] rfl ?_
      cases (Option.some.inj hf)
      exact HJ29
    · have hf := tq_ifn ep10 cc
      refine tq_iconst (M := mX11_foundAt) (pc := 32) dX11_foundAt_32 tk_ki_0 ?_
      refine tq_goto (M := mX11_foundAt) (pc := 33) (tgt := 42) dX11_foundAt_33 (by decide) ?_
      refine tq_pick (L2 := []) [] rfl ?_
      cases (Option.some.inj hf)
      exact HJ29
  refine tq_if_eq (M := mX11_foundAt) (pc := 18) (tgt := 25) dX11_foundAt_18 (by decide) (fun cc => ?_) (fun cc => ?_)
  · have hf := tq_ifp ep5.symm cc
    refine tq_iconst (M := mX11_foundAt) (pc := 25) dX11_foundAt_25 tk_ki_1 ?_
    refine tq_pick (L2 := [(0, .ref t), (2, .int a2), (3, .long v1.1)]) [1, 3, 0] rfl ?_
    cases hf
    exact HJ18
  · have hf := tq_ifn ep5.symm cc
    refine tq_iconst (M := mX11_foundAt) (pc := 21) dX11_foundAt_21 tk_ki_0 ?_
    refine tq_goto (M := mX11_foundAt) (pc := 22) (tgt := 26) dX11_foundAt_22 (by decide) ?_
    refine tq_pick (L2 := [(0, .ref t), (2, .int a2), (3, .long v1.1)]) [1, 3, 0] rfl ?_
    cases hf
    exact HJ18
abbrev mX11_ordered : tq_M := (RX11, cX11_ordered, 11, (some .int), false, [], none)
def f_X11_ordered_b72 (i0 : Nat) (i2 : Int32) (i3 : Int64) (i5 : Int32) (i6 : Int32) (i8 : Int32) (hh : tq_H) (s : Int32 × Int32) : Option ((Int32 × Int32) ⊕ (Int32)) := match s with
  | (y7, y9) =>
    (tq_gi hh i0 11 11).bind fun x14 =>
    if y9 ≥ x14 then
      some (.inr y7)
    else
      (tq_gr hh i0 11 12).bind fun k15 =>
      (tq_ai hh k15 y9).bind fun x16 =>
      (tq_gl hh i0 11 31).bind fun x17 =>
      (tq_is hh i0 11).bind fun _ =>
      (f_X11_valueOf i0 x16 x17 hh).bind fun v18 =>
      (tq_gr hh i0 11 12).bind fun k20 =>
      (tq_ai hh k20 y9).bind fun x21 =>
      tq_let (if (lg_cmp ((i3 >>> (x21.toInt64 &&& 63)) &&& (1 : Int64)) (1 : Int64)) = 0 then (if v18 < i8 then (1 : Int32) else if v18 = i8 then if y9 ≥ i6 then (0 : Int32) else (1 : Int32) else (0 : Int32)) else (0 : Int32)) fun p22 =>
      tq_let ((y7 + p22)) fun x23 =>
      tq_let (y9 + (1 : Int32)) fun x24 =>
      some (.inl (x23, x24))
def f_X11_ordered_b40 (i0 : Nat) (i2 : Int32) (i3 : Int64) (hh : tq_H) (s : Int32 × Int32) : Option ((Int32 × Int32) ⊕ (Int32)) := match s with
  | (y5, y6) =>
    (tq_gi hh i0 11 11).bind fun x8 =>
    if y6 ≥ x8 then
      some (.inr y5)
    else
      (tq_gr hh i0 11 12).bind fun k9 =>
      (tq_ai hh k9 y6).bind fun x10 =>
      (tq_gl hh i0 11 31).bind fun x11 =>
      (tq_is hh i0 11).bind fun _ =>
      (f_X11_valueOf i0 x10 x11 hh).bind fun v12 =>
      (tq_loop (f_X11_ordered_b72 i0 i2 i3 y5 y6 v12 hh) tq_N ((0 : Int32), (0 : Int32))).bind fun o25 =>
      (tq_gr hh i0 11 12).bind fun k26 =>
      (tq_ai hh k26 y6).bind fun x27 =>
      (if (lg_cmp ((i3 >>> (x27.toInt64 &&& 63)) &&& (1 : Int64)) (1 : Int64)) = 0 then
        if o25 = i2 then
          (tq_gr hh i0 11 12).bind fun k28 =>
          (tq_ai hh k28 y6).bind fun x29 =>
          some x29
        else
          some y5
      else
        some y5).bind fun p30 =>
      tq_let (y6 + (1 : Int32)) fun x31 =>
      some (.inl (p30, x31))
def f_X11_ordered (t : Nat) (a1 : Int32) (a2 : Int32) (h : tq_H) : Option (Int32 × tq_H) :=
  (tq_is h t 11).bind fun _ =>
  (f_X11_foundBy t a1 h).bind fun v1 =>
  (f_X11_bits v1.1 v1.2).bind fun v3 =>
  (f_X11_in a2 (0 : Int32) (v3 - (1 : Int32)) v1.2).bind fun v4 =>
  tq_let (if v4 = 0 then (1 : Int32) else (0 : Int32)) fun p5 =>
  (tq_is v1.2 t 11).bind fun _ =>
  (f_X11_refused t p5 v1.2).bind fun v6 =>
  if v6.1 = 0 then
    (tq_loop (f_X11_ordered_b40 t a2 v1.1 v6.2) tq_N ((0 : Int32), (0 : Int32))).bind fun o32 =>
    some (o32, v6.2)
  else
    some ((0 : Int32), v6.2)
set_option maxHeartbeats 4000000 in
theorem l_X11_ordered_72 {l : Launch} {d : Nat} {Q : tq_R → tq_H → Prop} (hd9 : 8 ≤ d) (i0 : Nat) (i2 : Int32) (i3 : Int64) (i5 : Int32) (i6 : Int32) (i8 : Int32) (hh : tq_H) : ∀ (n : Nat) (y7 : Int32) (y9 : Int32) (o : Int32), tq_loop (f_X11_ordered_b72 i0 i2 i3 i5 i6 i8 hh) n (y7, y9) = some o → tq_W l mX11_ordered d 0 0 Q 151 [(0, .ref i0), (2, .int i2), (3, .long i3), (5, .int i5), (6, .int i6), (7, .int o)] [] hh → tq_W l mX11_ordered d 0 0 Q 72 [(0, .ref i0), (2, .int i2), (3, .long i3), (5, .int i5), (6, .int i6), (7, .int y7), (8, .int i8), (9, .int y9)] [] hh := by
  intro n
  induction n with
  | zero => intro y7 y9 o hl; cases hl
  | succ n ih =>
    intro y7 y9 o hl hk
    obtain ⟨oo, hf, ho⟩ := tq_loop_s hl
    refine tq_iload (M := mX11_ordered) (pc := 72) dX11_ordered_72 rfl ?_
    refine tq_aload_n (M := mX11_ordered) (pc := 74) dX11_ordered_74 rfl ?_
    obtain ⟨x14, ex14, hf⟩ := tq_be hf
    refine tq_getI (M := mX11_ordered) (pc := 75) tk_c11 (by decide) dX11_ordered_75 tk_RX11_173 rfl ex14 ?_
    refine tq_icmp_ge (M := mX11_ordered) (pc := 78) (tgt := 151) dX11_ordered_78 (by decide) (fun cc => ?_) (fun cc => ?_)
    · have hf := tq_ifp hf cc
      refine tq_pick (L2 := [(0, .ref i0), (2, .int i2), (3, .long i3), (5, .int i5), (6, .int i6), (7, .int y7)]) [0, 1, 2, 3, 4, 5] rfl ?_
      cases (Option.some.inj hf)
      cases (tq_lx ho)
      exact hk
    · have hf := tq_ifn hf cc
      refine tq_aload_n (M := mX11_ordered) (pc := 81) dX11_ordered_81 rfl ?_
      refine tq_aload_n (M := mX11_ordered) (pc := 82) dX11_ordered_82 rfl ?_
      obtain ⟨k15, ek15, hf⟩ := tq_be hf
      refine tq_getR (M := mX11_ordered) (pc := 83) tk_c11 (by decide) dX11_ordered_83 tk_RX11_35 rfl ek15 ?_
      refine tq_iload (M := mX11_ordered) (pc := 86) dX11_ordered_86 rfl ?_
      obtain ⟨x16, ex16, hf⟩ := tq_be hf
      refine tq_ialdF (M := mX11_ordered) (pc := 88) dX11_ordered_88 ex16 ?_
      refine tq_aload_n (M := mX11_ordered) (pc := 89) dX11_ordered_89 rfl ?_
      obtain ⟨x17, ex17, hf⟩ := tq_be hf
      refine tq_getL (M := mX11_ordered) (pc := 90) tk_c11 (by decide) dX11_ordered_90 tk_RX11_325 rfl ex17 ?_
      obtain ⟨⟨⟩, eu19, hf⟩ := tq_be hf
      obtain ⟨fsu19, eu19⟩ := tq_is_s eu19
      obtain ⟨v18, ev18, hf⟩ := tq_be hf
      refine tq_calV (M := mX11_ordered) (pc := 93) (S := []) tk_y_X11_valueOf tk_v_X11_valueOf tk_RX11_289 dX11_ordered_93 [.int x16, .long x17] rfl (S0 := _) rfl eu19 rfl (Nat.le_of_ble_eq_true rfl) (d1 := d - 1) (b1 := 0) (s1 := 0) (bc' := 0) (bs' := 0) (Q1 := fun r h9 => r = .inl (some (.int v18)) ∧ hh = h9) (by omega) rfl rfl (w_X11_valueOf (by omega) ev18 (fun _ _ q => q)) (fun E h9 q => nomatch (show (Sum.inr E : tq_R) = Sum.inl _ from q.1)) (fun r9 h9 q => ?_)
      obtain ⟨q1, rfl⟩ := q
      cases (show (Sum.inl r9 : tq_R) = Sum.inl (some (.int v18)) from q1)
      refine tq_istore (M := mX11_ordered) (pc := 96) dX11_ordered_96 (L2 := [(10, .int v18), (0, .ref i0), (2, .int i2), (3, .long i3), (5, .int i5), (6, .int i6), (7, .int y7), (8, .int i8), (9, .int y9)]) (by decide) rfl ?_
      refine tq_iload (M := mX11_ordered) (pc := 98) dX11_ordered_98 rfl ?_
      refine tq_lload_n (M := mX11_ordered) (pc := 100) dX11_ordered_100 rfl ?_
      refine tq_aload_n (M := mX11_ordered) (pc := 101) dX11_ordered_101 rfl ?_
      obtain ⟨k20, ek20, hf⟩ := tq_be hf
      refine tq_getR (M := mX11_ordered) (pc := 102) tk_c11 (by decide) dX11_ordered_102 tk_RX11_35 rfl ek20 ?_
      refine tq_iload (M := mX11_ordered) (pc := 105) dX11_ordered_105 rfl ?_
      obtain ⟨x21, ex21, hf⟩ := tq_be hf
      refine tq_ialdF (M := mX11_ordered) (pc := 107) dX11_ordered_107 ex21 ?_
      refine tq_lshr (M := mX11_ordered) (pc := 108) dX11_ordered_108 ?_
      refine tq_lconst (M := mX11_ordered) (pc := 109) dX11_ordered_109 tk_kl_1 ?_
      refine tq_land (M := mX11_ordered) (pc := 110) dX11_ordered_110 ?_
      refine tq_lconst (M := mX11_ordered) (pc := 111) dX11_ordered_111 tk_kl_1 ?_
      refine tq_lcmp (M := mX11_ordered) (pc := 112) dX11_ordered_112 ?_
      obtain ⟨p22, ep22, hf⟩ := tq_le hf
      have HJ113 : tq_W l mX11_ordered d 0 0 Q 142 [(0, .ref i0), (2, .int i2), (3, .long i3), (5, .int i5), (6, .int i6), (8, .int i8), (9, .int y9)] [.int p22, .int y7] hh := by
        refine tq_iadd (M := mX11_ordered) (pc := 142) dX11_ordered_142 ?_
        obtain ⟨x23, ex23, hf⟩ := tq_le hf
        refine tq_istore (M := mX11_ordered) (pc := 143) dX11_ordered_143 (L2 := [(7, .int x23), (0, .ref i0), (2, .int i2), (3, .long i3), (5, .int i5), (6, .int i6), (8, .int i8), (9, .int y9)]) (by decide) (by rw [ex23]; rfl) ?_
        obtain ⟨x24, ex24, hf⟩ := tq_le hf
        refine tq_iinc (M := mX11_ordered) (pc := 145) (v := x24) (L2 := [(9, .int x24), (7, .int x23), (0, .ref i0), (2, .int i2), (3, .long i3), (5, .int i5), (6, .int i6), (8, .int i8)]) dX11_ordered_145 rfl (by rw [ex24, tk_ki_1]) (by decide) rfl ?_
        refine tq_goto (M := mX11_ordered) (pc := 148) (tgt := 72) dX11_ordered_148 (by decide) ?_
        refine tq_pick (L2 := [(0, .ref i0), (2, .int i2), (3, .long i3), (5, .int i5), (6, .int i6), (7, .int x23), (8, .int i8), (9, .int x24)]) [2, 3, 4, 5, 6, 1, 7, 0] rfl ?_
        cases (Option.some.inj hf)
        exact ih _ _ o (tq_lc ho) hk
      refine tq_if_ne (M := mX11_ordered) (pc := 113) (tgt := 141) dX11_ordered_113 (by decide) (fun cc => ?_) (fun cc => ?_)
      · have hf := tq_ifn ep22.symm cc
        refine tq_iconst (M := mX11_ordered) (pc := 141) dX11_ordered_141 tk_ki_0 ?_
        refine tq_pick (L2 := [(0, .ref i0), (2, .int i2), (3, .long i3), (5, .int i5), (6, .int i6), (8, .int i8), (9, .int y9)]) [1, 2, 3, 4, 5, 7, 8] rfl ?_
        cases hf
        exact HJ113
      · have hf := tq_ifp ep22.symm cc
        refine tq_iload (M := mX11_ordered) (pc := 116) dX11_ordered_116 rfl ?_
        refine tq_iload (M := mX11_ordered) (pc := 118) dX11_ordered_118 rfl ?_
        refine tq_icmp_lt (M := mX11_ordered) (pc := 120) (tgt := 137) dX11_ordered_120 (by decide) (fun cc => ?_) (fun cc => ?_)
        · have hf := tq_ifp hf cc
          refine tq_iconst (M := mX11_ordered) (pc := 137) dX11_ordered_137 tk_ki_1 ?_
          refine tq_goto (M := mX11_ordered) (pc := 138) (tgt := 142) dX11_ordered_138 (by decide) ?_
          refine tq_pick (L2 := [(0, .ref i0), (2, .int i2), (3, .long i3), (5, .int i5), (6, .int i6), (8, .int i8), (9, .int y9)]) [1, 2, 3, 4, 5, 7, 8] rfl ?_
          cases hf
          exact HJ113
        · have hf := tq_ifn hf cc
          refine tq_iload (M := mX11_ordered) (pc := 123) dX11_ordered_123 rfl ?_
          refine tq_iload (M := mX11_ordered) (pc := 125) dX11_ordered_125 rfl ?_
          refine tq_icmp_ne (M := mX11_ordered) (pc := 127) (tgt := 141) dX11_ordered_127 (by decide) (fun cc => ?_) (fun cc => ?_)
          · have hf := tq_ifn hf cc
            refine tq_iconst (M := mX11_ordered) (pc := 141) dX11_ordered_141 tk_ki_0 ?_
            refine tq_pick (L2 := [(0, .ref i0), (2, .int i2), (3, .long i3), (5, .int i5), (6, .int i6), (8, .int i8), (9, .int y9)]) [1, 2, 3, 4, 5, 7, 8] rfl ?_
            cases hf
            exact HJ113
          · have hf := tq_ifp hf cc
            refine tq_iload (M := mX11_ordered) (pc := 130) dX11_ordered_130 rfl ?_
            refine tq_iload (M := mX11_ordered) (pc := 132) dX11_ordered_132 rfl ?_
            refine tq_icmp_ge (M := mX11_ordered) (pc := 134) (tgt := 141) dX11_ordered_134 (by decide) (fun cc => ?_) (fun cc => ?_)
            · have hf := tq_ifp hf cc
              refine tq_iconst (M := mX11_ordered) (pc := 141) dX11_ordered_141 tk_ki_0 ?_
              refine tq_pick (L2 := [(0, .ref i0), (2, .int i2), (3, .long i3), (5, .int i5), (6, .int i6), (8, .int i8), (9, .int y9)]) [1, 2, 3, 4, 5, 7, 8] rfl ?_
              cases hf
              exact HJ113
            · have hf := tq_ifn hf cc
              refine tq_iconst (M := mX11_ordered) (pc := 137) dX11_ordered_137 tk_ki_1 ?_
              refine tq_goto (M := mX11_ordered) (pc := 138) (tgt := 142) dX11_ordered_138 (by decide) ?_
              refine tq_pick (L2 := [(0, .ref i0), (2, .int i2), (3, .long i3), (5, .int i5), (6, .int i6), (8, .int i8), (9, .int y9)]) [1, 2, 3, 4, 5, 7, 8] rfl ?_
              cases hf
              exact HJ113
set_option maxHeartbeats 4000000 in
theorem l_X11_ordered_40 {l : Launch} {d : Nat} {Q : tq_R → tq_H → Prop} (hd9 : 8 ≤ d) (i0 : Nat) (i2 : Int32) (i3 : Int64) (hh : tq_H) : ∀ (n : Nat) (y5 : Int32) (y6 : Int32) (o : Int32), tq_loop (f_X11_ordered_b40 i0 i2 i3 hh) n (y5, y6) = some o → tq_W l mX11_ordered d 0 0 Q 193 [(5, .int o)] [] hh → tq_W l mX11_ordered d 0 0 Q 40 [(0, .ref i0), (2, .int i2), (3, .long i3), (5, .int y5), (6, .int y6)] [] hh := by
  intro n
  induction n with
  | zero => intro y5 y6 o hl; cases hl
  | succ n ih =>
    intro y5 y6 o hl hk
    obtain ⟨oo, hf, ho⟩ := tq_loop_s hl
    refine tq_iload (M := mX11_ordered) (pc := 40) dX11_ordered_40 rfl ?_
    refine tq_aload_n (M := mX11_ordered) (pc := 42) dX11_ordered_42 rfl ?_
    obtain ⟨x8, ex8, hf⟩ := tq_be hf
    refine tq_getI (M := mX11_ordered) (pc := 43) tk_c11 (by decide) dX11_ordered_43 tk_RX11_173 rfl ex8 ?_
    refine tq_icmp_ge (M := mX11_ordered) (pc := 46) (tgt := 193) dX11_ordered_46 (by decide) (fun cc => ?_) (fun cc => ?_)
    · have hf := tq_ifp hf cc
      refine tq_pick (L2 := [(5, .int y5)]) [3] rfl ?_
      cases (Option.some.inj hf)
      cases (tq_lx ho)
      exact hk
    · have hf := tq_ifn hf cc
      refine tq_iconst (M := mX11_ordered) (pc := 49) dX11_ordered_49 tk_ki_0 ?_
      refine tq_istore (M := mX11_ordered) (pc := 50) dX11_ordered_50 (L2 := [(7, .int (0 : Int32)), (0, .ref i0), (2, .int i2), (3, .long i3), (5, .int y5), (6, .int y6)]) (by decide) rfl ?_
      refine tq_aload_n (M := mX11_ordered) (pc := 52) dX11_ordered_52 rfl ?_
      refine tq_aload_n (M := mX11_ordered) (pc := 53) dX11_ordered_53 rfl ?_
      obtain ⟨k9, ek9, hf⟩ := tq_be hf
      refine tq_getR (M := mX11_ordered) (pc := 54) tk_c11 (by decide) dX11_ordered_54 tk_RX11_35 rfl ek9 ?_
      refine tq_iload (M := mX11_ordered) (pc := 57) dX11_ordered_57 rfl ?_
      obtain ⟨x10, ex10, hf⟩ := tq_be hf
      refine tq_ialdF (M := mX11_ordered) (pc := 59) dX11_ordered_59 ex10 ?_
      refine tq_aload_n (M := mX11_ordered) (pc := 60) dX11_ordered_60 rfl ?_
      obtain ⟨x11, ex11, hf⟩ := tq_be hf
      refine tq_getL (M := mX11_ordered) (pc := 61) tk_c11 (by decide) dX11_ordered_61 tk_RX11_325 rfl ex11 ?_
      obtain ⟨⟨⟩, eu13, hf⟩ := tq_be hf
      obtain ⟨fsu13, eu13⟩ := tq_is_s eu13
      obtain ⟨v12, ev12, hf⟩ := tq_be hf
      refine tq_calV (M := mX11_ordered) (pc := 64) (S := []) tk_y_X11_valueOf tk_v_X11_valueOf tk_RX11_289 dX11_ordered_64 [.int x10, .long x11] rfl (S0 := _) rfl eu13 rfl (Nat.le_of_ble_eq_true rfl) (d1 := d - 1) (b1 := 0) (s1 := 0) (bc' := 0) (bs' := 0) (Q1 := fun r h9 => r = .inl (some (.int v12)) ∧ hh = h9) (by omega) rfl rfl (w_X11_valueOf (by omega) ev12 (fun _ _ q => q)) (fun E h9 q => nomatch (show (Sum.inr E : tq_R) = Sum.inl _ from q.1)) (fun r9 h9 q => ?_)
      obtain ⟨q1, rfl⟩ := q
      cases (show (Sum.inl r9 : tq_R) = Sum.inl (some (.int v12)) from q1)
      refine tq_istore (M := mX11_ordered) (pc := 67) dX11_ordered_67 (L2 := [(8, .int v12), (7, .int (0 : Int32)), (0, .ref i0), (2, .int i2), (3, .long i3), (5, .int y5), (6, .int y6)]) (by decide) rfl ?_
      refine tq_iconst (M := mX11_ordered) (pc := 69) dX11_ordered_69 tk_ki_0 ?_
      refine tq_istore (M := mX11_ordered) (pc := 70) dX11_ordered_70 (L2 := [(9, .int (0 : Int32)), (8, .int v12), (7, .int (0 : Int32)), (0, .ref i0), (2, .int i2), (3, .long i3), (5, .int y5), (6, .int y6)]) (by decide) rfl ?_
      obtain ⟨o25, eo25, hf⟩ := tq_be hf
      refine tq_pick (L2 := [(0, .ref i0), (2, .int i2), (3, .long i3), (5, .int y5), (6, .int y6), (7, .int (0 : Int32)), (8, .int v12), (9, .int (0 : Int32))]) [3, 4, 5, 6, 7, 2, 1, 0] rfl ?_
      refine l_X11_ordered_72 (by omega) i0 i2 i3 y5 y6 v12 hh _ (0 : Int32) (0 : Int32) _ eo25 ?_
      refine tq_lload_n (M := mX11_ordered) (pc := 151) dX11_ordered_151 rfl ?_
      refine tq_aload_n (M := mX11_ordered) (pc := 152) dX11_ordered_152 rfl ?_
      obtain ⟨k26, ek26, hf⟩ := tq_be hf
      refine tq_getR (M := mX11_ordered) (pc := 153) tk_c11 (by decide) dX11_ordered_153 tk_RX11_35 rfl ek26 ?_
      refine tq_iload (M := mX11_ordered) (pc := 156) dX11_ordered_156 rfl ?_
      obtain ⟨x27, ex27, hf⟩ := tq_be hf
      refine tq_ialdF (M := mX11_ordered) (pc := 158) dX11_ordered_158 ex27 ?_
      refine tq_lshr (M := mX11_ordered) (pc := 159) dX11_ordered_159 ?_
      refine tq_lconst (M := mX11_ordered) (pc := 160) dX11_ordered_160 tk_kl_1 ?_
      refine tq_land (M := mX11_ordered) (pc := 161) dX11_ordered_161 ?_
      refine tq_lconst (M := mX11_ordered) (pc := 162) dX11_ordered_162 tk_kl_1 ?_
      refine tq_lcmp (M := mX11_ordered) (pc := 163) dX11_ordered_163 ?_
      obtain ⟨p30, ep30, hf⟩ := tq_be hf
      have HJ164 : tq_W l mX11_ordered d 0 0 Q 185 [(0, .ref i0), (2, .int i2), (3, .long i3), (6, .int y6)] [.int p30] hh := by
        refine tq_istore (M := mX11_ordered) (pc := 185) dX11_ordered_185 (L2 := [(5, .int p30), (0, .ref i0), (2, .int i2), (3, .long i3), (6, .int y6)]) (by decide) rfl ?_
        obtain ⟨x31, ex31, hf⟩ := tq_le hf
        refine tq_iinc (M := mX11_ordered) (pc := 187) (v := x31) (L2 := [(6, .int x31), (5, .int p30), (0, .ref i0), (2, .int i2), (3, .long i3)]) dX11_ordered_187 rfl (by rw [ex31, tk_ki_1]) (by decide) rfl ?_
        refine tq_goto (M := mX11_ordered) (pc := 190) (tgt := 40) dX11_ordered_190 (by decide) ?_
        refine tq_pick (L2 := [(0, .ref i0), (2, .int i2), (3, .long i3), (5, .int p30), (6, .int x31)]) [2, 3, 4, 1, 0] rfl ?_
        cases (Option.some.inj hf)
        exact ih _ _ o (tq_lc ho) hk
      refine tq_if_ne (M := mX11_ordered) (pc := 164) (tgt := 183) dX11_ordered_164 (by decide) (fun cc => ?_) (fun cc => ?_)
      · have hf := tq_ifn ep30 cc
        refine tq_iload (M := mX11_ordered) (pc := 183) dX11_ordered_183 rfl ?_
        refine tq_pick (L2 := [(0, .ref i0), (2, .int i2), (3, .long i3), (6, .int y6)]) [0, 1, 2, 4] rfl ?_
        cases (Option.some.inj hf)
        exact HJ164
      · have hf := tq_ifp ep30 cc
        refine tq_iload (M := mX11_ordered) (pc := 167) dX11_ordered_167 rfl ?_
        refine tq_iload_n (M := mX11_ordered) (pc := 169) dX11_ordered_169 rfl ?_
        refine tq_icmp_ne (M := mX11_ordered) (pc := 170) (tgt := 183) dX11_ordered_170 (by decide) (fun cc => ?_) (fun cc => ?_)
        · have hf := tq_ifn hf cc
          refine tq_iload (M := mX11_ordered) (pc := 183) dX11_ordered_183 rfl ?_
          refine tq_pick (L2 := [(0, .ref i0), (2, .int i2), (3, .long i3), (6, .int y6)]) [0, 1, 2, 4] rfl ?_
          cases (Option.some.inj hf)
          exact HJ164
        · have hf := tq_ifp hf cc
          refine tq_aload_n (M := mX11_ordered) (pc := 173) dX11_ordered_173 rfl ?_
          obtain ⟨k28, ek28, hf⟩ := tq_be hf
          refine tq_getR (M := mX11_ordered) (pc := 174) tk_c11 (by decide) dX11_ordered_174 tk_RX11_35 rfl ek28 ?_
          refine tq_iload (M := mX11_ordered) (pc := 177) dX11_ordered_177 rfl ?_
          obtain ⟨x29, ex29, hf⟩ := tq_be hf
          refine tq_ialdF (M := mX11_ordered) (pc := 179) dX11_ordered_179 ex29 ?_
          refine tq_goto (M := mX11_ordered) (pc := 180) (tgt := 185) dX11_ordered_180 (by decide) ?_
          refine tq_pick (L2 := [(0, .ref i0), (2, .int i2), (3, .long i3), (6, .int y6)]) [0, 1, 2, 4] rfl ?_
          cases (Option.some.inj hf)
          exact HJ164
set_option maxHeartbeats 4000000 in
set_option maxRecDepth 20000 in
theorem w_X11_ordered {l : Launch} {d : Nat} (hd9 : 8 ≤ d) {t : Nat} {a1 : Int32} {a2 : Int32} {h : tq_H} {o : Int32 × tq_H} {Q : tq_R → tq_H → Prop} (hf : f_X11_ordered t a1 a2 h = some o) (hQ : ∀ r h9, r = .inl (some (.int o.1)) ∧ o.2 = h9 → Q r h9) : tq_C l yX11_ordered cX11_ordered 11 (some .int) d 0 0 [.ref t, .int a1, .int a2] h Q := by
  refine tq_body (y := yX11_ordered) false (by decide +kernel) (fun z => by cases z) (Nat.le_of_ble_eq_true rfl) ?_
  show tq_W l mX11_ordered d 0 0 Q 0 [(0, .ref t), (1, .int a1), (2, .int a2)] [] h
  refine tq_aload_n (M := mX11_ordered) (pc := 0) dX11_ordered_0 rfl ?_
  refine tq_iload_n (M := mX11_ordered) (pc := 1) dX11_ordered_1 rfl ?_
  obtain ⟨⟨⟩, eu2, hf⟩ := tq_be hf
  obtain ⟨fsu2, eu2⟩ := tq_is_s eu2
  obtain ⟨v1, ev1, hf⟩ := tq_be hf
  refine tq_calV (M := mX11_ordered) (pc := 2) (S := []) tk_y_X11_foundBy tk_v_X11_foundBy tk_RX11_368 dX11_ordered_2 [.int a1] rfl (S0 := _) rfl eu2 rfl (Nat.le_of_ble_eq_true rfl) (d1 := d - 1) (b1 := 0) (s1 := 0) (bc' := 0) (bs' := 0) (Q1 := fun r h9 => r = .inl (some (.long v1.1)) ∧ v1.2 = h9) (by omega) rfl rfl (w_X11_foundBy (by omega) ev1 (fun _ _ q => q)) (fun E h9 q => nomatch (show (Sum.inr E : tq_R) = Sum.inl _ from q.1)) (fun r9 h9 q => ?_)
  obtain ⟨q1, rfl⟩ := q
  cases (show (Sum.inl r9 : tq_R) = Sum.inl (some (.long v1.1)) from q1)
  refine tq_lstore_n (M := mX11_ordered) (pc := 5) rfl dX11_ordered_5 (L2 := [(3, .long v1.1), (0, .ref t), (1, .int a1), (2, .int a2)]) (by decide) rfl ?_
  refine tq_aload_n (M := mX11_ordered) (pc := 6) dX11_ordered_6 rfl ?_
  refine tq_iload_n (M := mX11_ordered) (pc := 7) dX11_ordered_7 rfl ?_
  refine tq_iconst (M := mX11_ordered) (pc := 8) dX11_ordered_8 tk_ki_0 ?_
  refine tq_lload_n (M := mX11_ordered) (pc := 9) dX11_ordered_9 rfl ?_
  obtain ⟨v3, ev3, hf⟩ := tq_be hf
  refine tq_calS (M := mX11_ordered) (pc := 10) (S := [.int (0 : Int32), .int a2, .ref t]) tk_y_X11_bits tk_s_X11_bits tk_RX11_361 dX11_ordered_10 [.long v1.1] rfl (Nat.le_of_ble_eq_true rfl) (d1 := d - 1) (b1 := 0) (s1 := 0) (bc' := 0) (bs' := 0) (Q1 := fun r h9 => r = .inl (some (.int v3)) ∧ v1.2 = h9) (by omega) rfl rfl (w_X11_bits (by omega) ev3 (fun _ _ q => q)) (fun E h9 q => nomatch (show (Sum.inr E : tq_R) = Sum.inl _ from q.1)) (fun r9 h9 q => ?_)
  obtain ⟨q1, rfl⟩ := q
  cases (show (Sum.inl r9 : tq_R) = Sum.inl (some (.int v3)) from q1)
  refine tq_iconst (M := mX11_ordered) (pc := 13) dX11_ordered_13 tk_ki_1 ?_
  refine tq_isub (M := mX11_ordered) (pc := 14) dX11_ordered_14 ?_
  obtain ⟨v4, ev4, hf⟩ := tq_be hf
  refine tq_calS (M := mX11_ordered) (pc := 15) (S := [.ref t]) tk_y_X11_in tk_s_X11_in tk_RX11_169 dX11_ordered_15 [.int a2, .int (0 : Int32), .int ((v3 - (1 : Int32)))] rfl (Nat.le_of_ble_eq_true rfl) (d1 := d - 1) (b1 := 0) (s1 := 0) (bc' := 0) (bs' := 0) (Q1 := fun r h9 => r = .inl (some (.int v4)) ∧ v1.2 = h9) (by omega) rfl rfl (w_X11_in (by omega) ev4 (fun _ _ q => q)) (fun E h9 q => nomatch (show (Sum.inr E : tq_R) = Sum.inl _ from q.1)) (fun r9 h9 q => ?_)
  obtain ⟨q1, rfl⟩ := q
  cases (show (Sum.inl r9 : tq_R) = Sum.inl (some (.int v4)) from q1)
  obtain ⟨p5, ep5, hf⟩ := tq_le hf
  have HJ18 : tq_W l mX11_ordered d 0 0 Q 26 [(0, .ref t), (2, .int a2), (3, .long v1.1)] [.int p5, .ref t] v1.2 := by
    obtain ⟨⟨⟩, eu7, hf⟩ := tq_be hf
    obtain ⟨fsu7, eu7⟩ := tq_is_s eu7
    obtain ⟨v6, ev6, hf⟩ := tq_be hf
    refine tq_calV (M := mX11_ordered) (pc := 26) (S := []) tk_y_X11_refused tk_v_X11_refused tk_RX11_204 dX11_ordered_26 [.int p5] rfl (S0 := _) rfl eu7 rfl (Nat.le_of_ble_eq_true rfl) (d1 := d - 1) (b1 := 0) (s1 := 0) (bc' := 0) (bs' := 0) (Q1 := fun r h9 => r = .inl (some (.int v6.1)) ∧ v6.2 = h9) (by omega) rfl rfl (w_X11_refused (by omega) ev6 (fun _ _ q => q)) (fun E h9 q => nomatch (show (Sum.inr E : tq_R) = Sum.inl _ from q.1)) (fun r9 h9 q => ?_)
    obtain ⟨q1, rfl⟩ := q
    cases (show (Sum.inl r9 : tq_R) = Sum.inl (some (.int v6.1)) from q1)
    refine tq_if_eq (M := mX11_ordered) (pc := 29) (tgt := 34) dX11_ordered_29 (by decide) (fun cc => ?_) (fun cc => ?_)
    · have hf := tq_ifp hf cc
      refine tq_iconst (M := mX11_ordered) (pc := 34) dX11_ordered_34 tk_ki_0 ?_
      refine tq_istore (M := mX11_ordered) (pc := 35) dX11_ordered_35 (L2 := [(5, .int (0 : Int32)), (0, .ref t), (2, .int a2), (3, .long v1.1)]) (by decide) rfl ?_
      refine tq_iconst (M := mX11_ordered) (pc := 37) dX11_ordered_37 tk_ki_0 ?_
      refine tq_istore (M := mX11_ordered) (pc := 38) dX11_ordered_38 (L2 := [(6, .int (0 : Int32)), (5, .int (0 : Int32)), (0, .ref t), (2, .int a2), (3, .long v1.1)]) (by decide) rfl ?_
      obtain ⟨o32, eo32, hf⟩ := tq_be hf
      refine tq_pick (L2 := [(0, .ref t), (2, .int a2), (3, .long v1.1), (5, .int (0 : Int32)), (6, .int (0 : Int32))]) [2, 3, 4, 1, 0] rfl ?_
      refine l_X11_ordered_40 (by omega) t a2 v1.1 v6.2 _ (0 : Int32) (0 : Int32) _ eo32 ?_
      refine tq_iload (M := mX11_ordered) (pc := 193) dX11_ordered_193 rfl ?_
      refine tq_iret (M := mX11_ordered) (pc := 195) dX11_ordered_195 rfl ?_
      cases (Option.some.inj hf)
      exact hQ _ _ ⟨rfl, rfl⟩
    · have hf := tq_ifn hf cc
      refine tq_iconst (M := mX11_ordered) (pc := 32) dX11_ordered_32 tk_ki_0 ?_
      refine tq_iret (M := mX11_ordered) (pc := 33) dX11_ordered_33 rfl ?_
      cases (Option.some.inj hf)
      exact hQ _ _ ⟨rfl, rfl⟩
  refine tq_if_eq (M := mX11_ordered) (pc := 18) (tgt := 25) dX11_ordered_18 (by decide) (fun cc => ?_) (fun cc => ?_)
  · have hf := tq_ifp ep5.symm cc
    refine tq_iconst (M := mX11_ordered) (pc := 25) dX11_ordered_25 tk_ki_1 ?_
    refine tq_pick (L2 := [(0, .ref t), (2, .int a2), (3, .long v1.1)]) [1, 3, 0] rfl ?_
    cases hf
    exact HJ18
  · have hf := tq_ifn ep5.symm cc
    refine tq_iconst (M := mX11_ordered) (pc := 21) dX11_ordered_21 tk_ki_0 ?_
    refine tq_goto (M := mX11_ordered) (pc := 22) (tgt := 26) dX11_ordered_22 (by decide) ?_
    refine tq_pick (L2 := [(0, .ref t), (2, .int a2), (3, .long v1.1)]) [1, 3, 0] rfl ?_
    cases hf
    exact HJ18
abbrev mX11_groups : tq_M := (RX11, cX11_groups, 8, (some .int), false, [], none)
def f_X11_groups_b69 (i0 : Nat) (i2 : Int64) (i4 : Int32) (i5 : Int32) (hh : tq_H) (s : Int32 × Int32) : Option ((Int32 × Int32) ⊕ (Int32)) := match s with
  | (y6, y7) =>
    if y7 ≥ i5 then
      some (.inr y6)
    else
      if y6 = 0 then
        some (.inr y6)
      else
        (tq_gr hh i0 11 12).bind fun k12 =>
        (tq_ai hh k12 y7).bind fun x13 =>
        (if (lg_cmp ((i2 >>> (x13.toInt64 &&& 63)) &&& (1 : Int64)) (0 : Int64)) = 0 then
          some (1 : Int32)
        else
          (tq_gr hh i0 11 12).bind fun k14 =>
          (tq_ai hh k14 y7).bind fun x15 =>
          (tq_gl hh i0 11 31).bind fun x16 =>
          (tq_is hh i0 11).bind fun _ =>
          (f_X11_valueOf i0 x15 x16 hh).bind fun v17 =>
          (tq_gr hh i0 11 12).bind fun k19 =>
          (tq_ai hh k19 i5).bind fun x20 =>
          (tq_gl hh i0 11 31).bind fun x21 =>
          (tq_is hh i0 11).bind fun _ =>
          (f_X11_valueOf i0 x20 x21 hh).bind fun v22 =>
          if v17 = v22 then
            some (0 : Int32)
          else
            some (1 : Int32)).bind fun p24 =>
        tq_let (y7 + (1 : Int32)) fun x25 =>
        some (.inl (p24, x25))
def f_X11_groups_b34 (i0 : Nat) (i2 : Int64) (hh : tq_H) (s : Int32 × Int32) : Option ((Int32 × Int32) ⊕ (Int32)) := match s with
  | (y4, y5) =>
    (tq_gi hh i0 11 11).bind fun x8 =>
    if y5 ≥ x8 then
      some (.inr y4)
    else
      (tq_gr hh i0 11 12).bind fun k9 =>
      (tq_ai hh k9 y5).bind fun x10 =>
      tq_let (if (lg_cmp ((i2 >>> (x10.toInt64 &&& 63)) &&& (1 : Int64)) (1 : Int64)) = 0 then (1 : Int32) else (0 : Int32)) fun p11 =>
      (tq_loop (f_X11_groups_b69 i0 i2 y4 y5 hh) tq_N (p11, (0 : Int32))).bind fun o26 =>
      tq_let (if o26 = 0 then (0 : Int32) else (1 : Int32)) fun p27 =>
      tq_let ((y4 + p27)) fun x28 =>
      tq_let (y5 + (1 : Int32)) fun x29 =>
      some (.inl (x28, x29))
def f_X11_groups (t : Nat) (a1 : Int32) (h : tq_H) : Option (Int32 × tq_H) :=
  (tq_is h t 11).bind fun _ =>
  (f_X11_isPath t a1 h).bind fun v1 =>
  tq_let (if v1 = 0 then (1 : Int32) else (0 : Int32)) fun p3 =>
  (tq_is h t 11).bind fun _ =>
  (f_X11_refused t p3 h).bind fun v4 =>
  if v4.1 = 0 then
    (tq_is v4.2 t 11).bind fun _ =>
    (f_X11_foundBy t a1 v4.2).bind fun v6 =>
    (tq_loop (f_X11_groups_b34 t v6.1 v6.2) tq_N ((0 : Int32), (0 : Int32))).bind fun o30 =>
    some (o30, v6.2)
  else
    some ((0 : Int32), v4.2)
set_option maxHeartbeats 4000000 in
theorem l_X11_groups_69 {l : Launch} {d : Nat} {Q : tq_R → tq_H → Prop} (hd9 : 8 ≤ d) (i0 : Nat) (i2 : Int64) (i4 : Int32) (i5 : Int32) (hh : tq_H) : ∀ (n : Nat) (y6 : Int32) (y7 : Int32) (o : Int32), tq_loop (f_X11_groups_b69 i0 i2 i4 i5 hh) n (y6, y7) = some o → tq_W l mX11_groups d 0 0 Q 143 [(0, .ref i0), (2, .long i2), (4, .int i4), (5, .int i5), (6, .int o)] [] hh → tq_W l mX11_groups d 0 0 Q 69 [(0, .ref i0), (2, .long i2), (4, .int i4), (5, .int i5), (6, .int y6), (7, .int y7)] [] hh := by
  intro n
  induction n with
  | zero => intro y6 y7 o hl; cases hl
  | succ n ih =>
    intro y6 y7 o hl hk
    obtain ⟨oo, hf, ho⟩ := tq_loop_s hl
    refine tq_iload (M := mX11_groups) (pc := 69) dX11_groups_69 rfl ?_
    refine tq_iload (M := mX11_groups) (pc := 71) dX11_groups_71 rfl ?_
    refine tq_icmp_ge (M := mX11_groups) (pc := 73) (tgt := 143) dX11_groups_73 (by decide) (fun cc => ?_) (fun cc => ?_)
    · have hf := tq_ifp hf cc
      refine tq_pick (L2 := [(0, .ref i0), (2, .long i2), (4, .int i4), (5, .int i5), (6, .int y6)]) [0, 1, 2, 3, 4] rfl ?_
      cases (Option.some.inj hf)
      cases (tq_lx ho)
      exact hk
    · have hf := tq_ifn hf cc
      refine tq_iload (M := mX11_groups) (pc := 76) dX11_groups_76 rfl ?_
      refine tq_if_eq (M := mX11_groups) (pc := 78) (tgt := 143) dX11_groups_78 (by decide) (fun cc => ?_) (fun cc => ?_)
      · have hf := tq_ifp hf cc
        refine tq_pick (L2 := [(0, .ref i0), (2, .long i2), (4, .int i4), (5, .int i5), (6, .int y6)]) [0, 1, 2, 3, 4] rfl ?_
        cases (Option.some.inj hf)
        cases (tq_lx ho)
        exact hk
      · have hf := tq_ifn hf cc
        refine tq_lload_n (M := mX11_groups) (pc := 81) dX11_groups_81 rfl ?_
        refine tq_aload_n (M := mX11_groups) (pc := 82) dX11_groups_82 rfl ?_
        obtain ⟨k12, ek12, hf⟩ := tq_be hf
        refine tq_getR (M := mX11_groups) (pc := 83) tk_c11 (by decide) dX11_groups_83 tk_RX11_35 rfl ek12 ?_
        refine tq_iload (M := mX11_groups) (pc := 86) dX11_groups_86 rfl ?_
        obtain ⟨x13, ex13, hf⟩ := tq_be hf
        refine tq_ialdF (M := mX11_groups) (pc := 88) dX11_groups_88 ex13 ?_
        refine tq_lshr (M := mX11_groups) (pc := 89) dX11_groups_89 ?_
        refine tq_lconst (M := mX11_groups) (pc := 90) dX11_groups_90 tk_kl_1 ?_
        refine tq_land (M := mX11_groups) (pc := 91) dX11_groups_91 ?_
        refine tq_lconst (M := mX11_groups) (pc := 92) dX11_groups_92 tk_kl_0 ?_
        refine tq_lcmp (M := mX11_groups) (pc := 93) dX11_groups_93 ?_
        obtain ⟨p24, ep24, hf⟩ := tq_be hf
        have HJ94 : tq_W l mX11_groups d 0 0 Q 135 [(0, .ref i0), (2, .long i2), (4, .int i4), (5, .int i5), (7, .int y7)] [.int p24] hh := by
          refine tq_istore (M := mX11_groups) (pc := 135) dX11_groups_135 (L2 := [(6, .int p24), (0, .ref i0), (2, .long i2), (4, .int i4), (5, .int i5), (7, .int y7)]) (by decide) rfl ?_
          obtain ⟨x25, ex25, hf⟩ := tq_le hf
          refine tq_iinc (M := mX11_groups) (pc := 137) (v := x25) (L2 := [(7, .int x25), (6, .int p24), (0, .ref i0), (2, .long i2), (4, .int i4), (5, .int i5)]) dX11_groups_137 rfl (by rw [ex25, tk_ki_1]) (by decide) rfl ?_
          refine tq_goto (M := mX11_groups) (pc := 140) (tgt := 69) dX11_groups_140 (by decide) ?_
          refine tq_pick (L2 := [(0, .ref i0), (2, .long i2), (4, .int i4), (5, .int i5), (6, .int p24), (7, .int x25)]) [2, 3, 4, 5, 1, 0] rfl ?_
          cases (Option.some.inj hf)
          exact ih _ _ o (tq_lc ho) hk
        refine tq_if_eq (M := mX11_groups) (pc := 94) (tgt := 130) dX11_groups_94 (by decide) (fun cc => ?_) (fun cc => ?_)
        · have hf := tq_ifp ep24 cc
          refine tq_iconst (M := mX11_groups) (pc := 130) dX11_groups_130 tk_ki_1 ?_
          refine tq_goto (M := mX11_groups) (pc := 131) (tgt := 135) dX11_groups_131 (by decide) ?_
          refine tq_pick (L2 := [(0, .ref i0), (2, .long i2), (4, .int i4), (5, .int i5), (7, .int y7)]) [0, 1, 2, 3, 5] rfl ?_
          cases (Option.some.inj hf)
          exact HJ94
        · have hf := tq_ifn ep24 cc
          refine tq_aload_n (M := mX11_groups) (pc := 97) dX11_groups_97 rfl ?_
          refine tq_aload_n (M := mX11_groups) (pc := 98) dX11_groups_98 rfl ?_
          obtain ⟨k14, ek14, hf⟩ := tq_be hf
          refine tq_getR (M := mX11_groups) (pc := 99) tk_c11 (by decide) dX11_groups_99 tk_RX11_35 rfl ek14 ?_
          refine tq_iload (M := mX11_groups) (pc := 102) dX11_groups_102 rfl ?_
          obtain ⟨x15, ex15, hf⟩ := tq_be hf
          refine tq_ialdF (M := mX11_groups) (pc := 104) dX11_groups_104 ex15 ?_
          refine tq_aload_n (M := mX11_groups) (pc := 105) dX11_groups_105 rfl ?_
          obtain ⟨x16, ex16, hf⟩ := tq_be hf
          refine tq_getL (M := mX11_groups) (pc := 106) tk_c11 (by decide) dX11_groups_106 tk_RX11_325 rfl ex16 ?_
          obtain ⟨⟨⟩, eu18, hf⟩ := tq_be hf
          obtain ⟨fsu18, eu18⟩ := tq_is_s eu18
          obtain ⟨v17, ev17, hf⟩ := tq_be hf
          refine tq_calV (M := mX11_groups) (pc := 109) (S := []) tk_y_X11_valueOf tk_v_X11_valueOf tk_RX11_289 dX11_groups_109 [.int x15, .long x16] rfl (S0 := _) rfl eu18 rfl (Nat.le_of_ble_eq_true rfl) (d1 := d - 1) (b1 := 0) (s1 := 0) (bc' := 0) (bs' := 0) (Q1 := fun r h9 => r = .inl (some (.int v17)) ∧ hh = h9) (by omega) rfl rfl (w_X11_valueOf (by omega) ev17 (fun _ _ q => q)) (fun E h9 q => nomatch (show (Sum.inr E : tq_R) = Sum.inl _ from q.1)) (fun r9 h9 q => ?_)
          obtain ⟨q1, rfl⟩ := q
          cases (show (Sum.inl r9 : tq_R) = Sum.inl (some (.int v17)) from q1)
          refine tq_aload_n (M := mX11_groups) (pc := 112) dX11_groups_112 rfl ?_
          refine tq_aload_n (M := mX11_groups) (pc := 113) dX11_groups_113 rfl ?_
          obtain ⟨k19, ek19, hf⟩ := tq_be hf
          refine tq_getR (M := mX11_groups) (pc := 114) tk_c11 (by decide) dX11_groups_114 tk_RX11_35 rfl ek19 ?_
          refine tq_iload (M := mX11_groups) (pc := 117) dX11_groups_117 rfl ?_
          obtain ⟨x20, ex20, hf⟩ := tq_be hf
          refine tq_ialdF (M := mX11_groups) (pc := 119) dX11_groups_119 ex20 ?_
          refine tq_aload_n (M := mX11_groups) (pc := 120) dX11_groups_120 rfl ?_
          obtain ⟨x21, ex21, hf⟩ := tq_be hf
          refine tq_getL (M := mX11_groups) (pc := 121) tk_c11 (by decide) dX11_groups_121 tk_RX11_325 rfl ex21 ?_
          obtain ⟨⟨⟩, eu23, hf⟩ := tq_be hf
          obtain ⟨fsu23, eu23⟩ := tq_is_s eu23
          obtain ⟨v22, ev22, hf⟩ := tq_be hf
          refine tq_calV (M := mX11_groups) (pc := 124) (S := [.int v17]) tk_y_X11_valueOf tk_v_X11_valueOf tk_RX11_289 dX11_groups_124 [.int x20, .long x21] rfl (S0 := _) rfl eu23 rfl (Nat.le_of_ble_eq_true rfl) (d1 := d - 1) (b1 := 0) (s1 := 0) (bc' := 0) (bs' := 0) (Q1 := fun r h9 => r = .inl (some (.int v22)) ∧ hh = h9) (by omega) rfl rfl (w_X11_valueOf (by omega) ev22 (fun _ _ q => q)) (fun E h9 q => nomatch (show (Sum.inr E : tq_R) = Sum.inl _ from q.1)) (fun r9 h9 q => ?_)
          obtain ⟨q1, rfl⟩ := q
          cases (show (Sum.inl r9 : tq_R) = Sum.inl (some (.int v22)) from q1)
          refine tq_icmp_eq (M := mX11_groups) (pc := 127) (tgt := 134) dX11_groups_127 (by decide) (fun cc => ?_) (fun cc => ?_)
          · have hf := tq_ifp hf cc
            refine tq_iconst (M := mX11_groups) (pc := 134) dX11_groups_134 tk_ki_0 ?_
            refine tq_pick (L2 := [(0, .ref i0), (2, .long i2), (4, .int i4), (5, .int i5), (7, .int y7)]) [0, 1, 2, 3, 5] rfl ?_
            cases (Option.some.inj hf)
            exact HJ94
          · have hf := tq_ifn hf cc
            refine tq_iconst (M := mX11_groups) (pc := 130) dX11_groups_130 tk_ki_1 ?_
            refine tq_goto (M := mX11_groups) (pc := 131) (tgt := 135) dX11_groups_131 (by decide) ?_
            refine tq_pick (L2 := [(0, .ref i0), (2, .long i2), (4, .int i4), (5, .int i5), (7, .int y7)]) [0, 1, 2, 3, 5] rfl ?_
            cases (Option.some.inj hf)
            exact HJ94
set_option maxHeartbeats 4000000 in
theorem l_X11_groups_34 {l : Launch} {d : Nat} {Q : tq_R → tq_H → Prop} (hd9 : 8 ≤ d) (i0 : Nat) (i2 : Int64) (hh : tq_H) : ∀ (n : Nat) (y4 : Int32) (y5 : Int32) (o : Int32), tq_loop (f_X11_groups_b34 i0 i2 hh) n (y4, y5) = some o → tq_W l mX11_groups d 0 0 Q 164 [(4, .int o)] [] hh → tq_W l mX11_groups d 0 0 Q 34 [(0, .ref i0), (2, .long i2), (4, .int y4), (5, .int y5)] [] hh := by
  intro n
  induction n with
  | zero => intro y4 y5 o hl; cases hl
  | succ n ih =>
    intro y4 y5 o hl hk
    obtain ⟨oo, hf, ho⟩ := tq_loop_s hl
    refine tq_iload (M := mX11_groups) (pc := 34) dX11_groups_34 rfl ?_
    refine tq_aload_n (M := mX11_groups) (pc := 36) dX11_groups_36 rfl ?_
    obtain ⟨x8, ex8, hf⟩ := tq_be hf
    refine tq_getI (M := mX11_groups) (pc := 37) tk_c11 (by decide) dX11_groups_37 tk_RX11_173 rfl ex8 ?_
    refine tq_icmp_ge (M := mX11_groups) (pc := 40) (tgt := 164) dX11_groups_40 (by decide) (fun cc => ?_) (fun cc => ?_)
    · have hf := tq_ifp hf cc
      refine tq_pick (L2 := [(4, .int y4)]) [2] rfl ?_
      cases (Option.some.inj hf)
      cases (tq_lx ho)
      exact hk
    · have hf := tq_ifn hf cc
      refine tq_lload_n (M := mX11_groups) (pc := 43) dX11_groups_43 rfl ?_
      refine tq_aload_n (M := mX11_groups) (pc := 44) dX11_groups_44 rfl ?_
      obtain ⟨k9, ek9, hf⟩ := tq_be hf
      refine tq_getR (M := mX11_groups) (pc := 45) tk_c11 (by decide) dX11_groups_45 tk_RX11_35 rfl ek9 ?_
      refine tq_iload (M := mX11_groups) (pc := 48) dX11_groups_48 rfl ?_
      obtain ⟨x10, ex10, hf⟩ := tq_be hf
      refine tq_ialdF (M := mX11_groups) (pc := 50) dX11_groups_50 ex10 ?_
      refine tq_lshr (M := mX11_groups) (pc := 51) dX11_groups_51 ?_
      refine tq_lconst (M := mX11_groups) (pc := 52) dX11_groups_52 tk_kl_1 ?_
      refine tq_land (M := mX11_groups) (pc := 53) dX11_groups_53 ?_
      refine tq_lconst (M := mX11_groups) (pc := 54) dX11_groups_54 tk_kl_1 ?_
      refine tq_lcmp (M := mX11_groups) (pc := 55) dX11_groups_55 ?_
      obtain ⟨p11, ep11, hf⟩ := tq_le hf
      have HJ56 : tq_W l mX11_groups d 0 0 Q 64 [(0, .ref i0), (2, .long i2), (4, .int y4), (5, .int y5)] [.int p11] hh := by
        refine tq_istore (M := mX11_groups) (pc := 64) dX11_groups_64 (L2 := [(6, .int p11), (0, .ref i0), (2, .long i2), (4, .int y4), (5, .int y5)]) (by decide) rfl ?_
        refine tq_iconst (M := mX11_groups) (pc := 66) dX11_groups_66 tk_ki_0 ?_
        refine tq_istore (M := mX11_groups) (pc := 67) dX11_groups_67 (L2 := [(7, .int (0 : Int32)), (6, .int p11), (0, .ref i0), (2, .long i2), (4, .int y4), (5, .int y5)]) (by decide) rfl ?_
        obtain ⟨o26, eo26, hf⟩ := tq_be hf
        refine tq_pick (L2 := [(0, .ref i0), (2, .long i2), (4, .int y4), (5, .int y5), (6, .int p11), (7, .int (0 : Int32))]) [2, 3, 4, 5, 1, 0] rfl ?_
        refine l_X11_groups_69 (by omega) i0 i2 y4 y5 hh _ p11 (0 : Int32) _ eo26 ?_
        refine tq_iload (M := mX11_groups) (pc := 143) dX11_groups_143 rfl ?_
        refine tq_iload (M := mX11_groups) (pc := 145) dX11_groups_145 rfl ?_
        obtain ⟨p27, ep27, hf⟩ := tq_le hf
        have HJ147 : tq_W l mX11_groups d 0 0 Q 155 [(0, .ref i0), (2, .long i2), (5, .int y5)] [.int p27, .int y4] hh := by
          refine tq_iadd (M := mX11_groups) (pc := 155) dX11_groups_155 ?_
          obtain ⟨x28, ex28, hf⟩ := tq_le hf
          refine tq_istore (M := mX11_groups) (pc := 156) dX11_groups_156 (L2 := [(4, .int x28), (0, .ref i0), (2, .long i2), (5, .int y5)]) (by decide) (by rw [ex28]; rfl) ?_
          obtain ⟨x29, ex29, hf⟩ := tq_le hf
          refine tq_iinc (M := mX11_groups) (pc := 158) (v := x29) (L2 := [(5, .int x29), (4, .int x28), (0, .ref i0), (2, .long i2)]) dX11_groups_158 rfl (by rw [ex29, tk_ki_1]) (by decide) rfl ?_
          refine tq_goto (M := mX11_groups) (pc := 161) (tgt := 34) dX11_groups_161 (by decide) ?_
          refine tq_pick (L2 := [(0, .ref i0), (2, .long i2), (4, .int x28), (5, .int x29)]) [2, 3, 1, 0] rfl ?_
          cases (Option.some.inj hf)
          exact ih _ _ o (tq_lc ho) hk
        refine tq_if_eq (M := mX11_groups) (pc := 147) (tgt := 154) dX11_groups_147 (by decide) (fun cc => ?_) (fun cc => ?_)
        · have hf := tq_ifp ep27.symm cc
          refine tq_iconst (M := mX11_groups) (pc := 154) dX11_groups_154 tk_ki_0 ?_
          refine tq_pick (L2 := [(0, .ref i0), (2, .long i2), (5, .int y5)]) [0, 1, 3] rfl ?_
          cases hf
          exact HJ147
        · have hf := tq_ifn ep27.symm cc
          refine tq_iconst (M := mX11_groups) (pc := 150) dX11_groups_150 tk_ki_1 ?_
          refine tq_goto (M := mX11_groups) (pc := 151) (tgt := 155) dX11_groups_151 (by decide) ?_
          refine tq_pick (L2 := [(0, .ref i0), (2, .long i2), (5, .int y5)]) [0, 1, 3] rfl ?_
          cases hf
          exact HJ147
      refine tq_if_ne (M := mX11_groups) (pc := 56) (tgt := 63) dX11_groups_56 (by decide) (fun cc => ?_) (fun cc => ?_)
      · have hf := tq_ifn ep11.symm cc
        refine tq_iconst (M := mX11_groups) (pc := 63) dX11_groups_63 tk_ki_0 ?_
        cases hf
        exact HJ56
      · have hf := tq_ifp ep11.symm cc
        refine tq_iconst (M := mX11_groups) (pc := 59) dX11_groups_59 tk_ki_1 ?_
        refine tq_goto (M := mX11_groups) (pc := 60) (tgt := 64) dX11_groups_60 (by decide) ?_
        cases hf
        exact HJ56
set_option maxHeartbeats 4000000 in
set_option maxRecDepth 20000 in
theorem w_X11_groups {l : Launch} {d : Nat} (hd9 : 8 ≤ d) {t : Nat} {a1 : Int32} {h : tq_H} {o : Int32 × tq_H} {Q : tq_R → tq_H → Prop} (hf : f_X11_groups t a1 h = some o) (hQ : ∀ r h9, r = .inl (some (.int o.1)) ∧ o.2 = h9 → Q r h9) : tq_C l yX11_groups cX11_groups 8 (some .int) d 0 0 [.ref t, .int a1] h Q := by
  refine tq_body (y := yX11_groups) false (by decide +kernel) (fun z => by cases z) (Nat.le_of_ble_eq_true rfl) ?_
  show tq_W l mX11_groups d 0 0 Q 0 [(0, .ref t), (1, .int a1)] [] h
  refine tq_aload_n (M := mX11_groups) (pc := 0) dX11_groups_0 rfl ?_
  refine tq_aload_n (M := mX11_groups) (pc := 1) dX11_groups_1 rfl ?_
  refine tq_iload_n (M := mX11_groups) (pc := 2) dX11_groups_2 rfl ?_
  obtain ⟨⟨⟩, eu2, hf⟩ := tq_be hf
  obtain ⟨fsu2, eu2⟩ := tq_is_s eu2
  obtain ⟨v1, ev1, hf⟩ := tq_be hf
  refine tq_calV (M := mX11_groups) (pc := 3) (S := [.ref t]) tk_y_X11_isPath tk_v_X11_isPath tk_RX11_305 dX11_groups_3 [.int a1] rfl (S0 := _) rfl eu2 rfl (Nat.le_of_ble_eq_true rfl) (d1 := d - 1) (b1 := 0) (s1 := 0) (bc' := 0) (bs' := 0) (Q1 := fun r h9 => r = .inl (some (.int v1)) ∧ h = h9) (by omega) rfl rfl (w_X11_isPath (by omega) ev1 (fun _ _ q => q)) (fun E h9 q => nomatch (show (Sum.inr E : tq_R) = Sum.inl _ from q.1)) (fun r9 h9 q => ?_)
  obtain ⟨q1, rfl⟩ := q
  cases (show (Sum.inl r9 : tq_R) = Sum.inl (some (.int v1)) from q1)
  obtain ⟨p3, ep3, hf⟩ := tq_le hf
  have HJ6 : tq_W l mX11_groups d 0 0 Q 14 [(0, .ref t), (1, .int a1)] [.int p3, .ref t] h := by
    obtain ⟨⟨⟩, eu5, hf⟩ := tq_be hf
    obtain ⟨fsu5, eu5⟩ := tq_is_s eu5
    obtain ⟨v4, ev4, hf⟩ := tq_be hf
    refine tq_calV (M := mX11_groups) (pc := 14) (S := []) tk_y_X11_refused tk_v_X11_refused tk_RX11_204 dX11_groups_14 [.int p3] rfl (S0 := _) rfl eu5 rfl (Nat.le_of_ble_eq_true rfl) (d1 := d - 1) (b1 := 0) (s1 := 0) (bc' := 0) (bs' := 0) (Q1 := fun r h9 => r = .inl (some (.int v4.1)) ∧ v4.2 = h9) (by omega) rfl rfl (w_X11_refused (by omega) ev4 (fun _ _ q => q)) (fun E h9 q => nomatch (show (Sum.inr E : tq_R) = Sum.inl _ from q.1)) (fun r9 h9 q => ?_)
    obtain ⟨q1, rfl⟩ := q
    cases (show (Sum.inl r9 : tq_R) = Sum.inl (some (.int v4.1)) from q1)
    refine tq_if_eq (M := mX11_groups) (pc := 17) (tgt := 22) dX11_groups_17 (by decide) (fun cc => ?_) (fun cc => ?_)
    · have hf := tq_ifp hf cc
      refine tq_aload_n (M := mX11_groups) (pc := 22) dX11_groups_22 rfl ?_
      refine tq_iload_n (M := mX11_groups) (pc := 23) dX11_groups_23 rfl ?_
      obtain ⟨⟨⟩, eu7, hf⟩ := tq_be hf
      obtain ⟨fsu7, eu7⟩ := tq_is_s eu7
      obtain ⟨v6, ev6, hf⟩ := tq_be hf
      refine tq_calV (M := mX11_groups) (pc := 24) (S := []) tk_y_X11_foundBy tk_v_X11_foundBy tk_RX11_368 dX11_groups_24 [.int a1] rfl (S0 := _) rfl eu7 rfl (Nat.le_of_ble_eq_true rfl) (d1 := d - 1) (b1 := 0) (s1 := 0) (bc' := 0) (bs' := 0) (Q1 := fun r h9 => r = .inl (some (.long v6.1)) ∧ v6.2 = h9) (by omega) rfl rfl (w_X11_foundBy (by omega) ev6 (fun _ _ q => q)) (fun E h9 q => nomatch (show (Sum.inr E : tq_R) = Sum.inl _ from q.1)) (fun r9 h9 q => ?_)
      obtain ⟨q1, rfl⟩ := q
      cases (show (Sum.inl r9 : tq_R) = Sum.inl (some (.long v6.1)) from q1)
      refine tq_lstore_n (M := mX11_groups) (pc := 27) rfl dX11_groups_27 (L2 := [(2, .long v6.1), (0, .ref t), (1, .int a1)]) (by decide) rfl ?_
      refine tq_iconst (M := mX11_groups) (pc := 28) dX11_groups_28 tk_ki_0 ?_
      refine tq_istore (M := mX11_groups) (pc := 29) dX11_groups_29 (L2 := [(4, .int (0 : Int32)), (2, .long v6.1), (0, .ref t), (1, .int a1)]) (by decide) rfl ?_
      refine tq_iconst (M := mX11_groups) (pc := 31) dX11_groups_31 tk_ki_0 ?_
      refine tq_istore (M := mX11_groups) (pc := 32) dX11_groups_32 (L2 := [(5, .int (0 : Int32)), (4, .int (0 : Int32)), (2, .long v6.1), (0, .ref t), (1, .int a1)]) (by decide) rfl ?_
      obtain ⟨o30, eo30, hf⟩ := tq_be hf
      refine tq_pick (L2 := [(0, .ref t), (2, .long v6.1), (4, .int (0 : Int32)), (5, .int (0 : Int32))]) [3, 2, 1, 0] rfl ?_
      refine l_X11_groups_34 (by omega) t v6.1 v6.2 _ (0 : Int32) (0 : Int32) _ eo30 ?_
      refine tq_iload (M := mX11_groups) (pc := 164) dX11_groups_164 rfl ?_
      refine tq_iret (M := mX11_groups) (pc := 166) dX11_groups_166 rfl ?_
      cases (Option.some.inj hf)
      exact hQ _ _ ⟨rfl, rfl⟩
    · have hf := tq_ifn hf cc
      refine tq_iconst (M := mX11_groups) (pc := 20) dX11_groups_20 tk_ki_0 ?_
      refine tq_iret (M := mX11_groups) (pc := 21) dX11_groups_21 rfl ?_
      cases (Option.some.inj hf)
      exact hQ _ _ ⟨rfl, rfl⟩
  refine tq_if_eq (M := mX11_groups) (pc := 6) (tgt := 13) dX11_groups_6 (by decide) (fun cc => ?_) (fun cc => ?_)
  · have hf := tq_ifp ep3.symm cc
    refine tq_iconst (M := mX11_groups) (pc := 13) dX11_groups_13 tk_ki_1 ?_
    cases hf
    exact HJ6
  · have hf := tq_ifn ep3.symm cc
    refine tq_iconst (M := mX11_groups) (pc := 9) dX11_groups_9 tk_ki_0 ?_
    refine tq_goto (M := mX11_groups) (pc := 10) (tgt := 14) dX11_groups_10 (by decide) ?_
    cases hf
    exact HJ6
