/-! ===== printed by wip/p58/tools: p58's law: what reads ===== -/
abbrev cL_isTree : ByteArray := method_53_code
def yL_isTree : MethodName := ⟨RL, "isTree", "(LTreequery;)Z"⟩
theorem dL_isTree_0 : decode cL_isTree 0 = .ok (.aload_n 0, 1) := by decide +kernel
theorem dL_isTree_1 : decode cL_isTree 1 = .ok (.iconst 0, 1) := by decide +kernel
theorem dL_isTree_2 : decode cL_isTree 2 = .ok (.invokevirtual 306, 3) := by decide +kernel
theorem dL_isTree_5 : decode cL_isTree 5 = .ok (.ifCond .eq 26, 3) := by decide +kernel
theorem dL_isTree_8 : decode cL_isTree 8 = .ok (.aload_n 0, 1) := by decide +kernel
theorem dL_isTree_9 : decode cL_isTree 9 = .ok (.iconst 0, 1) := by decide +kernel
theorem dL_isTree_10 : decode cL_isTree 10 = .ok (.invokestatic 208, 3) := by decide +kernel
theorem dL_isTree_13 : decode cL_isTree 13 = .ok (.iconst (-1), 1) := by decide +kernel
theorem dL_isTree_14 : decode cL_isTree 14 = .ok (.if_icmp .ne 17, 3) := by decide +kernel
theorem dL_isTree_17 : decode cL_isTree 17 = .ok (.aload_n 0, 1) := by decide +kernel
theorem dL_isTree_18 : decode cL_isTree 18 = .ok (.iconst 0, 1) := by decide +kernel
theorem dL_isTree_19 : decode cL_isTree 19 = .ok (.invokestatic 214, 3) := by decide +kernel
theorem dL_isTree_22 : decode cL_isTree 22 = .ok (.bipush 16, 2) := by decide +kernel
theorem dL_isTree_24 : decode cL_isTree 24 = .ok (.if_icmp .ne 7, 3) := by decide +kernel
theorem dL_isTree_27 : decode cL_isTree 27 = .ok (.iconst 1, 1) := by decide +kernel
theorem dL_isTree_28 : decode cL_isTree 28 = .ok (.goto 4, 3) := by decide +kernel
theorem dL_isTree_31 : decode cL_isTree 31 = .ok (.iconst 0, 1) := by decide +kernel
theorem dL_isTree_32 : decode cL_isTree 32 = .ok (.istore_n 1, 1) := by decide +kernel
theorem dL_isTree_33 : decode cL_isTree 33 = .ok (.iconst 0, 1) := by decide +kernel
theorem dL_isTree_34 : decode cL_isTree 34 = .ok (.istore_n 2, 1) := by decide +kernel
theorem dL_isTree_35 : decode cL_isTree 35 = .ok (.iconst 0, 1) := by decide +kernel
theorem dL_isTree_36 : decode cL_isTree 36 = .ok (.istore_n 3, 1) := by decide +kernel
theorem dL_isTree_37 : decode cL_isTree 37 = .ok (.iload_n 3, 1) := by decide +kernel
theorem dL_isTree_38 : decode cL_isTree 38 = .ok (.aload_n 0, 1) := by decide +kernel
theorem dL_isTree_39 : decode cL_isTree 39 = .ok (.invokevirtual 172, 3) := by decide +kernel
theorem dL_isTree_42 : decode cL_isTree 42 = .ok (.if_icmp .ge 260, 3) := by decide +kernel
theorem dL_isTree_45 : decode cL_isTree 45 = .ok (.iload_n 1, 1) := by decide +kernel
theorem dL_isTree_46 : decode cL_isTree 46 = .ok (.ifCond .eq 256, 3) := by decide +kernel
theorem dL_isTree_49 : decode cL_isTree 49 = .ok (.aload_n 0, 1) := by decide +kernel
theorem dL_isTree_50 : decode cL_isTree 50 = .ok (.iload_n 3, 1) := by decide +kernel
theorem dL_isTree_51 : decode cL_isTree 51 = .ok (.invokevirtual 306, 3) := by decide +kernel
theorem dL_isTree_54 : decode cL_isTree 54 = .ok (.ifCond .eq 242, 3) := by decide +kernel
theorem dL_isTree_57 : decode cL_isTree 57 = .ok (.iinc 2 1, 3) := by decide +kernel
theorem dL_isTree_60 : decode cL_isTree 60 = .ok (.aload_n 0, 1) := by decide +kernel
theorem dL_isTree_61 : decode cL_isTree 61 = .ok (.iload_n 3, 1) := by decide +kernel
theorem dL_isTree_62 : decode cL_isTree 62 = .ok (.invokestatic 208, 3) := by decide +kernel
theorem dL_isTree_65 : decode cL_isTree 65 = .ok (.istore 4, 2) := by decide +kernel
theorem dL_isTree_67 : decode cL_isTree 67 = .ok (.iconst 0, 1) := by decide +kernel
theorem dL_isTree_68 : decode cL_isTree 68 = .ok (.istore 5, 2) := by decide +kernel
theorem dL_isTree_70 : decode cL_isTree 70 = .ok (.aload_n 0, 1) := by decide +kernel
theorem dL_isTree_71 : decode cL_isTree 71 = .ok (.iload_n 3, 1) := by decide +kernel
theorem dL_isTree_72 : decode cL_isTree 72 = .ok (.iload 5, 2) := by decide +kernel
theorem dL_isTree_74 : decode cL_isTree 74 = .ok (.invokestatic 210, 3) := by decide +kernel
theorem dL_isTree_77 : decode cL_isTree 77 = .ok (.ifCond .lt 83, 3) := by decide +kernel
theorem dL_isTree_80 : decode cL_isTree 80 = .ok (.iload_n 1, 1) := by decide +kernel
theorem dL_isTree_81 : decode cL_isTree 81 = .ok (.ifCond .eq 79, 3) := by decide +kernel
theorem dL_isTree_84 : decode cL_isTree 84 = .ok (.aload_n 0, 1) := by decide +kernel
theorem dL_isTree_85 : decode cL_isTree 85 = .ok (.iload_n 3, 1) := by decide +kernel
theorem dL_isTree_86 : decode cL_isTree 86 = .ok (.iload 5, 2) := by decide +kernel
theorem dL_isTree_88 : decode cL_isTree 88 = .ok (.invokestatic 210, 3) := by decide +kernel
theorem dL_isTree_91 : decode cL_isTree 91 = .ok (.istore 6, 2) := by decide +kernel
theorem dL_isTree_93 : decode cL_isTree 93 = .ok (.aload_n 0, 1) := by decide +kernel
theorem dL_isTree_94 : decode cL_isTree 94 = .ok (.iload_n 3, 1) := by decide +kernel
theorem dL_isTree_95 : decode cL_isTree 95 = .ok (.iload 5, 2) := by decide +kernel
theorem dL_isTree_97 : decode cL_isTree 97 = .ok (.iconst 1, 1) := by decide +kernel
theorem dL_isTree_98 : decode cL_isTree 98 = .ok (.iadd, 1) := by decide +kernel
theorem dL_isTree_99 : decode cL_isTree 99 = .ok (.invokestatic 210, 3) := by decide +kernel
theorem dL_isTree_102 : decode cL_isTree 102 = .ok (.istore 7, 2) := by decide +kernel
theorem dL_isTree_104 : decode cL_isTree 104 = .ok (.aload_n 0, 1) := by decide +kernel
theorem dL_isTree_105 : decode cL_isTree 105 = .ok (.iload 6, 2) := by decide +kernel
theorem dL_isTree_107 : decode cL_isTree 107 = .ok (.invokestatic 208, 3) := by decide +kernel
theorem dL_isTree_110 : decode cL_isTree 110 = .ok (.iload_n 3, 1) := by decide +kernel
theorem dL_isTree_111 : decode cL_isTree 111 = .ok (.if_icmp .ne 41, 3) := by decide +kernel
theorem dL_isTree_114 : decode cL_isTree 114 = .ok (.aload_n 0, 1) := by decide +kernel
theorem dL_isTree_115 : decode cL_isTree 115 = .ok (.iload 6, 2) := by decide +kernel
theorem dL_isTree_117 : decode cL_isTree 117 = .ok (.invokestatic 214, 3) := by decide +kernel
theorem dL_isTree_120 : decode cL_isTree 120 = .ok (.aload_n 0, 1) := by decide +kernel
theorem dL_isTree_121 : decode cL_isTree 121 = .ok (.iload_n 3, 1) := by decide +kernel
theorem dL_isTree_122 : decode cL_isTree 122 = .ok (.invokestatic 214, 3) := by decide +kernel
theorem dL_isTree_125 : decode cL_isTree 125 = .ok (.if_icmp .le 27, 3) := by decide +kernel
theorem dL_isTree_128 : decode cL_isTree 128 = .ok (.iload 7, 2) := by decide +kernel
theorem dL_isTree_130 : decode cL_isTree 130 = .ok (.ifCond .lt 18, 3) := by decide +kernel
theorem dL_isTree_133 : decode cL_isTree 133 = .ok (.aload_n 0, 1) := by decide +kernel
theorem dL_isTree_134 : decode cL_isTree 134 = .ok (.iload 7, 2) := by decide +kernel
theorem dL_isTree_136 : decode cL_isTree 136 = .ok (.invokestatic 214, 3) := by decide +kernel
theorem dL_isTree_139 : decode cL_isTree 139 = .ok (.aload_n 0, 1) := by decide +kernel
theorem dL_isTree_140 : decode cL_isTree 140 = .ok (.iload 6, 2) := by decide +kernel
theorem dL_isTree_142 : decode cL_isTree 142 = .ok (.invokestatic 214, 3) := by decide +kernel
theorem dL_isTree_145 : decode cL_isTree 145 = .ok (.if_icmp .le 7, 3) := by decide +kernel
theorem dL_isTree_148 : decode cL_isTree 148 = .ok (.iconst 1, 1) := by decide +kernel
theorem dL_isTree_149 : decode cL_isTree 149 = .ok (.goto 4, 3) := by decide +kernel
theorem dL_isTree_152 : decode cL_isTree 152 = .ok (.iconst 0, 1) := by decide +kernel
theorem dL_isTree_153 : decode cL_isTree 153 = .ok (.istore_n 1, 1) := by decide +kernel
theorem dL_isTree_154 : decode cL_isTree 154 = .ok (.iinc 5 1, 3) := by decide +kernel
theorem dL_isTree_157 : decode cL_isTree 157 = .ok (.goto (-87), 3) := by decide +kernel
theorem dL_isTree_160 : decode cL_isTree 160 = .ok (.iload_n 1, 1) := by decide +kernel
theorem dL_isTree_161 : decode cL_isTree 161 = .ok (.ifCond .eq 133, 3) := by decide +kernel
theorem dL_isTree_164 : decode cL_isTree 164 = .ok (.iload_n 3, 1) := by decide +kernel
theorem dL_isTree_165 : decode cL_isTree 165 = .ok (.ifCond .eq 21, 3) := by decide +kernel
theorem dL_isTree_168 : decode cL_isTree 168 = .ok (.aload_n 0, 1) := by decide +kernel
theorem dL_isTree_169 : decode cL_isTree 169 = .ok (.iload 4, 2) := by decide +kernel
theorem dL_isTree_171 : decode cL_isTree 171 = .ok (.invokevirtual 306, 3) := by decide +kernel
theorem dL_isTree_174 : decode cL_isTree 174 = .ok (.ifCond .eq 120, 3) := by decide +kernel
theorem dL_isTree_177 : decode cL_isTree 177 = .ok (.aload_n 0, 1) := by decide +kernel
theorem dL_isTree_178 : decode cL_isTree 178 = .ok (.iload 4, 2) := by decide +kernel
theorem dL_isTree_180 : decode cL_isTree 180 = .ok (.invokestatic 202, 3) := by decide +kernel
theorem dL_isTree_183 : decode cL_isTree 183 = .ok (.ifCond .ne 111, 3) := by decide +kernel
theorem dL_isTree_186 : decode cL_isTree 186 = .ok (.aload_n 0, 1) := by decide +kernel
theorem dL_isTree_187 : decode cL_isTree 187 = .ok (.iload_n 3, 1) := by decide +kernel
theorem dL_isTree_188 : decode cL_isTree 188 = .ok (.invokestatic 202, 3) := by decide +kernel
theorem dL_isTree_191 : decode cL_isTree 191 = .ok (.ifCond .ne 7, 3) := by decide +kernel
theorem dL_isTree_194 : decode cL_isTree 194 = .ok (.iconst 1, 1) := by decide +kernel
theorem dL_isTree_195 : decode cL_isTree 195 = .ok (.goto 4, 3) := by decide +kernel
theorem dL_isTree_198 : decode cL_isTree 198 = .ok (.iconst 0, 1) := by decide +kernel
theorem dL_isTree_199 : decode cL_isTree 199 = .ok (.aload_n 0, 1) := by decide +kernel
theorem dL_isTree_200 : decode cL_isTree 200 = .ok (.iload_n 3, 1) := by decide +kernel
theorem dL_isTree_201 : decode cL_isTree 201 = .ok (.invokestatic 212, 3) := by decide +kernel
theorem dL_isTree_204 : decode cL_isTree 204 = .ok (.ifCond .lt 7, 3) := by decide +kernel
theorem dL_isTree_207 : decode cL_isTree 207 = .ok (.iconst 1, 1) := by decide +kernel
theorem dL_isTree_208 : decode cL_isTree 208 = .ok (.goto 4, 3) := by decide +kernel
theorem dL_isTree_211 : decode cL_isTree 211 = .ok (.iconst 0, 1) := by decide +kernel
theorem dL_isTree_212 : decode cL_isTree 212 = .ok (.if_icmp .ne 82, 3) := by decide +kernel
theorem dL_isTree_215 : decode cL_isTree 215 = .ok (.aload_n 0, 1) := by decide +kernel
theorem dL_isTree_216 : decode cL_isTree 216 = .ok (.iload_n 3, 1) := by decide +kernel
theorem dL_isTree_217 : decode cL_isTree 217 = .ok (.invokestatic 202, 3) := by decide +kernel
theorem dL_isTree_220 : decode cL_isTree 220 = .ok (.iconst 1, 1) := by decide +kernel
theorem dL_isTree_221 : decode cL_isTree 221 = .ok (.if_icmp .ne 7, 3) := by decide +kernel
theorem dL_isTree_224 : decode cL_isTree 224 = .ok (.iconst 1, 1) := by decide +kernel
theorem dL_isTree_225 : decode cL_isTree 225 = .ok (.goto 4, 3) := by decide +kernel
theorem dL_isTree_228 : decode cL_isTree 228 = .ok (.iconst 0, 1) := by decide +kernel
theorem dL_isTree_229 : decode cL_isTree 229 = .ok (.aload_n 0, 1) := by decide +kernel
theorem dL_isTree_230 : decode cL_isTree 230 = .ok (.iload_n 3, 1) := by decide +kernel
theorem dL_isTree_231 : decode cL_isTree 231 = .ok (.invokestatic 204, 3) := by decide +kernel
theorem dL_isTree_234 : decode cL_isTree 234 = .ok (.iconst (-1), 1) := by decide +kernel
theorem dL_isTree_235 : decode cL_isTree 235 = .ok (.if_icmp .ne 7, 3) := by decide +kernel
theorem dL_isTree_238 : decode cL_isTree 238 = .ok (.iconst 1, 1) := by decide +kernel
theorem dL_isTree_239 : decode cL_isTree 239 = .ok (.goto 4, 3) := by decide +kernel
theorem dL_isTree_242 : decode cL_isTree 242 = .ok (.iconst 0, 1) := by decide +kernel
theorem dL_isTree_243 : decode cL_isTree 243 = .ok (.if_icmp .ne 51, 3) := by decide +kernel
theorem dL_isTree_246 : decode cL_isTree 246 = .ok (.aload_n 0, 1) := by decide +kernel
theorem dL_isTree_247 : decode cL_isTree 247 = .ok (.iload_n 3, 1) := by decide +kernel
theorem dL_isTree_248 : decode cL_isTree 248 = .ok (.invokestatic 202, 3) := by decide +kernel
theorem dL_isTree_251 : decode cL_isTree 251 = .ok (.iconst 2, 1) := by decide +kernel
theorem dL_isTree_252 : decode cL_isTree 252 = .ok (.if_icmp .ne 7, 3) := by decide +kernel
theorem dL_isTree_255 : decode cL_isTree 255 = .ok (.iconst 1, 1) := by decide +kernel
theorem dL_isTree_256 : decode cL_isTree 256 = .ok (.goto 4, 3) := by decide +kernel
theorem dL_isTree_259 : decode cL_isTree 259 = .ok (.iconst 0, 1) := by decide +kernel
theorem dL_isTree_260 : decode cL_isTree 260 = .ok (.aload_n 0, 1) := by decide +kernel
theorem dL_isTree_261 : decode cL_isTree 261 = .ok (.iload_n 3, 1) := by decide +kernel
theorem dL_isTree_262 : decode cL_isTree 262 = .ok (.invokestatic 214, 3) := by decide +kernel
theorem dL_isTree_265 : decode cL_isTree 265 = .ok (.iconst (-1), 1) := by decide +kernel
theorem dL_isTree_266 : decode cL_isTree 266 = .ok (.if_icmp .ne 7, 3) := by decide +kernel
theorem dL_isTree_269 : decode cL_isTree 269 = .ok (.iconst 1, 1) := by decide +kernel
theorem dL_isTree_270 : decode cL_isTree 270 = .ok (.goto 4, 3) := by decide +kernel
theorem dL_isTree_273 : decode cL_isTree 273 = .ok (.iconst 0, 1) := by decide +kernel
theorem dL_isTree_274 : decode cL_isTree 274 = .ok (.if_icmp .ne 20, 3) := by decide +kernel
theorem dL_isTree_277 : decode cL_isTree 277 = .ok (.aload_n 0, 1) := by decide +kernel
theorem dL_isTree_278 : decode cL_isTree 278 = .ok (.iload_n 3, 1) := by decide +kernel
theorem dL_isTree_279 : decode cL_isTree 279 = .ok (.invokestatic 202, 3) := by decide +kernel
theorem dL_isTree_282 : decode cL_isTree 282 = .ok (.ifCond .eq 8, 3) := by decide +kernel
theorem dL_isTree_285 : decode cL_isTree 285 = .ok (.iload 5, 2) := by decide +kernel
theorem dL_isTree_287 : decode cL_isTree 287 = .ok (.ifCond .ne 7, 3) := by decide +kernel
theorem dL_isTree_290 : decode cL_isTree 290 = .ok (.iconst 1, 1) := by decide +kernel
theorem dL_isTree_291 : decode cL_isTree 291 = .ok (.goto 4, 3) := by decide +kernel
theorem dL_isTree_294 : decode cL_isTree 294 = .ok (.iconst 0, 1) := by decide +kernel
theorem dL_isTree_295 : decode cL_isTree 295 = .ok (.istore_n 1, 1) := by decide +kernel
theorem dL_isTree_296 : decode cL_isTree 296 = .ok (.iinc 3 1, 3) := by decide +kernel
theorem dL_isTree_299 : decode cL_isTree 299 = .ok (.goto (-262), 3) := by decide +kernel
theorem dL_isTree_302 : decode cL_isTree 302 = .ok (.iload_n 1, 1) := by decide +kernel
theorem dL_isTree_303 : decode cL_isTree 303 = .ok (.ifCond .eq 15, 3) := by decide +kernel
theorem dL_isTree_306 : decode cL_isTree 306 = .ok (.iload_n 2, 1) := by decide +kernel
theorem dL_isTree_307 : decode cL_isTree 307 = .ok (.aload_n 0, 1) := by decide +kernel
theorem dL_isTree_308 : decode cL_isTree 308 = .ok (.invokevirtual 296, 3) := by decide +kernel
theorem dL_isTree_311 : decode cL_isTree 311 = .ok (.if_icmp .ne 7, 3) := by decide +kernel
theorem dL_isTree_314 : decode cL_isTree 314 = .ok (.iconst 1, 1) := by decide +kernel
theorem dL_isTree_315 : decode cL_isTree 315 = .ok (.goto 4, 3) := by decide +kernel
theorem dL_isTree_318 : decode cL_isTree 318 = .ok (.iconst 0, 1) := by decide +kernel
theorem dL_isTree_319 : decode cL_isTree 319 = .ok (.ireturn, 1) := by decide +kernel
abbrev cL_finds : ByteArray := method_54_code
def yL_finds : MethodName := ⟨RL, "finds", "(LTreequery;)Z"⟩
theorem dL_finds_0 : decode cL_finds 0 = .ok (.iconst 1, 1) := by decide +kernel
theorem dL_finds_1 : decode cL_finds 1 = .ok (.istore_n 1, 1) := by decide +kernel
theorem dL_finds_2 : decode cL_finds 2 = .ok (.iconst 0, 1) := by decide +kernel
theorem dL_finds_3 : decode cL_finds 3 = .ok (.istore_n 2, 1) := by decide +kernel
theorem dL_finds_4 : decode cL_finds 4 = .ok (.iload_n 2, 1) := by decide +kernel
theorem dL_finds_5 : decode cL_finds 5 = .ok (.aload_n 0, 1) := by decide +kernel
theorem dL_finds_6 : decode cL_finds 6 = .ok (.invokevirtual 175, 3) := by decide +kernel
theorem dL_finds_9 : decode cL_finds 9 = .ok (.if_icmp .ge 226, 3) := by decide +kernel
theorem dL_finds_12 : decode cL_finds 12 = .ok (.iload_n 1, 1) := by decide +kernel
theorem dL_finds_13 : decode cL_finds 13 = .ok (.ifCond .eq 222, 3) := by decide +kernel
theorem dL_finds_16 : decode cL_finds 16 = .ok (.aload_n 0, 1) := by decide +kernel
theorem dL_finds_17 : decode cL_finds 17 = .ok (.iload_n 2, 1) := by decide +kernel
theorem dL_finds_18 : decode cL_finds 18 = .ok (.iconst 0, 1) := by decide +kernel
theorem dL_finds_19 : decode cL_finds 19 = .ok (.invokestatic 233, 3) := by decide +kernel
theorem dL_finds_22 : decode cL_finds 22 = .ok (.istore_n 3, 1) := by decide +kernel
theorem dL_finds_23 : decode cL_finds 23 = .ok (.iload_n 3, 1) := by decide +kernel
theorem dL_finds_24 : decode cL_finds 24 = .ok (.ifCond .lt 73, 3) := by decide +kernel
theorem dL_finds_27 : decode cL_finds 27 = .ok (.iload_n 3, 1) := by decide +kernel
theorem dL_finds_28 : decode cL_finds 28 = .ok (.aload_n 0, 1) := by decide +kernel
theorem dL_finds_29 : decode cL_finds 29 = .ok (.iload_n 2, 1) := by decide +kernel
theorem dL_finds_30 : decode cL_finds 30 = .ok (.iconst 0, 1) := by decide +kernel
theorem dL_finds_31 : decode cL_finds 31 = .ok (.invokestatic 235, 3) := by decide +kernel
theorem dL_finds_34 : decode cL_finds 34 = .ok (.if_icmp .ne 63, 3) := by decide +kernel
theorem dL_finds_37 : decode cL_finds 37 = .ok (.aload_n 0, 1) := by decide +kernel
theorem dL_finds_38 : decode cL_finds 38 = .ok (.iload_n 2, 1) := by decide +kernel
theorem dL_finds_39 : decode cL_finds 39 = .ok (.iload_n 3, 1) := by decide +kernel
theorem dL_finds_40 : decode cL_finds 40 = .ok (.invokestatic 237, 3) := by decide +kernel
theorem dL_finds_43 : decode cL_finds 43 = .ok (.ldc 15, 2) := by decide +kernel
theorem dL_finds_45 : decode cL_finds 45 = .ok (.if_icmp .ne 52, 3) := by decide +kernel
theorem dL_finds_48 : decode cL_finds 48 = .ok (.aload_n 0, 1) := by decide +kernel
theorem dL_finds_49 : decode cL_finds 49 = .ok (.iload_n 2, 1) := by decide +kernel
theorem dL_finds_50 : decode cL_finds 50 = .ok (.iload_n 3, 1) := by decide +kernel
theorem dL_finds_51 : decode cL_finds 51 = .ok (.invokestatic 239, 3) := by decide +kernel
theorem dL_finds_54 : decode cL_finds 54 = .ok (.ldc 15, 2) := by decide +kernel
theorem dL_finds_56 : decode cL_finds 56 = .ok (.if_icmp .ne 41, 3) := by decide +kernel
theorem dL_finds_59 : decode cL_finds 59 = .ok (.aload_n 0, 1) := by decide +kernel
theorem dL_finds_60 : decode cL_finds 60 = .ok (.iload_n 2, 1) := by decide +kernel
theorem dL_finds_61 : decode cL_finds 61 = .ok (.invokestatic 241, 3) := by decide +kernel
theorem dL_finds_64 : decode cL_finds 64 = .ok (.iload_n 3, 1) := by decide +kernel
theorem dL_finds_65 : decode cL_finds 65 = .ok (.if_icmp .gt 32, 3) := by decide +kernel
theorem dL_finds_68 : decode cL_finds 68 = .ok (.iload_n 3, 1) := by decide +kernel
theorem dL_finds_69 : decode cL_finds 69 = .ok (.ifCond .ne 7, 3) := by decide +kernel
theorem dL_finds_72 : decode cL_finds 72 = .ok (.iconst 1, 1) := by decide +kernel
theorem dL_finds_73 : decode cL_finds 73 = .ok (.goto 4, 3) := by decide +kernel
theorem dL_finds_76 : decode cL_finds 76 = .ok (.iconst 0, 1) := by decide +kernel
theorem dL_finds_77 : decode cL_finds 77 = .ok (.aload_n 0, 1) := by decide +kernel
theorem dL_finds_78 : decode cL_finds 78 = .ok (.iload_n 2, 1) := by decide +kernel
theorem dL_finds_79 : decode cL_finds 79 = .ok (.invokestatic 241, 3) := by decide +kernel
theorem dL_finds_82 : decode cL_finds 82 = .ok (.ifCond .ne 7, 3) := by decide +kernel
theorem dL_finds_85 : decode cL_finds 85 = .ok (.iconst 1, 1) := by decide +kernel
theorem dL_finds_86 : decode cL_finds 86 = .ok (.goto 4, 3) := by decide +kernel
theorem dL_finds_89 : decode cL_finds 89 = .ok (.iconst 0, 1) := by decide +kernel
theorem dL_finds_90 : decode cL_finds 90 = .ok (.if_icmp .ne 7, 3) := by decide +kernel
theorem dL_finds_93 : decode cL_finds 93 = .ok (.iconst 1, 1) := by decide +kernel
theorem dL_finds_94 : decode cL_finds 94 = .ok (.goto 4, 3) := by decide +kernel
theorem dL_finds_97 : decode cL_finds 97 = .ok (.iconst 0, 1) := by decide +kernel
theorem dL_finds_98 : decode cL_finds 98 = .ok (.istore_n 1, 1) := by decide +kernel
theorem dL_finds_99 : decode cL_finds 99 = .ok (.iconst 0, 1) := by decide +kernel
theorem dL_finds_100 : decode cL_finds 100 = .ok (.istore 4, 2) := by decide +kernel
theorem dL_finds_102 : decode cL_finds 102 = .ok (.iload 4, 2) := by decide +kernel
theorem dL_finds_104 : decode cL_finds 104 = .ok (.iload_n 3, 1) := by decide +kernel
theorem dL_finds_105 : decode cL_finds 105 = .ok (.if_icmp .ge 124, 3) := by decide +kernel
theorem dL_finds_108 : decode cL_finds 108 = .ok (.iload_n 1, 1) := by decide +kernel
theorem dL_finds_109 : decode cL_finds 109 = .ok (.ifCond .eq 120, 3) := by decide +kernel
theorem dL_finds_112 : decode cL_finds 112 = .ok (.aload_n 0, 1) := by decide +kernel
theorem dL_finds_113 : decode cL_finds 113 = .ok (.iload_n 2, 1) := by decide +kernel
theorem dL_finds_114 : decode cL_finds 114 = .ok (.iload 4, 2) := by decide +kernel
theorem dL_finds_116 : decode cL_finds 116 = .ok (.invokestatic 237, 3) := by decide +kernel
theorem dL_finds_119 : decode cL_finds 119 = .ok (.istore 5, 2) := by decide +kernel
theorem dL_finds_121 : decode cL_finds 121 = .ok (.iload 4, 2) := by decide +kernel
theorem dL_finds_123 : decode cL_finds 123 = .ok (.iconst 1, 1) := by decide +kernel
theorem dL_finds_124 : decode cL_finds 124 = .ok (.iadd, 1) := by decide +kernel
theorem dL_finds_125 : decode cL_finds 125 = .ok (.iload_n 3, 1) := by decide +kernel
theorem dL_finds_126 : decode cL_finds 126 = .ok (.if_icmp .ge 15, 3) := by decide +kernel
theorem dL_finds_129 : decode cL_finds 129 = .ok (.aload_n 0, 1) := by decide +kernel
theorem dL_finds_130 : decode cL_finds 130 = .ok (.iload_n 2, 1) := by decide +kernel
theorem dL_finds_131 : decode cL_finds 131 = .ok (.iload 4, 2) := by decide +kernel
theorem dL_finds_133 : decode cL_finds 133 = .ok (.iconst 1, 1) := by decide +kernel
theorem dL_finds_134 : decode cL_finds 134 = .ok (.iadd, 1) := by decide +kernel
theorem dL_finds_135 : decode cL_finds 135 = .ok (.invokestatic 237, 3) := by decide +kernel
theorem dL_finds_138 : decode cL_finds 138 = .ok (.goto 4, 3) := by decide +kernel
theorem dL_finds_141 : decode cL_finds 141 = .ok (.iconst (-1), 1) := by decide +kernel
theorem dL_finds_142 : decode cL_finds 142 = .ok (.istore 6, 2) := by decide +kernel
theorem dL_finds_144 : decode cL_finds 144 = .ok (.iload 6, 2) := by decide +kernel
theorem dL_finds_146 : decode cL_finds 146 = .ok (.ifCond .lt 25, 3) := by decide +kernel
theorem dL_finds_149 : decode cL_finds 149 = .ok (.aload_n 0, 1) := by decide +kernel
theorem dL_finds_150 : decode cL_finds 150 = .ok (.iload 5, 2) := by decide +kernel
theorem dL_finds_152 : decode cL_finds 152 = .ok (.invokestatic 214, 3) := by decide +kernel
theorem dL_finds_155 : decode cL_finds 155 = .ok (.ifCond .lt 16, 3) := by decide +kernel
theorem dL_finds_158 : decode cL_finds 158 = .ok (.aload_n 0, 1) := by decide +kernel
theorem dL_finds_159 : decode cL_finds 159 = .ok (.iload 6, 2) := by decide +kernel
theorem dL_finds_161 : decode cL_finds 161 = .ok (.invokestatic 214, 3) := by decide +kernel
theorem dL_finds_164 : decode cL_finds 164 = .ok (.ifCond .lt 7, 3) := by decide +kernel
theorem dL_finds_167 : decode cL_finds 167 = .ok (.iconst 1, 1) := by decide +kernel
theorem dL_finds_168 : decode cL_finds 168 = .ok (.goto 4, 3) := by decide +kernel
theorem dL_finds_171 : decode cL_finds 171 = .ok (.iconst 0, 1) := by decide +kernel
theorem dL_finds_172 : decode cL_finds 172 = .ok (.istore 7, 2) := by decide +kernel
theorem dL_finds_174 : decode cL_finds 174 = .ok (.aload_n 0, 1) := by decide +kernel
theorem dL_finds_175 : decode cL_finds 175 = .ok (.iload 5, 2) := by decide +kernel
theorem dL_finds_177 : decode cL_finds 177 = .ok (.invokevirtual 306, 3) := by decide +kernel
theorem dL_finds_180 : decode cL_finds 180 = .ok (.ifCond .eq 41, 3) := by decide +kernel
theorem dL_finds_183 : decode cL_finds 183 = .ok (.iload 7, 2) := by decide +kernel
theorem dL_finds_185 : decode cL_finds 185 = .ok (.ifCond .eq 18, 3) := by decide +kernel
theorem dL_finds_188 : decode cL_finds 188 = .ok (.aload_n 0, 1) := by decide +kernel
theorem dL_finds_189 : decode cL_finds 189 = .ok (.iload 5, 2) := by decide +kernel
theorem dL_finds_191 : decode cL_finds 191 = .ok (.invokestatic 214, 3) := by decide +kernel
theorem dL_finds_194 : decode cL_finds 194 = .ok (.aload_n 0, 1) := by decide +kernel
theorem dL_finds_195 : decode cL_finds 195 = .ok (.iload 6, 2) := by decide +kernel
theorem dL_finds_197 : decode cL_finds 197 = .ok (.invokestatic 214, 3) := by decide +kernel
theorem dL_finds_200 : decode cL_finds 200 = .ok (.if_icmp .ge 21, 3) := by decide +kernel
theorem dL_finds_203 : decode cL_finds 203 = .ok (.iload 4, 2) := by decide +kernel
theorem dL_finds_205 : decode cL_finds 205 = .ok (.ifCond .eq 12, 3) := by decide +kernel
theorem dL_finds_208 : decode cL_finds 208 = .ok (.aload_n 0, 1) := by decide +kernel
theorem dL_finds_209 : decode cL_finds 209 = .ok (.iconst 0, 1) := by decide +kernel
theorem dL_finds_210 : decode cL_finds 210 = .ok (.invokestatic 206, 3) := by decide +kernel
theorem dL_finds_213 : decode cL_finds 213 = .ok (.iconst (-1), 1) := by decide +kernel
theorem dL_finds_214 : decode cL_finds 214 = .ok (.if_icmp .lt 7, 3) := by decide +kernel
theorem dL_finds_217 : decode cL_finds 217 = .ok (.iconst 1, 1) := by decide +kernel
theorem dL_finds_218 : decode cL_finds 218 = .ok (.goto 4, 3) := by decide +kernel
theorem dL_finds_221 : decode cL_finds 221 = .ok (.iconst 0, 1) := by decide +kernel
theorem dL_finds_222 : decode cL_finds 222 = .ok (.istore_n 1, 1) := by decide +kernel
theorem dL_finds_223 : decode cL_finds 223 = .ok (.iinc 4 1, 3) := by decide +kernel
theorem dL_finds_226 : decode cL_finds 226 = .ok (.goto (-124), 3) := by decide +kernel
theorem dL_finds_229 : decode cL_finds 229 = .ok (.iinc 2 1, 3) := by decide +kernel
theorem dL_finds_232 : decode cL_finds 232 = .ok (.goto (-228), 3) := by decide +kernel
theorem dL_finds_235 : decode cL_finds 235 = .ok (.iload_n 1, 1) := by decide +kernel
theorem dL_finds_236 : decode cL_finds 236 = .ok (.ireturn, 1) := by decide +kernel
abbrev cL_alike : ByteArray := method_52_code
def yL_alike : MethodName := ⟨RL, "alike", "(LTreequery;LTreequery;I)Z"⟩
theorem dL_alike_0 : decode cL_alike 0 = .ok (.aload_n 0, 1) := by decide +kernel
theorem dL_alike_1 : decode cL_alike 1 = .ok (.invokevirtual 172, 3) := by decide +kernel
theorem dL_alike_4 : decode cL_alike 4 = .ok (.aload_n 1, 1) := by decide +kernel
theorem dL_alike_5 : decode cL_alike 5 = .ok (.invokevirtual 172, 3) := by decide +kernel
theorem dL_alike_8 : decode cL_alike 8 = .ok (.if_icmp .ne 74, 3) := by decide +kernel
theorem dL_alike_11 : decode cL_alike 11 = .ok (.aload_n 0, 1) := by decide +kernel
theorem dL_alike_12 : decode cL_alike 12 = .ok (.invokevirtual 296, 3) := by decide +kernel
theorem dL_alike_15 : decode cL_alike 15 = .ok (.aload_n 1, 1) := by decide +kernel
theorem dL_alike_16 : decode cL_alike 16 = .ok (.invokevirtual 296, 3) := by decide +kernel
theorem dL_alike_19 : decode cL_alike 19 = .ok (.if_icmp .ne 63, 3) := by decide +kernel
theorem dL_alike_22 : decode cL_alike 22 = .ok (.aload_n 0, 1) := by decide +kernel
theorem dL_alike_23 : decode cL_alike 23 = .ok (.invokevirtual 299, 3) := by decide +kernel
theorem dL_alike_26 : decode cL_alike 26 = .ok (.aload_n 1, 1) := by decide +kernel
theorem dL_alike_27 : decode cL_alike 27 = .ok (.invokevirtual 299, 3) := by decide +kernel
theorem dL_alike_30 : decode cL_alike 30 = .ok (.if_icmp .ne 52, 3) := by decide +kernel
theorem dL_alike_33 : decode cL_alike 33 = .ok (.aload_n 0, 1) := by decide +kernel
theorem dL_alike_34 : decode cL_alike 34 = .ok (.invokevirtual 175, 3) := by decide +kernel
theorem dL_alike_37 : decode cL_alike 37 = .ok (.aload_n 1, 1) := by decide +kernel
theorem dL_alike_38 : decode cL_alike 38 = .ok (.invokevirtual 175, 3) := by decide +kernel
theorem dL_alike_41 : decode cL_alike 41 = .ok (.if_icmp .ne 41, 3) := by decide +kernel
theorem dL_alike_44 : decode cL_alike 44 = .ok (.aload_n 0, 1) := by decide +kernel
theorem dL_alike_45 : decode cL_alike 45 = .ok (.invokevirtual 302, 3) := by decide +kernel
theorem dL_alike_48 : decode cL_alike 48 = .ok (.aload_n 1, 1) := by decide +kernel
theorem dL_alike_49 : decode cL_alike 49 = .ok (.invokevirtual 302, 3) := by decide +kernel
theorem dL_alike_52 : decode cL_alike 52 = .ok (.if_icmp .ne 30, 3) := by decide +kernel
theorem dL_alike_55 : decode cL_alike 55 = .ok (.aload_n 0, 1) := by decide +kernel
theorem dL_alike_56 : decode cL_alike 56 = .ok (.iload_n 2, 1) := by decide +kernel
theorem dL_alike_57 : decode cL_alike 57 = .ok (.iconst 5, 1) := by decide +kernel
theorem dL_alike_58 : decode cL_alike 58 = .ok (.irem, 1) := by decide +kernel
theorem dL_alike_59 : decode cL_alike 59 = .ok (.iload_n 2, 1) := by decide +kernel
theorem dL_alike_60 : decode cL_alike 60 = .ok (.iconst 2, 1) := by decide +kernel
theorem dL_alike_61 : decode cL_alike 61 = .ok (.irem, 1) := by decide +kernel
theorem dL_alike_62 : decode cL_alike 62 = .ok (.invokestatic 271, 3) := by decide +kernel
theorem dL_alike_65 : decode cL_alike 65 = .ok (.aload_n 1, 1) := by decide +kernel
theorem dL_alike_66 : decode cL_alike 66 = .ok (.iload_n 2, 1) := by decide +kernel
theorem dL_alike_67 : decode cL_alike 67 = .ok (.iconst 5, 1) := by decide +kernel
theorem dL_alike_68 : decode cL_alike 68 = .ok (.irem, 1) := by decide +kernel
theorem dL_alike_69 : decode cL_alike 69 = .ok (.iload_n 2, 1) := by decide +kernel
theorem dL_alike_70 : decode cL_alike 70 = .ok (.iconst 2, 1) := by decide +kernel
theorem dL_alike_71 : decode cL_alike 71 = .ok (.irem, 1) := by decide +kernel
theorem dL_alike_72 : decode cL_alike 72 = .ok (.invokestatic 271, 3) := by decide +kernel
theorem dL_alike_75 : decode cL_alike 75 = .ok (.if_icmp .ne 7, 3) := by decide +kernel
theorem dL_alike_78 : decode cL_alike 78 = .ok (.iconst 1, 1) := by decide +kernel
theorem dL_alike_79 : decode cL_alike 79 = .ok (.goto 4, 3) := by decide +kernel
theorem dL_alike_82 : decode cL_alike 82 = .ok (.iconst 0, 1) := by decide +kernel
theorem dL_alike_83 : decode cL_alike 83 = .ok (.istore_n 3, 1) := by decide +kernel
theorem dL_alike_84 : decode cL_alike 84 = .ok (.iconst 0, 1) := by decide +kernel
theorem dL_alike_85 : decode cL_alike 85 = .ok (.istore 4, 2) := by decide +kernel
theorem dL_alike_87 : decode cL_alike 87 = .ok (.iload 4, 2) := by decide +kernel
theorem dL_alike_89 : decode cL_alike 89 = .ok (.aload_n 0, 1) := by decide +kernel
theorem dL_alike_90 : decode cL_alike 90 = .ok (.invokevirtual 172, 3) := by decide +kernel
theorem dL_alike_93 : decode cL_alike 93 = .ok (.if_icmp .ge 124, 3) := by decide +kernel
theorem dL_alike_96 : decode cL_alike 96 = .ok (.iload_n 3, 1) := by decide +kernel
theorem dL_alike_97 : decode cL_alike 97 = .ok (.ifCond .eq 120, 3) := by decide +kernel
theorem dL_alike_100 : decode cL_alike 100 = .ok (.aload_n 0, 1) := by decide +kernel
theorem dL_alike_101 : decode cL_alike 101 = .ok (.iload 4, 2) := by decide +kernel
theorem dL_alike_103 : decode cL_alike 103 = .ok (.invokestatic 202, 3) := by decide +kernel
theorem dL_alike_106 : decode cL_alike 106 = .ok (.aload_n 1, 1) := by decide +kernel
theorem dL_alike_107 : decode cL_alike 107 = .ok (.iload 4, 2) := by decide +kernel
theorem dL_alike_109 : decode cL_alike 109 = .ok (.invokestatic 202, 3) := by decide +kernel
theorem dL_alike_112 : decode cL_alike 112 = .ok (.if_icmp .ne 97, 3) := by decide +kernel
theorem dL_alike_115 : decode cL_alike 115 = .ok (.aload_n 0, 1) := by decide +kernel
theorem dL_alike_116 : decode cL_alike 116 = .ok (.iload 4, 2) := by decide +kernel
theorem dL_alike_118 : decode cL_alike 118 = .ok (.invokestatic 204, 3) := by decide +kernel
theorem dL_alike_121 : decode cL_alike 121 = .ok (.aload_n 1, 1) := by decide +kernel
theorem dL_alike_122 : decode cL_alike 122 = .ok (.iload 4, 2) := by decide +kernel
theorem dL_alike_124 : decode cL_alike 124 = .ok (.invokestatic 204, 3) := by decide +kernel
theorem dL_alike_127 : decode cL_alike 127 = .ok (.if_icmp .ne 82, 3) := by decide +kernel
theorem dL_alike_130 : decode cL_alike 130 = .ok (.aload_n 0, 1) := by decide +kernel
theorem dL_alike_131 : decode cL_alike 131 = .ok (.iload 4, 2) := by decide +kernel
theorem dL_alike_133 : decode cL_alike 133 = .ok (.invokestatic 206, 3) := by decide +kernel
theorem dL_alike_136 : decode cL_alike 136 = .ok (.aload_n 1, 1) := by decide +kernel
theorem dL_alike_137 : decode cL_alike 137 = .ok (.iload 4, 2) := by decide +kernel
theorem dL_alike_139 : decode cL_alike 139 = .ok (.invokestatic 206, 3) := by decide +kernel
theorem dL_alike_142 : decode cL_alike 142 = .ok (.if_icmp .ne 67, 3) := by decide +kernel
theorem dL_alike_145 : decode cL_alike 145 = .ok (.aload_n 0, 1) := by decide +kernel
theorem dL_alike_146 : decode cL_alike 146 = .ok (.iload 4, 2) := by decide +kernel
theorem dL_alike_148 : decode cL_alike 148 = .ok (.invokestatic 208, 3) := by decide +kernel
theorem dL_alike_151 : decode cL_alike 151 = .ok (.aload_n 1, 1) := by decide +kernel
theorem dL_alike_152 : decode cL_alike 152 = .ok (.iload 4, 2) := by decide +kernel
theorem dL_alike_154 : decode cL_alike 154 = .ok (.invokestatic 208, 3) := by decide +kernel
theorem dL_alike_157 : decode cL_alike 157 = .ok (.if_icmp .ne 52, 3) := by decide +kernel
theorem dL_alike_160 : decode cL_alike 160 = .ok (.aload_n 0, 1) := by decide +kernel
theorem dL_alike_161 : decode cL_alike 161 = .ok (.iload 4, 2) := by decide +kernel
theorem dL_alike_163 : decode cL_alike 163 = .ok (.invokestatic 212, 3) := by decide +kernel
theorem dL_alike_166 : decode cL_alike 166 = .ok (.aload_n 1, 1) := by decide +kernel
theorem dL_alike_167 : decode cL_alike 167 = .ok (.iload 4, 2) := by decide +kernel
theorem dL_alike_169 : decode cL_alike 169 = .ok (.invokestatic 212, 3) := by decide +kernel
theorem dL_alike_172 : decode cL_alike 172 = .ok (.if_icmp .ne 37, 3) := by decide +kernel
theorem dL_alike_175 : decode cL_alike 175 = .ok (.aload_n 0, 1) := by decide +kernel
theorem dL_alike_176 : decode cL_alike 176 = .ok (.iload 4, 2) := by decide +kernel
theorem dL_alike_178 : decode cL_alike 178 = .ok (.invokestatic 214, 3) := by decide +kernel
theorem dL_alike_181 : decode cL_alike 181 = .ok (.aload_n 1, 1) := by decide +kernel
theorem dL_alike_182 : decode cL_alike 182 = .ok (.iload 4, 2) := by decide +kernel
theorem dL_alike_184 : decode cL_alike 184 = .ok (.invokestatic 214, 3) := by decide +kernel
theorem dL_alike_187 : decode cL_alike 187 = .ok (.if_icmp .ne 22, 3) := by decide +kernel
theorem dL_alike_190 : decode cL_alike 190 = .ok (.aload_n 0, 1) := by decide +kernel
theorem dL_alike_191 : decode cL_alike 191 = .ok (.iload 4, 2) := by decide +kernel
theorem dL_alike_193 : decode cL_alike 193 = .ok (.invokestatic 219, 3) := by decide +kernel
theorem dL_alike_196 : decode cL_alike 196 = .ok (.aload_n 1, 1) := by decide +kernel
theorem dL_alike_197 : decode cL_alike 197 = .ok (.iload 4, 2) := by decide +kernel
theorem dL_alike_199 : decode cL_alike 199 = .ok (.invokestatic 219, 3) := by decide +kernel
theorem dL_alike_202 : decode cL_alike 202 = .ok (.if_icmp .ne 7, 3) := by decide +kernel
theorem dL_alike_205 : decode cL_alike 205 = .ok (.iconst 1, 1) := by decide +kernel
theorem dL_alike_206 : decode cL_alike 206 = .ok (.goto 4, 3) := by decide +kernel
theorem dL_alike_209 : decode cL_alike 209 = .ok (.iconst 0, 1) := by decide +kernel
theorem dL_alike_210 : decode cL_alike 210 = .ok (.istore_n 3, 1) := by decide +kernel
theorem dL_alike_211 : decode cL_alike 211 = .ok (.iinc 4 1, 3) := by decide +kernel
theorem dL_alike_214 : decode cL_alike 214 = .ok (.goto (-127), 3) := by decide +kernel
theorem dL_alike_217 : decode cL_alike 217 = .ok (.iconst 0, 1) := by decide +kernel
theorem dL_alike_218 : decode cL_alike 218 = .ok (.istore 4, 2) := by decide +kernel
theorem dL_alike_220 : decode cL_alike 220 = .ok (.iload 4, 2) := by decide +kernel
theorem dL_alike_222 : decode cL_alike 222 = .ok (.aload_n 0, 1) := by decide +kernel
theorem dL_alike_223 : decode cL_alike 223 = .ok (.invokevirtual 175, 3) := by decide +kernel
theorem dL_alike_226 : decode cL_alike 226 = .ok (.if_icmp .ge 81, 3) := by decide +kernel
theorem dL_alike_229 : decode cL_alike 229 = .ok (.iload_n 3, 1) := by decide +kernel
theorem dL_alike_230 : decode cL_alike 230 = .ok (.ifCond .eq 77, 3) := by decide +kernel
theorem dL_alike_233 : decode cL_alike 233 = .ok (.aload_n 0, 1) := by decide +kernel
theorem dL_alike_234 : decode cL_alike 234 = .ok (.iload 4, 2) := by decide +kernel
theorem dL_alike_236 : decode cL_alike 236 = .ok (.iconst 0, 1) := by decide +kernel
theorem dL_alike_237 : decode cL_alike 237 = .ok (.invokestatic 233, 3) := by decide +kernel
theorem dL_alike_240 : decode cL_alike 240 = .ok (.aload_n 1, 1) := by decide +kernel
theorem dL_alike_241 : decode cL_alike 241 = .ok (.iload 4, 2) := by decide +kernel
theorem dL_alike_243 : decode cL_alike 243 = .ok (.iconst 0, 1) := by decide +kernel
theorem dL_alike_244 : decode cL_alike 244 = .ok (.invokestatic 233, 3) := by decide +kernel
theorem dL_alike_247 : decode cL_alike 247 = .ok (.if_icmp .ne 52, 3) := by decide +kernel
theorem dL_alike_250 : decode cL_alike 250 = .ok (.aload_n 0, 1) := by decide +kernel
theorem dL_alike_251 : decode cL_alike 251 = .ok (.iload 4, 2) := by decide +kernel
theorem dL_alike_253 : decode cL_alike 253 = .ok (.invokestatic 245, 3) := by decide +kernel
theorem dL_alike_256 : decode cL_alike 256 = .ok (.aload_n 1, 1) := by decide +kernel
theorem dL_alike_257 : decode cL_alike 257 = .ok (.iload 4, 2) := by decide +kernel
theorem dL_alike_259 : decode cL_alike 259 = .ok (.invokestatic 245, 3) := by decide +kernel
theorem dL_alike_262 : decode cL_alike 262 = .ok (.if_icmp .ne 37, 3) := by decide +kernel
theorem dL_alike_265 : decode cL_alike 265 = .ok (.aload_n 0, 1) := by decide +kernel
theorem dL_alike_266 : decode cL_alike 266 = .ok (.iload 4, 2) := by decide +kernel
theorem dL_alike_268 : decode cL_alike 268 = .ok (.invokestatic 243, 3) := by decide +kernel
theorem dL_alike_271 : decode cL_alike 271 = .ok (.aload_n 1, 1) := by decide +kernel
theorem dL_alike_272 : decode cL_alike 272 = .ok (.iload 4, 2) := by decide +kernel
theorem dL_alike_274 : decode cL_alike 274 = .ok (.invokestatic 243, 3) := by decide +kernel
theorem dL_alike_277 : decode cL_alike 277 = .ok (.if_icmp .ne 22, 3) := by decide +kernel
theorem dL_alike_280 : decode cL_alike 280 = .ok (.aload_n 0, 1) := by decide +kernel
theorem dL_alike_281 : decode cL_alike 281 = .ok (.iload 4, 2) := by decide +kernel
theorem dL_alike_283 : decode cL_alike 283 = .ok (.invokestatic 241, 3) := by decide +kernel
theorem dL_alike_286 : decode cL_alike 286 = .ok (.aload_n 1, 1) := by decide +kernel
theorem dL_alike_287 : decode cL_alike 287 = .ok (.iload 4, 2) := by decide +kernel
theorem dL_alike_289 : decode cL_alike 289 = .ok (.invokestatic 241, 3) := by decide +kernel
theorem dL_alike_292 : decode cL_alike 292 = .ok (.if_icmp .ne 7, 3) := by decide +kernel
theorem dL_alike_295 : decode cL_alike 295 = .ok (.iconst 1, 1) := by decide +kernel
theorem dL_alike_296 : decode cL_alike 296 = .ok (.goto 4, 3) := by decide +kernel
theorem dL_alike_299 : decode cL_alike 299 = .ok (.iconst 0, 1) := by decide +kernel
theorem dL_alike_300 : decode cL_alike 300 = .ok (.istore_n 3, 1) := by decide +kernel
theorem dL_alike_301 : decode cL_alike 301 = .ok (.iinc 4 1, 3) := by decide +kernel
theorem dL_alike_304 : decode cL_alike 304 = .ok (.goto (-84), 3) := by decide +kernel
theorem dL_alike_307 : decode cL_alike 307 = .ok (.iload_n 3, 1) := by decide +kernel
theorem dL_alike_308 : decode cL_alike 308 = .ok (.ifCond .eq 43, 3) := by decide +kernel
theorem dL_alike_311 : decode cL_alike 311 = .ok (.aload_n 0, 1) := by decide +kernel
theorem dL_alike_312 : decode cL_alike 312 = .ok (.iload_n 2, 1) := by decide +kernel
theorem dL_alike_313 : decode cL_alike 313 = .ok (.iconst 5, 1) := by decide +kernel
theorem dL_alike_314 : decode cL_alike 314 = .ok (.irem, 1) := by decide +kernel
theorem dL_alike_315 : decode cL_alike 315 = .ok (.iconst 0, 1) := by decide +kernel
theorem dL_alike_316 : decode cL_alike 316 = .ok (.invokestatic 251, 3) := by decide +kernel
theorem dL_alike_319 : decode cL_alike 319 = .ok (.aload_n 1, 1) := by decide +kernel
theorem dL_alike_320 : decode cL_alike 320 = .ok (.iload_n 2, 1) := by decide +kernel
theorem dL_alike_321 : decode cL_alike 321 = .ok (.iconst 5, 1) := by decide +kernel
theorem dL_alike_322 : decode cL_alike 322 = .ok (.irem, 1) := by decide +kernel
theorem dL_alike_323 : decode cL_alike 323 = .ok (.iconst 0, 1) := by decide +kernel
theorem dL_alike_324 : decode cL_alike 324 = .ok (.invokestatic 251, 3) := by decide +kernel
theorem dL_alike_327 : decode cL_alike 327 = .ok (.if_icmp .ne 24, 3) := by decide +kernel
theorem dL_alike_330 : decode cL_alike 330 = .ok (.aload_n 0, 1) := by decide +kernel
theorem dL_alike_331 : decode cL_alike 331 = .ok (.iload_n 2, 1) := by decide +kernel
theorem dL_alike_332 : decode cL_alike 332 = .ok (.iconst 5, 1) := by decide +kernel
theorem dL_alike_333 : decode cL_alike 333 = .ok (.irem, 1) := by decide +kernel
theorem dL_alike_334 : decode cL_alike 334 = .ok (.invokestatic 253, 3) := by decide +kernel
theorem dL_alike_337 : decode cL_alike 337 = .ok (.aload_n 1, 1) := by decide +kernel
theorem dL_alike_338 : decode cL_alike 338 = .ok (.iload_n 2, 1) := by decide +kernel
theorem dL_alike_339 : decode cL_alike 339 = .ok (.iconst 5, 1) := by decide +kernel
theorem dL_alike_340 : decode cL_alike 340 = .ok (.irem, 1) := by decide +kernel
theorem dL_alike_341 : decode cL_alike 341 = .ok (.invokestatic 253, 3) := by decide +kernel
theorem dL_alike_344 : decode cL_alike 344 = .ok (.if_icmp .ne 7, 3) := by decide +kernel
theorem dL_alike_347 : decode cL_alike 347 = .ok (.iconst 1, 1) := by decide +kernel
theorem dL_alike_348 : decode cL_alike 348 = .ok (.goto 4, 3) := by decide +kernel
theorem dL_alike_351 : decode cL_alike 351 = .ok (.iconst 0, 1) := by decide +kernel
theorem dL_alike_352 : decode cL_alike 352 = .ok (.ireturn, 1) := by decide +kernel
theorem tk_RL_306 : Cond.methodLink RL 306 yX10_isThere ∈ tq_G := tq_g (i := 1713) (by decide +kernel) rfl
theorem tk_RL_208 : Cond.methodLink RL 208 yL_parent ∈ tq_G := tq_g (i := 1155) (by decide +kernel) rfl
theorem tk_RL_214 : Cond.methodLink RL 214 yL_number ∈ tq_G := tq_g (i := 1187) (by decide +kernel) rfl
theorem tk_w_L_number : Cond.codeWith yL_number cL_number 3 (some .int) [(0, 5, 6, 13)] ∈ tq_G ∧ Cond.initialized yL_number.cls ∈ tq_G ∧ (yL_number.cls ≠ "java/lang/invoke/MethodHandle" ∧ yL_number.cls ≠ "java/lang/invoke/VarHandle") ∧ (parseMethodDescriptor yL_number.desc).map (fun q => q.parameters.length) = some 2 ∧ 3 ≤ 19 := ⟨tq_g (i := 1189) (by decide +kernel) rfl, tq_g (i := 52) (by decide +kernel) rfl, ⟨by decide +kernel, by decide +kernel⟩, by decide +kernel, by decide⟩
theorem tk_s_L_number : Cond.static yL_number ∈ tq_G := tq_g (i := 1188) (by decide +kernel) rfl
theorem tk_w_L_parent : Cond.codeWith yL_parent cL_parent 3 (some .int) [(0, 5, 6, 13)] ∈ tq_G ∧ Cond.initialized yL_parent.cls ∈ tq_G ∧ (yL_parent.cls ≠ "java/lang/invoke/MethodHandle" ∧ yL_parent.cls ≠ "java/lang/invoke/VarHandle") ∧ (parseMethodDescriptor yL_parent.desc).map (fun q => q.parameters.length) = some 2 ∧ 3 ≤ 19 := ⟨tq_g (i := 1157) (by decide +kernel) rfl, tq_g (i := 52) (by decide +kernel) rfl, ⟨by decide +kernel, by decide +kernel⟩, by decide +kernel, by decide⟩
theorem tk_s_L_parent : Cond.static yL_parent ∈ tq_G := tq_g (i := 1156) (by decide +kernel) rfl
theorem tk_RL_172 : Cond.methodLink RL 172 yX10_made ∈ tq_G := tq_g (i := 1059) (by decide +kernel) rfl
theorem tk_RL_210 : Cond.methodLink RL 210 yL_child ∈ tq_G := tq_g (i := 1162) (by decide +kernel) rfl
theorem tk_w_L_child : Cond.codeWith yL_child cL_child 4 (some .int) [(0, 6, 7, 13)] ∈ tq_G ∧ Cond.initialized yL_child.cls ∈ tq_G ∧ (yL_child.cls ≠ "java/lang/invoke/MethodHandle" ∧ yL_child.cls ≠ "java/lang/invoke/VarHandle") ∧ (parseMethodDescriptor yL_child.desc).map (fun q => q.parameters.length) = some 3 ∧ 4 ≤ 19 := ⟨tq_g (i := 1164) (by decide +kernel) rfl, tq_g (i := 52) (by decide +kernel) rfl, ⟨by decide +kernel, by decide +kernel⟩, by decide +kernel, by decide⟩
theorem tk_s_L_child : Cond.static yL_child ∈ tq_G := tq_g (i := 1163) (by decide +kernel) rfl
theorem tk_RL_202 : Cond.methodLink RL 202 yL_kind ∈ tq_G := tq_g (i := 1132) (by decide +kernel) rfl
theorem tk_RL_212 : Cond.methodLink RL 212 yL_space ∈ tq_G := tq_g (i := 1176) (by decide +kernel) rfl
theorem tk_RL_204 : Cond.methodLink RL 204 yL_name ∈ tq_G := tq_g (i := 1139) (by decide +kernel) rfl
theorem tk_w_L_kind : Cond.codeWith yL_kind cL_kind 3 (some .int) [(0, 5, 6, 13)] ∈ tq_G ∧ Cond.initialized yL_kind.cls ∈ tq_G ∧ (yL_kind.cls ≠ "java/lang/invoke/MethodHandle" ∧ yL_kind.cls ≠ "java/lang/invoke/VarHandle") ∧ (parseMethodDescriptor yL_kind.desc).map (fun q => q.parameters.length) = some 2 ∧ 3 ≤ 19 := ⟨tq_g (i := 1134) (by decide +kernel) rfl, tq_g (i := 52) (by decide +kernel) rfl, ⟨by decide +kernel, by decide +kernel⟩, by decide +kernel, by decide⟩
theorem tk_s_L_kind : Cond.static yL_kind ∈ tq_G := tq_g (i := 1133) (by decide +kernel) rfl
theorem tk_w_L_name : Cond.codeWith yL_name cL_name 3 (some .int) [(0, 5, 6, 13)] ∈ tq_G ∧ Cond.initialized yL_name.cls ∈ tq_G ∧ (yL_name.cls ≠ "java/lang/invoke/MethodHandle" ∧ yL_name.cls ≠ "java/lang/invoke/VarHandle") ∧ (parseMethodDescriptor yL_name.desc).map (fun q => q.parameters.length) = some 2 ∧ 3 ≤ 19 := ⟨tq_g (i := 1141) (by decide +kernel) rfl, tq_g (i := 52) (by decide +kernel) rfl, ⟨by decide +kernel, by decide +kernel⟩, by decide +kernel, by decide⟩
theorem tk_s_L_name : Cond.static yL_name ∈ tq_G := tq_g (i := 1140) (by decide +kernel) rfl
theorem tk_w_L_space : Cond.codeWith yL_space cL_space 3 (some .int) [(0, 5, 6, 13)] ∈ tq_G ∧ Cond.initialized yL_space.cls ∈ tq_G ∧ (yL_space.cls ≠ "java/lang/invoke/MethodHandle" ∧ yL_space.cls ≠ "java/lang/invoke/VarHandle") ∧ (parseMethodDescriptor yL_space.desc).map (fun q => q.parameters.length) = some 2 ∧ 3 ≤ 19 := ⟨tq_g (i := 1178) (by decide +kernel) rfl, tq_g (i := 52) (by decide +kernel) rfl, ⟨by decide +kernel, by decide +kernel⟩, by decide +kernel, by decide⟩
theorem tk_s_L_space : Cond.static yL_space ∈ tq_G := tq_g (i := 1177) (by decide +kernel) rfl
theorem tk_y_X10_isThere : tq_yok yX10_isThere cX10_isThere 2 (some .boolean) 1 := ⟨tq_g (i := 1716) (by decide +kernel) rfl, tq_g (i := 53) (by decide +kernel) rfl, ⟨by decide +kernel, by decide +kernel⟩, by decide +kernel, by decide⟩
theorem tk_v_X10_isThere : tq_vok yX10_isThere := ⟨tq_g (i := 1714) (by decide +kernel) rfl, tq_g (i := 1715) (by decide +kernel) rfl⟩
theorem tk_y_X10_made : tq_yok yX10_made cX10_made 1 (some .int) 0 := ⟨tq_g (i := 1062) (by decide +kernel) rfl, tq_g (i := 53) (by decide +kernel) rfl, ⟨by decide +kernel, by decide +kernel⟩, by decide +kernel, by decide⟩
theorem tk_v_X10_made : tq_vok yX10_made := ⟨tq_g (i := 1060) (by decide +kernel) rfl, tq_g (i := 1061) (by decide +kernel) rfl⟩
theorem tk_RL_296 : Cond.methodLink RL 296 yX10_nodes ∈ tq_G := tq_g (i := 579) (by decide +kernel) rfl
theorem tk_y_X10_nodes : tq_yok yX10_nodes cX10_nodes 1 (some .int) 0 := ⟨tq_g (i := 582) (by decide +kernel) rfl, tq_g (i := 53) (by decide +kernel) rfl, ⟨by decide +kernel, by decide +kernel⟩, by decide +kernel, by decide⟩
theorem tk_v_X10_nodes : tq_vok yX10_nodes := ⟨tq_g (i := 580) (by decide +kernel) rfl, tq_g (i := 581) (by decide +kernel) rfl⟩
theorem tk_RL_175 : Cond.methodLink RL 175 yX10_paths ∈ tq_G := tq_g (i := 1063) (by decide +kernel) rfl
theorem tk_RL_233 : Cond.methodLink RL 233 yL_found ∈ tq_G := tq_g (i := 1309) (by decide +kernel) rfl
theorem tk_RL_235 : Cond.methodLink RL 235 yL_foundAnew ∈ tq_G := tq_g (i := 1321) (by decide +kernel) rfl
theorem tk_RL_237 : Cond.methodLink RL 237 yL_foundAt ∈ tq_G := tq_g (i := 1328) (by decide +kernel) rfl
theorem tk_RL_239 : Cond.methodLink RL 239 yL_ordered ∈ tq_G := tq_g (i := 1340) (by decide +kernel) rfl
theorem tk_RL_241 : Cond.methodLink RL 241 yL_groups ∈ tq_G := tq_g (i := 1358) (by decide +kernel) rfl
theorem tk_w_L_groups : Cond.codeWith yL_groups cL_groups 3 (some .int) [(0, 5, 6, 13)] ∈ tq_G ∧ Cond.initialized yL_groups.cls ∈ tq_G ∧ (yL_groups.cls ≠ "java/lang/invoke/MethodHandle" ∧ yL_groups.cls ≠ "java/lang/invoke/VarHandle") ∧ (parseMethodDescriptor yL_groups.desc).map (fun q => q.parameters.length) = some 2 ∧ 3 ≤ 19 := ⟨tq_g (i := 1360) (by decide +kernel) rfl, tq_g (i := 52) (by decide +kernel) rfl, ⟨by decide +kernel, by decide +kernel⟩, by decide +kernel, by decide⟩
theorem tk_s_L_groups : Cond.static yL_groups ∈ tq_G := tq_g (i := 1359) (by decide +kernel) rfl
theorem tk_w_L_ordered : Cond.codeWith yL_ordered cL_ordered 4 (some .int) [(0, 6, 7, 13)] ∈ tq_G ∧ Cond.initialized yL_ordered.cls ∈ tq_G ∧ (yL_ordered.cls ≠ "java/lang/invoke/MethodHandle" ∧ yL_ordered.cls ≠ "java/lang/invoke/VarHandle") ∧ (parseMethodDescriptor yL_ordered.desc).map (fun q => q.parameters.length) = some 3 ∧ 4 ≤ 19 := ⟨tq_g (i := 1342) (by decide +kernel) rfl, tq_g (i := 52) (by decide +kernel) rfl, ⟨by decide +kernel, by decide +kernel⟩, by decide +kernel, by decide⟩
theorem tk_s_L_ordered : Cond.static yL_ordered ∈ tq_G := tq_g (i := 1341) (by decide +kernel) rfl
theorem tk_w_L_foundAt : Cond.codeWith yL_foundAt cL_foundAt 4 (some .int) [(0, 6, 7, 13)] ∈ tq_G ∧ Cond.initialized yL_foundAt.cls ∈ tq_G ∧ (yL_foundAt.cls ≠ "java/lang/invoke/MethodHandle" ∧ yL_foundAt.cls ≠ "java/lang/invoke/VarHandle") ∧ (parseMethodDescriptor yL_foundAt.desc).map (fun q => q.parameters.length) = some 3 ∧ 4 ≤ 19 := ⟨tq_g (i := 1330) (by decide +kernel) rfl, tq_g (i := 52) (by decide +kernel) rfl, ⟨by decide +kernel, by decide +kernel⟩, by decide +kernel, by decide⟩
theorem tk_s_L_foundAt : Cond.static yL_foundAt ∈ tq_G := tq_g (i := 1329) (by decide +kernel) rfl
theorem tk_w_L_foundAnew : Cond.codeWith yL_foundAnew cL_foundAnew 4 (some .int) [(0, 6, 7, 13)] ∈ tq_G ∧ Cond.initialized yL_foundAnew.cls ∈ tq_G ∧ (yL_foundAnew.cls ≠ "java/lang/invoke/MethodHandle" ∧ yL_foundAnew.cls ≠ "java/lang/invoke/VarHandle") ∧ (parseMethodDescriptor yL_foundAnew.desc).map (fun q => q.parameters.length) = some 3 ∧ 4 ≤ 19 := ⟨tq_g (i := 1323) (by decide +kernel) rfl, tq_g (i := 52) (by decide +kernel) rfl, ⟨by decide +kernel, by decide +kernel⟩, by decide +kernel, by decide⟩
theorem tk_s_L_foundAnew : Cond.static yL_foundAnew ∈ tq_G := tq_g (i := 1322) (by decide +kernel) rfl
theorem tk_RL_206 : Cond.methodLink RL 206 yL_value ∈ tq_G := tq_g (i := 1146) (by decide +kernel) rfl
theorem tk_w_L_value : Cond.codeWith yL_value cL_value 3 (some .int) [(0, 5, 6, 13)] ∈ tq_G ∧ Cond.initialized yL_value.cls ∈ tq_G ∧ (yL_value.cls ≠ "java/lang/invoke/MethodHandle" ∧ yL_value.cls ≠ "java/lang/invoke/VarHandle") ∧ (parseMethodDescriptor yL_value.desc).map (fun q => q.parameters.length) = some 2 ∧ 3 ≤ 19 := ⟨tq_g (i := 1148) (by decide +kernel) rfl, tq_g (i := 52) (by decide +kernel) rfl, ⟨by decide +kernel, by decide +kernel⟩, by decide +kernel, by decide⟩
theorem tk_s_L_value : Cond.static yL_value ∈ tq_G := tq_g (i := 1147) (by decide +kernel) rfl
theorem tk_w_L_found : Cond.codeWith yL_found cL_found 4 (some .int) [(0, 6, 7, 13)] ∈ tq_G ∧ Cond.initialized yL_found.cls ∈ tq_G ∧ (yL_found.cls ≠ "java/lang/invoke/MethodHandle" ∧ yL_found.cls ≠ "java/lang/invoke/VarHandle") ∧ (parseMethodDescriptor yL_found.desc).map (fun q => q.parameters.length) = some 3 ∧ 4 ≤ 19 := ⟨tq_g (i := 1311) (by decide +kernel) rfl, tq_g (i := 52) (by decide +kernel) rfl, ⟨by decide +kernel, by decide +kernel⟩, by decide +kernel, by decide⟩
theorem tk_s_L_found : Cond.static yL_found ∈ tq_G := tq_g (i := 1310) (by decide +kernel) rfl
theorem tk_y_X10_paths : tq_yok yX10_paths cX10_paths 1 (some .int) 0 := ⟨tq_g (i := 1066) (by decide +kernel) rfl, tq_g (i := 53) (by decide +kernel) rfl, ⟨by decide +kernel, by decide +kernel⟩, by decide +kernel, by decide⟩
theorem tk_v_X10_paths : tq_vok yX10_paths := ⟨tq_g (i := 1064) (by decide +kernel) rfl, tq_g (i := 1065) (by decide +kernel) rfl⟩
theorem tk_RL_299 : Cond.methodLink RL 299 yX10_numbered ∈ tq_G := tq_g (i := 1702) (by decide +kernel) rfl
theorem tk_RL_302 : Cond.methodLink RL 302 yX10_isValid ∈ tq_G := tq_g (i := 1706) (by decide +kernel) rfl
theorem tk_RL_271 : Cond.methodLink RL 271 yL_ranked ∈ tq_G := tq_g (i := 1546) (by decide +kernel) rfl
theorem tk_w_L_ranked : Cond.codeWith yL_ranked cL_ranked 4 (some .int) [(0, 6, 7, 13), (0, 6, 11, 16)] ∈ tq_G ∧ Cond.initialized yL_ranked.cls ∈ tq_G ∧ (yL_ranked.cls ≠ "java/lang/invoke/MethodHandle" ∧ yL_ranked.cls ≠ "java/lang/invoke/VarHandle") ∧ (parseMethodDescriptor yL_ranked.desc).map (fun q => q.parameters.length) = some 3 ∧ 4 ≤ 19 := ⟨tq_g (i := 1548) (by decide +kernel) rfl, tq_g (i := 52) (by decide +kernel) rfl, ⟨by decide +kernel, by decide +kernel⟩, by decide +kernel, by decide⟩
theorem tk_s_L_ranked : Cond.static yL_ranked ∈ tq_G := tq_g (i := 1547) (by decide +kernel) rfl
theorem tk_y_X10_isValid : tq_yok yX10_isValid cX10_isValid 1 (some .boolean) 0 := ⟨tq_g (i := 1709) (by decide +kernel) rfl, tq_g (i := 53) (by decide +kernel) rfl, ⟨by decide +kernel, by decide +kernel⟩, by decide +kernel, by decide⟩
theorem tk_v_X10_isValid : tq_vok yX10_isValid := ⟨tq_g (i := 1707) (by decide +kernel) rfl, tq_g (i := 1708) (by decide +kernel) rfl⟩
theorem tk_y_X10_numbered : tq_yok yX10_numbered cX10_numbered 1 (some .int) 0 := ⟨tq_g (i := 1705) (by decide +kernel) rfl, tq_g (i := 53) (by decide +kernel) rfl, ⟨by decide +kernel, by decide +kernel⟩, by decide +kernel, by decide⟩
theorem tk_v_X10_numbered : tq_vok yX10_numbered := ⟨tq_g (i := 1703) (by decide +kernel) rfl, tq_g (i := 1704) (by decide +kernel) rfl⟩
theorem tk_RL_219 : Cond.methodLink RL 219 yL_types ∈ tq_G := tq_g (i := 1217) (by decide +kernel) rfl
theorem tk_w_L_types : Cond.codeWith yL_types cL_types 3 (some .int) [(0, 5, 6, 13)] ∈ tq_G ∧ Cond.initialized yL_types.cls ∈ tq_G ∧ (yL_types.cls ≠ "java/lang/invoke/MethodHandle" ∧ yL_types.cls ≠ "java/lang/invoke/VarHandle") ∧ (parseMethodDescriptor yL_types.desc).map (fun q => q.parameters.length) = some 2 ∧ 3 ≤ 19 := ⟨tq_g (i := 1219) (by decide +kernel) rfl, tq_g (i := 52) (by decide +kernel) rfl, ⟨by decide +kernel, by decide +kernel⟩, by decide +kernel, by decide⟩
theorem tk_s_L_types : Cond.static yL_types ∈ tq_G := tq_g (i := 1218) (by decide +kernel) rfl
theorem tk_RL_245 : Cond.methodLink RL 245 yL_plan ∈ tq_G := tq_g (i := 1415) (by decide +kernel) rfl
theorem tk_RL_243 : Cond.methodLink RL 243 yL_infer ∈ tq_G := tq_g (i := 1373) (by decide +kernel) rfl
theorem tk_w_L_infer : Cond.codeWith yL_infer cL_infer 3 (some .int) [(0, 5, 6, 13)] ∈ tq_G ∧ Cond.initialized yL_infer.cls ∈ tq_G ∧ (yL_infer.cls ≠ "java/lang/invoke/MethodHandle" ∧ yL_infer.cls ≠ "java/lang/invoke/VarHandle") ∧ (parseMethodDescriptor yL_infer.desc).map (fun q => q.parameters.length) = some 2 ∧ 3 ≤ 19 := ⟨tq_g (i := 1375) (by decide +kernel) rfl, tq_g (i := 52) (by decide +kernel) rfl, ⟨by decide +kernel, by decide +kernel⟩, by decide +kernel, by decide⟩
theorem tk_s_L_infer : Cond.static yL_infer ∈ tq_G := tq_g (i := 1374) (by decide +kernel) rfl
theorem tk_w_L_plan : Cond.codeWith yL_plan cL_plan 3 (some .int) [(0, 5, 6, 13)] ∈ tq_G ∧ Cond.initialized yL_plan.cls ∈ tq_G ∧ (yL_plan.cls ≠ "java/lang/invoke/MethodHandle" ∧ yL_plan.cls ≠ "java/lang/invoke/VarHandle") ∧ (parseMethodDescriptor yL_plan.desc).map (fun q => q.parameters.length) = some 2 ∧ 3 ≤ 19 := ⟨tq_g (i := 1417) (by decide +kernel) rfl, tq_g (i := 52) (by decide +kernel) rfl, ⟨by decide +kernel, by decide +kernel⟩, by decide +kernel, by decide⟩
theorem tk_s_L_plan : Cond.static yL_plan ∈ tq_G := tq_g (i := 1416) (by decide +kernel) rfl
theorem tk_RL_251 : Cond.methodLink RL 251 yL_viewed ∈ tq_G := tq_g (i := 1460) (by decide +kernel) rfl
theorem tk_RL_253 : Cond.methodLink RL 253 yL_changed ∈ tq_G := tq_g (i := 1472) (by decide +kernel) rfl
theorem tk_w_L_changed : Cond.codeWith yL_changed cL_changed 3 (some .int) [(0, 5, 6, 13)] ∈ tq_G ∧ Cond.initialized yL_changed.cls ∈ tq_G ∧ (yL_changed.cls ≠ "java/lang/invoke/MethodHandle" ∧ yL_changed.cls ≠ "java/lang/invoke/VarHandle") ∧ (parseMethodDescriptor yL_changed.desc).map (fun q => q.parameters.length) = some 2 ∧ 3 ≤ 19 := ⟨tq_g (i := 1474) (by decide +kernel) rfl, tq_g (i := 52) (by decide +kernel) rfl, ⟨by decide +kernel, by decide +kernel⟩, by decide +kernel, by decide⟩
theorem tk_s_L_changed : Cond.static yL_changed ∈ tq_G := tq_g (i := 1473) (by decide +kernel) rfl
theorem tk_w_L_viewed : Cond.codeWith yL_viewed cL_viewed 4 (some .int) [(0, 6, 7, 13)] ∈ tq_G ∧ Cond.initialized yL_viewed.cls ∈ tq_G ∧ (yL_viewed.cls ≠ "java/lang/invoke/MethodHandle" ∧ yL_viewed.cls ≠ "java/lang/invoke/VarHandle") ∧ (parseMethodDescriptor yL_viewed.desc).map (fun q => q.parameters.length) = some 3 ∧ 4 ≤ 19 := ⟨tq_g (i := 1462) (by decide +kernel) rfl, tq_g (i := 52) (by decide +kernel) rfl, ⟨by decide +kernel, by decide +kernel⟩, by decide +kernel, by decide⟩
theorem tk_s_L_viewed : Cond.static yL_viewed ∈ tq_G := tq_g (i := 1461) (by decide +kernel) rfl
abbrev mL_isTree : tq_M := (RL, cL_isTree, 8, (some .boolean), false, [], none)
def f_L_isTree_b70 (i0 : Nat) (i2 : Int32) (i3 : Int32) (i4 : Int32) (s : Int32 × Int32 × tq_H) : Option ((Int32 × Int32 × tq_H) ⊕ (Int32 × Int32 × tq_H)) := match s with
  | (y1, y5, hh) =>
    (f_N_child i0 i3 y5 hh).bind fun v12 =>
    if v12.1 < 0 then
      some (.inr (y1, y5, v12.2))
    else
      if y1 = 0 then
        some (.inr (y1, y5, v12.2))
      else
        (f_N_child i0 i3 y5 v12.2).bind fun v13 =>
        (f_N_child i0 i3 (y5 + (1 : Int32)) v13.2).bind fun v14 =>
        (f_N_parent i0 v13.1 v14.2).bind fun v15 =>
        (if v15.1 = i3 then
          (f_N_number i0 v13.1 v15.2).bind fun v16 =>
          (f_N_number i0 i3 v16.2).bind fun v17 =>
          if v16.1 ≤ v17.1 then
            some ((0 : Int32), v17.2)
          else
            if v14.1 < 0 then
              some ((1 : Int32), v17.2)
            else
              (f_N_number i0 v14.1 v17.2).bind fun v18 =>
              (f_N_number i0 v13.1 v18.2).bind fun v19 =>
              if v18.1 ≤ v19.1 then
                some ((0 : Int32), v19.2)
              else
                some ((1 : Int32), v19.2)
        else
          some ((0 : Int32), v15.2)).bind fun p20 =>
        tq_let (y5 + (1 : Int32)) fun x21 =>
        some (.inl (p20.1, x21, p20.2))
def f_L_isTree_b37 (i0 : Nat) (s : Int32 × Int32 × Int32 × tq_H) : Option ((Int32 × Int32 × Int32 × tq_H) ⊕ (Int32 × Int32 × tq_H)) := match s with
  | (y1, y2, y3, hh) =>
    (tq_is hh i0 10).bind fun _ =>
    (f_X10_made i0 hh).bind fun v6 =>
    if y3 ≥ v6 then
      some (.inr (y1, y2, hh))
    else
      if y1 = 0 then
        some (.inr (y1, y2, hh))
      else
        (tq_is hh i0 10).bind fun _ =>
        (f_X10_isThere i0 y3 hh).bind fun v8 =>
        (if v8 = 0 then
          some (y1, y2, hh)
        else
          tq_let (y2 + (1 : Int32)) fun x10 =>
          (f_N_parent i0 y3 hh).bind fun v11 =>
          (tq_loop (f_L_isTree_b70 i0 x10 y3 v11.1) tq_N (y1, (0 : Int32), v11.2)).bind fun o22 =>
          (if o22.1 = 0 then
            some ((0 : Int32), o22.2.2)
          else
            if y3 = 0 then
              (f_N_kind i0 y3 o22.2.2).bind fun v23 =>
              tq_let (if v23.1 = 0 then (1 : Int32) else (0 : Int32)) fun p24 =>
              (f_N_space i0 y3 v23.2).bind fun v25 =>
              tq_let (if v25.1 < 0 then (0 : Int32) else (1 : Int32)) fun p26 =>
              if p24 = p26 then
                (f_N_kind i0 y3 v25.2).bind fun v27 =>
                tq_let (if v27.1 = (1 : Int32) then (1 : Int32) else (0 : Int32)) fun p28 =>
                (f_N_name i0 y3 v27.2).bind fun v29 =>
                tq_let (if v29.1 = (-1 : Int32) then (1 : Int32) else (0 : Int32)) fun p30 =>
                if p28 = p30 then
                  (f_N_kind i0 y3 v29.2).bind fun v31 =>
                  tq_let (if v31.1 = (2 : Int32) then (1 : Int32) else (0 : Int32)) fun p32 =>
                  (f_N_number i0 y3 v31.2).bind fun v33 =>
                  tq_let (if v33.1 = (-1 : Int32) then (1 : Int32) else (0 : Int32)) fun p34 =>
                  if p32 = p34 then
                    (f_N_kind i0 y3 v33.2).bind fun v35 =>
                    if v35.1 = 0 then
                      some ((1 : Int32), v35.2)
                    else
                      if o22.2.1 = 0 then
                        some ((1 : Int32), v35.2)
                      else
                        some ((0 : Int32), v35.2)
                  else
                    some ((0 : Int32), v33.2)
                else
                  some ((0 : Int32), v29.2)
              else
                some ((0 : Int32), v25.2)
            else
              (tq_is o22.2.2 i0 10).bind fun _ =>
              (f_X10_isThere i0 v11.1 o22.2.2).bind fun v36 =>
              if v36 = 0 then
                some ((0 : Int32), o22.2.2)
              else
                (f_N_kind i0 v11.1 o22.2.2).bind fun v38 =>
                if v38.1 = 0 then
                  (f_N_kind i0 y3 v38.2).bind fun v39 =>
                  tq_let (if v39.1 = 0 then (1 : Int32) else (0 : Int32)) fun p40 =>
                  (f_N_space i0 y3 v39.2).bind fun v41 =>
                  tq_let (if v41.1 < 0 then (0 : Int32) else (1 : Int32)) fun p42 =>
                  if p40 = p42 then
                    (f_N_kind i0 y3 v41.2).bind fun v43 =>
                    tq_let (if v43.1 = (1 : Int32) then (1 : Int32) else (0 : Int32)) fun p44 =>
                    (f_N_name i0 y3 v43.2).bind fun v45 =>
                    tq_let (if v45.1 = (-1 : Int32) then (1 : Int32) else (0 : Int32)) fun p46 =>
                    if p44 = p46 then
                      (f_N_kind i0 y3 v45.2).bind fun v47 =>
                      tq_let (if v47.1 = (2 : Int32) then (1 : Int32) else (0 : Int32)) fun p48 =>
                      (f_N_number i0 y3 v47.2).bind fun v49 =>
                      tq_let (if v49.1 = (-1 : Int32) then (1 : Int32) else (0 : Int32)) fun p50 =>
                      if p48 = p50 then
                        (f_N_kind i0 y3 v49.2).bind fun v51 =>
                        if v51.1 = 0 then
                          some ((1 : Int32), v51.2)
                        else
                          if o22.2.1 = 0 then
                            some ((1 : Int32), v51.2)
                          else
                            some ((0 : Int32), v51.2)
                      else
                        some ((0 : Int32), v49.2)
                    else
                      some ((0 : Int32), v45.2)
                  else
                    some ((0 : Int32), v41.2)
                else
                  some ((0 : Int32), v38.2)).bind fun p52 =>
          some (p52.1, x10, p52.2)).bind fun p53 =>
        tq_let (y3 + (1 : Int32)) fun x54 =>
        some (.inl (p53.1, p53.2.1, x54, p53.2.2))
def f_L_isTree (a0 : Nat) (h : tq_H) : Option (Int32 × tq_H) :=
  (tq_is h a0 10).bind fun _ =>
  (f_X10_isThere a0 (0 : Int32) h).bind fun v1 =>
  (if v1 = 0 then
    some ((0 : Int32), h)
  else
    (f_N_parent a0 (0 : Int32) h).bind fun v3 =>
    if v3.1 = (-1 : Int32) then
      (f_N_number a0 (0 : Int32) v3.2).bind fun v4 =>
      if v4.1 = (16 : Int32) then
        some ((1 : Int32), v4.2)
      else
        some ((0 : Int32), v4.2)
    else
      some ((0 : Int32), v3.2)).bind fun p5 =>
  (tq_loop (f_L_isTree_b37 a0) tq_N (p5.1, (0 : Int32), (0 : Int32), p5.2)).bind fun o55 =>
  (if o55.1 = 0 then
    some (0 : Int32)
  else
    (tq_is o55.2.2 a0 10).bind fun _ =>
    (f_X10_nodes a0 o55.2.2).bind fun v56 =>
    if o55.2.1 = v56 then
      some (1 : Int32)
    else
      some (0 : Int32)).bind fun p58 =>
  (tq_bz p58).bind fun z59 =>
  some (z59, o55.2.2)
set_option maxHeartbeats 4000000 in
theorem l_L_isTree_70 {l : Launch} {d : Nat} {Q : tq_R → tq_H → Prop} {bc bs : Nat} (hd9 : 9 ≤ d) (i0 : Nat) (i2 : Int32) (i3 : Int32) (i4 : Int32) : ∀ (n : Nat) (y1 : Int32) (y5 : Int32) (hh : tq_H) (o : Int32 × Int32 × tq_H), tq_loop (f_L_isTree_b70 i0 i2 i3 i4) n (y1, y5, hh) = some o → tq_W l mL_isTree d bc bs Q 160 [(0, .ref i0), (1, .int o.1), (2, .int i2), (3, .int i3), (4, .int i4), (5, .int o.2.1)] [] o.2.2 → tq_W l mL_isTree d bc bs Q 70 [(0, .ref i0), (1, .int y1), (2, .int i2), (3, .int i3), (4, .int i4), (5, .int y5)] [] hh := by
  intro n
  induction n with
  | zero => intro y1 y5 hh o hl; cases hl
  | succ n ih =>
    intro y1 y5 hh o hl hk
    obtain ⟨oo, hf, ho⟩ := tq_loop_s hl
    refine tq_aload_n (M := mL_isTree) (pc := 70) dL_isTree_70 rfl ?_
    refine tq_iload_n (M := mL_isTree) (pc := 71) dL_isTree_71 rfl ?_
    refine tq_iload (M := mL_isTree) (pc := 72) dL_isTree_72 rfl ?_
    obtain ⟨v12, ev12, hf⟩ := tq_be hf
    refine tq_calSW (M := mL_isTree) (pc := 74) (S := []) tk_w_L_child.1 tk_w_L_child.2.1 tk_w_L_child.2.2.1 tk_w_L_child.2.2.2.1 tk_w_L_child.2.2.2.2 tk_s_L_child tk_RL_210 dL_isTree_74 [.ref i0, .int i3, .int y5] rfl (Nat.le_of_ble_eq_true rfl) (d1 := d - 1) (b1 := 0) (s1 := 0) (bc' := bc) (bs' := bs) (Q1 := fun r h9 => r = .inl (some (.int v12.1)) ∧ v12.2 = h9) (by omega) (by omega) (by omega) (w_L_child (bc := 0) (bs := 0) (by omega) (n_L_child ev12).1 (n_L_child ev12).2 (fun _ _ q => q)) (fun E h9 q => nomatch (show (Sum.inr E : tq_R) = Sum.inl _ from q.1)) (fun r9 h9 q => ?_)
    obtain ⟨q1, rfl⟩ := q
    cases (show (Sum.inl r9 : tq_R) = Sum.inl (some (.int v12.1)) from q1)
    refine tq_if_lt (M := mL_isTree) (pc := 77) (tgt := 160) dL_isTree_77 (by decide) (fun cc => ?_) (fun cc => ?_)
    · have hf := tq_ifp hf cc
      cases (Option.some.inj hf)
      cases (tq_lx ho)
      exact hk
    · have hf := tq_ifn hf cc
      refine tq_iload_n (M := mL_isTree) (pc := 80) dL_isTree_80 rfl ?_
      refine tq_if_eq (M := mL_isTree) (pc := 81) (tgt := 160) dL_isTree_81 (by decide) (fun cc => ?_) (fun cc => ?_)
      · have hf := tq_ifp hf cc
        cases (Option.some.inj hf)
        cases (tq_lx ho)
        exact hk
      · have hf := tq_ifn hf cc
        refine tq_aload_n (M := mL_isTree) (pc := 84) dL_isTree_84 rfl ?_
        refine tq_iload_n (M := mL_isTree) (pc := 85) dL_isTree_85 rfl ?_
        refine tq_iload (M := mL_isTree) (pc := 86) dL_isTree_86 rfl ?_
        obtain ⟨v13, ev13, hf⟩ := tq_be hf
        refine tq_calSW (M := mL_isTree) (pc := 88) (S := []) tk_w_L_child.1 tk_w_L_child.2.1 tk_w_L_child.2.2.1 tk_w_L_child.2.2.2.1 tk_w_L_child.2.2.2.2 tk_s_L_child tk_RL_210 dL_isTree_88 [.ref i0, .int i3, .int y5] rfl (Nat.le_of_ble_eq_true rfl) (d1 := d - 1) (b1 := 0) (s1 := 0) (bc' := bc) (bs' := bs) (Q1 := fun r h9 => r = .inl (some (.int v13.1)) ∧ v13.2 = h9) (by omega) (by omega) (by omega) (w_L_child (bc := 0) (bs := 0) (by omega) (n_L_child ev13).1 (n_L_child ev13).2 (fun _ _ q => q)) (fun E h9 q => nomatch (show (Sum.inr E : tq_R) = Sum.inl _ from q.1)) (fun r9 h9 q => ?_)
        obtain ⟨q1, rfl⟩ := q
        cases (show (Sum.inl r9 : tq_R) = Sum.inl (some (.int v13.1)) from q1)
        refine tq_istore (M := mL_isTree) (pc := 91) dL_isTree_91 (L2 := [(6, .int v13.1), (0, .ref i0), (1, .int y1), (2, .int i2), (3, .int i3), (4, .int i4), (5, .int y5)]) (by decide) rfl ?_
        refine tq_aload_n (M := mL_isTree) (pc := 93) dL_isTree_93 rfl ?_
        refine tq_iload_n (M := mL_isTree) (pc := 94) dL_isTree_94 rfl ?_
        refine tq_iload (M := mL_isTree) (pc := 95) dL_isTree_95 rfl ?_
        refine tq_iconst (M := mL_isTree) (pc := 97) dL_isTree_97 tk_ki_1 ?_
        refine tq_iadd (M := mL_isTree) (pc := 98) dL_isTree_98 ?_
        obtain ⟨v14, ev14, hf⟩ := tq_be hf
        refine tq_calSW (M := mL_isTree) (pc := 99) (S := []) tk_w_L_child.1 tk_w_L_child.2.1 tk_w_L_child.2.2.1 tk_w_L_child.2.2.2.1 tk_w_L_child.2.2.2.2 tk_s_L_child tk_RL_210 dL_isTree_99 [.ref i0, .int i3, .int ((y5 + (1 : Int32)))] rfl (Nat.le_of_ble_eq_true rfl) (d1 := d - 1) (b1 := 0) (s1 := 0) (bc' := bc) (bs' := bs) (Q1 := fun r h9 => r = .inl (some (.int v14.1)) ∧ v14.2 = h9) (by omega) (by omega) (by omega) (w_L_child (bc := 0) (bs := 0) (by omega) (n_L_child ev14).1 (n_L_child ev14).2 (fun _ _ q => q)) (fun E h9 q => nomatch (show (Sum.inr E : tq_R) = Sum.inl _ from q.1)) (fun r9 h9 q => ?_)
        obtain ⟨q1, rfl⟩ := q
        cases (show (Sum.inl r9 : tq_R) = Sum.inl (some (.int v14.1)) from q1)
        refine tq_istore (M := mL_isTree) (pc := 102) dL_isTree_102 (L2 := [(7, .int v14.1), (6, .int v13.1), (0, .ref i0), (1, .int y1), (2, .int i2), (3, .int i3), (4, .int i4), (5, .int y5)]) (by decide) rfl ?_
        refine tq_aload_n (M := mL_isTree) (pc := 104) dL_isTree_104 rfl ?_
        refine tq_iload (M := mL_isTree) (pc := 105) dL_isTree_105 rfl ?_
        obtain ⟨v15, ev15, hf⟩ := tq_be hf
        refine tq_calSW (M := mL_isTree) (pc := 107) (S := []) tk_w_L_parent.1 tk_w_L_parent.2.1 tk_w_L_parent.2.2.1 tk_w_L_parent.2.2.2.1 tk_w_L_parent.2.2.2.2 tk_s_L_parent tk_RL_208 dL_isTree_107 [.ref i0, .int v13.1] rfl (Nat.le_of_ble_eq_true rfl) (d1 := d - 1) (b1 := 0) (s1 := 0) (bc' := bc) (bs' := bs) (Q1 := fun r h9 => r = .inl (some (.int v15.1)) ∧ v15.2 = h9) (by omega) (by omega) (by omega) (w_L_parent (bc := 0) (bs := 0) (by omega) (n_L_parent ev15).1 (n_L_parent ev15).2 (fun _ _ q => q)) (fun E h9 q => nomatch (show (Sum.inr E : tq_R) = Sum.inl _ from q.1)) (fun r9 h9 q => ?_)
        obtain ⟨q1, rfl⟩ := q
        cases (show (Sum.inl r9 : tq_R) = Sum.inl (some (.int v15.1)) from q1)
        refine tq_iload_n (M := mL_isTree) (pc := 110) dL_isTree_110 rfl ?_
        obtain ⟨p20, ep20, hf⟩ := tq_be hf
        have HJ111 : tq_W l mL_isTree d bc bs Q 153 [(0, .ref i0), (2, .int i2), (3, .int i3), (4, .int i4), (5, .int y5)] [.int p20.1] p20.2 := by
          refine tq_istore_n (M := mL_isTree) (pc := 153) rfl dL_isTree_153 (L2 := [(1, .int p20.1), (0, .ref i0), (2, .int i2), (3, .int i3), (4, .int i4), (5, .int y5)]) (by decide) rfl ?_
          obtain ⟨x21, ex21, hf⟩ := tq_le hf
          refine tq_iinc (M := mL_isTree) (pc := 154) (v := x21) (L2 := [(5, .int x21), (1, .int p20.1), (0, .ref i0), (2, .int i2), (3, .int i3), (4, .int i4)]) dL_isTree_154 rfl (by rw [ex21, tk_ki_1]) (by decide) rfl ?_
          refine tq_goto (M := mL_isTree) (pc := 157) (tgt := 70) dL_isTree_157 (by decide) ?_
          refine tq_pick (L2 := [(0, .ref i0), (1, .int p20.1), (2, .int i2), (3, .int i3), (4, .int i4), (5, .int x21)]) [2, 1, 3, 4, 5, 0] rfl ?_
          cases (Option.some.inj hf)
          exact ih _ _ _ o (tq_lc ho) hk
        refine tq_icmp_ne (M := mL_isTree) (pc := 111) (tgt := 152) dL_isTree_111 (by decide) (fun cc => ?_) (fun cc => ?_)
        · have hf := tq_ifn ep20 cc
          refine tq_iconst (M := mL_isTree) (pc := 152) dL_isTree_152 tk_ki_0 ?_
          refine tq_pick (L2 := [(0, .ref i0), (2, .int i2), (3, .int i3), (4, .int i4), (5, .int y5)]) [2, 4, 5, 6, 7] rfl ?_
          cases (Option.some.inj hf)
          exact HJ111
        · have hf := tq_ifp ep20 cc
          refine tq_aload_n (M := mL_isTree) (pc := 114) dL_isTree_114 rfl ?_
          refine tq_iload (M := mL_isTree) (pc := 115) dL_isTree_115 rfl ?_
          obtain ⟨v16, ev16, hf⟩ := tq_be hf
          refine tq_calSW (M := mL_isTree) (pc := 117) (S := []) tk_w_L_number.1 tk_w_L_number.2.1 tk_w_L_number.2.2.1 tk_w_L_number.2.2.2.1 tk_w_L_number.2.2.2.2 tk_s_L_number tk_RL_214 dL_isTree_117 [.ref i0, .int v13.1] rfl (Nat.le_of_ble_eq_true rfl) (d1 := d - 1) (b1 := 0) (s1 := 0) (bc' := bc) (bs' := bs) (Q1 := fun r h9 => r = .inl (some (.int v16.1)) ∧ v16.2 = h9) (by omega) (by omega) (by omega) (w_L_number (bc := 0) (bs := 0) (by omega) (n_L_number ev16).1 (n_L_number ev16).2 (fun _ _ q => q)) (fun E h9 q => nomatch (show (Sum.inr E : tq_R) = Sum.inl _ from q.1)) (fun r9 h9 q => ?_)
          obtain ⟨q1, rfl⟩ := q
          cases (show (Sum.inl r9 : tq_R) = Sum.inl (some (.int v16.1)) from q1)
          refine tq_aload_n (M := mL_isTree) (pc := 120) dL_isTree_120 rfl ?_
          refine tq_iload_n (M := mL_isTree) (pc := 121) dL_isTree_121 rfl ?_
          obtain ⟨v17, ev17, hf⟩ := tq_be hf
          refine tq_calSW (M := mL_isTree) (pc := 122) (S := [.int v16.1]) tk_w_L_number.1 tk_w_L_number.2.1 tk_w_L_number.2.2.1 tk_w_L_number.2.2.2.1 tk_w_L_number.2.2.2.2 tk_s_L_number tk_RL_214 dL_isTree_122 [.ref i0, .int i3] rfl (Nat.le_of_ble_eq_true rfl) (d1 := d - 1) (b1 := 0) (s1 := 0) (bc' := bc) (bs' := bs) (Q1 := fun r h9 => r = .inl (some (.int v17.1)) ∧ v17.2 = h9) (by omega) (by omega) (by omega) (w_L_number (bc := 0) (bs := 0) (by omega) (n_L_number ev17).1 (n_L_number ev17).2 (fun _ _ q => q)) (fun E h9 q => nomatch (show (Sum.inr E : tq_R) = Sum.inl _ from q.1)) (fun r9 h9 q => ?_)
          obtain ⟨q1, rfl⟩ := q
          cases (show (Sum.inl r9 : tq_R) = Sum.inl (some (.int v17.1)) from q1)
          refine tq_icmp_le (M := mL_isTree) (pc := 125) (tgt := 152) dL_isTree_125 (by decide) (fun cc => ?_) (fun cc => ?_)
          · have hf := tq_ifp hf cc
            refine tq_iconst (M := mL_isTree) (pc := 152) dL_isTree_152 tk_ki_0 ?_
            refine tq_pick (L2 := [(0, .ref i0), (2, .int i2), (3, .int i3), (4, .int i4), (5, .int y5)]) [2, 4, 5, 6, 7] rfl ?_
            cases (Option.some.inj hf)
            exact HJ111
          · have hf := tq_ifn hf cc
            refine tq_iload (M := mL_isTree) (pc := 128) dL_isTree_128 rfl ?_
            refine tq_if_lt (M := mL_isTree) (pc := 130) (tgt := 148) dL_isTree_130 (by decide) (fun cc => ?_) (fun cc => ?_)
            · have hf := tq_ifp hf cc
              refine tq_iconst (M := mL_isTree) (pc := 148) dL_isTree_148 tk_ki_1 ?_
              refine tq_goto (M := mL_isTree) (pc := 149) (tgt := 153) dL_isTree_149 (by decide) ?_
              refine tq_pick (L2 := [(0, .ref i0), (2, .int i2), (3, .int i3), (4, .int i4), (5, .int y5)]) [2, 4, 5, 6, 7] rfl ?_
              cases (Option.some.inj hf)
              exact HJ111
            · have hf := tq_ifn hf cc
              refine tq_aload_n (M := mL_isTree) (pc := 133) dL_isTree_133 rfl ?_
              refine tq_iload (M := mL_isTree) (pc := 134) dL_isTree_134 rfl ?_
              obtain ⟨v18, ev18, hf⟩ := tq_be hf
              refine tq_calSW (M := mL_isTree) (pc := 136) (S := []) tk_w_L_number.1 tk_w_L_number.2.1 tk_w_L_number.2.2.1 tk_w_L_number.2.2.2.1 tk_w_L_number.2.2.2.2 tk_s_L_number tk_RL_214 dL_isTree_136 [.ref i0, .int v14.1] rfl (Nat.le_of_ble_eq_true rfl) (d1 := d - 1) (b1 := 0) (s1 := 0) (bc' := bc) (bs' := bs) (Q1 := fun r h9 => r = .inl (some (.int v18.1)) ∧ v18.2 = h9) (by omega) (by omega) (by omega) (w_L_number (bc := 0) (bs := 0) (by omega) (n_L_number ev18).1 (n_L_number ev18).2 (fun _ _ q => q)) (fun E h9 q => nomatch (show (Sum.inr E : tq_R) = Sum.inl _ from q.1)) (fun r9 h9 q => ?_)
              obtain ⟨q1, rfl⟩ := q
              cases (show (Sum.inl r9 : tq_R) = Sum.inl (some (.int v18.1)) from q1)
              refine tq_aload_n (M := mL_isTree) (pc := 139) dL_isTree_139 rfl ?_
              refine tq_iload (M := mL_isTree) (pc := 140) dL_isTree_140 rfl ?_
              obtain ⟨v19, ev19, hf⟩ := tq_be hf
              refine tq_calSW (M := mL_isTree) (pc := 142) (S := [.int v18.1]) tk_w_L_number.1 tk_w_L_number.2.1 tk_w_L_number.2.2.1 tk_w_L_number.2.2.2.1 tk_w_L_number.2.2.2.2 tk_s_L_number tk_RL_214 dL_isTree_142 [.ref i0, .int v13.1] rfl (Nat.le_of_ble_eq_true rfl) (d1 := d - 1) (b1 := 0) (s1 := 0) (bc' := bc) (bs' := bs) (Q1 := fun r h9 => r = .inl (some (.int v19.1)) ∧ v19.2 = h9) (by omega) (by omega) (by omega) (w_L_number (bc := 0) (bs := 0) (by omega) (n_L_number ev19).1 (n_L_number ev19).2 (fun _ _ q => q)) (fun E h9 q => nomatch (show (Sum.inr E : tq_R) = Sum.inl _ from q.1)) (fun r9 h9 q => ?_)
              obtain ⟨q1, rfl⟩ := q
              cases (show (Sum.inl r9 : tq_R) = Sum.inl (some (.int v19.1)) from q1)
              refine tq_icmp_le (M := mL_isTree) (pc := 145) (tgt := 152) dL_isTree_145 (by decide) (fun cc => ?_) (fun cc => ?_)
              · have hf := tq_ifp hf cc
                refine tq_iconst (M := mL_isTree) (pc := 152) dL_isTree_152 tk_ki_0 ?_
                refine tq_pick (L2 := [(0, .ref i0), (2, .int i2), (3, .int i3), (4, .int i4), (5, .int y5)]) [2, 4, 5, 6, 7] rfl ?_
                cases (Option.some.inj hf)
                exact HJ111
              · have hf := tq_ifn hf cc
                refine tq_iconst (M := mL_isTree) (pc := 148) dL_isTree_148 tk_ki_1 ?_
                refine tq_goto (M := mL_isTree) (pc := 149) (tgt := 153) dL_isTree_149 (by decide) ?_
                refine tq_pick (L2 := [(0, .ref i0), (2, .int i2), (3, .int i3), (4, .int i4), (5, .int y5)]) [2, 4, 5, 6, 7] rfl ?_
                cases (Option.some.inj hf)
                exact HJ111
set_option maxHeartbeats 4000000 in
theorem l_L_isTree_37 {l : Launch} {d : Nat} {Q : tq_R → tq_H → Prop} {bc bs : Nat} (hd9 : 9 ≤ d) (i0 : Nat) : ∀ (n : Nat) (y1 : Int32) (y2 : Int32) (y3 : Int32) (hh : tq_H) (o : Int32 × Int32 × tq_H), tq_loop (f_L_isTree_b37 i0) n (y1, y2, y3, hh) = some o → tq_W l mL_isTree d bc bs Q 302 [(0, .ref i0), (1, .int o.1), (2, .int o.2.1)] [] o.2.2 → tq_W l mL_isTree d bc bs Q 37 [(0, .ref i0), (1, .int y1), (2, .int y2), (3, .int y3)] [] hh := by
  intro n
  induction n with
  | zero => intro y1 y2 y3 hh o hl; cases hl
  | succ n ih =>
    intro y1 y2 y3 hh o hl hk
    obtain ⟨oo, hf, ho⟩ := tq_loop_s hl
    refine tq_iload_n (M := mL_isTree) (pc := 37) dL_isTree_37 rfl ?_
    refine tq_aload_n (M := mL_isTree) (pc := 38) dL_isTree_38 rfl ?_
    obtain ⟨⟨⟩, eu7, hf⟩ := tq_be hf
    obtain ⟨fsu7, eu7⟩ := tq_is_s eu7
    obtain ⟨v6, ev6, hf⟩ := tq_be hf
    refine tq_calV (M := mL_isTree) (pc := 39) (S := [.int y3]) tk_y_X10_made tk_v_X10_made tk_RL_172 dL_isTree_39 [] rfl (S0 := _) rfl eu7 rfl (Nat.le_of_ble_eq_true rfl) (d1 := d - 1) (b1 := 0) (s1 := 0) (bc' := bc) (bs' := bs) (Q1 := fun r h9 => r = .inl (some (.int v6)) ∧ hh = h9) (by omega) (by omega) (by omega) (w_X10_made (by omega) ev6 (fun _ _ q => q)) (fun E h9 q => nomatch (show (Sum.inr E : tq_R) = Sum.inl _ from q.1)) (fun r9 h9 q => ?_)
    obtain ⟨q1, rfl⟩ := q
    cases (show (Sum.inl r9 : tq_R) = Sum.inl (some (.int v6)) from q1)
    refine tq_icmp_ge (M := mL_isTree) (pc := 42) (tgt := 302) dL_isTree_42 (by decide) (fun cc => ?_) (fun cc => ?_)
    · have hf := tq_ifp hf cc
      refine tq_pick (L2 := [(0, .ref i0), (1, .int y1), (2, .int y2)]) [0, 1, 2] rfl ?_
      cases (Option.some.inj hf)
      cases (tq_lx ho)
      exact hk
    · have hf := tq_ifn hf cc
      refine tq_iload_n (M := mL_isTree) (pc := 45) dL_isTree_45 rfl ?_
      refine tq_if_eq (M := mL_isTree) (pc := 46) (tgt := 302) dL_isTree_46 (by decide) (fun cc => ?_) (fun cc => ?_)
      · have hf := tq_ifp hf cc
        refine tq_pick (L2 := [(0, .ref i0), (1, .int y1), (2, .int y2)]) [0, 1, 2] rfl ?_
        cases (Option.some.inj hf)
        cases (tq_lx ho)
        exact hk
      · have hf := tq_ifn hf cc
        refine tq_aload_n (M := mL_isTree) (pc := 49) dL_isTree_49 rfl ?_
        refine tq_iload_n (M := mL_isTree) (pc := 50) dL_isTree_50 rfl ?_
        obtain ⟨⟨⟩, eu9, hf⟩ := tq_be hf
        obtain ⟨fsu9, eu9⟩ := tq_is_s eu9
        obtain ⟨v8, ev8, hf⟩ := tq_be hf
        refine tq_calV (M := mL_isTree) (pc := 51) (S := []) tk_y_X10_isThere tk_v_X10_isThere tk_RL_306 dL_isTree_51 [.int y3] rfl (S0 := _) rfl eu9 rfl (Nat.le_of_ble_eq_true rfl) (d1 := d - 1) (b1 := 0) (s1 := 0) (bc' := bc) (bs' := bs) (Q1 := fun r h9 => r = .inl (some (.int v8)) ∧ hh = h9) (by omega) (by omega) (by omega) (w_X10_isThere (by omega) ev8 (fun _ _ q => q)) (fun E h9 q => nomatch (show (Sum.inr E : tq_R) = Sum.inl _ from q.1)) (fun r9 h9 q => ?_)
        obtain ⟨q1, rfl⟩ := q
        cases (show (Sum.inl r9 : tq_R) = Sum.inl (some (.int v8)) from q1)
        obtain ⟨p53, ep53, hf⟩ := tq_be hf
        have HJ54 : tq_W l mL_isTree d bc bs Q 296 [(0, .ref i0), (1, .int p53.1), (2, .int p53.2.1), (3, .int y3)] [] p53.2.2 := by
          obtain ⟨x54, ex54, hf⟩ := tq_le hf
          refine tq_iinc (M := mL_isTree) (pc := 296) (v := x54) (L2 := [(3, .int x54), (0, .ref i0), (1, .int p53.1), (2, .int p53.2.1)]) dL_isTree_296 rfl (by rw [ex54, tk_ki_1]) (by decide) rfl ?_
          refine tq_goto (M := mL_isTree) (pc := 299) (tgt := 37) dL_isTree_299 (by decide) ?_
          refine tq_pick (L2 := [(0, .ref i0), (1, .int p53.1), (2, .int p53.2.1), (3, .int x54)]) [1, 2, 3, 0] rfl ?_
          cases (Option.some.inj hf)
          exact ih _ _ _ _ o (tq_lc ho) hk
        refine tq_if_eq (M := mL_isTree) (pc := 54) (tgt := 296) dL_isTree_54 (by decide) (fun cc => ?_) (fun cc => ?_)
        · have hf := tq_ifp ep53 cc
          cases (Option.some.inj hf)
          exact HJ54
        · have hf := tq_ifn ep53 cc
          obtain ⟨x10, ex10, hf⟩ := tq_le hf
          refine tq_iinc (M := mL_isTree) (pc := 57) (v := x10) (L2 := [(2, .int x10), (0, .ref i0), (1, .int y1), (3, .int y3)]) dL_isTree_57 rfl (by rw [ex10, tk_ki_1]) (by decide) rfl ?_
          refine tq_aload_n (M := mL_isTree) (pc := 60) dL_isTree_60 rfl ?_
          refine tq_iload_n (M := mL_isTree) (pc := 61) dL_isTree_61 rfl ?_
          obtain ⟨v11, ev11, hf⟩ := tq_be hf
          refine tq_calSW (M := mL_isTree) (pc := 62) (S := []) tk_w_L_parent.1 tk_w_L_parent.2.1 tk_w_L_parent.2.2.1 tk_w_L_parent.2.2.2.1 tk_w_L_parent.2.2.2.2 tk_s_L_parent tk_RL_208 dL_isTree_62 [.ref i0, .int y3] rfl (Nat.le_of_ble_eq_true rfl) (d1 := d - 1) (b1 := 0) (s1 := 0) (bc' := bc) (bs' := bs) (Q1 := fun r h9 => r = .inl (some (.int v11.1)) ∧ v11.2 = h9) (by omega) (by omega) (by omega) (w_L_parent (bc := 0) (bs := 0) (by omega) (n_L_parent ev11).1 (n_L_parent ev11).2 (fun _ _ q => q)) (fun E h9 q => nomatch (show (Sum.inr E : tq_R) = Sum.inl _ from q.1)) (fun r9 h9 q => ?_)
          obtain ⟨q1, rfl⟩ := q
          cases (show (Sum.inl r9 : tq_R) = Sum.inl (some (.int v11.1)) from q1)
          refine tq_istore (M := mL_isTree) (pc := 65) dL_isTree_65 (L2 := [(4, .int v11.1), (2, .int x10), (0, .ref i0), (1, .int y1), (3, .int y3)]) (by decide) rfl ?_
          refine tq_iconst (M := mL_isTree) (pc := 67) dL_isTree_67 tk_ki_0 ?_
          refine tq_istore (M := mL_isTree) (pc := 68) dL_isTree_68 (L2 := [(5, .int (0 : Int32)), (4, .int v11.1), (2, .int x10), (0, .ref i0), (1, .int y1), (3, .int y3)]) (by decide) rfl ?_
          obtain ⟨o22, eo22, hf⟩ := tq_be hf
          refine tq_pick (L2 := [(0, .ref i0), (1, .int y1), (2, .int x10), (3, .int y3), (4, .int v11.1), (5, .int (0 : Int32))]) [3, 4, 2, 5, 1, 0] rfl ?_
          refine l_L_isTree_70 (bc := bc) (bs := bs) (by omega) i0 x10 y3 v11.1 _ y1 (0 : Int32) v11.2 _ eo22 ?_
          refine tq_iload_n (M := mL_isTree) (pc := 160) dL_isTree_160 rfl ?_
          obtain ⟨p52, ep52, hf⟩ := tq_be hf
          have HJ161 : tq_W l mL_isTree d bc bs Q 295 [(0, .ref i0), (2, .int x10), (3, .int y3)] [.int p52.1] p52.2 := by
            refine tq_istore_n (M := mL_isTree) (pc := 295) rfl dL_isTree_295 (L2 := [(1, .int p52.1), (0, .ref i0), (2, .int x10), (3, .int y3)]) (by decide) rfl ?_
            refine tq_pick (L2 := [(0, .ref i0), (1, .int p52.1), (2, .int x10), (3, .int y3)]) [1, 0, 2, 3] rfl ?_
            cases (Option.some.inj hf)
            exact HJ54
          refine tq_if_eq (M := mL_isTree) (pc := 161) (tgt := 294) dL_isTree_161 (by decide) (fun cc => ?_) (fun cc => ?_)
          · have hf := tq_ifp ep52 cc
            refine tq_iconst (M := mL_isTree) (pc := 294) dL_isTree_294 tk_ki_0 ?_
            refine tq_pick (L2 := [(0, .ref i0), (2, .int x10), (3, .int y3)]) [0, 2, 3] rfl ?_
            cases (Option.some.inj hf)
            exact HJ161
          · have hf := tq_ifn ep52 cc
            refine tq_iload_n (M := mL_isTree) (pc := 164) dL_isTree_164 rfl ?_
            refine tq_if_eq (M := mL_isTree) (pc := 165) (tgt := 186) dL_isTree_165 (by decide) (fun cc => ?_) (fun cc => ?_)
            · have hf := tq_ifp hf cc
              refine tq_aload_n (M := mL_isTree) (pc := 186) dL_isTree_186 rfl ?_
              refine tq_iload_n (M := mL_isTree) (pc := 187) dL_isTree_187 rfl ?_
              obtain ⟨v23, ev23, hf⟩ := tq_be hf
              refine tq_calSW (M := mL_isTree) (pc := 188) (S := []) tk_w_L_kind.1 tk_w_L_kind.2.1 tk_w_L_kind.2.2.1 tk_w_L_kind.2.2.2.1 tk_w_L_kind.2.2.2.2 tk_s_L_kind tk_RL_202 dL_isTree_188 [.ref i0, .int y3] rfl (Nat.le_of_ble_eq_true rfl) (d1 := d - 1) (b1 := 0) (s1 := 0) (bc' := bc) (bs' := bs) (Q1 := fun r h9 => r = .inl (some (.int v23.1)) ∧ v23.2 = h9) (by omega) (by omega) (by omega) (w_L_kind (bc := 0) (bs := 0) (by omega) (n_L_kind ev23).1 (n_L_kind ev23).2 (fun _ _ q => q)) (fun E h9 q => nomatch (show (Sum.inr E : tq_R) = Sum.inl _ from q.1)) (fun r9 h9 q => ?_)
              obtain ⟨q1, rfl⟩ := q
              cases (show (Sum.inl r9 : tq_R) = Sum.inl (some (.int v23.1)) from q1)
              obtain ⟨p24, ep24, hf⟩ := tq_le hf
              have HJ191 : tq_W l mL_isTree d bc bs Q 199 [(0, .ref i0), (2, .int x10), (3, .int y3), (5, .int o22.2.1)] [.int p24] v23.2 := by
                refine tq_aload_n (M := mL_isTree) (pc := 199) dL_isTree_199 rfl ?_
                refine tq_iload_n (M := mL_isTree) (pc := 200) dL_isTree_200 rfl ?_
                obtain ⟨v25, ev25, hf⟩ := tq_be hf
                refine tq_calSW (M := mL_isTree) (pc := 201) (S := [.int p24]) tk_w_L_space.1 tk_w_L_space.2.1 tk_w_L_space.2.2.1 tk_w_L_space.2.2.2.1 tk_w_L_space.2.2.2.2 tk_s_L_space tk_RL_212 dL_isTree_201 [.ref i0, .int y3] rfl (Nat.le_of_ble_eq_true rfl) (d1 := d - 1) (b1 := 0) (s1 := 0) (bc' := bc) (bs' := bs) (Q1 := fun r h9 => r = .inl (some (.int v25.1)) ∧ v25.2 = h9) (by omega) (by omega) (by omega) (w_L_space (bc := 0) (bs := 0) (by omega) (n_L_space ev25).1 (n_L_space ev25).2 (fun _ _ q => q)) (fun E h9 q => nomatch (show (Sum.inr E : tq_R) = Sum.inl _ from q.1)) (fun r9 h9 q => ?_)
                obtain ⟨q1, rfl⟩ := q
                cases (show (Sum.inl r9 : tq_R) = Sum.inl (some (.int v25.1)) from q1)
                obtain ⟨p26, ep26, hf⟩ := tq_le hf
                have HJ204 : tq_W l mL_isTree d bc bs Q 212 [(0, .ref i0), (2, .int x10), (3, .int y3), (5, .int o22.2.1)] [.int p26, .int p24] v25.2 := by
                  refine tq_icmp_ne (M := mL_isTree) (pc := 212) (tgt := 294) dL_isTree_212 (by decide) (fun cc => ?_) (fun cc => ?_)
                  · have hf := tq_ifn hf cc
                    refine tq_iconst (M := mL_isTree) (pc := 294) dL_isTree_294 tk_ki_0 ?_
                    refine tq_pick (L2 := [(0, .ref i0), (2, .int x10), (3, .int y3)]) [0, 1, 2] rfl ?_
                    cases (Option.some.inj hf)
                    exact HJ161
                  · have hf := tq_ifp hf cc
                    refine tq_aload_n (M := mL_isTree) (pc := 215) dL_isTree_215 rfl ?_
                    refine tq_iload_n (M := mL_isTree) (pc := 216) dL_isTree_216 rfl ?_
                    obtain ⟨v27, ev27, hf⟩ := tq_be hf
                    refine tq_calSW (M := mL_isTree) (pc := 217) (S := []) tk_w_L_kind.1 tk_w_L_kind.2.1 tk_w_L_kind.2.2.1 tk_w_L_kind.2.2.2.1 tk_w_L_kind.2.2.2.2 tk_s_L_kind tk_RL_202 dL_isTree_217 [.ref i0, .int y3] rfl (Nat.le_of_ble_eq_true rfl) (d1 := d - 1) (b1 := 0) (s1 := 0) (bc' := bc) (bs' := bs) (Q1 := fun r h9 => r = .inl (some (.int v27.1)) ∧ v27.2 = h9) (by omega) (by omega) (by omega) (w_L_kind (bc := 0) (bs := 0) (by omega) (n_L_kind ev27).1 (n_L_kind ev27).2 (fun _ _ q => q)) (fun E h9 q => nomatch (show (Sum.inr E : tq_R) = Sum.inl _ from q.1)) (fun r9 h9 q => ?_)
                    obtain ⟨q1, rfl⟩ := q
                    cases (show (Sum.inl r9 : tq_R) = Sum.inl (some (.int v27.1)) from q1)
                    refine tq_iconst (M := mL_isTree) (pc := 220) dL_isTree_220 tk_ki_1 ?_
                    obtain ⟨p28, ep28, hf⟩ := tq_le hf
                    have HJ221 : tq_W l mL_isTree d bc bs Q 229 [(0, .ref i0), (2, .int x10), (3, .int y3), (5, .int o22.2.1)] [.int p28] v27.2 := by
                      refine tq_aload_n (M := mL_isTree) (pc := 229) dL_isTree_229 rfl ?_
                      refine tq_iload_n (M := mL_isTree) (pc := 230) dL_isTree_230 rfl ?_
                      obtain ⟨v29, ev29, hf⟩ := tq_be hf
                      refine tq_calSW (M := mL_isTree) (pc := 231) (S := [.int p28]) tk_w_L_name.1 tk_w_L_name.2.1 tk_w_L_name.2.2.1 tk_w_L_name.2.2.2.1 tk_w_L_name.2.2.2.2 tk_s_L_name tk_RL_204 dL_isTree_231 [.ref i0, .int y3] rfl (Nat.le_of_ble_eq_true rfl) (d1 := d - 1) (b1 := 0) (s1 := 0) (bc' := bc) (bs' := bs) (Q1 := fun r h9 => r = .inl (some (.int v29.1)) ∧ v29.2 = h9) (by omega) (by omega) (by omega) (w_L_name (bc := 0) (bs := 0) (by omega) (n_L_name ev29).1 (n_L_name ev29).2 (fun _ _ q => q)) (fun E h9 q => nomatch (show (Sum.inr E : tq_R) = Sum.inl _ from q.1)) (fun r9 h9 q => ?_)
                      obtain ⟨q1, rfl⟩ := q
                      cases (show (Sum.inl r9 : tq_R) = Sum.inl (some (.int v29.1)) from q1)
                      refine tq_iconst (M := mL_isTree) (pc := 234) dL_isTree_234 tk_ki_m1 ?_
                      obtain ⟨p30, ep30, hf⟩ := tq_le hf
                      have HJ235 : tq_W l mL_isTree d bc bs Q 243 [(0, .ref i0), (2, .int x10), (3, .int y3), (5, .int o22.2.1)] [.int p30, .int p28] v29.2 := by
                        refine tq_icmp_ne (M := mL_isTree) (pc := 243) (tgt := 294) dL_isTree_243 (by decide) (fun cc => ?_) (fun cc => ?_)
                        · have hf := tq_ifn hf cc
                          refine tq_iconst (M := mL_isTree) (pc := 294) dL_isTree_294 tk_ki_0 ?_
                          refine tq_pick (L2 := [(0, .ref i0), (2, .int x10), (3, .int y3)]) [0, 1, 2] rfl ?_
                          cases (Option.some.inj hf)
                          exact HJ161
                        · have hf := tq_ifp hf cc
                          refine tq_aload_n (M := mL_isTree) (pc := 246) dL_isTree_246 rfl ?_
                          refine tq_iload_n (M := mL_isTree) (pc := 247) dL_isTree_247 rfl ?_
                          obtain ⟨v31, ev31, hf⟩ := tq_be hf
                          refine tq_calSW (M := mL_isTree) (pc := 248) (S := []) tk_w_L_kind.1 tk_w_L_kind.2.1 tk_w_L_kind.2.2.1 tk_w_L_kind.2.2.2.1 tk_w_L_kind.2.2.2.2 tk_s_L_kind tk_RL_202 dL_isTree_248 [.ref i0, .int y3] rfl (Nat.le_of_ble_eq_true rfl) (d1 := d - 1) (b1 := 0) (s1 := 0) (bc' := bc) (bs' := bs) (Q1 := fun r h9 => r = .inl (some (.int v31.1)) ∧ v31.2 = h9) (by omega) (by omega) (by omega) (w_L_kind (bc := 0) (bs := 0) (by omega) (n_L_kind ev31).1 (n_L_kind ev31).2 (fun _ _ q => q)) (fun E h9 q => nomatch (show (Sum.inr E : tq_R) = Sum.inl _ from q.1)) (fun r9 h9 q => ?_)
                          obtain ⟨q1, rfl⟩ := q
                          cases (show (Sum.inl r9 : tq_R) = Sum.inl (some (.int v31.1)) from q1)
                          refine tq_iconst (M := mL_isTree) (pc := 251) dL_isTree_251 tk_ki_2 ?_
                          obtain ⟨p32, ep32, hf⟩ := tq_le hf
                          have HJ252 : tq_W l mL_isTree d bc bs Q 260 [(0, .ref i0), (2, .int x10), (3, .int y3), (5, .int o22.2.1)] [.int p32] v31.2 := by
                            refine tq_aload_n (M := mL_isTree) (pc := 260) dL_isTree_260 rfl ?_
                            refine tq_iload_n (M := mL_isTree) (pc := 261) dL_isTree_261 rfl ?_
                            obtain ⟨v33, ev33, hf⟩ := tq_be hf
                            refine tq_calSW (M := mL_isTree) (pc := 262) (S := [.int p32]) tk_w_L_number.1 tk_w_L_number.2.1 tk_w_L_number.2.2.1 tk_w_L_number.2.2.2.1 tk_w_L_number.2.2.2.2 tk_s_L_number tk_RL_214 dL_isTree_262 [.ref i0, .int y3] rfl (Nat.le_of_ble_eq_true rfl) (d1 := d - 1) (b1 := 0) (s1 := 0) (bc' := bc) (bs' := bs) (Q1 := fun r h9 => r = .inl (some (.int v33.1)) ∧ v33.2 = h9) (by omega) (by omega) (by omega) (w_L_number (bc := 0) (bs := 0) (by omega) (n_L_number ev33).1 (n_L_number ev33).2 (fun _ _ q => q)) (fun E h9 q => nomatch (show (Sum.inr E : tq_R) = Sum.inl _ from q.1)) (fun r9 h9 q => ?_)
                            obtain ⟨q1, rfl⟩ := q
                            cases (show (Sum.inl r9 : tq_R) = Sum.inl (some (.int v33.1)) from q1)
                            refine tq_iconst (M := mL_isTree) (pc := 265) dL_isTree_265 tk_ki_m1 ?_
                            obtain ⟨p34, ep34, hf⟩ := tq_le hf
                            have HJ266 : tq_W l mL_isTree d bc bs Q 274 [(0, .ref i0), (2, .int x10), (3, .int y3), (5, .int o22.2.1)] [.int p34, .int p32] v33.2 := by
                              refine tq_icmp_ne (M := mL_isTree) (pc := 274) (tgt := 294) dL_isTree_274 (by decide) (fun cc => ?_) (fun cc => ?_)
                              · have hf := tq_ifn hf cc
                                refine tq_iconst (M := mL_isTree) (pc := 294) dL_isTree_294 tk_ki_0 ?_
                                refine tq_pick (L2 := [(0, .ref i0), (2, .int x10), (3, .int y3)]) [0, 1, 2] rfl ?_
                                cases (Option.some.inj hf)
                                exact HJ161
                              · have hf := tq_ifp hf cc
                                refine tq_aload_n (M := mL_isTree) (pc := 277) dL_isTree_277 rfl ?_
                                refine tq_iload_n (M := mL_isTree) (pc := 278) dL_isTree_278 rfl ?_
                                obtain ⟨v35, ev35, hf⟩ := tq_be hf
                                refine tq_calSW (M := mL_isTree) (pc := 279) (S := []) tk_w_L_kind.1 tk_w_L_kind.2.1 tk_w_L_kind.2.2.1 tk_w_L_kind.2.2.2.1 tk_w_L_kind.2.2.2.2 tk_s_L_kind tk_RL_202 dL_isTree_279 [.ref i0, .int y3] rfl (Nat.le_of_ble_eq_true rfl) (d1 := d - 1) (b1 := 0) (s1 := 0) (bc' := bc) (bs' := bs) (Q1 := fun r h9 => r = .inl (some (.int v35.1)) ∧ v35.2 = h9) (by omega) (by omega) (by omega) (w_L_kind (bc := 0) (bs := 0) (by omega) (n_L_kind ev35).1 (n_L_kind ev35).2 (fun _ _ q => q)) (fun E h9 q => nomatch (show (Sum.inr E : tq_R) = Sum.inl _ from q.1)) (fun r9 h9 q => ?_)
                                obtain ⟨q1, rfl⟩ := q
                                cases (show (Sum.inl r9 : tq_R) = Sum.inl (some (.int v35.1)) from q1)
                                refine tq_if_eq (M := mL_isTree) (pc := 282) (tgt := 290) dL_isTree_282 (by decide) (fun cc => ?_) (fun cc => ?_)
                                · have hf := tq_ifp hf cc
                                  refine tq_iconst (M := mL_isTree) (pc := 290) dL_isTree_290 tk_ki_1 ?_
                                  refine tq_goto (M := mL_isTree) (pc := 291) (tgt := 295) dL_isTree_291 (by decide) ?_
                                  refine tq_pick (L2 := [(0, .ref i0), (2, .int x10), (3, .int y3)]) [0, 1, 2] rfl ?_
                                  cases (Option.some.inj hf)
                                  exact HJ161
                                · have hf := tq_ifn hf cc
                                  refine tq_iload (M := mL_isTree) (pc := 285) dL_isTree_285 rfl ?_
                                  refine tq_if_ne (M := mL_isTree) (pc := 287) (tgt := 294) dL_isTree_287 (by decide) (fun cc => ?_) (fun cc => ?_)
                                  · have hf := tq_ifn hf cc
                                    refine tq_iconst (M := mL_isTree) (pc := 294) dL_isTree_294 tk_ki_0 ?_
                                    refine tq_pick (L2 := [(0, .ref i0), (2, .int x10), (3, .int y3)]) [0, 1, 2] rfl ?_
                                    cases (Option.some.inj hf)
                                    exact HJ161
                                  · have hf := tq_ifp hf cc
                                    refine tq_iconst (M := mL_isTree) (pc := 290) dL_isTree_290 tk_ki_1 ?_
                                    refine tq_goto (M := mL_isTree) (pc := 291) (tgt := 295) dL_isTree_291 (by decide) ?_
                                    refine tq_pick (L2 := [(0, .ref i0), (2, .int x10), (3, .int y3)]) [0, 1, 2] rfl ?_
                                    cases (Option.some.inj hf)
                                    exact HJ161
                            refine tq_icmp_ne (M := mL_isTree) (pc := 266) (tgt := 273) dL_isTree_266 (by decide) (fun cc => ?_) (fun cc => ?_)
                            · have hf := tq_ifn ep34.symm cc
                              refine tq_iconst (M := mL_isTree) (pc := 273) dL_isTree_273 tk_ki_0 ?_
                              cases hf
                              exact HJ266
                            · have hf := tq_ifp ep34.symm cc
                              refine tq_iconst (M := mL_isTree) (pc := 269) dL_isTree_269 tk_ki_1 ?_
                              refine tq_goto (M := mL_isTree) (pc := 270) (tgt := 274) dL_isTree_270 (by decide) ?_
                              cases hf
                              exact HJ266
                          refine tq_icmp_ne (M := mL_isTree) (pc := 252) (tgt := 259) dL_isTree_252 (by decide) (fun cc => ?_) (fun cc => ?_)
                          · have hf := tq_ifn ep32.symm cc
                            refine tq_iconst (M := mL_isTree) (pc := 259) dL_isTree_259 tk_ki_0 ?_
                            cases hf
                            exact HJ252
                          · have hf := tq_ifp ep32.symm cc
                            refine tq_iconst (M := mL_isTree) (pc := 255) dL_isTree_255 tk_ki_1 ?_
                            refine tq_goto (M := mL_isTree) (pc := 256) (tgt := 260) dL_isTree_256 (by decide) ?_
                            cases hf
                            exact HJ252
                      refine tq_icmp_ne (M := mL_isTree) (pc := 235) (tgt := 242) dL_isTree_235 (by decide) (fun cc => ?_) (fun cc => ?_)
                      · have hf := tq_ifn ep30.symm cc
                        refine tq_iconst (M := mL_isTree) (pc := 242) dL_isTree_242 tk_ki_0 ?_
                        cases hf
                        exact HJ235
                      · have hf := tq_ifp ep30.symm cc
                        refine tq_iconst (M := mL_isTree) (pc := 238) dL_isTree_238 tk_ki_1 ?_
                        refine tq_goto (M := mL_isTree) (pc := 239) (tgt := 243) dL_isTree_239 (by decide) ?_
                        cases hf
                        exact HJ235
                    refine tq_icmp_ne (M := mL_isTree) (pc := 221) (tgt := 228) dL_isTree_221 (by decide) (fun cc => ?_) (fun cc => ?_)
                    · have hf := tq_ifn ep28.symm cc
                      refine tq_iconst (M := mL_isTree) (pc := 228) dL_isTree_228 tk_ki_0 ?_
                      cases hf
                      exact HJ221
                    · have hf := tq_ifp ep28.symm cc
                      refine tq_iconst (M := mL_isTree) (pc := 224) dL_isTree_224 tk_ki_1 ?_
                      refine tq_goto (M := mL_isTree) (pc := 225) (tgt := 229) dL_isTree_225 (by decide) ?_
                      cases hf
                      exact HJ221
                refine tq_if_lt (M := mL_isTree) (pc := 204) (tgt := 211) dL_isTree_204 (by decide) (fun cc => ?_) (fun cc => ?_)
                · have hf := tq_ifp ep26.symm cc
                  refine tq_iconst (M := mL_isTree) (pc := 211) dL_isTree_211 tk_ki_0 ?_
                  cases hf
                  exact HJ204
                · have hf := tq_ifn ep26.symm cc
                  refine tq_iconst (M := mL_isTree) (pc := 207) dL_isTree_207 tk_ki_1 ?_
                  refine tq_goto (M := mL_isTree) (pc := 208) (tgt := 212) dL_isTree_208 (by decide) ?_
                  cases hf
                  exact HJ204
              refine tq_if_ne (M := mL_isTree) (pc := 191) (tgt := 198) dL_isTree_191 (by decide) (fun cc => ?_) (fun cc => ?_)
              · have hf := tq_ifn ep24.symm cc
                refine tq_iconst (M := mL_isTree) (pc := 198) dL_isTree_198 tk_ki_0 ?_
                refine tq_pick (L2 := [(0, .ref i0), (2, .int x10), (3, .int y3), (5, .int o22.2.1)]) [0, 2, 3, 5] rfl ?_
                cases hf
                exact HJ191
              · have hf := tq_ifp ep24.symm cc
                refine tq_iconst (M := mL_isTree) (pc := 194) dL_isTree_194 tk_ki_1 ?_
                refine tq_goto (M := mL_isTree) (pc := 195) (tgt := 199) dL_isTree_195 (by decide) ?_
                refine tq_pick (L2 := [(0, .ref i0), (2, .int x10), (3, .int y3), (5, .int o22.2.1)]) [0, 2, 3, 5] rfl ?_
                cases hf
                exact HJ191
            · have hf := tq_ifn hf cc
              refine tq_aload_n (M := mL_isTree) (pc := 168) dL_isTree_168 rfl ?_
              refine tq_iload (M := mL_isTree) (pc := 169) dL_isTree_169 rfl ?_
              obtain ⟨⟨⟩, eu37, hf⟩ := tq_be hf
              obtain ⟨fsu37, eu37⟩ := tq_is_s eu37
              obtain ⟨v36, ev36, hf⟩ := tq_be hf
              refine tq_calV (M := mL_isTree) (pc := 171) (S := []) tk_y_X10_isThere tk_v_X10_isThere tk_RL_306 dL_isTree_171 [.int v11.1] rfl (S0 := _) rfl eu37 rfl (Nat.le_of_ble_eq_true rfl) (d1 := d - 1) (b1 := 0) (s1 := 0) (bc' := bc) (bs' := bs) (Q1 := fun r h9 => r = .inl (some (.int v36)) ∧ o22.2.2 = h9) (by omega) (by omega) (by omega) (w_X10_isThere (by omega) ev36 (fun _ _ q => q)) (fun E h9 q => nomatch (show (Sum.inr E : tq_R) = Sum.inl _ from q.1)) (fun r9 h9 q => ?_)
              obtain ⟨q1, rfl⟩ := q
              cases (show (Sum.inl r9 : tq_R) = Sum.inl (some (.int v36)) from q1)
              refine tq_if_eq (M := mL_isTree) (pc := 174) (tgt := 294) dL_isTree_174 (by decide) (fun cc => ?_) (fun cc => ?_)
              · have hf := tq_ifp hf cc
                refine tq_iconst (M := mL_isTree) (pc := 294) dL_isTree_294 tk_ki_0 ?_
                refine tq_pick (L2 := [(0, .ref i0), (2, .int x10), (3, .int y3)]) [0, 2, 3] rfl ?_
                cases (Option.some.inj hf)
                exact HJ161
              · have hf := tq_ifn hf cc
                refine tq_aload_n (M := mL_isTree) (pc := 177) dL_isTree_177 rfl ?_
                refine tq_iload (M := mL_isTree) (pc := 178) dL_isTree_178 rfl ?_
                obtain ⟨v38, ev38, hf⟩ := tq_be hf
                refine tq_calSW (M := mL_isTree) (pc := 180) (S := []) tk_w_L_kind.1 tk_w_L_kind.2.1 tk_w_L_kind.2.2.1 tk_w_L_kind.2.2.2.1 tk_w_L_kind.2.2.2.2 tk_s_L_kind tk_RL_202 dL_isTree_180 [.ref i0, .int v11.1] rfl (Nat.le_of_ble_eq_true rfl) (d1 := d - 1) (b1 := 0) (s1 := 0) (bc' := bc) (bs' := bs) (Q1 := fun r h9 => r = .inl (some (.int v38.1)) ∧ v38.2 = h9) (by omega) (by omega) (by omega) (w_L_kind (bc := 0) (bs := 0) (by omega) (n_L_kind ev38).1 (n_L_kind ev38).2 (fun _ _ q => q)) (fun E h9 q => nomatch (show (Sum.inr E : tq_R) = Sum.inl _ from q.1)) (fun r9 h9 q => ?_)
                obtain ⟨q1, rfl⟩ := q
                cases (show (Sum.inl r9 : tq_R) = Sum.inl (some (.int v38.1)) from q1)
                refine tq_if_ne (M := mL_isTree) (pc := 183) (tgt := 294) dL_isTree_183 (by decide) (fun cc => ?_) (fun cc => ?_)
                · have hf := tq_ifn hf cc
                  refine tq_iconst (M := mL_isTree) (pc := 294) dL_isTree_294 tk_ki_0 ?_
                  refine tq_pick (L2 := [(0, .ref i0), (2, .int x10), (3, .int y3)]) [0, 2, 3] rfl ?_
                  cases (Option.some.inj hf)
                  exact HJ161
                · have hf := tq_ifp hf cc
                  refine tq_aload_n (M := mL_isTree) (pc := 186) dL_isTree_186 rfl ?_
                  refine tq_iload_n (M := mL_isTree) (pc := 187) dL_isTree_187 rfl ?_
                  obtain ⟨v39, ev39, hf⟩ := tq_be hf
                  refine tq_calSW (M := mL_isTree) (pc := 188) (S := []) tk_w_L_kind.1 tk_w_L_kind.2.1 tk_w_L_kind.2.2.1 tk_w_L_kind.2.2.2.1 tk_w_L_kind.2.2.2.2 tk_s_L_kind tk_RL_202 dL_isTree_188 [.ref i0, .int y3] rfl (Nat.le_of_ble_eq_true rfl) (d1 := d - 1) (b1 := 0) (s1 := 0) (bc' := bc) (bs' := bs) (Q1 := fun r h9 => r = .inl (some (.int v39.1)) ∧ v39.2 = h9) (by omega) (by omega) (by omega) (w_L_kind (bc := 0) (bs := 0) (by omega) (n_L_kind ev39).1 (n_L_kind ev39).2 (fun _ _ q => q)) (fun E h9 q => nomatch (show (Sum.inr E : tq_R) = Sum.inl _ from q.1)) (fun r9 h9 q => ?_)
                  obtain ⟨q1, rfl⟩ := q
                  cases (show (Sum.inl r9 : tq_R) = Sum.inl (some (.int v39.1)) from q1)
                  obtain ⟨p40, ep40, hf⟩ := tq_le hf
                  have HJ191 : tq_W l mL_isTree d bc bs Q 199 [(0, .ref i0), (2, .int x10), (3, .int y3), (5, .int o22.2.1)] [.int p40] v39.2 := by
                    refine tq_aload_n (M := mL_isTree) (pc := 199) dL_isTree_199 rfl ?_
                    refine tq_iload_n (M := mL_isTree) (pc := 200) dL_isTree_200 rfl ?_
                    obtain ⟨v41, ev41, hf⟩ := tq_be hf
                    refine tq_calSW (M := mL_isTree) (pc := 201) (S := [.int p40]) tk_w_L_space.1 tk_w_L_space.2.1 tk_w_L_space.2.2.1 tk_w_L_space.2.2.2.1 tk_w_L_space.2.2.2.2 tk_s_L_space tk_RL_212 dL_isTree_201 [.ref i0, .int y3] rfl (Nat.le_of_ble_eq_true rfl) (d1 := d - 1) (b1 := 0) (s1 := 0) (bc' := bc) (bs' := bs) (Q1 := fun r h9 => r = .inl (some (.int v41.1)) ∧ v41.2 = h9) (by omega) (by omega) (by omega) (w_L_space (bc := 0) (bs := 0) (by omega) (n_L_space ev41).1 (n_L_space ev41).2 (fun _ _ q => q)) (fun E h9 q => nomatch (show (Sum.inr E : tq_R) = Sum.inl _ from q.1)) (fun r9 h9 q => ?_)
                    obtain ⟨q1, rfl⟩ := q
                    cases (show (Sum.inl r9 : tq_R) = Sum.inl (some (.int v41.1)) from q1)
                    obtain ⟨p42, ep42, hf⟩ := tq_le hf
                    have HJ204 : tq_W l mL_isTree d bc bs Q 212 [(0, .ref i0), (2, .int x10), (3, .int y3), (5, .int o22.2.1)] [.int p42, .int p40] v41.2 := by
                      refine tq_icmp_ne (M := mL_isTree) (pc := 212) (tgt := 294) dL_isTree_212 (by decide) (fun cc => ?_) (fun cc => ?_)
                      · have hf := tq_ifn hf cc
                        refine tq_iconst (M := mL_isTree) (pc := 294) dL_isTree_294 tk_ki_0 ?_
                        refine tq_pick (L2 := [(0, .ref i0), (2, .int x10), (3, .int y3)]) [0, 1, 2] rfl ?_
                        cases (Option.some.inj hf)
                        exact HJ161
                      · have hf := tq_ifp hf cc
                        refine tq_aload_n (M := mL_isTree) (pc := 215) dL_isTree_215 rfl ?_
                        refine tq_iload_n (M := mL_isTree) (pc := 216) dL_isTree_216 rfl ?_
                        obtain ⟨v43, ev43, hf⟩ := tq_be hf
                        refine tq_calSW (M := mL_isTree) (pc := 217) (S := []) tk_w_L_kind.1 tk_w_L_kind.2.1 tk_w_L_kind.2.2.1 tk_w_L_kind.2.2.2.1 tk_w_L_kind.2.2.2.2 tk_s_L_kind tk_RL_202 dL_isTree_217 [.ref i0, .int y3] rfl (Nat.le_of_ble_eq_true rfl) (d1 := d - 1) (b1 := 0) (s1 := 0) (bc' := bc) (bs' := bs) (Q1 := fun r h9 => r = .inl (some (.int v43.1)) ∧ v43.2 = h9) (by omega) (by omega) (by omega) (w_L_kind (bc := 0) (bs := 0) (by omega) (n_L_kind ev43).1 (n_L_kind ev43).2 (fun _ _ q => q)) (fun E h9 q => nomatch (show (Sum.inr E : tq_R) = Sum.inl _ from q.1)) (fun r9 h9 q => ?_)
                        obtain ⟨q1, rfl⟩ := q
                        cases (show (Sum.inl r9 : tq_R) = Sum.inl (some (.int v43.1)) from q1)
                        refine tq_iconst (M := mL_isTree) (pc := 220) dL_isTree_220 tk_ki_1 ?_
                        obtain ⟨p44, ep44, hf⟩ := tq_le hf
                        have HJ221 : tq_W l mL_isTree d bc bs Q 229 [(0, .ref i0), (2, .int x10), (3, .int y3), (5, .int o22.2.1)] [.int p44] v43.2 := by
                          refine tq_aload_n (M := mL_isTree) (pc := 229) dL_isTree_229 rfl ?_
                          refine tq_iload_n (M := mL_isTree) (pc := 230) dL_isTree_230 rfl ?_
                          obtain ⟨v45, ev45, hf⟩ := tq_be hf
                          refine tq_calSW (M := mL_isTree) (pc := 231) (S := [.int p44]) tk_w_L_name.1 tk_w_L_name.2.1 tk_w_L_name.2.2.1 tk_w_L_name.2.2.2.1 tk_w_L_name.2.2.2.2 tk_s_L_name tk_RL_204 dL_isTree_231 [.ref i0, .int y3] rfl (Nat.le_of_ble_eq_true rfl) (d1 := d - 1) (b1 := 0) (s1 := 0) (bc' := bc) (bs' := bs) (Q1 := fun r h9 => r = .inl (some (.int v45.1)) ∧ v45.2 = h9) (by omega) (by omega) (by omega) (w_L_name (bc := 0) (bs := 0) (by omega) (n_L_name ev45).1 (n_L_name ev45).2 (fun _ _ q => q)) (fun E h9 q => nomatch (show (Sum.inr E : tq_R) = Sum.inl _ from q.1)) (fun r9 h9 q => ?_)
                          obtain ⟨q1, rfl⟩ := q
                          cases (show (Sum.inl r9 : tq_R) = Sum.inl (some (.int v45.1)) from q1)
                          refine tq_iconst (M := mL_isTree) (pc := 234) dL_isTree_234 tk_ki_m1 ?_
                          obtain ⟨p46, ep46, hf⟩ := tq_le hf
                          have HJ235 : tq_W l mL_isTree d bc bs Q 243 [(0, .ref i0), (2, .int x10), (3, .int y3), (5, .int o22.2.1)] [.int p46, .int p44] v45.2 := by
                            refine tq_icmp_ne (M := mL_isTree) (pc := 243) (tgt := 294) dL_isTree_243 (by decide) (fun cc => ?_) (fun cc => ?_)
                            · have hf := tq_ifn hf cc
                              refine tq_iconst (M := mL_isTree) (pc := 294) dL_isTree_294 tk_ki_0 ?_
                              refine tq_pick (L2 := [(0, .ref i0), (2, .int x10), (3, .int y3)]) [0, 1, 2] rfl ?_
                              cases (Option.some.inj hf)
                              exact HJ161
                            · have hf := tq_ifp hf cc
                              refine tq_aload_n (M := mL_isTree) (pc := 246) dL_isTree_246 rfl ?_
                              refine tq_iload_n (M := mL_isTree) (pc := 247) dL_isTree_247 rfl ?_
                              obtain ⟨v47, ev47, hf⟩ := tq_be hf
                              refine tq_calSW (M := mL_isTree) (pc := 248) (S := []) tk_w_L_kind.1 tk_w_L_kind.2.1 tk_w_L_kind.2.2.1 tk_w_L_kind.2.2.2.1 tk_w_L_kind.2.2.2.2 tk_s_L_kind tk_RL_202 dL_isTree_248 [.ref i0, .int y3] rfl (Nat.le_of_ble_eq_true rfl) (d1 := d - 1) (b1 := 0) (s1 := 0) (bc' := bc) (bs' := bs) (Q1 := fun r h9 => r = .inl (some (.int v47.1)) ∧ v47.2 = h9) (by omega) (by omega) (by omega) (w_L_kind (bc := 0) (bs := 0) (by omega) (n_L_kind ev47).1 (n_L_kind ev47).2 (fun _ _ q => q)) (fun E h9 q => nomatch (show (Sum.inr E : tq_R) = Sum.inl _ from q.1)) (fun r9 h9 q => ?_)
                              obtain ⟨q1, rfl⟩ := q
                              cases (show (Sum.inl r9 : tq_R) = Sum.inl (some (.int v47.1)) from q1)
                              refine tq_iconst (M := mL_isTree) (pc := 251) dL_isTree_251 tk_ki_2 ?_
                              obtain ⟨p48, ep48, hf⟩ := tq_le hf
                              have HJ252 : tq_W l mL_isTree d bc bs Q 260 [(0, .ref i0), (2, .int x10), (3, .int y3), (5, .int o22.2.1)] [.int p48] v47.2 := by
                                refine tq_aload_n (M := mL_isTree) (pc := 260) dL_isTree_260 rfl ?_
                                refine tq_iload_n (M := mL_isTree) (pc := 261) dL_isTree_261 rfl ?_
                                obtain ⟨v49, ev49, hf⟩ := tq_be hf
                                refine tq_calSW (M := mL_isTree) (pc := 262) (S := [.int p48]) tk_w_L_number.1 tk_w_L_number.2.1 tk_w_L_number.2.2.1 tk_w_L_number.2.2.2.1 tk_w_L_number.2.2.2.2 tk_s_L_number tk_RL_214 dL_isTree_262 [.ref i0, .int y3] rfl (Nat.le_of_ble_eq_true rfl) (d1 := d - 1) (b1 := 0) (s1 := 0) (bc' := bc) (bs' := bs) (Q1 := fun r h9 => r = .inl (some (.int v49.1)) ∧ v49.2 = h9) (by omega) (by omega) (by omega) (w_L_number (bc := 0) (bs := 0) (by omega) (n_L_number ev49).1 (n_L_number ev49).2 (fun _ _ q => q)) (fun E h9 q => nomatch (show (Sum.inr E : tq_R) = Sum.inl _ from q.1)) (fun r9 h9 q => ?_)
                                obtain ⟨q1, rfl⟩ := q
                                cases (show (Sum.inl r9 : tq_R) = Sum.inl (some (.int v49.1)) from q1)
                                refine tq_iconst (M := mL_isTree) (pc := 265) dL_isTree_265 tk_ki_m1 ?_
                                obtain ⟨p50, ep50, hf⟩ := tq_le hf
                                have HJ266 : tq_W l mL_isTree d bc bs Q 274 [(0, .ref i0), (2, .int x10), (3, .int y3), (5, .int o22.2.1)] [.int p50, .int p48] v49.2 := by
                                  refine tq_icmp_ne (M := mL_isTree) (pc := 274) (tgt := 294) dL_isTree_274 (by decide) (fun cc => ?_) (fun cc => ?_)
                                  · have hf := tq_ifn hf cc
                                    refine tq_iconst (M := mL_isTree) (pc := 294) dL_isTree_294 tk_ki_0 ?_
                                    refine tq_pick (L2 := [(0, .ref i0), (2, .int x10), (3, .int y3)]) [0, 1, 2] rfl ?_
                                    cases (Option.some.inj hf)
                                    exact HJ161
                                  · have hf := tq_ifp hf cc
                                    refine tq_aload_n (M := mL_isTree) (pc := 277) dL_isTree_277 rfl ?_
                                    refine tq_iload_n (M := mL_isTree) (pc := 278) dL_isTree_278 rfl ?_
                                    obtain ⟨v51, ev51, hf⟩ := tq_be hf
                                    refine tq_calSW (M := mL_isTree) (pc := 279) (S := []) tk_w_L_kind.1 tk_w_L_kind.2.1 tk_w_L_kind.2.2.1 tk_w_L_kind.2.2.2.1 tk_w_L_kind.2.2.2.2 tk_s_L_kind tk_RL_202 dL_isTree_279 [.ref i0, .int y3] rfl (Nat.le_of_ble_eq_true rfl) (d1 := d - 1) (b1 := 0) (s1 := 0) (bc' := bc) (bs' := bs) (Q1 := fun r h9 => r = .inl (some (.int v51.1)) ∧ v51.2 = h9) (by omega) (by omega) (by omega) (w_L_kind (bc := 0) (bs := 0) (by omega) (n_L_kind ev51).1 (n_L_kind ev51).2 (fun _ _ q => q)) (fun E h9 q => nomatch (show (Sum.inr E : tq_R) = Sum.inl _ from q.1)) (fun r9 h9 q => ?_)
                                    obtain ⟨q1, rfl⟩ := q
                                    cases (show (Sum.inl r9 : tq_R) = Sum.inl (some (.int v51.1)) from q1)
                                    refine tq_if_eq (M := mL_isTree) (pc := 282) (tgt := 290) dL_isTree_282 (by decide) (fun cc => ?_) (fun cc => ?_)
                                    · have hf := tq_ifp hf cc
                                      refine tq_iconst (M := mL_isTree) (pc := 290) dL_isTree_290 tk_ki_1 ?_
                                      refine tq_goto (M := mL_isTree) (pc := 291) (tgt := 295) dL_isTree_291 (by decide) ?_
                                      refine tq_pick (L2 := [(0, .ref i0), (2, .int x10), (3, .int y3)]) [0, 1, 2] rfl ?_
                                      cases (Option.some.inj hf)
                                      exact HJ161
                                    · have hf := tq_ifn hf cc
                                      refine tq_iload (M := mL_isTree) (pc := 285) dL_isTree_285 rfl ?_
                                      refine tq_if_ne (M := mL_isTree) (pc := 287) (tgt := 294) dL_isTree_287 (by decide) (fun cc => ?_) (fun cc => ?_)
                                      · have hf := tq_ifn hf cc
                                        refine tq_iconst (M := mL_isTree) (pc := 294) dL_isTree_294 tk_ki_0 ?_
                                        refine tq_pick (L2 := [(0, .ref i0), (2, .int x10), (3, .int y3)]) [0, 1, 2] rfl ?_
                                        cases (Option.some.inj hf)
                                        exact HJ161
                                      · have hf := tq_ifp hf cc
                                        refine tq_iconst (M := mL_isTree) (pc := 290) dL_isTree_290 tk_ki_1 ?_
                                        refine tq_goto (M := mL_isTree) (pc := 291) (tgt := 295) dL_isTree_291 (by decide) ?_
                                        refine tq_pick (L2 := [(0, .ref i0), (2, .int x10), (3, .int y3)]) [0, 1, 2] rfl ?_
                                        cases (Option.some.inj hf)
                                        exact HJ161
                                refine tq_icmp_ne (M := mL_isTree) (pc := 266) (tgt := 273) dL_isTree_266 (by decide) (fun cc => ?_) (fun cc => ?_)
                                · have hf := tq_ifn ep50.symm cc
                                  refine tq_iconst (M := mL_isTree) (pc := 273) dL_isTree_273 tk_ki_0 ?_
                                  cases hf
                                  exact HJ266
                                · have hf := tq_ifp ep50.symm cc
                                  refine tq_iconst (M := mL_isTree) (pc := 269) dL_isTree_269 tk_ki_1 ?_
                                  refine tq_goto (M := mL_isTree) (pc := 270) (tgt := 274) dL_isTree_270 (by decide) ?_
                                  cases hf
                                  exact HJ266
                              refine tq_icmp_ne (M := mL_isTree) (pc := 252) (tgt := 259) dL_isTree_252 (by decide) (fun cc => ?_) (fun cc => ?_)
                              · have hf := tq_ifn ep48.symm cc
                                refine tq_iconst (M := mL_isTree) (pc := 259) dL_isTree_259 tk_ki_0 ?_
                                cases hf
                                exact HJ252
                              · have hf := tq_ifp ep48.symm cc
                                refine tq_iconst (M := mL_isTree) (pc := 255) dL_isTree_255 tk_ki_1 ?_
                                refine tq_goto (M := mL_isTree) (pc := 256) (tgt := 260) dL_isTree_256 (by decide) ?_
                                cases hf
                                exact HJ252
                          refine tq_icmp_ne (M := mL_isTree) (pc := 235) (tgt := 242) dL_isTree_235 (by decide) (fun cc => ?_) (fun cc => ?_)
                          · have hf := tq_ifn ep46.symm cc
                            refine tq_iconst (M := mL_isTree) (pc := 242) dL_isTree_242 tk_ki_0 ?_
                            cases hf
                            exact HJ235
                          · have hf := tq_ifp ep46.symm cc
                            refine tq_iconst (M := mL_isTree) (pc := 238) dL_isTree_238 tk_ki_1 ?_
                            refine tq_goto (M := mL_isTree) (pc := 239) (tgt := 243) dL_isTree_239 (by decide) ?_
                            cases hf
                            exact HJ235
                        refine tq_icmp_ne (M := mL_isTree) (pc := 221) (tgt := 228) dL_isTree_221 (by decide) (fun cc => ?_) (fun cc => ?_)
                        · have hf := tq_ifn ep44.symm cc
                          refine tq_iconst (M := mL_isTree) (pc := 228) dL_isTree_228 tk_ki_0 ?_
                          cases hf
                          exact HJ221
                        · have hf := tq_ifp ep44.symm cc
                          refine tq_iconst (M := mL_isTree) (pc := 224) dL_isTree_224 tk_ki_1 ?_
                          refine tq_goto (M := mL_isTree) (pc := 225) (tgt := 229) dL_isTree_225 (by decide) ?_
                          cases hf
                          exact HJ221
                    refine tq_if_lt (M := mL_isTree) (pc := 204) (tgt := 211) dL_isTree_204 (by decide) (fun cc => ?_) (fun cc => ?_)
                    · have hf := tq_ifp ep42.symm cc
                      refine tq_iconst (M := mL_isTree) (pc := 211) dL_isTree_211 tk_ki_0 ?_
                      cases hf
                      exact HJ204
                    · have hf := tq_ifn ep42.symm cc
                      refine tq_iconst (M := mL_isTree) (pc := 207) dL_isTree_207 tk_ki_1 ?_
                      refine tq_goto (M := mL_isTree) (pc := 208) (tgt := 212) dL_isTree_208 (by decide) ?_
                      cases hf
                      exact HJ204
                  refine tq_if_ne (M := mL_isTree) (pc := 191) (tgt := 198) dL_isTree_191 (by decide) (fun cc => ?_) (fun cc => ?_)
                  · have hf := tq_ifn ep40.symm cc
                    refine tq_iconst (M := mL_isTree) (pc := 198) dL_isTree_198 tk_ki_0 ?_
                    refine tq_pick (L2 := [(0, .ref i0), (2, .int x10), (3, .int y3), (5, .int o22.2.1)]) [0, 2, 3, 5] rfl ?_
                    cases hf
                    exact HJ191
                  · have hf := tq_ifp ep40.symm cc
                    refine tq_iconst (M := mL_isTree) (pc := 194) dL_isTree_194 tk_ki_1 ?_
                    refine tq_goto (M := mL_isTree) (pc := 195) (tgt := 199) dL_isTree_195 (by decide) ?_
                    refine tq_pick (L2 := [(0, .ref i0), (2, .int x10), (3, .int y3), (5, .int o22.2.1)]) [0, 2, 3, 5] rfl ?_
                    cases hf
                    exact HJ191
set_option maxHeartbeats 4000000 in
set_option maxRecDepth 20000 in
theorem w_L_isTree {l : Launch} {d : Nat} (hd9 : 9 ≤ d) {a0 : Nat} {h : tq_H} {o : Int32 × tq_H} {Q : tq_R → tq_H → Prop} (hf : f_L_isTree a0 h = some o) (hQ : ∀ r h9, r = .inl (some (.int o.1)) ∧ o.2 = h9 → Q r h9) : tq_C l yL_isTree cL_isTree 8 (some .boolean) d 0 0 [.ref a0] h Q := by
  refine tq_body (y := yL_isTree) false (by decide +kernel) (fun z => by cases z) (Nat.le_of_ble_eq_true rfl) ?_
  show tq_W l mL_isTree d 0 0 Q 0 [(0, .ref a0)] [] h
  refine tq_aload_n (M := mL_isTree) (pc := 0) dL_isTree_0 rfl ?_
  refine tq_iconst (M := mL_isTree) (pc := 1) dL_isTree_1 tk_ki_0 ?_
  obtain ⟨⟨⟩, eu2, hf⟩ := tq_be hf
  obtain ⟨fsu2, eu2⟩ := tq_is_s eu2
  obtain ⟨v1, ev1, hf⟩ := tq_be hf
  refine tq_calV (M := mL_isTree) (pc := 2) (S := []) tk_y_X10_isThere tk_v_X10_isThere tk_RL_306 dL_isTree_2 [.int (0 : Int32)] rfl (S0 := _) rfl eu2 rfl (Nat.le_of_ble_eq_true rfl) (d1 := d - 1) (b1 := 0) (s1 := 0) (bc' := 0) (bs' := 0) (Q1 := fun r h9 => r = .inl (some (.int v1)) ∧ h = h9) (by omega) rfl rfl (w_X10_isThere (by omega) ev1 (fun _ _ q => q)) (fun E h9 q => nomatch (show (Sum.inr E : tq_R) = Sum.inl _ from q.1)) (fun r9 h9 q => ?_)
  obtain ⟨q1, rfl⟩ := q
  cases (show (Sum.inl r9 : tq_R) = Sum.inl (some (.int v1)) from q1)
  obtain ⟨p5, ep5, hf⟩ := tq_be hf
  have HJ5 : tq_W l mL_isTree d 0 0 Q 32 [(0, .ref a0)] [.int p5.1] p5.2 := by
    refine tq_istore_n (M := mL_isTree) (pc := 32) rfl dL_isTree_32 (L2 := [(1, .int p5.1), (0, .ref a0)]) (by decide) rfl ?_
    refine tq_iconst (M := mL_isTree) (pc := 33) dL_isTree_33 tk_ki_0 ?_
    refine tq_istore_n (M := mL_isTree) (pc := 34) rfl dL_isTree_34 (L2 := [(2, .int (0 : Int32)), (1, .int p5.1), (0, .ref a0)]) (by decide) rfl ?_
    refine tq_iconst (M := mL_isTree) (pc := 35) dL_isTree_35 tk_ki_0 ?_
    refine tq_istore_n (M := mL_isTree) (pc := 36) rfl dL_isTree_36 (L2 := [(3, .int (0 : Int32)), (2, .int (0 : Int32)), (1, .int p5.1), (0, .ref a0)]) (by decide) rfl ?_
    obtain ⟨o55, eo55, hf⟩ := tq_be hf
    refine tq_pick (L2 := [(0, .ref a0), (1, .int p5.1), (2, .int (0 : Int32)), (3, .int (0 : Int32))]) [3, 2, 1, 0] rfl ?_
    refine l_L_isTree_37 (bc := 0) (bs := 0) (by omega) a0 _ p5.1 (0 : Int32) (0 : Int32) p5.2 _ eo55 ?_
    refine tq_iload_n (M := mL_isTree) (pc := 302) dL_isTree_302 rfl ?_
    obtain ⟨p58, ep58, hf⟩ := tq_be hf
    have HJ303 : tq_W l mL_isTree d 0 0 Q 319 [] [.int p58] o55.2.2 := by
      obtain ⟨z59, ez59, hf⟩ := tq_be hf
      refine tq_zretB (M := mL_isTree) (pc := 319) dL_isTree_319 rfl ez59 ?_
      cases (Option.some.inj hf)
      exact hQ _ _ ⟨rfl, rfl⟩
    refine tq_if_eq (M := mL_isTree) (pc := 303) (tgt := 318) dL_isTree_303 (by decide) (fun cc => ?_) (fun cc => ?_)
    · have hf := tq_ifp ep58 cc
      refine tq_iconst (M := mL_isTree) (pc := 318) dL_isTree_318 tk_ki_0 ?_
      refine tq_pick (L2 := []) [] rfl ?_
      cases (Option.some.inj hf)
      exact HJ303
    · have hf := tq_ifn ep58 cc
      refine tq_iload_n (M := mL_isTree) (pc := 306) dL_isTree_306 rfl ?_
      refine tq_aload_n (M := mL_isTree) (pc := 307) dL_isTree_307 rfl ?_
      obtain ⟨⟨⟩, eu57, hf⟩ := tq_be hf
      obtain ⟨fsu57, eu57⟩ := tq_is_s eu57
      obtain ⟨v56, ev56, hf⟩ := tq_be hf
      refine tq_calV (M := mL_isTree) (pc := 308) (S := [.int o55.2.1]) tk_y_X10_nodes tk_v_X10_nodes tk_RL_296 dL_isTree_308 [] rfl (S0 := _) rfl eu57 rfl (Nat.le_of_ble_eq_true rfl) (d1 := d - 1) (b1 := 0) (s1 := 0) (bc' := 0) (bs' := 0) (Q1 := fun r h9 => r = .inl (some (.int v56)) ∧ o55.2.2 = h9) (by omega) rfl rfl (w_X10_nodes (by omega) ev56 (fun _ _ q => q)) (fun E h9 q => nomatch (show (Sum.inr E : tq_R) = Sum.inl _ from q.1)) (fun r9 h9 q => ?_)
      obtain ⟨q1, rfl⟩ := q
      cases (show (Sum.inl r9 : tq_R) = Sum.inl (some (.int v56)) from q1)
      refine tq_icmp_ne (M := mL_isTree) (pc := 311) (tgt := 318) dL_isTree_311 (by decide) (fun cc => ?_) (fun cc => ?_)
      · have hf := tq_ifn hf cc
        refine tq_iconst (M := mL_isTree) (pc := 318) dL_isTree_318 tk_ki_0 ?_
        refine tq_pick (L2 := []) [] rfl ?_
        cases (Option.some.inj hf)
        exact HJ303
      · have hf := tq_ifp hf cc
        refine tq_iconst (M := mL_isTree) (pc := 314) dL_isTree_314 tk_ki_1 ?_
        refine tq_goto (M := mL_isTree) (pc := 315) (tgt := 319) dL_isTree_315 (by decide) ?_
        refine tq_pick (L2 := []) [] rfl ?_
        cases (Option.some.inj hf)
        exact HJ303
  refine tq_if_eq (M := mL_isTree) (pc := 5) (tgt := 31) dL_isTree_5 (by decide) (fun cc => ?_) (fun cc => ?_)
  · have hf := tq_ifp ep5 cc
    refine tq_iconst (M := mL_isTree) (pc := 31) dL_isTree_31 tk_ki_0 ?_
    cases (Option.some.inj hf)
    exact HJ5
  · have hf := tq_ifn ep5 cc
    refine tq_aload_n (M := mL_isTree) (pc := 8) dL_isTree_8 rfl ?_
    refine tq_iconst (M := mL_isTree) (pc := 9) dL_isTree_9 tk_ki_0 ?_
    obtain ⟨v3, ev3, hf⟩ := tq_be hf
    refine tq_calSW (M := mL_isTree) (pc := 10) (S := []) tk_w_L_parent.1 tk_w_L_parent.2.1 tk_w_L_parent.2.2.1 tk_w_L_parent.2.2.2.1 tk_w_L_parent.2.2.2.2 tk_s_L_parent tk_RL_208 dL_isTree_10 [.ref a0, .int (0 : Int32)] rfl (Nat.le_of_ble_eq_true rfl) (d1 := d - 1) (b1 := 0) (s1 := 0) (bc' := 0) (bs' := 0) (Q1 := fun r h9 => r = .inl (some (.int v3.1)) ∧ v3.2 = h9) (by omega) rfl rfl (w_L_parent (bc := 0) (bs := 0) (by omega) (n_L_parent ev3).1 (n_L_parent ev3).2 (fun _ _ q => q)) (fun E h9 q => nomatch (show (Sum.inr E : tq_R) = Sum.inl _ from q.1)) (fun r9 h9 q => ?_)
    obtain ⟨q1, rfl⟩ := q
    cases (show (Sum.inl r9 : tq_R) = Sum.inl (some (.int v3.1)) from q1)
    refine tq_iconst (M := mL_isTree) (pc := 13) dL_isTree_13 tk_ki_m1 ?_
    refine tq_icmp_ne (M := mL_isTree) (pc := 14) (tgt := 31) dL_isTree_14 (by decide) (fun cc => ?_) (fun cc => ?_)
    · have hf := tq_ifn hf cc
      refine tq_iconst (M := mL_isTree) (pc := 31) dL_isTree_31 tk_ki_0 ?_
      cases (Option.some.inj hf)
      exact HJ5
    · have hf := tq_ifp hf cc
      refine tq_aload_n (M := mL_isTree) (pc := 17) dL_isTree_17 rfl ?_
      refine tq_iconst (M := mL_isTree) (pc := 18) dL_isTree_18 tk_ki_0 ?_
      obtain ⟨v4, ev4, hf⟩ := tq_be hf
      refine tq_calSW (M := mL_isTree) (pc := 19) (S := []) tk_w_L_number.1 tk_w_L_number.2.1 tk_w_L_number.2.2.1 tk_w_L_number.2.2.2.1 tk_w_L_number.2.2.2.2 tk_s_L_number tk_RL_214 dL_isTree_19 [.ref a0, .int (0 : Int32)] rfl (Nat.le_of_ble_eq_true rfl) (d1 := d - 1) (b1 := 0) (s1 := 0) (bc' := 0) (bs' := 0) (Q1 := fun r h9 => r = .inl (some (.int v4.1)) ∧ v4.2 = h9) (by omega) rfl rfl (w_L_number (bc := 0) (bs := 0) (by omega) (n_L_number ev4).1 (n_L_number ev4).2 (fun _ _ q => q)) (fun E h9 q => nomatch (show (Sum.inr E : tq_R) = Sum.inl _ from q.1)) (fun r9 h9 q => ?_)
      obtain ⟨q1, rfl⟩ := q
      cases (show (Sum.inl r9 : tq_R) = Sum.inl (some (.int v4.1)) from q1)
      refine tq_bipush (M := mL_isTree) (pc := 22) dL_isTree_22 tk_kb_16 ?_
      refine tq_icmp_ne (M := mL_isTree) (pc := 24) (tgt := 31) dL_isTree_24 (by decide) (fun cc => ?_) (fun cc => ?_)
      · have hf := tq_ifn hf cc
        refine tq_iconst (M := mL_isTree) (pc := 31) dL_isTree_31 tk_ki_0 ?_
        cases (Option.some.inj hf)
        exact HJ5
      · have hf := tq_ifp hf cc
        refine tq_iconst (M := mL_isTree) (pc := 27) dL_isTree_27 tk_ki_1 ?_
        refine tq_goto (M := mL_isTree) (pc := 28) (tgt := 32) dL_isTree_28 (by decide) ?_
        cases (Option.some.inj hf)
        exact HJ5
abbrev mL_finds : tq_M := (RL, cL_finds, 8, (some .boolean), false, [], none)
def f_L_finds_b102 (i0 : Nat) (i2 : Int32) (i3 : Int32) (s : Int32 × Int32 × tq_H) : Option ((Int32 × Int32 × tq_H) ⊕ (Int32 × tq_H)) := match s with
  | (y1, y4, hh) =>
    if y4 ≥ i3 then
      some (.inr (y1, hh))
    else
      if y1 = 0 then
        some (.inr (y1, hh))
      else
        (f_N_foundAt i0 i2 y4 hh).bind fun v12 =>
        (if (y4 + (1 : Int32)) ≥ i3 then
          some ((-1 : Int32), v12.2)
        else
          (f_N_foundAt i0 i2 (y4 + (1 : Int32)) v12.2).bind fun v13 =>
          some (v13.1, v13.2)).bind fun p14 =>
        (if p14.1 < 0 then
          some ((0 : Int32), p14.2)
        else
          (f_N_number i0 v12.1 p14.2).bind fun v15 =>
          if v15.1 < 0 then
            some ((0 : Int32), v15.2)
          else
            (f_N_number i0 p14.1 v15.2).bind fun v16 =>
            if v16.1 < 0 then
              some ((0 : Int32), v16.2)
            else
              some ((1 : Int32), v16.2)).bind fun p17 =>
        (tq_is p17.2 i0 10).bind fun _ =>
        (f_X10_isThere i0 v12.1 p17.2).bind fun v18 =>
        (if v18 = 0 then
          some ((0 : Int32), p17.2)
        else
          if p17.1 = 0 then
            if y4 = 0 then
              some ((1 : Int32), p17.2)
            else
              (f_N_value i0 (0 : Int32) p17.2).bind fun v20 =>
              if v20.1 < (-1 : Int32) then
                some ((0 : Int32), v20.2)
              else
                some ((1 : Int32), v20.2)
          else
            (f_N_number i0 v12.1 p17.2).bind fun v21 =>
            (f_N_number i0 p14.1 v21.2).bind fun v22 =>
            if v21.1 ≥ v22.1 then
              some ((0 : Int32), v22.2)
            else
              if y4 = 0 then
                some ((1 : Int32), v22.2)
              else
                (f_N_value i0 (0 : Int32) v22.2).bind fun v23 =>
                if v23.1 < (-1 : Int32) then
                  some ((0 : Int32), v23.2)
                else
                  some ((1 : Int32), v23.2)).bind fun p24 =>
        tq_let (y4 + (1 : Int32)) fun x25 =>
        some (.inl (p24.1, x25, p24.2))
def f_L_finds_b4 (i0 : Nat) (s : Int32 × Int32 × tq_H) : Option ((Int32 × Int32 × tq_H) ⊕ (Int32 × tq_H)) := match s with
  | (y1, y2, hh) =>
    (tq_is hh i0 10).bind fun _ =>
    (f_X10_paths i0 hh).bind fun v1 =>
    if y2 ≥ v1 then
      some (.inr (y1, hh))
    else
      if y1 = 0 then
        some (.inr (y1, hh))
      else
        (f_N_found i0 y2 (0 : Int32) hh).bind fun v3 =>
        (if v3.1 < 0 then
          some ((0 : Int32), v3.2)
        else
          (f_N_foundAnew i0 y2 (0 : Int32) v3.2).bind fun v4 =>
          if v3.1 = v4.1 then
            (f_L_foundAt i0 y2 v3.1 v4.2).bind fun v5 =>
            if v5.1 = (-2000000001 : Int32) then
              (f_L_ordered i0 y2 v3.1 v5.2).bind fun v6 =>
              if v6.1 = (-2000000001 : Int32) then
                (f_N_groups i0 y2 v6.2).bind fun v7 =>
                if v7.1 > v3.1 then
                  some ((0 : Int32), v7.2)
                else
                  tq_let (if v3.1 = 0 then (1 : Int32) else (0 : Int32)) fun p8 =>
                  (f_N_groups i0 y2 v7.2).bind fun v9 =>
                  tq_let (if v9.1 = 0 then (1 : Int32) else (0 : Int32)) fun p10 =>
                  if p8 = p10 then
                    some ((1 : Int32), v9.2)
                  else
                    some ((0 : Int32), v9.2)
              else
                some ((0 : Int32), v6.2)
            else
              some ((0 : Int32), v5.2)
          else
            some ((0 : Int32), v4.2)).bind fun p11 =>
        (tq_loop (f_L_finds_b102 i0 y2 v3.1) tq_N (p11.1, (0 : Int32), p11.2)).bind fun o26 =>
        tq_let (y2 + (1 : Int32)) fun x27 =>
        some (.inl (o26.1, x27, o26.2))
def f_L_finds (a0 : Nat) (h : tq_H) : Option (Int32 × tq_H) :=
  (tq_loop (f_L_finds_b4 a0) 21 ((1 : Int32), (0 : Int32), h)).bind fun o28 =>
  (tq_bz o28.1).bind fun z29 =>
  some (z29, o28.2)
set_option maxHeartbeats 4000000 in
theorem l_L_finds_102 {l : Launch} {d : Nat} {Q : tq_R → tq_H → Prop} {bc bs : Nat} (hd9 : 10 ≤ d) (i0 : Nat) (i2 : Int32) (i3 : Int32) : ∀ (n : Nat) (y1 : Int32) (y4 : Int32) (hh : tq_H) (o : Int32 × tq_H), tq_loop (f_L_finds_b102 i0 i2 i3) n (y1, y4, hh) = some o → tq_W l mL_finds d bc bs Q 229 [(0, .ref i0), (1, .int o.1), (2, .int i2)] [] o.2 → tq_W l mL_finds d bc bs Q 102 [(0, .ref i0), (1, .int y1), (2, .int i2), (3, .int i3), (4, .int y4)] [] hh := by
  intro n
  induction n with
  | zero => intro y1 y4 hh o hl; cases hl
  | succ n ih =>
    intro y1 y4 hh o hl hk
    obtain ⟨oo, hf, ho⟩ := tq_loop_s hl
    refine tq_iload (M := mL_finds) (pc := 102) dL_finds_102 rfl ?_
    refine tq_iload_n (M := mL_finds) (pc := 104) dL_finds_104 rfl ?_
    refine tq_icmp_ge (M := mL_finds) (pc := 105) (tgt := 229) dL_finds_105 (by decide) (fun cc => ?_) (fun cc => ?_)
    · have hf := tq_ifp hf cc
      refine tq_pick (L2 := [(0, .ref i0), (1, .int y1), (2, .int i2)]) [0, 1, 2] rfl ?_
      cases (Option.some.inj hf)
      cases (tq_lx ho)
      exact hk
    · have hf := tq_ifn hf cc
      refine tq_iload_n (M := mL_finds) (pc := 108) dL_finds_108 rfl ?_
      refine tq_if_eq (M := mL_finds) (pc := 109) (tgt := 229) dL_finds_109 (by decide) (fun cc => ?_) (fun cc => ?_)
      · have hf := tq_ifp hf cc
        refine tq_pick (L2 := [(0, .ref i0), (1, .int y1), (2, .int i2)]) [0, 1, 2] rfl ?_
        cases (Option.some.inj hf)
        cases (tq_lx ho)
        exact hk
      · have hf := tq_ifn hf cc
        refine tq_aload_n (M := mL_finds) (pc := 112) dL_finds_112 rfl ?_
        refine tq_iload_n (M := mL_finds) (pc := 113) dL_finds_113 rfl ?_
        refine tq_iload (M := mL_finds) (pc := 114) dL_finds_114 rfl ?_
        obtain ⟨v12, ev12, hf⟩ := tq_be hf
        refine tq_calSW (M := mL_finds) (pc := 116) (S := []) tk_w_L_foundAt.1 tk_w_L_foundAt.2.1 tk_w_L_foundAt.2.2.1 tk_w_L_foundAt.2.2.2.1 tk_w_L_foundAt.2.2.2.2 tk_s_L_foundAt tk_RL_237 dL_finds_116 [.ref i0, .int i2, .int y4] rfl (Nat.le_of_ble_eq_true rfl) (d1 := d - 1) (b1 := 0) (s1 := 0) (bc' := bc) (bs' := bs) (Q1 := fun r h9 => r = .inl (some (.int v12.1)) ∧ v12.2 = h9) (by omega) (by omega) (by omega) (w_L_foundAt (bc := 0) (bs := 0) (by omega) (n_L_foundAt ev12).1 (n_L_foundAt ev12).2 (fun _ _ q => q)) (fun E h9 q => nomatch (show (Sum.inr E : tq_R) = Sum.inl _ from q.1)) (fun r9 h9 q => ?_)
        obtain ⟨q1, rfl⟩ := q
        cases (show (Sum.inl r9 : tq_R) = Sum.inl (some (.int v12.1)) from q1)
        refine tq_istore (M := mL_finds) (pc := 119) dL_finds_119 (L2 := [(5, .int v12.1), (0, .ref i0), (1, .int y1), (2, .int i2), (3, .int i3), (4, .int y4)]) (by decide) rfl ?_
        refine tq_iload (M := mL_finds) (pc := 121) dL_finds_121 rfl ?_
        refine tq_iconst (M := mL_finds) (pc := 123) dL_finds_123 tk_ki_1 ?_
        refine tq_iadd (M := mL_finds) (pc := 124) dL_finds_124 ?_
        refine tq_iload_n (M := mL_finds) (pc := 125) dL_finds_125 rfl ?_
        obtain ⟨p14, ep14, hf⟩ := tq_be hf
        have HJ126 : tq_W l mL_finds d bc bs Q 142 [(0, .ref i0), (2, .int i2), (3, .int i3), (4, .int y4), (5, .int v12.1)] [.int p14.1] p14.2 := by
          refine tq_istore (M := mL_finds) (pc := 142) dL_finds_142 (L2 := [(6, .int p14.1), (0, .ref i0), (2, .int i2), (3, .int i3), (4, .int y4), (5, .int v12.1)]) (by decide) rfl ?_
          refine tq_iload (M := mL_finds) (pc := 144) dL_finds_144 rfl ?_
          obtain ⟨p17, ep17, hf⟩ := tq_be hf
          have HJ146 : tq_W l mL_finds d bc bs Q 172 [(0, .ref i0), (2, .int i2), (3, .int i3), (4, .int y4), (5, .int v12.1), (6, .int p14.1)] [.int p17.1] p17.2 := by
            refine tq_istore (M := mL_finds) (pc := 172) dL_finds_172 (L2 := [(7, .int p17.1), (0, .ref i0), (2, .int i2), (3, .int i3), (4, .int y4), (5, .int v12.1), (6, .int p14.1)]) (by decide) rfl ?_
            refine tq_aload_n (M := mL_finds) (pc := 174) dL_finds_174 rfl ?_
            refine tq_iload (M := mL_finds) (pc := 175) dL_finds_175 rfl ?_
            obtain ⟨⟨⟩, eu19, hf⟩ := tq_be hf
            obtain ⟨fsu19, eu19⟩ := tq_is_s eu19
            obtain ⟨v18, ev18, hf⟩ := tq_be hf
            refine tq_calV (M := mL_finds) (pc := 177) (S := []) tk_y_X10_isThere tk_v_X10_isThere tk_RL_306 dL_finds_177 [.int v12.1] rfl (S0 := _) rfl eu19 rfl (Nat.le_of_ble_eq_true rfl) (d1 := d - 1) (b1 := 0) (s1 := 0) (bc' := bc) (bs' := bs) (Q1 := fun r h9 => r = .inl (some (.int v18)) ∧ p17.2 = h9) (by omega) (by omega) (by omega) (w_X10_isThere (by omega) ev18 (fun _ _ q => q)) (fun E h9 q => nomatch (show (Sum.inr E : tq_R) = Sum.inl _ from q.1)) (fun r9 h9 q => ?_)
            obtain ⟨q1, rfl⟩ := q
            cases (show (Sum.inl r9 : tq_R) = Sum.inl (some (.int v18)) from q1)
            obtain ⟨p24, ep24, hf⟩ := tq_be hf
            have HJ180 : tq_W l mL_finds d bc bs Q 222 [(0, .ref i0), (2, .int i2), (3, .int i3), (4, .int y4)] [.int p24.1] p24.2 := by
              refine tq_istore_n (M := mL_finds) (pc := 222) rfl dL_finds_222 (L2 := [(1, .int p24.1), (0, .ref i0), (2, .int i2), (3, .int i3), (4, .int y4)]) (by decide) rfl ?_
              obtain ⟨x25, ex25, hf⟩ := tq_le hf
              refine tq_iinc (M := mL_finds) (pc := 223) (v := x25) (L2 := [(4, .int x25), (1, .int p24.1), (0, .ref i0), (2, .int i2), (3, .int i3)]) dL_finds_223 rfl (by rw [ex25, tk_ki_1]) (by decide) rfl ?_
              refine tq_goto (M := mL_finds) (pc := 226) (tgt := 102) dL_finds_226 (by decide) ?_
              refine tq_pick (L2 := [(0, .ref i0), (1, .int p24.1), (2, .int i2), (3, .int i3), (4, .int x25)]) [2, 1, 3, 4, 0] rfl ?_
              cases (Option.some.inj hf)
              exact ih _ _ _ o (tq_lc ho) hk
            refine tq_if_eq (M := mL_finds) (pc := 180) (tgt := 221) dL_finds_180 (by decide) (fun cc => ?_) (fun cc => ?_)
            · have hf := tq_ifp ep24 cc
              refine tq_iconst (M := mL_finds) (pc := 221) dL_finds_221 tk_ki_0 ?_
              refine tq_pick (L2 := [(0, .ref i0), (2, .int i2), (3, .int i3), (4, .int y4)]) [1, 2, 3, 4] rfl ?_
              cases (Option.some.inj hf)
              exact HJ180
            · have hf := tq_ifn ep24 cc
              refine tq_iload (M := mL_finds) (pc := 183) dL_finds_183 rfl ?_
              refine tq_if_eq (M := mL_finds) (pc := 185) (tgt := 203) dL_finds_185 (by decide) (fun cc => ?_) (fun cc => ?_)
              · have hf := tq_ifp hf cc
                refine tq_iload (M := mL_finds) (pc := 203) dL_finds_203 rfl ?_
                refine tq_if_eq (M := mL_finds) (pc := 205) (tgt := 217) dL_finds_205 (by decide) (fun cc => ?_) (fun cc => ?_)
                · have hf := tq_ifp hf cc
                  refine tq_iconst (M := mL_finds) (pc := 217) dL_finds_217 tk_ki_1 ?_
                  refine tq_goto (M := mL_finds) (pc := 218) (tgt := 222) dL_finds_218 (by decide) ?_
                  refine tq_pick (L2 := [(0, .ref i0), (2, .int i2), (3, .int i3), (4, .int y4)]) [1, 2, 3, 4] rfl ?_
                  cases (Option.some.inj hf)
                  exact HJ180
                · have hf := tq_ifn hf cc
                  refine tq_aload_n (M := mL_finds) (pc := 208) dL_finds_208 rfl ?_
                  refine tq_iconst (M := mL_finds) (pc := 209) dL_finds_209 tk_ki_0 ?_
                  obtain ⟨v20, ev20, hf⟩ := tq_be hf
                  refine tq_calSW (M := mL_finds) (pc := 210) (S := []) tk_w_L_value.1 tk_w_L_value.2.1 tk_w_L_value.2.2.1 tk_w_L_value.2.2.2.1 tk_w_L_value.2.2.2.2 tk_s_L_value tk_RL_206 dL_finds_210 [.ref i0, .int (0 : Int32)] rfl (Nat.le_of_ble_eq_true rfl) (d1 := d - 1) (b1 := 0) (s1 := 0) (bc' := bc) (bs' := bs) (Q1 := fun r h9 => r = .inl (some (.int v20.1)) ∧ v20.2 = h9) (by omega) (by omega) (by omega) (w_L_value (bc := 0) (bs := 0) (by omega) (n_L_value ev20).1 (n_L_value ev20).2 (fun _ _ q => q)) (fun E h9 q => nomatch (show (Sum.inr E : tq_R) = Sum.inl _ from q.1)) (fun r9 h9 q => ?_)
                  obtain ⟨q1, rfl⟩ := q
                  cases (show (Sum.inl r9 : tq_R) = Sum.inl (some (.int v20.1)) from q1)
                  refine tq_iconst (M := mL_finds) (pc := 213) dL_finds_213 tk_ki_m1 ?_
                  refine tq_icmp_lt (M := mL_finds) (pc := 214) (tgt := 221) dL_finds_214 (by decide) (fun cc => ?_) (fun cc => ?_)
                  · have hf := tq_ifp hf cc
                    refine tq_iconst (M := mL_finds) (pc := 221) dL_finds_221 tk_ki_0 ?_
                    refine tq_pick (L2 := [(0, .ref i0), (2, .int i2), (3, .int i3), (4, .int y4)]) [1, 2, 3, 4] rfl ?_
                    cases (Option.some.inj hf)
                    exact HJ180
                  · have hf := tq_ifn hf cc
                    refine tq_iconst (M := mL_finds) (pc := 217) dL_finds_217 tk_ki_1 ?_
                    refine tq_goto (M := mL_finds) (pc := 218) (tgt := 222) dL_finds_218 (by decide) ?_
                    refine tq_pick (L2 := [(0, .ref i0), (2, .int i2), (3, .int i3), (4, .int y4)]) [1, 2, 3, 4] rfl ?_
                    cases (Option.some.inj hf)
                    exact HJ180
              · have hf := tq_ifn hf cc
                refine tq_aload_n (M := mL_finds) (pc := 188) dL_finds_188 rfl ?_
                refine tq_iload (M := mL_finds) (pc := 189) dL_finds_189 rfl ?_
                obtain ⟨v21, ev21, hf⟩ := tq_be hf
                refine tq_calSW (M := mL_finds) (pc := 191) (S := []) tk_w_L_number.1 tk_w_L_number.2.1 tk_w_L_number.2.2.1 tk_w_L_number.2.2.2.1 tk_w_L_number.2.2.2.2 tk_s_L_number tk_RL_214 dL_finds_191 [.ref i0, .int v12.1] rfl (Nat.le_of_ble_eq_true rfl) (d1 := d - 1) (b1 := 0) (s1 := 0) (bc' := bc) (bs' := bs) (Q1 := fun r h9 => r = .inl (some (.int v21.1)) ∧ v21.2 = h9) (by omega) (by omega) (by omega) (w_L_number (bc := 0) (bs := 0) (by omega) (n_L_number ev21).1 (n_L_number ev21).2 (fun _ _ q => q)) (fun E h9 q => nomatch (show (Sum.inr E : tq_R) = Sum.inl _ from q.1)) (fun r9 h9 q => ?_)
                obtain ⟨q1, rfl⟩ := q
                cases (show (Sum.inl r9 : tq_R) = Sum.inl (some (.int v21.1)) from q1)
                refine tq_aload_n (M := mL_finds) (pc := 194) dL_finds_194 rfl ?_
                refine tq_iload (M := mL_finds) (pc := 195) dL_finds_195 rfl ?_
                obtain ⟨v22, ev22, hf⟩ := tq_be hf
                refine tq_calSW (M := mL_finds) (pc := 197) (S := [.int v21.1]) tk_w_L_number.1 tk_w_L_number.2.1 tk_w_L_number.2.2.1 tk_w_L_number.2.2.2.1 tk_w_L_number.2.2.2.2 tk_s_L_number tk_RL_214 dL_finds_197 [.ref i0, .int p14.1] rfl (Nat.le_of_ble_eq_true rfl) (d1 := d - 1) (b1 := 0) (s1 := 0) (bc' := bc) (bs' := bs) (Q1 := fun r h9 => r = .inl (some (.int v22.1)) ∧ v22.2 = h9) (by omega) (by omega) (by omega) (w_L_number (bc := 0) (bs := 0) (by omega) (n_L_number ev22).1 (n_L_number ev22).2 (fun _ _ q => q)) (fun E h9 q => nomatch (show (Sum.inr E : tq_R) = Sum.inl _ from q.1)) (fun r9 h9 q => ?_)
                obtain ⟨q1, rfl⟩ := q
                cases (show (Sum.inl r9 : tq_R) = Sum.inl (some (.int v22.1)) from q1)
                refine tq_icmp_ge (M := mL_finds) (pc := 200) (tgt := 221) dL_finds_200 (by decide) (fun cc => ?_) (fun cc => ?_)
                · have hf := tq_ifp hf cc
                  refine tq_iconst (M := mL_finds) (pc := 221) dL_finds_221 tk_ki_0 ?_
                  refine tq_pick (L2 := [(0, .ref i0), (2, .int i2), (3, .int i3), (4, .int y4)]) [1, 2, 3, 4] rfl ?_
                  cases (Option.some.inj hf)
                  exact HJ180
                · have hf := tq_ifn hf cc
                  refine tq_iload (M := mL_finds) (pc := 203) dL_finds_203 rfl ?_
                  refine tq_if_eq (M := mL_finds) (pc := 205) (tgt := 217) dL_finds_205 (by decide) (fun cc => ?_) (fun cc => ?_)
                  · have hf := tq_ifp hf cc
                    refine tq_iconst (M := mL_finds) (pc := 217) dL_finds_217 tk_ki_1 ?_
                    refine tq_goto (M := mL_finds) (pc := 218) (tgt := 222) dL_finds_218 (by decide) ?_
                    refine tq_pick (L2 := [(0, .ref i0), (2, .int i2), (3, .int i3), (4, .int y4)]) [1, 2, 3, 4] rfl ?_
                    cases (Option.some.inj hf)
                    exact HJ180
                  · have hf := tq_ifn hf cc
                    refine tq_aload_n (M := mL_finds) (pc := 208) dL_finds_208 rfl ?_
                    refine tq_iconst (M := mL_finds) (pc := 209) dL_finds_209 tk_ki_0 ?_
                    obtain ⟨v23, ev23, hf⟩ := tq_be hf
                    refine tq_calSW (M := mL_finds) (pc := 210) (S := []) tk_w_L_value.1 tk_w_L_value.2.1 tk_w_L_value.2.2.1 tk_w_L_value.2.2.2.1 tk_w_L_value.2.2.2.2 tk_s_L_value tk_RL_206 dL_finds_210 [.ref i0, .int (0 : Int32)] rfl (Nat.le_of_ble_eq_true rfl) (d1 := d - 1) (b1 := 0) (s1 := 0) (bc' := bc) (bs' := bs) (Q1 := fun r h9 => r = .inl (some (.int v23.1)) ∧ v23.2 = h9) (by omega) (by omega) (by omega) (w_L_value (bc := 0) (bs := 0) (by omega) (n_L_value ev23).1 (n_L_value ev23).2 (fun _ _ q => q)) (fun E h9 q => nomatch (show (Sum.inr E : tq_R) = Sum.inl _ from q.1)) (fun r9 h9 q => ?_)
                    obtain ⟨q1, rfl⟩ := q
                    cases (show (Sum.inl r9 : tq_R) = Sum.inl (some (.int v23.1)) from q1)
                    refine tq_iconst (M := mL_finds) (pc := 213) dL_finds_213 tk_ki_m1 ?_
                    refine tq_icmp_lt (M := mL_finds) (pc := 214) (tgt := 221) dL_finds_214 (by decide) (fun cc => ?_) (fun cc => ?_)
                    · have hf := tq_ifp hf cc
                      refine tq_iconst (M := mL_finds) (pc := 221) dL_finds_221 tk_ki_0 ?_
                      refine tq_pick (L2 := [(0, .ref i0), (2, .int i2), (3, .int i3), (4, .int y4)]) [1, 2, 3, 4] rfl ?_
                      cases (Option.some.inj hf)
                      exact HJ180
                    · have hf := tq_ifn hf cc
                      refine tq_iconst (M := mL_finds) (pc := 217) dL_finds_217 tk_ki_1 ?_
                      refine tq_goto (M := mL_finds) (pc := 218) (tgt := 222) dL_finds_218 (by decide) ?_
                      refine tq_pick (L2 := [(0, .ref i0), (2, .int i2), (3, .int i3), (4, .int y4)]) [1, 2, 3, 4] rfl ?_
                      cases (Option.some.inj hf)
                      exact HJ180
          refine tq_if_lt (M := mL_finds) (pc := 146) (tgt := 171) dL_finds_146 (by decide) (fun cc => ?_) (fun cc => ?_)
          · have hf := tq_ifp ep17 cc
            refine tq_iconst (M := mL_finds) (pc := 171) dL_finds_171 tk_ki_0 ?_
            refine tq_pick (L2 := [(0, .ref i0), (2, .int i2), (3, .int i3), (4, .int y4), (5, .int v12.1), (6, .int p14.1)]) [1, 2, 3, 4, 5, 0] rfl ?_
            cases (Option.some.inj hf)
            exact HJ146
          · have hf := tq_ifn ep17 cc
            refine tq_aload_n (M := mL_finds) (pc := 149) dL_finds_149 rfl ?_
            refine tq_iload (M := mL_finds) (pc := 150) dL_finds_150 rfl ?_
            obtain ⟨v15, ev15, hf⟩ := tq_be hf
            refine tq_calSW (M := mL_finds) (pc := 152) (S := []) tk_w_L_number.1 tk_w_L_number.2.1 tk_w_L_number.2.2.1 tk_w_L_number.2.2.2.1 tk_w_L_number.2.2.2.2 tk_s_L_number tk_RL_214 dL_finds_152 [.ref i0, .int v12.1] rfl (Nat.le_of_ble_eq_true rfl) (d1 := d - 1) (b1 := 0) (s1 := 0) (bc' := bc) (bs' := bs) (Q1 := fun r h9 => r = .inl (some (.int v15.1)) ∧ v15.2 = h9) (by omega) (by omega) (by omega) (w_L_number (bc := 0) (bs := 0) (by omega) (n_L_number ev15).1 (n_L_number ev15).2 (fun _ _ q => q)) (fun E h9 q => nomatch (show (Sum.inr E : tq_R) = Sum.inl _ from q.1)) (fun r9 h9 q => ?_)
            obtain ⟨q1, rfl⟩ := q
            cases (show (Sum.inl r9 : tq_R) = Sum.inl (some (.int v15.1)) from q1)
            refine tq_if_lt (M := mL_finds) (pc := 155) (tgt := 171) dL_finds_155 (by decide) (fun cc => ?_) (fun cc => ?_)
            · have hf := tq_ifp hf cc
              refine tq_iconst (M := mL_finds) (pc := 171) dL_finds_171 tk_ki_0 ?_
              refine tq_pick (L2 := [(0, .ref i0), (2, .int i2), (3, .int i3), (4, .int y4), (5, .int v12.1), (6, .int p14.1)]) [1, 2, 3, 4, 5, 0] rfl ?_
              cases (Option.some.inj hf)
              exact HJ146
            · have hf := tq_ifn hf cc
              refine tq_aload_n (M := mL_finds) (pc := 158) dL_finds_158 rfl ?_
              refine tq_iload (M := mL_finds) (pc := 159) dL_finds_159 rfl ?_
              obtain ⟨v16, ev16, hf⟩ := tq_be hf
              refine tq_calSW (M := mL_finds) (pc := 161) (S := []) tk_w_L_number.1 tk_w_L_number.2.1 tk_w_L_number.2.2.1 tk_w_L_number.2.2.2.1 tk_w_L_number.2.2.2.2 tk_s_L_number tk_RL_214 dL_finds_161 [.ref i0, .int p14.1] rfl (Nat.le_of_ble_eq_true rfl) (d1 := d - 1) (b1 := 0) (s1 := 0) (bc' := bc) (bs' := bs) (Q1 := fun r h9 => r = .inl (some (.int v16.1)) ∧ v16.2 = h9) (by omega) (by omega) (by omega) (w_L_number (bc := 0) (bs := 0) (by omega) (n_L_number ev16).1 (n_L_number ev16).2 (fun _ _ q => q)) (fun E h9 q => nomatch (show (Sum.inr E : tq_R) = Sum.inl _ from q.1)) (fun r9 h9 q => ?_)
              obtain ⟨q1, rfl⟩ := q
              cases (show (Sum.inl r9 : tq_R) = Sum.inl (some (.int v16.1)) from q1)
              refine tq_if_lt (M := mL_finds) (pc := 164) (tgt := 171) dL_finds_164 (by decide) (fun cc => ?_) (fun cc => ?_)
              · have hf := tq_ifp hf cc
                refine tq_iconst (M := mL_finds) (pc := 171) dL_finds_171 tk_ki_0 ?_
                refine tq_pick (L2 := [(0, .ref i0), (2, .int i2), (3, .int i3), (4, .int y4), (5, .int v12.1), (6, .int p14.1)]) [1, 2, 3, 4, 5, 0] rfl ?_
                cases (Option.some.inj hf)
                exact HJ146
              · have hf := tq_ifn hf cc
                refine tq_iconst (M := mL_finds) (pc := 167) dL_finds_167 tk_ki_1 ?_
                refine tq_goto (M := mL_finds) (pc := 168) (tgt := 172) dL_finds_168 (by decide) ?_
                refine tq_pick (L2 := [(0, .ref i0), (2, .int i2), (3, .int i3), (4, .int y4), (5, .int v12.1), (6, .int p14.1)]) [1, 2, 3, 4, 5, 0] rfl ?_
                cases (Option.some.inj hf)
                exact HJ146
        refine tq_icmp_ge (M := mL_finds) (pc := 126) (tgt := 141) dL_finds_126 (by decide) (fun cc => ?_) (fun cc => ?_)
        · have hf := tq_ifp ep14 cc
          refine tq_iconst (M := mL_finds) (pc := 141) dL_finds_141 tk_ki_m1 ?_
          refine tq_pick (L2 := [(0, .ref i0), (2, .int i2), (3, .int i3), (4, .int y4), (5, .int v12.1)]) [1, 3, 4, 5, 0] rfl ?_
          cases (Option.some.inj hf)
          exact HJ126
        · have hf := tq_ifn ep14 cc
          refine tq_aload_n (M := mL_finds) (pc := 129) dL_finds_129 rfl ?_
          refine tq_iload_n (M := mL_finds) (pc := 130) dL_finds_130 rfl ?_
          refine tq_iload (M := mL_finds) (pc := 131) dL_finds_131 rfl ?_
          refine tq_iconst (M := mL_finds) (pc := 133) dL_finds_133 tk_ki_1 ?_
          refine tq_iadd (M := mL_finds) (pc := 134) dL_finds_134 ?_
          obtain ⟨v13, ev13, hf⟩ := tq_be hf
          refine tq_calSW (M := mL_finds) (pc := 135) (S := []) tk_w_L_foundAt.1 tk_w_L_foundAt.2.1 tk_w_L_foundAt.2.2.1 tk_w_L_foundAt.2.2.2.1 tk_w_L_foundAt.2.2.2.2 tk_s_L_foundAt tk_RL_237 dL_finds_135 [.ref i0, .int i2, .int ((y4 + (1 : Int32)))] rfl (Nat.le_of_ble_eq_true rfl) (d1 := d - 1) (b1 := 0) (s1 := 0) (bc' := bc) (bs' := bs) (Q1 := fun r h9 => r = .inl (some (.int v13.1)) ∧ v13.2 = h9) (by omega) (by omega) (by omega) (w_L_foundAt (bc := 0) (bs := 0) (by omega) (n_L_foundAt ev13).1 (n_L_foundAt ev13).2 (fun _ _ q => q)) (fun E h9 q => nomatch (show (Sum.inr E : tq_R) = Sum.inl _ from q.1)) (fun r9 h9 q => ?_)
          obtain ⟨q1, rfl⟩ := q
          cases (show (Sum.inl r9 : tq_R) = Sum.inl (some (.int v13.1)) from q1)
          refine tq_goto (M := mL_finds) (pc := 138) (tgt := 142) dL_finds_138 (by decide) ?_
          refine tq_pick (L2 := [(0, .ref i0), (2, .int i2), (3, .int i3), (4, .int y4), (5, .int v12.1)]) [1, 3, 4, 5, 0] rfl ?_
          cases (Option.some.inj hf)
          exact HJ126
set_option maxHeartbeats 4000000 in
theorem l_L_finds_4 {l : Launch} {d : Nat} {Q : tq_R → tq_H → Prop} {bc bs : Nat} (hd9 : 10 ≤ d) (i0 : Nat) : ∀ (n : Nat) (y1 : Int32) (y2 : Int32) (hh : tq_H) (o : Int32 × tq_H), tq_loop (f_L_finds_b4 i0) n (y1, y2, hh) = some o → tq_W l mL_finds d bc bs Q 235 [(1, .int o.1)] [] o.2 → tq_W l mL_finds d (2 * n + bc) (12 * n + bs) Q 4 [(0, .ref i0), (1, .int y1), (2, .int y2)] [] hh := by
  intro n
  induction n with
  | zero => intro y1 y2 hh o hl; cases hl
  | succ n ih =>
    intro y1 y2 hh o hl hk
    obtain ⟨oo, hf, ho⟩ := tq_loop_s hl
    refine tq_more (bc := 2 + (2 * n + bc)) (bs := 12 + (12 * n + bs)) (by omega) (by omega) ?_
    refine tq_iload_n (M := mL_finds) (pc := 4) dL_finds_4 rfl ?_
    refine tq_aload_n (M := mL_finds) (pc := 5) dL_finds_5 rfl ?_
    obtain ⟨⟨⟩, eu2, hf⟩ := tq_be hf
    obtain ⟨fsu2, eu2⟩ := tq_is_s eu2
    obtain ⟨v1, ev1, hf⟩ := tq_be hf
    refine tq_calV (M := mL_finds) (pc := 6) (S := [.int y2]) tk_y_X10_paths tk_v_X10_paths tk_RL_175 dL_finds_6 [] rfl (S0 := _) rfl eu2 rfl (Nat.le_of_ble_eq_true rfl) (d1 := d - 1) (b1 := 0) (s1 := 0) (bc' := (2 + (2 * n + bc))) (bs' := (12 + (12 * n + bs))) (Q1 := fun r h9 => r = .inl (some (.int v1)) ∧ hh = h9) (by omega) (by omega) (by omega) (w_X10_paths (by omega) ev1 (fun _ _ q => q)) (fun E h9 q => nomatch (show (Sum.inr E : tq_R) = Sum.inl _ from q.1)) (fun r9 h9 q => ?_)
    obtain ⟨q1, rfl⟩ := q
    cases (show (Sum.inl r9 : tq_R) = Sum.inl (some (.int v1)) from q1)
    refine tq_icmp_ge (M := mL_finds) (pc := 9) (tgt := 235) dL_finds_9 (by decide) (fun cc => ?_) (fun cc => ?_)
    · have hf := tq_ifp hf cc
      refine tq_pick (L2 := [(1, .int y1)]) [1] rfl ?_
      refine tq_more (bc := bc) (bs := bs) (by omega) (by omega) ?_
      cases (Option.some.inj hf)
      cases (tq_lx ho)
      exact hk
    · have hf := tq_ifn hf cc
      refine tq_iload_n (M := mL_finds) (pc := 12) dL_finds_12 rfl ?_
      refine tq_if_eq (M := mL_finds) (pc := 13) (tgt := 235) dL_finds_13 (by decide) (fun cc => ?_) (fun cc => ?_)
      · have hf := tq_ifp hf cc
        refine tq_pick (L2 := [(1, .int y1)]) [1] rfl ?_
        refine tq_more (bc := bc) (bs := bs) (by omega) (by omega) ?_
        cases (Option.some.inj hf)
        cases (tq_lx ho)
        exact hk
      · have hf := tq_ifn hf cc
        refine tq_aload_n (M := mL_finds) (pc := 16) dL_finds_16 rfl ?_
        refine tq_iload_n (M := mL_finds) (pc := 17) dL_finds_17 rfl ?_
        refine tq_iconst (M := mL_finds) (pc := 18) dL_finds_18 tk_ki_0 ?_
        obtain ⟨v3, ev3, hf⟩ := tq_be hf
        refine tq_calSW (M := mL_finds) (pc := 19) (S := []) tk_w_L_found.1 tk_w_L_found.2.1 tk_w_L_found.2.2.1 tk_w_L_found.2.2.2.1 tk_w_L_found.2.2.2.2 tk_s_L_found tk_RL_233 dL_finds_19 [.ref i0, .int y2, .int (0 : Int32)] rfl (Nat.le_of_ble_eq_true rfl) (d1 := d - 1) (b1 := 0) (s1 := 0) (bc' := (2 + (2 * n + bc))) (bs' := (12 + (12 * n + bs))) (Q1 := fun r h9 => r = .inl (some (.int v3.1)) ∧ v3.2 = h9) (by omega) (by omega) (by omega) (w_L_found (bc := 0) (bs := 0) (by omega) (n_L_found ev3).1 (n_L_found ev3).2 (fun _ _ q => q)) (fun E h9 q => nomatch (show (Sum.inr E : tq_R) = Sum.inl _ from q.1)) (fun r9 h9 q => ?_)
        obtain ⟨q1, rfl⟩ := q
        cases (show (Sum.inl r9 : tq_R) = Sum.inl (some (.int v3.1)) from q1)
        refine tq_istore_n (M := mL_finds) (pc := 22) rfl dL_finds_22 (L2 := [(3, .int v3.1), (0, .ref i0), (1, .int y1), (2, .int y2)]) (by decide) rfl ?_
        refine tq_iload_n (M := mL_finds) (pc := 23) dL_finds_23 rfl ?_
        obtain ⟨p11, ep11, hf⟩ := tq_be hf
        have HJ24 : tq_W l mL_finds d (2 * n + bc) (12 * n + bs) Q 98 [(0, .ref i0), (2, .int y2), (3, .int v3.1)] [.int p11.1] p11.2 := by
          refine tq_istore_n (M := mL_finds) (pc := 98) rfl dL_finds_98 (L2 := [(1, .int p11.1), (0, .ref i0), (2, .int y2), (3, .int v3.1)]) (by decide) rfl ?_
          refine tq_iconst (M := mL_finds) (pc := 99) dL_finds_99 tk_ki_0 ?_
          refine tq_istore (M := mL_finds) (pc := 100) dL_finds_100 (L2 := [(4, .int (0 : Int32)), (1, .int p11.1), (0, .ref i0), (2, .int y2), (3, .int v3.1)]) (by decide) rfl ?_
          obtain ⟨o26, eo26, hf⟩ := tq_be hf
          refine tq_pick (L2 := [(0, .ref i0), (1, .int p11.1), (2, .int y2), (3, .int v3.1), (4, .int (0 : Int32))]) [2, 1, 3, 4, 0] rfl ?_
          refine l_L_finds_102 (bc := (2 * n + bc)) (bs := (12 * n + bs)) (by omega) i0 y2 v3.1 _ p11.1 (0 : Int32) p11.2 _ eo26 ?_
          obtain ⟨x27, ex27, hf⟩ := tq_le hf
          refine tq_iinc (M := mL_finds) (pc := 229) (v := x27) (L2 := [(2, .int x27), (0, .ref i0), (1, .int o26.1)]) dL_finds_229 rfl (by rw [ex27, tk_ki_1]) (by decide) rfl ?_
          refine tq_goto (M := mL_finds) (pc := 232) (tgt := 4) dL_finds_232 (by decide) ?_
          refine tq_pick (L2 := [(0, .ref i0), (1, .int o26.1), (2, .int x27)]) [1, 2, 0] rfl ?_
          refine tq_more (bc := 2 * n + bc) (bs := 12 * n + bs) (by omega) (by omega) ?_
          cases (Option.some.inj hf)
          exact ih _ _ _ o (tq_lc ho) hk
        refine tq_if_lt (M := mL_finds) (pc := 24) (tgt := 97) dL_finds_24 (by decide) (fun cc => ?_) (fun cc => ?_)
        · have hf := tq_ifp ep11 cc
          refine tq_iconst (M := mL_finds) (pc := 97) dL_finds_97 tk_ki_0 ?_
          refine tq_pick (L2 := [(0, .ref i0), (2, .int y2), (3, .int v3.1)]) [1, 3, 0] rfl ?_
          refine tq_more (bc := (2 * n + bc)) (bs := (12 * n + bs)) (by omega) (by omega) ?_
          cases (Option.some.inj hf)
          exact HJ24
        · have hf := tq_ifn ep11 cc
          refine tq_iload_n (M := mL_finds) (pc := 27) dL_finds_27 rfl ?_
          refine tq_aload_n (M := mL_finds) (pc := 28) dL_finds_28 rfl ?_
          refine tq_iload_n (M := mL_finds) (pc := 29) dL_finds_29 rfl ?_
          refine tq_iconst (M := mL_finds) (pc := 30) dL_finds_30 tk_ki_0 ?_
          obtain ⟨v4, ev4, hf⟩ := tq_be hf
          refine tq_calSW (M := mL_finds) (pc := 31) (S := [.int v3.1]) tk_w_L_foundAnew.1 tk_w_L_foundAnew.2.1 tk_w_L_foundAnew.2.2.1 tk_w_L_foundAnew.2.2.2.1 tk_w_L_foundAnew.2.2.2.2 tk_s_L_foundAnew tk_RL_235 dL_finds_31 [.ref i0, .int y2, .int (0 : Int32)] rfl (Nat.le_of_ble_eq_true rfl) (d1 := d - 1) (b1 := 0) (s1 := 0) (bc' := (2 + (2 * n + bc))) (bs' := (12 + (12 * n + bs))) (Q1 := fun r h9 => r = .inl (some (.int v4.1)) ∧ v4.2 = h9) (by omega) (by omega) (by omega) (w_L_foundAnew (bc := 0) (bs := 0) (by omega) (n_L_foundAnew ev4).1 (n_L_foundAnew ev4).2 (fun _ _ q => q)) (fun E h9 q => nomatch (show (Sum.inr E : tq_R) = Sum.inl _ from q.1)) (fun r9 h9 q => ?_)
          obtain ⟨q1, rfl⟩ := q
          cases (show (Sum.inl r9 : tq_R) = Sum.inl (some (.int v4.1)) from q1)
          refine tq_icmp_ne (M := mL_finds) (pc := 34) (tgt := 97) dL_finds_34 (by decide) (fun cc => ?_) (fun cc => ?_)
          · have hf := tq_ifn hf cc
            refine tq_iconst (M := mL_finds) (pc := 97) dL_finds_97 tk_ki_0 ?_
            refine tq_pick (L2 := [(0, .ref i0), (2, .int y2), (3, .int v3.1)]) [1, 3, 0] rfl ?_
            refine tq_more (bc := (2 * n + bc)) (bs := (12 * n + bs)) (by omega) (by omega) ?_
            cases (Option.some.inj hf)
            exact HJ24
          · have hf := tq_ifp hf cc
            refine tq_aload_n (M := mL_finds) (pc := 37) dL_finds_37 rfl ?_
            refine tq_iload_n (M := mL_finds) (pc := 38) dL_finds_38 rfl ?_
            refine tq_iload_n (M := mL_finds) (pc := 39) dL_finds_39 rfl ?_
            obtain ⟨v5, ev5, hf⟩ := tq_be hf
            refine tq_calSW (M := mL_finds) (pc := 40) (S := []) tk_w_L_foundAt.1 tk_w_L_foundAt.2.1 tk_w_L_foundAt.2.2.1 tk_w_L_foundAt.2.2.2.1 tk_w_L_foundAt.2.2.2.2 tk_s_L_foundAt tk_RL_237 dL_finds_40 [.ref i0, .int y2, .int v3.1] rfl (Nat.le_of_ble_eq_true rfl) (d1 := d - 1) (b1 := 1) (s1 := 6) (bc' := (1 + (2 * n + bc))) (bs' := (6 + (12 * n + bs))) (Q1 := fun r h9 => r = .inl (some (.int v5.1)) ∧ v5.2 = h9) (by omega) (by omega) (by omega) (w_L_foundAt (bc := 1) (bs := 6) (by omega) ev5 (fun _ _ _ => ⟨by decide, by decide⟩) (fun _ _ q => q)) (fun E h9 q => nomatch (show (Sum.inr E : tq_R) = Sum.inl _ from q.1)) (fun r9 h9 q => ?_)
            obtain ⟨q1, rfl⟩ := q
            cases (show (Sum.inl r9 : tq_R) = Sum.inl (some (.int v5.1)) from q1)
            refine tq_ldc (M := mL_finds) (pc := 43) dL_finds_43 tk_RL_15 ?_
            refine tq_icmp_ne (M := mL_finds) (pc := 45) (tgt := 97) dL_finds_45 (by decide) (fun cc => ?_) (fun cc => ?_)
            · have hf := tq_ifn hf cc
              refine tq_iconst (M := mL_finds) (pc := 97) dL_finds_97 tk_ki_0 ?_
              refine tq_pick (L2 := [(0, .ref i0), (2, .int y2), (3, .int v3.1)]) [1, 3, 0] rfl ?_
              refine tq_more (bc := (2 * n + bc)) (bs := (12 * n + bs)) (by omega) (by omega) ?_
              cases (Option.some.inj hf)
              exact HJ24
            · have hf := tq_ifp hf cc
              refine tq_aload_n (M := mL_finds) (pc := 48) dL_finds_48 rfl ?_
              refine tq_iload_n (M := mL_finds) (pc := 49) dL_finds_49 rfl ?_
              refine tq_iload_n (M := mL_finds) (pc := 50) dL_finds_50 rfl ?_
              obtain ⟨v6, ev6, hf⟩ := tq_be hf
              refine tq_calSW (M := mL_finds) (pc := 51) (S := []) tk_w_L_ordered.1 tk_w_L_ordered.2.1 tk_w_L_ordered.2.2.1 tk_w_L_ordered.2.2.2.1 tk_w_L_ordered.2.2.2.2 tk_s_L_ordered tk_RL_239 dL_finds_51 [.ref i0, .int y2, .int v3.1] rfl (Nat.le_of_ble_eq_true rfl) (d1 := d - 1) (b1 := 1) (s1 := 6) (bc' := (2 * n + bc)) (bs' := (12 * n + bs)) (Q1 := fun r h9 => r = .inl (some (.int v6.1)) ∧ v6.2 = h9) (by omega) (by omega) (by omega) (w_L_ordered (bc := 1) (bs := 6) (by omega) ev6 (fun _ _ _ => ⟨by decide, by decide⟩) (fun _ _ q => q)) (fun E h9 q => nomatch (show (Sum.inr E : tq_R) = Sum.inl _ from q.1)) (fun r9 h9 q => ?_)
              obtain ⟨q1, rfl⟩ := q
              cases (show (Sum.inl r9 : tq_R) = Sum.inl (some (.int v6.1)) from q1)
              refine tq_ldc (M := mL_finds) (pc := 54) dL_finds_54 tk_RL_15 ?_
              refine tq_icmp_ne (M := mL_finds) (pc := 56) (tgt := 97) dL_finds_56 (by decide) (fun cc => ?_) (fun cc => ?_)
              · have hf := tq_ifn hf cc
                refine tq_iconst (M := mL_finds) (pc := 97) dL_finds_97 tk_ki_0 ?_
                refine tq_pick (L2 := [(0, .ref i0), (2, .int y2), (3, .int v3.1)]) [1, 3, 0] rfl ?_
                cases (Option.some.inj hf)
                exact HJ24
              · have hf := tq_ifp hf cc
                refine tq_aload_n (M := mL_finds) (pc := 59) dL_finds_59 rfl ?_
                refine tq_iload_n (M := mL_finds) (pc := 60) dL_finds_60 rfl ?_
                obtain ⟨v7, ev7, hf⟩ := tq_be hf
                refine tq_calSW (M := mL_finds) (pc := 61) (S := []) tk_w_L_groups.1 tk_w_L_groups.2.1 tk_w_L_groups.2.2.1 tk_w_L_groups.2.2.2.1 tk_w_L_groups.2.2.2.2 tk_s_L_groups tk_RL_241 dL_finds_61 [.ref i0, .int y2] rfl (Nat.le_of_ble_eq_true rfl) (d1 := d - 1) (b1 := 0) (s1 := 0) (bc' := (2 * n + bc)) (bs' := (12 * n + bs)) (Q1 := fun r h9 => r = .inl (some (.int v7.1)) ∧ v7.2 = h9) (by omega) (by omega) (by omega) (w_L_groups (bc := 0) (bs := 0) (by omega) (n_L_groups ev7).1 (n_L_groups ev7).2 (fun _ _ q => q)) (fun E h9 q => nomatch (show (Sum.inr E : tq_R) = Sum.inl _ from q.1)) (fun r9 h9 q => ?_)
                obtain ⟨q1, rfl⟩ := q
                cases (show (Sum.inl r9 : tq_R) = Sum.inl (some (.int v7.1)) from q1)
                refine tq_iload_n (M := mL_finds) (pc := 64) dL_finds_64 rfl ?_
                refine tq_icmp_gt (M := mL_finds) (pc := 65) (tgt := 97) dL_finds_65 (by decide) (fun cc => ?_) (fun cc => ?_)
                · have hf := tq_ifp hf cc
                  refine tq_iconst (M := mL_finds) (pc := 97) dL_finds_97 tk_ki_0 ?_
                  refine tq_pick (L2 := [(0, .ref i0), (2, .int y2), (3, .int v3.1)]) [1, 3, 0] rfl ?_
                  cases (Option.some.inj hf)
                  exact HJ24
                · have hf := tq_ifn hf cc
                  refine tq_iload_n (M := mL_finds) (pc := 68) dL_finds_68 rfl ?_
                  obtain ⟨p8, ep8, hf⟩ := tq_le hf
                  have HJ69 : tq_W l mL_finds d (2 * n + bc) (12 * n + bs) Q 77 [(0, .ref i0), (2, .int y2), (3, .int v3.1)] [.int p8] v7.2 := by
                    refine tq_aload_n (M := mL_finds) (pc := 77) dL_finds_77 rfl ?_
                    refine tq_iload_n (M := mL_finds) (pc := 78) dL_finds_78 rfl ?_
                    obtain ⟨v9, ev9, hf⟩ := tq_be hf
                    refine tq_calSW (M := mL_finds) (pc := 79) (S := [.int p8]) tk_w_L_groups.1 tk_w_L_groups.2.1 tk_w_L_groups.2.2.1 tk_w_L_groups.2.2.2.1 tk_w_L_groups.2.2.2.2 tk_s_L_groups tk_RL_241 dL_finds_79 [.ref i0, .int y2] rfl (Nat.le_of_ble_eq_true rfl) (d1 := d - 1) (b1 := 0) (s1 := 0) (bc' := (2 * n + bc)) (bs' := (12 * n + bs)) (Q1 := fun r h9 => r = .inl (some (.int v9.1)) ∧ v9.2 = h9) (by omega) (by omega) (by omega) (w_L_groups (bc := 0) (bs := 0) (by omega) (n_L_groups ev9).1 (n_L_groups ev9).2 (fun _ _ q => q)) (fun E h9 q => nomatch (show (Sum.inr E : tq_R) = Sum.inl _ from q.1)) (fun r9 h9 q => ?_)
                    obtain ⟨q1, rfl⟩ := q
                    cases (show (Sum.inl r9 : tq_R) = Sum.inl (some (.int v9.1)) from q1)
                    obtain ⟨p10, ep10, hf⟩ := tq_le hf
                    have HJ82 : tq_W l mL_finds d (2 * n + bc) (12 * n + bs) Q 90 [(0, .ref i0), (2, .int y2), (3, .int v3.1)] [.int p10, .int p8] v9.2 := by
                      refine tq_icmp_ne (M := mL_finds) (pc := 90) (tgt := 97) dL_finds_90 (by decide) (fun cc => ?_) (fun cc => ?_)
                      · have hf := tq_ifn hf cc
                        refine tq_iconst (M := mL_finds) (pc := 97) dL_finds_97 tk_ki_0 ?_
                        cases (Option.some.inj hf)
                        exact HJ24
                      · have hf := tq_ifp hf cc
                        refine tq_iconst (M := mL_finds) (pc := 93) dL_finds_93 tk_ki_1 ?_
                        refine tq_goto (M := mL_finds) (pc := 94) (tgt := 98) dL_finds_94 (by decide) ?_
                        cases (Option.some.inj hf)
                        exact HJ24
                    refine tq_if_ne (M := mL_finds) (pc := 82) (tgt := 89) dL_finds_82 (by decide) (fun cc => ?_) (fun cc => ?_)
                    · have hf := tq_ifn ep10.symm cc
                      refine tq_iconst (M := mL_finds) (pc := 89) dL_finds_89 tk_ki_0 ?_
                      cases hf
                      exact HJ82
                    · have hf := tq_ifp ep10.symm cc
                      refine tq_iconst (M := mL_finds) (pc := 85) dL_finds_85 tk_ki_1 ?_
                      refine tq_goto (M := mL_finds) (pc := 86) (tgt := 90) dL_finds_86 (by decide) ?_
                      cases hf
                      exact HJ82
                  refine tq_if_ne (M := mL_finds) (pc := 69) (tgt := 76) dL_finds_69 (by decide) (fun cc => ?_) (fun cc => ?_)
                  · have hf := tq_ifn ep8.symm cc
                    refine tq_iconst (M := mL_finds) (pc := 76) dL_finds_76 tk_ki_0 ?_
                    refine tq_pick (L2 := [(0, .ref i0), (2, .int y2), (3, .int v3.1)]) [1, 3, 0] rfl ?_
                    cases hf
                    exact HJ69
                  · have hf := tq_ifp ep8.symm cc
                    refine tq_iconst (M := mL_finds) (pc := 72) dL_finds_72 tk_ki_1 ?_
                    refine tq_goto (M := mL_finds) (pc := 73) (tgt := 77) dL_finds_73 (by decide) ?_
                    refine tq_pick (L2 := [(0, .ref i0), (2, .int y2), (3, .int v3.1)]) [1, 3, 0] rfl ?_
                    cases hf
                    exact HJ69
set_option maxHeartbeats 4000000 in
set_option maxRecDepth 20000 in
theorem w_L_finds {l : Launch} {d : Nat} (hd9 : 10 ≤ d) {a0 : Nat} {h : tq_H} {o : Int32 × tq_H} {Q : tq_R → tq_H → Prop} (hf : f_L_finds a0 h = some o) (hQ : ∀ r h9, r = .inl (some (.int o.1)) ∧ o.2 = h9 → Q r h9) : tq_C l yL_finds cL_finds 8 (some .boolean) d 42 252 [.ref a0] h Q := by
  refine tq_body (y := yL_finds) false (by decide +kernel) (fun z => by cases z) (Nat.le_of_ble_eq_true rfl) ?_
  show tq_W l mL_finds d 42 252 Q 0 [(0, .ref a0)] [] h
  refine tq_iconst (M := mL_finds) (pc := 0) dL_finds_0 tk_ki_1 ?_
  refine tq_istore_n (M := mL_finds) (pc := 1) rfl dL_finds_1 (L2 := [(1, .int (1 : Int32)), (0, .ref a0)]) (by decide) rfl ?_
  refine tq_iconst (M := mL_finds) (pc := 2) dL_finds_2 tk_ki_0 ?_
  refine tq_istore_n (M := mL_finds) (pc := 3) rfl dL_finds_3 (L2 := [(2, .int (0 : Int32)), (1, .int (1 : Int32)), (0, .ref a0)]) (by decide) rfl ?_
  obtain ⟨o28, eo28, hf⟩ := tq_be hf
  refine tq_pick (L2 := [(0, .ref a0), (1, .int (1 : Int32)), (2, .int (0 : Int32))]) [2, 1, 0] rfl ?_
  refine tq_more (bc := 2 * 21 + 0) (bs := 12 * 21 + 0) (by omega) (by omega) ?_
  refine l_L_finds_4 (bc := 0) (bs := 0) (by omega) a0 _ (1 : Int32) (0 : Int32) h _ eo28 ?_
  refine tq_iload_n (M := mL_finds) (pc := 235) dL_finds_235 rfl ?_
  obtain ⟨z29, ez29, hf⟩ := tq_be hf
  refine tq_zretB (M := mL_finds) (pc := 236) dL_finds_236 rfl ez29 ?_
  cases (Option.some.inj hf)
  exact hQ _ _ ⟨rfl, rfl⟩
abbrev mL_alike : tq_M := (RL, cL_alike, 5, (some .boolean), false, [], none)
def f_L_alike_b87 (i0 : Nat) (i1 : Nat) (i2 : Int32) (s : Int32 × Int32 × tq_H) : Option ((Int32 × Int32 × tq_H) ⊕ (Int32 × tq_H)) := match s with
  | (y3, y4, hh) =>
    (tq_is hh i0 10).bind fun _ =>
    (f_X10_made i0 hh).bind fun v24 =>
    if y4 ≥ v24 then
      some (.inr (y3, hh))
    else
      if y3 = 0 then
        some (.inr (y3, hh))
      else
        (f_L_kind i0 y4 hh).bind fun v26 =>
        (f_L_kind i1 y4 v26.2).bind fun v27 =>
        (if v26.1 = v27.1 then
          (f_L_name i0 y4 v27.2).bind fun v28 =>
          (f_L_name i1 y4 v28.2).bind fun v29 =>
          if v28.1 = v29.1 then
            (f_L_value i0 y4 v29.2).bind fun v30 =>
            (f_L_value i1 y4 v30.2).bind fun v31 =>
            if v30.1 = v31.1 then
              (f_L_parent i0 y4 v31.2).bind fun v32 =>
              (f_L_parent i1 y4 v32.2).bind fun v33 =>
              if v32.1 = v33.1 then
                (f_L_space i0 y4 v33.2).bind fun v34 =>
                (f_L_space i1 y4 v34.2).bind fun v35 =>
                if v34.1 = v35.1 then
                  (f_L_number i0 y4 v35.2).bind fun v36 =>
                  (f_L_number i1 y4 v36.2).bind fun v37 =>
                  if v36.1 = v37.1 then
                    (f_L_types i0 y4 v37.2).bind fun v38 =>
                    (f_L_types i1 y4 v38.2).bind fun v39 =>
                    if v38.1 = v39.1 then
                      some ((1 : Int32), v39.2)
                    else
                      some ((0 : Int32), v39.2)
                  else
                    some ((0 : Int32), v37.2)
                else
                  some ((0 : Int32), v35.2)
              else
                some ((0 : Int32), v33.2)
            else
              some ((0 : Int32), v31.2)
          else
            some ((0 : Int32), v29.2)
        else
          some ((0 : Int32), v27.2)).bind fun p40 =>
        tq_let (y4 + (1 : Int32)) fun x41 =>
        some (.inl (p40.1, x41, p40.2))
def f_L_alike_b220 (i0 : Nat) (i1 : Nat) (i2 : Int32) (s : Int32 × Int32 × tq_H) : Option ((Int32 × Int32 × tq_H) ⊕ (Int32 × tq_H)) := match s with
  | (y3, y4, hh) =>
    (tq_is hh i0 10).bind fun _ =>
    (f_X10_paths i0 hh).bind fun v43 =>
    if y4 ≥ v43 then
      some (.inr (y3, hh))
    else
      if y3 = 0 then
        some (.inr (y3, hh))
      else
        (f_L_found i0 y4 (0 : Int32) hh).bind fun v45 =>
        (f_L_found i1 y4 (0 : Int32) v45.2).bind fun v46 =>
        (if v45.1 = v46.1 then
          (f_L_plan i0 y4 v46.2).bind fun v47 =>
          (f_L_plan i1 y4 v47.2).bind fun v48 =>
          if v47.1 = v48.1 then
            (f_L_infer i0 y4 v48.2).bind fun v49 =>
            (f_L_infer i1 y4 v49.2).bind fun v50 =>
            if v49.1 = v50.1 then
              (f_L_groups i0 y4 v50.2).bind fun v51 =>
              (f_L_groups i1 y4 v51.2).bind fun v52 =>
              if v51.1 = v52.1 then
                some ((1 : Int32), v52.2)
              else
                some ((0 : Int32), v52.2)
            else
              some ((0 : Int32), v50.2)
          else
            some ((0 : Int32), v48.2)
        else
          some ((0 : Int32), v46.2)).bind fun p53 =>
        tq_let (y4 + (1 : Int32)) fun x54 =>
        some (.inl (p53.1, x54, p53.2))
def f_L_alike (a0 : Nat) (a1 : Nat) (a2 : Int32) (h : tq_H) : Option (Int32 × tq_H) :=
  (tq_is h a0 10).bind fun _ =>
  (f_X10_made a0 h).bind fun v1 =>
  (tq_is h a1 10).bind fun _ =>
  (f_X10_made a1 h).bind fun v3 =>
  (if v1 = v3 then
    (tq_is h a0 10).bind fun _ =>
    (f_X10_nodes a0 h).bind fun v5 =>
    (tq_is h a1 10).bind fun _ =>
    (f_X10_nodes a1 h).bind fun v7 =>
    if v5 = v7 then
      (tq_is h a0 10).bind fun _ =>
      (f_X10_numbered a0 h).bind fun v9 =>
      (tq_is h a1 10).bind fun _ =>
      (f_X10_numbered a1 h).bind fun v11 =>
      if v9 = v11 then
        (tq_is h a0 10).bind fun _ =>
        (f_X10_paths a0 h).bind fun v13 =>
        (tq_is h a1 10).bind fun _ =>
        (f_X10_paths a1 h).bind fun v15 =>
        if v13 = v15 then
          (tq_is h a0 10).bind fun _ =>
          (f_X10_isValid a0 h).bind fun v17 =>
          (tq_is v17.2 a1 10).bind fun _ =>
          (f_X10_isValid a1 v17.2).bind fun v19 =>
          if v17.1 = v19.1 then
            (f_L_ranked a0 (a2 - a2 / (5 : Int32) * (5 : Int32)) (a2 - a2 / (2 : Int32) * (2 : Int32)) v19.2).bind fun v21 =>
            (f_L_ranked a1 (a2 - a2 / (5 : Int32) * (5 : Int32)) (a2 - a2 / (2 : Int32) * (2 : Int32)) v21.2).bind fun v22 =>
            if v21.1 = v22.1 then
              some ((1 : Int32), v22.2)
            else
              some ((0 : Int32), v22.2)
          else
            some ((0 : Int32), v19.2)
        else
          some ((0 : Int32), h)
      else
        some ((0 : Int32), h)
    else
      some ((0 : Int32), h)
  else
    some ((0 : Int32), h)).bind fun p23 =>
  (tq_loop (f_L_alike_b87 a0 a1 a2) 61 (p23.1, (0 : Int32), p23.2)).bind fun o42 =>
  (tq_loop (f_L_alike_b220 a0 a1 a2) 21 (o42.1, (0 : Int32), o42.2)).bind fun o55 =>
  (if o55.1 = 0 then
    some ((0 : Int32), o55.2)
  else
    (f_L_viewed a0 (a2 - a2 / (5 : Int32) * (5 : Int32)) (0 : Int32) o55.2).bind fun v56 =>
    (f_L_viewed a1 (a2 - a2 / (5 : Int32) * (5 : Int32)) (0 : Int32) v56.2).bind fun v57 =>
    if v56.1 = v57.1 then
      (f_L_changed a0 (a2 - a2 / (5 : Int32) * (5 : Int32)) v57.2).bind fun v58 =>
      (f_L_changed a1 (a2 - a2 / (5 : Int32) * (5 : Int32)) v58.2).bind fun v59 =>
      if v58.1 = v59.1 then
        some ((1 : Int32), v59.2)
      else
        some ((0 : Int32), v59.2)
    else
      some ((0 : Int32), v57.2)).bind fun p60 =>
  (tq_bz p60.1).bind fun z61 =>
  some (z61, p60.2)
set_option maxHeartbeats 4000000 in
theorem l_L_alike_87 {l : Launch} {d : Nat} {Q : tq_R → tq_H → Prop} {bc bs : Nat} (hd9 : 10 ≤ d) (i0 : Nat) (i1 : Nat) (i2 : Int32) : ∀ (n : Nat) (y3 : Int32) (y4 : Int32) (hh : tq_H) (o : Int32 × tq_H), tq_loop (f_L_alike_b87 i0 i1 i2) n (y3, y4, hh) = some o → tq_W l mL_alike d bc bs Q 217 [(0, .ref i0), (1, .ref i1), (2, .int i2), (3, .int o.1)] [] o.2 → tq_W l mL_alike d (14 * n + bc) (84 * n + bs) Q 87 [(0, .ref i0), (1, .ref i1), (2, .int i2), (3, .int y3), (4, .int y4)] [] hh := by
  intro n
  induction n with
  | zero => intro y3 y4 hh o hl; cases hl
  | succ n ih =>
    intro y3 y4 hh o hl hk
    obtain ⟨oo, hf, ho⟩ := tq_loop_s hl
    refine tq_more (bc := 14 + (14 * n + bc)) (bs := 84 + (84 * n + bs)) (by omega) (by omega) ?_
    refine tq_iload (M := mL_alike) (pc := 87) dL_alike_87 rfl ?_
    refine tq_aload_n (M := mL_alike) (pc := 89) dL_alike_89 rfl ?_
    obtain ⟨⟨⟩, eu25, hf⟩ := tq_be hf
    obtain ⟨fsu25, eu25⟩ := tq_is_s eu25
    obtain ⟨v24, ev24, hf⟩ := tq_be hf
    refine tq_calV (M := mL_alike) (pc := 90) (S := [.int y4]) tk_y_X10_made tk_v_X10_made tk_RL_172 dL_alike_90 [] rfl (S0 := _) rfl eu25 rfl (Nat.le_of_ble_eq_true rfl) (d1 := d - 1) (b1 := 0) (s1 := 0) (bc' := (14 + (14 * n + bc))) (bs' := (84 + (84 * n + bs))) (Q1 := fun r h9 => r = .inl (some (.int v24)) ∧ hh = h9) (by omega) (by omega) (by omega) (w_X10_made (by omega) ev24 (fun _ _ q => q)) (fun E h9 q => nomatch (show (Sum.inr E : tq_R) = Sum.inl _ from q.1)) (fun r9 h9 q => ?_)
    obtain ⟨q1, rfl⟩ := q
    cases (show (Sum.inl r9 : tq_R) = Sum.inl (some (.int v24)) from q1)
    refine tq_icmp_ge (M := mL_alike) (pc := 93) (tgt := 217) dL_alike_93 (by decide) (fun cc => ?_) (fun cc => ?_)
    · have hf := tq_ifp hf cc
      refine tq_pick (L2 := [(0, .ref i0), (1, .ref i1), (2, .int i2), (3, .int y3)]) [0, 1, 2, 3] rfl ?_
      refine tq_more (bc := bc) (bs := bs) (by omega) (by omega) ?_
      cases (Option.some.inj hf)
      cases (tq_lx ho)
      exact hk
    · have hf := tq_ifn hf cc
      refine tq_iload_n (M := mL_alike) (pc := 96) dL_alike_96 rfl ?_
      refine tq_if_eq (M := mL_alike) (pc := 97) (tgt := 217) dL_alike_97 (by decide) (fun cc => ?_) (fun cc => ?_)
      · have hf := tq_ifp hf cc
        refine tq_pick (L2 := [(0, .ref i0), (1, .ref i1), (2, .int i2), (3, .int y3)]) [0, 1, 2, 3] rfl ?_
        refine tq_more (bc := bc) (bs := bs) (by omega) (by omega) ?_
        cases (Option.some.inj hf)
        cases (tq_lx ho)
        exact hk
      · have hf := tq_ifn hf cc
        refine tq_aload_n (M := mL_alike) (pc := 100) dL_alike_100 rfl ?_
        refine tq_iload (M := mL_alike) (pc := 101) dL_alike_101 rfl ?_
        obtain ⟨v26, ev26, hf⟩ := tq_be hf
        refine tq_calSW (M := mL_alike) (pc := 103) (S := []) tk_w_L_kind.1 tk_w_L_kind.2.1 tk_w_L_kind.2.2.1 tk_w_L_kind.2.2.2.1 tk_w_L_kind.2.2.2.2 tk_s_L_kind tk_RL_202 dL_alike_103 [.ref i0, .int y4] rfl (Nat.le_of_ble_eq_true rfl) (d1 := d - 1) (b1 := 1) (s1 := 6) (bc' := (13 + (14 * n + bc))) (bs' := (78 + (84 * n + bs))) (Q1 := fun r h9 => r = .inl (some (.int v26.1)) ∧ v26.2 = h9) (by omega) (by omega) (by omega) (w_L_kind (bc := 1) (bs := 6) (by omega) ev26 (fun _ _ _ => ⟨by decide, by decide⟩) (fun _ _ q => q)) (fun E h9 q => nomatch (show (Sum.inr E : tq_R) = Sum.inl _ from q.1)) (fun r9 h9 q => ?_)
        obtain ⟨q1, rfl⟩ := q
        cases (show (Sum.inl r9 : tq_R) = Sum.inl (some (.int v26.1)) from q1)
        refine tq_aload_n (M := mL_alike) (pc := 106) dL_alike_106 rfl ?_
        refine tq_iload (M := mL_alike) (pc := 107) dL_alike_107 rfl ?_
        obtain ⟨v27, ev27, hf⟩ := tq_be hf
        refine tq_calSW (M := mL_alike) (pc := 109) (S := [.int v26.1]) tk_w_L_kind.1 tk_w_L_kind.2.1 tk_w_L_kind.2.2.1 tk_w_L_kind.2.2.2.1 tk_w_L_kind.2.2.2.2 tk_s_L_kind tk_RL_202 dL_alike_109 [.ref i1, .int y4] rfl (Nat.le_of_ble_eq_true rfl) (d1 := d - 1) (b1 := 1) (s1 := 6) (bc' := (12 + (14 * n + bc))) (bs' := (72 + (84 * n + bs))) (Q1 := fun r h9 => r = .inl (some (.int v27.1)) ∧ v27.2 = h9) (by omega) (by omega) (by omega) (w_L_kind (bc := 1) (bs := 6) (by omega) ev27 (fun _ _ _ => ⟨by decide, by decide⟩) (fun _ _ q => q)) (fun E h9 q => nomatch (show (Sum.inr E : tq_R) = Sum.inl _ from q.1)) (fun r9 h9 q => ?_)
        obtain ⟨q1, rfl⟩ := q
        cases (show (Sum.inl r9 : tq_R) = Sum.inl (some (.int v27.1)) from q1)
        obtain ⟨p40, ep40, hf⟩ := tq_be hf
        have HJ112 : tq_W l mL_alike d (14 * n + bc) (84 * n + bs) Q 210 [(0, .ref i0), (1, .ref i1), (2, .int i2), (4, .int y4)] [.int p40.1] p40.2 := by
          refine tq_istore_n (M := mL_alike) (pc := 210) rfl dL_alike_210 (L2 := [(3, .int p40.1), (0, .ref i0), (1, .ref i1), (2, .int i2), (4, .int y4)]) (by decide) rfl ?_
          obtain ⟨x41, ex41, hf⟩ := tq_le hf
          refine tq_iinc (M := mL_alike) (pc := 211) (v := x41) (L2 := [(4, .int x41), (3, .int p40.1), (0, .ref i0), (1, .ref i1), (2, .int i2)]) dL_alike_211 rfl (by rw [ex41, tk_ki_1]) (by decide) rfl ?_
          refine tq_goto (M := mL_alike) (pc := 214) (tgt := 87) dL_alike_214 (by decide) ?_
          refine tq_pick (L2 := [(0, .ref i0), (1, .ref i1), (2, .int i2), (3, .int p40.1), (4, .int x41)]) [2, 3, 4, 1, 0] rfl ?_
          refine tq_more (bc := 14 * n + bc) (bs := 84 * n + bs) (by omega) (by omega) ?_
          cases (Option.some.inj hf)
          exact ih _ _ _ o (tq_lc ho) hk
        refine tq_icmp_ne (M := mL_alike) (pc := 112) (tgt := 209) dL_alike_112 (by decide) (fun cc => ?_) (fun cc => ?_)
        · have hf := tq_ifn ep40 cc
          refine tq_iconst (M := mL_alike) (pc := 209) dL_alike_209 tk_ki_0 ?_
          refine tq_pick (L2 := [(0, .ref i0), (1, .ref i1), (2, .int i2), (4, .int y4)]) [0, 1, 2, 4] rfl ?_
          refine tq_more (bc := (14 * n + bc)) (bs := (84 * n + bs)) (by omega) (by omega) ?_
          cases (Option.some.inj hf)
          exact HJ112
        · have hf := tq_ifp ep40 cc
          refine tq_aload_n (M := mL_alike) (pc := 115) dL_alike_115 rfl ?_
          refine tq_iload (M := mL_alike) (pc := 116) dL_alike_116 rfl ?_
          obtain ⟨v28, ev28, hf⟩ := tq_be hf
          refine tq_calSW (M := mL_alike) (pc := 118) (S := []) tk_w_L_name.1 tk_w_L_name.2.1 tk_w_L_name.2.2.1 tk_w_L_name.2.2.2.1 tk_w_L_name.2.2.2.2 tk_s_L_name tk_RL_204 dL_alike_118 [.ref i0, .int y4] rfl (Nat.le_of_ble_eq_true rfl) (d1 := d - 1) (b1 := 1) (s1 := 6) (bc' := (11 + (14 * n + bc))) (bs' := (66 + (84 * n + bs))) (Q1 := fun r h9 => r = .inl (some (.int v28.1)) ∧ v28.2 = h9) (by omega) (by omega) (by omega) (w_L_name (bc := 1) (bs := 6) (by omega) ev28 (fun _ _ _ => ⟨by decide, by decide⟩) (fun _ _ q => q)) (fun E h9 q => nomatch (show (Sum.inr E : tq_R) = Sum.inl _ from q.1)) (fun r9 h9 q => ?_)
          obtain ⟨q1, rfl⟩ := q
          cases (show (Sum.inl r9 : tq_R) = Sum.inl (some (.int v28.1)) from q1)
          refine tq_aload_n (M := mL_alike) (pc := 121) dL_alike_121 rfl ?_
          refine tq_iload (M := mL_alike) (pc := 122) dL_alike_122 rfl ?_
          obtain ⟨v29, ev29, hf⟩ := tq_be hf
          refine tq_calSW (M := mL_alike) (pc := 124) (S := [.int v28.1]) tk_w_L_name.1 tk_w_L_name.2.1 tk_w_L_name.2.2.1 tk_w_L_name.2.2.2.1 tk_w_L_name.2.2.2.2 tk_s_L_name tk_RL_204 dL_alike_124 [.ref i1, .int y4] rfl (Nat.le_of_ble_eq_true rfl) (d1 := d - 1) (b1 := 1) (s1 := 6) (bc' := (10 + (14 * n + bc))) (bs' := (60 + (84 * n + bs))) (Q1 := fun r h9 => r = .inl (some (.int v29.1)) ∧ v29.2 = h9) (by omega) (by omega) (by omega) (w_L_name (bc := 1) (bs := 6) (by omega) ev29 (fun _ _ _ => ⟨by decide, by decide⟩) (fun _ _ q => q)) (fun E h9 q => nomatch (show (Sum.inr E : tq_R) = Sum.inl _ from q.1)) (fun r9 h9 q => ?_)
          obtain ⟨q1, rfl⟩ := q
          cases (show (Sum.inl r9 : tq_R) = Sum.inl (some (.int v29.1)) from q1)
          refine tq_icmp_ne (M := mL_alike) (pc := 127) (tgt := 209) dL_alike_127 (by decide) (fun cc => ?_) (fun cc => ?_)
          · have hf := tq_ifn hf cc
            refine tq_iconst (M := mL_alike) (pc := 209) dL_alike_209 tk_ki_0 ?_
            refine tq_pick (L2 := [(0, .ref i0), (1, .ref i1), (2, .int i2), (4, .int y4)]) [0, 1, 2, 4] rfl ?_
            refine tq_more (bc := (14 * n + bc)) (bs := (84 * n + bs)) (by omega) (by omega) ?_
            cases (Option.some.inj hf)
            exact HJ112
          · have hf := tq_ifp hf cc
            refine tq_aload_n (M := mL_alike) (pc := 130) dL_alike_130 rfl ?_
            refine tq_iload (M := mL_alike) (pc := 131) dL_alike_131 rfl ?_
            obtain ⟨v30, ev30, hf⟩ := tq_be hf
            refine tq_calSW (M := mL_alike) (pc := 133) (S := []) tk_w_L_value.1 tk_w_L_value.2.1 tk_w_L_value.2.2.1 tk_w_L_value.2.2.2.1 tk_w_L_value.2.2.2.2 tk_s_L_value tk_RL_206 dL_alike_133 [.ref i0, .int y4] rfl (Nat.le_of_ble_eq_true rfl) (d1 := d - 1) (b1 := 1) (s1 := 6) (bc' := (9 + (14 * n + bc))) (bs' := (54 + (84 * n + bs))) (Q1 := fun r h9 => r = .inl (some (.int v30.1)) ∧ v30.2 = h9) (by omega) (by omega) (by omega) (w_L_value (bc := 1) (bs := 6) (by omega) ev30 (fun _ _ _ => ⟨by decide, by decide⟩) (fun _ _ q => q)) (fun E h9 q => nomatch (show (Sum.inr E : tq_R) = Sum.inl _ from q.1)) (fun r9 h9 q => ?_)
            obtain ⟨q1, rfl⟩ := q
            cases (show (Sum.inl r9 : tq_R) = Sum.inl (some (.int v30.1)) from q1)
            refine tq_aload_n (M := mL_alike) (pc := 136) dL_alike_136 rfl ?_
            refine tq_iload (M := mL_alike) (pc := 137) dL_alike_137 rfl ?_
            obtain ⟨v31, ev31, hf⟩ := tq_be hf
            refine tq_calSW (M := mL_alike) (pc := 139) (S := [.int v30.1]) tk_w_L_value.1 tk_w_L_value.2.1 tk_w_L_value.2.2.1 tk_w_L_value.2.2.2.1 tk_w_L_value.2.2.2.2 tk_s_L_value tk_RL_206 dL_alike_139 [.ref i1, .int y4] rfl (Nat.le_of_ble_eq_true rfl) (d1 := d - 1) (b1 := 1) (s1 := 6) (bc' := (8 + (14 * n + bc))) (bs' := (48 + (84 * n + bs))) (Q1 := fun r h9 => r = .inl (some (.int v31.1)) ∧ v31.2 = h9) (by omega) (by omega) (by omega) (w_L_value (bc := 1) (bs := 6) (by omega) ev31 (fun _ _ _ => ⟨by decide, by decide⟩) (fun _ _ q => q)) (fun E h9 q => nomatch (show (Sum.inr E : tq_R) = Sum.inl _ from q.1)) (fun r9 h9 q => ?_)
            obtain ⟨q1, rfl⟩ := q
            cases (show (Sum.inl r9 : tq_R) = Sum.inl (some (.int v31.1)) from q1)
            refine tq_icmp_ne (M := mL_alike) (pc := 142) (tgt := 209) dL_alike_142 (by decide) (fun cc => ?_) (fun cc => ?_)
            · have hf := tq_ifn hf cc
              refine tq_iconst (M := mL_alike) (pc := 209) dL_alike_209 tk_ki_0 ?_
              refine tq_pick (L2 := [(0, .ref i0), (1, .ref i1), (2, .int i2), (4, .int y4)]) [0, 1, 2, 4] rfl ?_
              refine tq_more (bc := (14 * n + bc)) (bs := (84 * n + bs)) (by omega) (by omega) ?_
              cases (Option.some.inj hf)
              exact HJ112
            · have hf := tq_ifp hf cc
              refine tq_aload_n (M := mL_alike) (pc := 145) dL_alike_145 rfl ?_
              refine tq_iload (M := mL_alike) (pc := 146) dL_alike_146 rfl ?_
              obtain ⟨v32, ev32, hf⟩ := tq_be hf
              refine tq_calSW (M := mL_alike) (pc := 148) (S := []) tk_w_L_parent.1 tk_w_L_parent.2.1 tk_w_L_parent.2.2.1 tk_w_L_parent.2.2.2.1 tk_w_L_parent.2.2.2.2 tk_s_L_parent tk_RL_208 dL_alike_148 [.ref i0, .int y4] rfl (Nat.le_of_ble_eq_true rfl) (d1 := d - 1) (b1 := 1) (s1 := 6) (bc' := (7 + (14 * n + bc))) (bs' := (42 + (84 * n + bs))) (Q1 := fun r h9 => r = .inl (some (.int v32.1)) ∧ v32.2 = h9) (by omega) (by omega) (by omega) (w_L_parent (bc := 1) (bs := 6) (by omega) ev32 (fun _ _ _ => ⟨by decide, by decide⟩) (fun _ _ q => q)) (fun E h9 q => nomatch (show (Sum.inr E : tq_R) = Sum.inl _ from q.1)) (fun r9 h9 q => ?_)
              obtain ⟨q1, rfl⟩ := q
              cases (show (Sum.inl r9 : tq_R) = Sum.inl (some (.int v32.1)) from q1)
              refine tq_aload_n (M := mL_alike) (pc := 151) dL_alike_151 rfl ?_
              refine tq_iload (M := mL_alike) (pc := 152) dL_alike_152 rfl ?_
              obtain ⟨v33, ev33, hf⟩ := tq_be hf
              refine tq_calSW (M := mL_alike) (pc := 154) (S := [.int v32.1]) tk_w_L_parent.1 tk_w_L_parent.2.1 tk_w_L_parent.2.2.1 tk_w_L_parent.2.2.2.1 tk_w_L_parent.2.2.2.2 tk_s_L_parent tk_RL_208 dL_alike_154 [.ref i1, .int y4] rfl (Nat.le_of_ble_eq_true rfl) (d1 := d - 1) (b1 := 1) (s1 := 6) (bc' := (6 + (14 * n + bc))) (bs' := (36 + (84 * n + bs))) (Q1 := fun r h9 => r = .inl (some (.int v33.1)) ∧ v33.2 = h9) (by omega) (by omega) (by omega) (w_L_parent (bc := 1) (bs := 6) (by omega) ev33 (fun _ _ _ => ⟨by decide, by decide⟩) (fun _ _ q => q)) (fun E h9 q => nomatch (show (Sum.inr E : tq_R) = Sum.inl _ from q.1)) (fun r9 h9 q => ?_)
              obtain ⟨q1, rfl⟩ := q
              cases (show (Sum.inl r9 : tq_R) = Sum.inl (some (.int v33.1)) from q1)
              refine tq_icmp_ne (M := mL_alike) (pc := 157) (tgt := 209) dL_alike_157 (by decide) (fun cc => ?_) (fun cc => ?_)
              · have hf := tq_ifn hf cc
                refine tq_iconst (M := mL_alike) (pc := 209) dL_alike_209 tk_ki_0 ?_
                refine tq_pick (L2 := [(0, .ref i0), (1, .ref i1), (2, .int i2), (4, .int y4)]) [0, 1, 2, 4] rfl ?_
                refine tq_more (bc := (14 * n + bc)) (bs := (84 * n + bs)) (by omega) (by omega) ?_
                cases (Option.some.inj hf)
                exact HJ112
              · have hf := tq_ifp hf cc
                refine tq_aload_n (M := mL_alike) (pc := 160) dL_alike_160 rfl ?_
                refine tq_iload (M := mL_alike) (pc := 161) dL_alike_161 rfl ?_
                obtain ⟨v34, ev34, hf⟩ := tq_be hf
                refine tq_calSW (M := mL_alike) (pc := 163) (S := []) tk_w_L_space.1 tk_w_L_space.2.1 tk_w_L_space.2.2.1 tk_w_L_space.2.2.2.1 tk_w_L_space.2.2.2.2 tk_s_L_space tk_RL_212 dL_alike_163 [.ref i0, .int y4] rfl (Nat.le_of_ble_eq_true rfl) (d1 := d - 1) (b1 := 1) (s1 := 6) (bc' := (5 + (14 * n + bc))) (bs' := (30 + (84 * n + bs))) (Q1 := fun r h9 => r = .inl (some (.int v34.1)) ∧ v34.2 = h9) (by omega) (by omega) (by omega) (w_L_space (bc := 1) (bs := 6) (by omega) ev34 (fun _ _ _ => ⟨by decide, by decide⟩) (fun _ _ q => q)) (fun E h9 q => nomatch (show (Sum.inr E : tq_R) = Sum.inl _ from q.1)) (fun r9 h9 q => ?_)
                obtain ⟨q1, rfl⟩ := q
                cases (show (Sum.inl r9 : tq_R) = Sum.inl (some (.int v34.1)) from q1)
                refine tq_aload_n (M := mL_alike) (pc := 166) dL_alike_166 rfl ?_
                refine tq_iload (M := mL_alike) (pc := 167) dL_alike_167 rfl ?_
                obtain ⟨v35, ev35, hf⟩ := tq_be hf
                refine tq_calSW (M := mL_alike) (pc := 169) (S := [.int v34.1]) tk_w_L_space.1 tk_w_L_space.2.1 tk_w_L_space.2.2.1 tk_w_L_space.2.2.2.1 tk_w_L_space.2.2.2.2 tk_s_L_space tk_RL_212 dL_alike_169 [.ref i1, .int y4] rfl (Nat.le_of_ble_eq_true rfl) (d1 := d - 1) (b1 := 1) (s1 := 6) (bc' := (4 + (14 * n + bc))) (bs' := (24 + (84 * n + bs))) (Q1 := fun r h9 => r = .inl (some (.int v35.1)) ∧ v35.2 = h9) (by omega) (by omega) (by omega) (w_L_space (bc := 1) (bs := 6) (by omega) ev35 (fun _ _ _ => ⟨by decide, by decide⟩) (fun _ _ q => q)) (fun E h9 q => nomatch (show (Sum.inr E : tq_R) = Sum.inl _ from q.1)) (fun r9 h9 q => ?_)
                obtain ⟨q1, rfl⟩ := q
                cases (show (Sum.inl r9 : tq_R) = Sum.inl (some (.int v35.1)) from q1)
                refine tq_icmp_ne (M := mL_alike) (pc := 172) (tgt := 209) dL_alike_172 (by decide) (fun cc => ?_) (fun cc => ?_)
                · have hf := tq_ifn hf cc
                  refine tq_iconst (M := mL_alike) (pc := 209) dL_alike_209 tk_ki_0 ?_
                  refine tq_pick (L2 := [(0, .ref i0), (1, .ref i1), (2, .int i2), (4, .int y4)]) [0, 1, 2, 4] rfl ?_
                  refine tq_more (bc := (14 * n + bc)) (bs := (84 * n + bs)) (by omega) (by omega) ?_
                  cases (Option.some.inj hf)
                  exact HJ112
                · have hf := tq_ifp hf cc
                  refine tq_aload_n (M := mL_alike) (pc := 175) dL_alike_175 rfl ?_
                  refine tq_iload (M := mL_alike) (pc := 176) dL_alike_176 rfl ?_
                  obtain ⟨v36, ev36, hf⟩ := tq_be hf
                  refine tq_calSW (M := mL_alike) (pc := 178) (S := []) tk_w_L_number.1 tk_w_L_number.2.1 tk_w_L_number.2.2.1 tk_w_L_number.2.2.2.1 tk_w_L_number.2.2.2.2 tk_s_L_number tk_RL_214 dL_alike_178 [.ref i0, .int y4] rfl (Nat.le_of_ble_eq_true rfl) (d1 := d - 1) (b1 := 1) (s1 := 6) (bc' := (3 + (14 * n + bc))) (bs' := (18 + (84 * n + bs))) (Q1 := fun r h9 => r = .inl (some (.int v36.1)) ∧ v36.2 = h9) (by omega) (by omega) (by omega) (w_L_number (bc := 1) (bs := 6) (by omega) ev36 (fun _ _ _ => ⟨by decide, by decide⟩) (fun _ _ q => q)) (fun E h9 q => nomatch (show (Sum.inr E : tq_R) = Sum.inl _ from q.1)) (fun r9 h9 q => ?_)
                  obtain ⟨q1, rfl⟩ := q
                  cases (show (Sum.inl r9 : tq_R) = Sum.inl (some (.int v36.1)) from q1)
                  refine tq_aload_n (M := mL_alike) (pc := 181) dL_alike_181 rfl ?_
                  refine tq_iload (M := mL_alike) (pc := 182) dL_alike_182 rfl ?_
                  obtain ⟨v37, ev37, hf⟩ := tq_be hf
                  refine tq_calSW (M := mL_alike) (pc := 184) (S := [.int v36.1]) tk_w_L_number.1 tk_w_L_number.2.1 tk_w_L_number.2.2.1 tk_w_L_number.2.2.2.1 tk_w_L_number.2.2.2.2 tk_s_L_number tk_RL_214 dL_alike_184 [.ref i1, .int y4] rfl (Nat.le_of_ble_eq_true rfl) (d1 := d - 1) (b1 := 1) (s1 := 6) (bc' := (2 + (14 * n + bc))) (bs' := (12 + (84 * n + bs))) (Q1 := fun r h9 => r = .inl (some (.int v37.1)) ∧ v37.2 = h9) (by omega) (by omega) (by omega) (w_L_number (bc := 1) (bs := 6) (by omega) ev37 (fun _ _ _ => ⟨by decide, by decide⟩) (fun _ _ q => q)) (fun E h9 q => nomatch (show (Sum.inr E : tq_R) = Sum.inl _ from q.1)) (fun r9 h9 q => ?_)
                  obtain ⟨q1, rfl⟩ := q
                  cases (show (Sum.inl r9 : tq_R) = Sum.inl (some (.int v37.1)) from q1)
                  refine tq_icmp_ne (M := mL_alike) (pc := 187) (tgt := 209) dL_alike_187 (by decide) (fun cc => ?_) (fun cc => ?_)
                  · have hf := tq_ifn hf cc
                    refine tq_iconst (M := mL_alike) (pc := 209) dL_alike_209 tk_ki_0 ?_
                    refine tq_pick (L2 := [(0, .ref i0), (1, .ref i1), (2, .int i2), (4, .int y4)]) [0, 1, 2, 4] rfl ?_
                    refine tq_more (bc := (14 * n + bc)) (bs := (84 * n + bs)) (by omega) (by omega) ?_
                    cases (Option.some.inj hf)
                    exact HJ112
                  · have hf := tq_ifp hf cc
                    refine tq_aload_n (M := mL_alike) (pc := 190) dL_alike_190 rfl ?_
                    refine tq_iload (M := mL_alike) (pc := 191) dL_alike_191 rfl ?_
                    obtain ⟨v38, ev38, hf⟩ := tq_be hf
                    refine tq_calSW (M := mL_alike) (pc := 193) (S := []) tk_w_L_types.1 tk_w_L_types.2.1 tk_w_L_types.2.2.1 tk_w_L_types.2.2.2.1 tk_w_L_types.2.2.2.2 tk_s_L_types tk_RL_219 dL_alike_193 [.ref i0, .int y4] rfl (Nat.le_of_ble_eq_true rfl) (d1 := d - 1) (b1 := 1) (s1 := 6) (bc' := (1 + (14 * n + bc))) (bs' := (6 + (84 * n + bs))) (Q1 := fun r h9 => r = .inl (some (.int v38.1)) ∧ v38.2 = h9) (by omega) (by omega) (by omega) (w_L_types (bc := 1) (bs := 6) (by omega) ev38 (fun _ _ _ => ⟨by decide, by decide⟩) (fun _ _ q => q)) (fun E h9 q => nomatch (show (Sum.inr E : tq_R) = Sum.inl _ from q.1)) (fun r9 h9 q => ?_)
                    obtain ⟨q1, rfl⟩ := q
                    cases (show (Sum.inl r9 : tq_R) = Sum.inl (some (.int v38.1)) from q1)
                    refine tq_aload_n (M := mL_alike) (pc := 196) dL_alike_196 rfl ?_
                    refine tq_iload (M := mL_alike) (pc := 197) dL_alike_197 rfl ?_
                    obtain ⟨v39, ev39, hf⟩ := tq_be hf
                    refine tq_calSW (M := mL_alike) (pc := 199) (S := [.int v38.1]) tk_w_L_types.1 tk_w_L_types.2.1 tk_w_L_types.2.2.1 tk_w_L_types.2.2.2.1 tk_w_L_types.2.2.2.2 tk_s_L_types tk_RL_219 dL_alike_199 [.ref i1, .int y4] rfl (Nat.le_of_ble_eq_true rfl) (d1 := d - 1) (b1 := 1) (s1 := 6) (bc' := (14 * n + bc)) (bs' := (84 * n + bs)) (Q1 := fun r h9 => r = .inl (some (.int v39.1)) ∧ v39.2 = h9) (by omega) (by omega) (by omega) (w_L_types (bc := 1) (bs := 6) (by omega) ev39 (fun _ _ _ => ⟨by decide, by decide⟩) (fun _ _ q => q)) (fun E h9 q => nomatch (show (Sum.inr E : tq_R) = Sum.inl _ from q.1)) (fun r9 h9 q => ?_)
                    obtain ⟨q1, rfl⟩ := q
                    cases (show (Sum.inl r9 : tq_R) = Sum.inl (some (.int v39.1)) from q1)
                    refine tq_icmp_ne (M := mL_alike) (pc := 202) (tgt := 209) dL_alike_202 (by decide) (fun cc => ?_) (fun cc => ?_)
                    · have hf := tq_ifn hf cc
                      refine tq_iconst (M := mL_alike) (pc := 209) dL_alike_209 tk_ki_0 ?_
                      refine tq_pick (L2 := [(0, .ref i0), (1, .ref i1), (2, .int i2), (4, .int y4)]) [0, 1, 2, 4] rfl ?_
                      cases (Option.some.inj hf)
                      exact HJ112
                    · have hf := tq_ifp hf cc
                      refine tq_iconst (M := mL_alike) (pc := 205) dL_alike_205 tk_ki_1 ?_
                      refine tq_goto (M := mL_alike) (pc := 206) (tgt := 210) dL_alike_206 (by decide) ?_
                      refine tq_pick (L2 := [(0, .ref i0), (1, .ref i1), (2, .int i2), (4, .int y4)]) [0, 1, 2, 4] rfl ?_
                      cases (Option.some.inj hf)
                      exact HJ112
set_option maxHeartbeats 4000000 in
theorem l_L_alike_220 {l : Launch} {d : Nat} {Q : tq_R → tq_H → Prop} {bc bs : Nat} (hd9 : 10 ≤ d) (i0 : Nat) (i1 : Nat) (i2 : Int32) : ∀ (n : Nat) (y3 : Int32) (y4 : Int32) (hh : tq_H) (o : Int32 × tq_H), tq_loop (f_L_alike_b220 i0 i1 i2) n (y3, y4, hh) = some o → tq_W l mL_alike d bc bs Q 307 [(0, .ref i0), (1, .ref i1), (2, .int i2), (3, .int o.1)] [] o.2 → tq_W l mL_alike d (8 * n + bc) (48 * n + bs) Q 220 [(0, .ref i0), (1, .ref i1), (2, .int i2), (3, .int y3), (4, .int y4)] [] hh := by
  intro n
  induction n with
  | zero => intro y3 y4 hh o hl; cases hl
  | succ n ih =>
    intro y3 y4 hh o hl hk
    obtain ⟨oo, hf, ho⟩ := tq_loop_s hl
    refine tq_more (bc := 8 + (8 * n + bc)) (bs := 48 + (48 * n + bs)) (by omega) (by omega) ?_
    refine tq_iload (M := mL_alike) (pc := 220) dL_alike_220 rfl ?_
    refine tq_aload_n (M := mL_alike) (pc := 222) dL_alike_222 rfl ?_
    obtain ⟨⟨⟩, eu44, hf⟩ := tq_be hf
    obtain ⟨fsu44, eu44⟩ := tq_is_s eu44
    obtain ⟨v43, ev43, hf⟩ := tq_be hf
    refine tq_calV (M := mL_alike) (pc := 223) (S := [.int y4]) tk_y_X10_paths tk_v_X10_paths tk_RL_175 dL_alike_223 [] rfl (S0 := _) rfl eu44 rfl (Nat.le_of_ble_eq_true rfl) (d1 := d - 1) (b1 := 0) (s1 := 0) (bc' := (8 + (8 * n + bc))) (bs' := (48 + (48 * n + bs))) (Q1 := fun r h9 => r = .inl (some (.int v43)) ∧ hh = h9) (by omega) (by omega) (by omega) (w_X10_paths (by omega) ev43 (fun _ _ q => q)) (fun E h9 q => nomatch (show (Sum.inr E : tq_R) = Sum.inl _ from q.1)) (fun r9 h9 q => ?_)
    obtain ⟨q1, rfl⟩ := q
    cases (show (Sum.inl r9 : tq_R) = Sum.inl (some (.int v43)) from q1)
    refine tq_icmp_ge (M := mL_alike) (pc := 226) (tgt := 307) dL_alike_226 (by decide) (fun cc => ?_) (fun cc => ?_)
    · have hf := tq_ifp hf cc
      refine tq_pick (L2 := [(0, .ref i0), (1, .ref i1), (2, .int i2), (3, .int y3)]) [0, 1, 2, 3] rfl ?_
      refine tq_more (bc := bc) (bs := bs) (by omega) (by omega) ?_
      cases (Option.some.inj hf)
      cases (tq_lx ho)
      exact hk
    · have hf := tq_ifn hf cc
      refine tq_iload_n (M := mL_alike) (pc := 229) dL_alike_229 rfl ?_
      refine tq_if_eq (M := mL_alike) (pc := 230) (tgt := 307) dL_alike_230 (by decide) (fun cc => ?_) (fun cc => ?_)
      · have hf := tq_ifp hf cc
        refine tq_pick (L2 := [(0, .ref i0), (1, .ref i1), (2, .int i2), (3, .int y3)]) [0, 1, 2, 3] rfl ?_
        refine tq_more (bc := bc) (bs := bs) (by omega) (by omega) ?_
        cases (Option.some.inj hf)
        cases (tq_lx ho)
        exact hk
      · have hf := tq_ifn hf cc
        refine tq_aload_n (M := mL_alike) (pc := 233) dL_alike_233 rfl ?_
        refine tq_iload (M := mL_alike) (pc := 234) dL_alike_234 rfl ?_
        refine tq_iconst (M := mL_alike) (pc := 236) dL_alike_236 tk_ki_0 ?_
        obtain ⟨v45, ev45, hf⟩ := tq_be hf
        refine tq_calSW (M := mL_alike) (pc := 237) (S := []) tk_w_L_found.1 tk_w_L_found.2.1 tk_w_L_found.2.2.1 tk_w_L_found.2.2.2.1 tk_w_L_found.2.2.2.2 tk_s_L_found tk_RL_233 dL_alike_237 [.ref i0, .int y4, .int (0 : Int32)] rfl (Nat.le_of_ble_eq_true rfl) (d1 := d - 1) (b1 := 1) (s1 := 6) (bc' := (7 + (8 * n + bc))) (bs' := (42 + (48 * n + bs))) (Q1 := fun r h9 => r = .inl (some (.int v45.1)) ∧ v45.2 = h9) (by omega) (by omega) (by omega) (w_L_found (bc := 1) (bs := 6) (by omega) ev45 (fun _ _ _ => ⟨by decide, by decide⟩) (fun _ _ q => q)) (fun E h9 q => nomatch (show (Sum.inr E : tq_R) = Sum.inl _ from q.1)) (fun r9 h9 q => ?_)
        obtain ⟨q1, rfl⟩ := q
        cases (show (Sum.inl r9 : tq_R) = Sum.inl (some (.int v45.1)) from q1)
        refine tq_aload_n (M := mL_alike) (pc := 240) dL_alike_240 rfl ?_
        refine tq_iload (M := mL_alike) (pc := 241) dL_alike_241 rfl ?_
        refine tq_iconst (M := mL_alike) (pc := 243) dL_alike_243 tk_ki_0 ?_
        obtain ⟨v46, ev46, hf⟩ := tq_be hf
        refine tq_calSW (M := mL_alike) (pc := 244) (S := [.int v45.1]) tk_w_L_found.1 tk_w_L_found.2.1 tk_w_L_found.2.2.1 tk_w_L_found.2.2.2.1 tk_w_L_found.2.2.2.2 tk_s_L_found tk_RL_233 dL_alike_244 [.ref i1, .int y4, .int (0 : Int32)] rfl (Nat.le_of_ble_eq_true rfl) (d1 := d - 1) (b1 := 1) (s1 := 6) (bc' := (6 + (8 * n + bc))) (bs' := (36 + (48 * n + bs))) (Q1 := fun r h9 => r = .inl (some (.int v46.1)) ∧ v46.2 = h9) (by omega) (by omega) (by omega) (w_L_found (bc := 1) (bs := 6) (by omega) ev46 (fun _ _ _ => ⟨by decide, by decide⟩) (fun _ _ q => q)) (fun E h9 q => nomatch (show (Sum.inr E : tq_R) = Sum.inl _ from q.1)) (fun r9 h9 q => ?_)
        obtain ⟨q1, rfl⟩ := q
        cases (show (Sum.inl r9 : tq_R) = Sum.inl (some (.int v46.1)) from q1)
        obtain ⟨p53, ep53, hf⟩ := tq_be hf
        have HJ247 : tq_W l mL_alike d (8 * n + bc) (48 * n + bs) Q 300 [(0, .ref i0), (1, .ref i1), (2, .int i2), (4, .int y4)] [.int p53.1] p53.2 := by
          refine tq_istore_n (M := mL_alike) (pc := 300) rfl dL_alike_300 (L2 := [(3, .int p53.1), (0, .ref i0), (1, .ref i1), (2, .int i2), (4, .int y4)]) (by decide) rfl ?_
          obtain ⟨x54, ex54, hf⟩ := tq_le hf
          refine tq_iinc (M := mL_alike) (pc := 301) (v := x54) (L2 := [(4, .int x54), (3, .int p53.1), (0, .ref i0), (1, .ref i1), (2, .int i2)]) dL_alike_301 rfl (by rw [ex54, tk_ki_1]) (by decide) rfl ?_
          refine tq_goto (M := mL_alike) (pc := 304) (tgt := 220) dL_alike_304 (by decide) ?_
          refine tq_pick (L2 := [(0, .ref i0), (1, .ref i1), (2, .int i2), (3, .int p53.1), (4, .int x54)]) [2, 3, 4, 1, 0] rfl ?_
          refine tq_more (bc := 8 * n + bc) (bs := 48 * n + bs) (by omega) (by omega) ?_
          cases (Option.some.inj hf)
          exact ih _ _ _ o (tq_lc ho) hk
        refine tq_icmp_ne (M := mL_alike) (pc := 247) (tgt := 299) dL_alike_247 (by decide) (fun cc => ?_) (fun cc => ?_)
        · have hf := tq_ifn ep53 cc
          refine tq_iconst (M := mL_alike) (pc := 299) dL_alike_299 tk_ki_0 ?_
          refine tq_pick (L2 := [(0, .ref i0), (1, .ref i1), (2, .int i2), (4, .int y4)]) [0, 1, 2, 4] rfl ?_
          refine tq_more (bc := (8 * n + bc)) (bs := (48 * n + bs)) (by omega) (by omega) ?_
          cases (Option.some.inj hf)
          exact HJ247
        · have hf := tq_ifp ep53 cc
          refine tq_aload_n (M := mL_alike) (pc := 250) dL_alike_250 rfl ?_
          refine tq_iload (M := mL_alike) (pc := 251) dL_alike_251 rfl ?_
          obtain ⟨v47, ev47, hf⟩ := tq_be hf
          refine tq_calSW (M := mL_alike) (pc := 253) (S := []) tk_w_L_plan.1 tk_w_L_plan.2.1 tk_w_L_plan.2.2.1 tk_w_L_plan.2.2.2.1 tk_w_L_plan.2.2.2.2 tk_s_L_plan tk_RL_245 dL_alike_253 [.ref i0, .int y4] rfl (Nat.le_of_ble_eq_true rfl) (d1 := d - 1) (b1 := 1) (s1 := 6) (bc' := (5 + (8 * n + bc))) (bs' := (30 + (48 * n + bs))) (Q1 := fun r h9 => r = .inl (some (.int v47.1)) ∧ v47.2 = h9) (by omega) (by omega) (by omega) (w_L_plan (bc := 1) (bs := 6) (by omega) ev47 (fun _ _ _ => ⟨by decide, by decide⟩) (fun _ _ q => q)) (fun E h9 q => nomatch (show (Sum.inr E : tq_R) = Sum.inl _ from q.1)) (fun r9 h9 q => ?_)
          obtain ⟨q1, rfl⟩ := q
          cases (show (Sum.inl r9 : tq_R) = Sum.inl (some (.int v47.1)) from q1)
          refine tq_aload_n (M := mL_alike) (pc := 256) dL_alike_256 rfl ?_
          refine tq_iload (M := mL_alike) (pc := 257) dL_alike_257 rfl ?_
          obtain ⟨v48, ev48, hf⟩ := tq_be hf
          refine tq_calSW (M := mL_alike) (pc := 259) (S := [.int v47.1]) tk_w_L_plan.1 tk_w_L_plan.2.1 tk_w_L_plan.2.2.1 tk_w_L_plan.2.2.2.1 tk_w_L_plan.2.2.2.2 tk_s_L_plan tk_RL_245 dL_alike_259 [.ref i1, .int y4] rfl (Nat.le_of_ble_eq_true rfl) (d1 := d - 1) (b1 := 1) (s1 := 6) (bc' := (4 + (8 * n + bc))) (bs' := (24 + (48 * n + bs))) (Q1 := fun r h9 => r = .inl (some (.int v48.1)) ∧ v48.2 = h9) (by omega) (by omega) (by omega) (w_L_plan (bc := 1) (bs := 6) (by omega) ev48 (fun _ _ _ => ⟨by decide, by decide⟩) (fun _ _ q => q)) (fun E h9 q => nomatch (show (Sum.inr E : tq_R) = Sum.inl _ from q.1)) (fun r9 h9 q => ?_)
          obtain ⟨q1, rfl⟩ := q
          cases (show (Sum.inl r9 : tq_R) = Sum.inl (some (.int v48.1)) from q1)
          refine tq_icmp_ne (M := mL_alike) (pc := 262) (tgt := 299) dL_alike_262 (by decide) (fun cc => ?_) (fun cc => ?_)
          · have hf := tq_ifn hf cc
            refine tq_iconst (M := mL_alike) (pc := 299) dL_alike_299 tk_ki_0 ?_
            refine tq_pick (L2 := [(0, .ref i0), (1, .ref i1), (2, .int i2), (4, .int y4)]) [0, 1, 2, 4] rfl ?_
            refine tq_more (bc := (8 * n + bc)) (bs := (48 * n + bs)) (by omega) (by omega) ?_
            cases (Option.some.inj hf)
            exact HJ247
          · have hf := tq_ifp hf cc
            refine tq_aload_n (M := mL_alike) (pc := 265) dL_alike_265 rfl ?_
            refine tq_iload (M := mL_alike) (pc := 266) dL_alike_266 rfl ?_
            obtain ⟨v49, ev49, hf⟩ := tq_be hf
            refine tq_calSW (M := mL_alike) (pc := 268) (S := []) tk_w_L_infer.1 tk_w_L_infer.2.1 tk_w_L_infer.2.2.1 tk_w_L_infer.2.2.2.1 tk_w_L_infer.2.2.2.2 tk_s_L_infer tk_RL_243 dL_alike_268 [.ref i0, .int y4] rfl (Nat.le_of_ble_eq_true rfl) (d1 := d - 1) (b1 := 1) (s1 := 6) (bc' := (3 + (8 * n + bc))) (bs' := (18 + (48 * n + bs))) (Q1 := fun r h9 => r = .inl (some (.int v49.1)) ∧ v49.2 = h9) (by omega) (by omega) (by omega) (w_L_infer (bc := 1) (bs := 6) (by omega) ev49 (fun _ _ _ => ⟨by decide, by decide⟩) (fun _ _ q => q)) (fun E h9 q => nomatch (show (Sum.inr E : tq_R) = Sum.inl _ from q.1)) (fun r9 h9 q => ?_)
            obtain ⟨q1, rfl⟩ := q
            cases (show (Sum.inl r9 : tq_R) = Sum.inl (some (.int v49.1)) from q1)
            refine tq_aload_n (M := mL_alike) (pc := 271) dL_alike_271 rfl ?_
            refine tq_iload (M := mL_alike) (pc := 272) dL_alike_272 rfl ?_
            obtain ⟨v50, ev50, hf⟩ := tq_be hf
            refine tq_calSW (M := mL_alike) (pc := 274) (S := [.int v49.1]) tk_w_L_infer.1 tk_w_L_infer.2.1 tk_w_L_infer.2.2.1 tk_w_L_infer.2.2.2.1 tk_w_L_infer.2.2.2.2 tk_s_L_infer tk_RL_243 dL_alike_274 [.ref i1, .int y4] rfl (Nat.le_of_ble_eq_true rfl) (d1 := d - 1) (b1 := 1) (s1 := 6) (bc' := (2 + (8 * n + bc))) (bs' := (12 + (48 * n + bs))) (Q1 := fun r h9 => r = .inl (some (.int v50.1)) ∧ v50.2 = h9) (by omega) (by omega) (by omega) (w_L_infer (bc := 1) (bs := 6) (by omega) ev50 (fun _ _ _ => ⟨by decide, by decide⟩) (fun _ _ q => q)) (fun E h9 q => nomatch (show (Sum.inr E : tq_R) = Sum.inl _ from q.1)) (fun r9 h9 q => ?_)
            obtain ⟨q1, rfl⟩ := q
            cases (show (Sum.inl r9 : tq_R) = Sum.inl (some (.int v50.1)) from q1)
            refine tq_icmp_ne (M := mL_alike) (pc := 277) (tgt := 299) dL_alike_277 (by decide) (fun cc => ?_) (fun cc => ?_)
            · have hf := tq_ifn hf cc
              refine tq_iconst (M := mL_alike) (pc := 299) dL_alike_299 tk_ki_0 ?_
              refine tq_pick (L2 := [(0, .ref i0), (1, .ref i1), (2, .int i2), (4, .int y4)]) [0, 1, 2, 4] rfl ?_
              refine tq_more (bc := (8 * n + bc)) (bs := (48 * n + bs)) (by omega) (by omega) ?_
              cases (Option.some.inj hf)
              exact HJ247
            · have hf := tq_ifp hf cc
              refine tq_aload_n (M := mL_alike) (pc := 280) dL_alike_280 rfl ?_
              refine tq_iload (M := mL_alike) (pc := 281) dL_alike_281 rfl ?_
              obtain ⟨v51, ev51, hf⟩ := tq_be hf
              refine tq_calSW (M := mL_alike) (pc := 283) (S := []) tk_w_L_groups.1 tk_w_L_groups.2.1 tk_w_L_groups.2.2.1 tk_w_L_groups.2.2.2.1 tk_w_L_groups.2.2.2.2 tk_s_L_groups tk_RL_241 dL_alike_283 [.ref i0, .int y4] rfl (Nat.le_of_ble_eq_true rfl) (d1 := d - 1) (b1 := 1) (s1 := 6) (bc' := (1 + (8 * n + bc))) (bs' := (6 + (48 * n + bs))) (Q1 := fun r h9 => r = .inl (some (.int v51.1)) ∧ v51.2 = h9) (by omega) (by omega) (by omega) (w_L_groups (bc := 1) (bs := 6) (by omega) ev51 (fun _ _ _ => ⟨by decide, by decide⟩) (fun _ _ q => q)) (fun E h9 q => nomatch (show (Sum.inr E : tq_R) = Sum.inl _ from q.1)) (fun r9 h9 q => ?_)
              obtain ⟨q1, rfl⟩ := q
              cases (show (Sum.inl r9 : tq_R) = Sum.inl (some (.int v51.1)) from q1)
              refine tq_aload_n (M := mL_alike) (pc := 286) dL_alike_286 rfl ?_
              refine tq_iload (M := mL_alike) (pc := 287) dL_alike_287 rfl ?_
              obtain ⟨v52, ev52, hf⟩ := tq_be hf
              refine tq_calSW (M := mL_alike) (pc := 289) (S := [.int v51.1]) tk_w_L_groups.1 tk_w_L_groups.2.1 tk_w_L_groups.2.2.1 tk_w_L_groups.2.2.2.1 tk_w_L_groups.2.2.2.2 tk_s_L_groups tk_RL_241 dL_alike_289 [.ref i1, .int y4] rfl (Nat.le_of_ble_eq_true rfl) (d1 := d - 1) (b1 := 1) (s1 := 6) (bc' := (8 * n + bc)) (bs' := (48 * n + bs)) (Q1 := fun r h9 => r = .inl (some (.int v52.1)) ∧ v52.2 = h9) (by omega) (by omega) (by omega) (w_L_groups (bc := 1) (bs := 6) (by omega) ev52 (fun _ _ _ => ⟨by decide, by decide⟩) (fun _ _ q => q)) (fun E h9 q => nomatch (show (Sum.inr E : tq_R) = Sum.inl _ from q.1)) (fun r9 h9 q => ?_)
              obtain ⟨q1, rfl⟩ := q
              cases (show (Sum.inl r9 : tq_R) = Sum.inl (some (.int v52.1)) from q1)
              refine tq_icmp_ne (M := mL_alike) (pc := 292) (tgt := 299) dL_alike_292 (by decide) (fun cc => ?_) (fun cc => ?_)
              · have hf := tq_ifn hf cc
                refine tq_iconst (M := mL_alike) (pc := 299) dL_alike_299 tk_ki_0 ?_
                refine tq_pick (L2 := [(0, .ref i0), (1, .ref i1), (2, .int i2), (4, .int y4)]) [0, 1, 2, 4] rfl ?_
                cases (Option.some.inj hf)
                exact HJ247
              · have hf := tq_ifp hf cc
                refine tq_iconst (M := mL_alike) (pc := 295) dL_alike_295 tk_ki_1 ?_
                refine tq_goto (M := mL_alike) (pc := 296) (tgt := 300) dL_alike_296 (by decide) ?_
                refine tq_pick (L2 := [(0, .ref i0), (1, .ref i1), (2, .int i2), (4, .int y4)]) [0, 1, 2, 4] rfl ?_
                cases (Option.some.inj hf)
                exact HJ247
set_option maxHeartbeats 4000000 in
set_option maxRecDepth 20000 in
theorem w_L_alike {l : Launch} {d : Nat} (hd9 : 10 ≤ d) {a0 : Nat} {a1 : Nat} {a2 : Int32} {h : tq_H} {o : Int32 × tq_H} {Q : tq_R → tq_H → Prop} (hf : f_L_alike a0 a1 a2 h = some o) (hQ : ∀ r h9, r = .inl (some (.int o.1)) ∧ o.2 = h9 → Q r h9) : tq_C l yL_alike cL_alike 5 (some .boolean) d 1028 6168 [.ref a0, .ref a1, .int a2] h Q := by
  refine tq_body (y := yL_alike) false (by decide +kernel) (fun z => by cases z) (Nat.le_of_ble_eq_true rfl) ?_
  show tq_W l mL_alike d 1028 6168 Q 0 [(0, .ref a0), (1, .ref a1), (2, .int a2)] [] h
  refine tq_aload_n (M := mL_alike) (pc := 0) dL_alike_0 rfl ?_
  obtain ⟨⟨⟩, eu2, hf⟩ := tq_be hf
  obtain ⟨fsu2, eu2⟩ := tq_is_s eu2
  obtain ⟨v1, ev1, hf⟩ := tq_be hf
  refine tq_calV (M := mL_alike) (pc := 1) (S := []) tk_y_X10_made tk_v_X10_made tk_RL_172 dL_alike_1 [] rfl (S0 := _) rfl eu2 rfl (Nat.le_of_ble_eq_true rfl) (d1 := d - 1) (b1 := 0) (s1 := 0) (bc' := 1028) (bs' := 6168) (Q1 := fun r h9 => r = .inl (some (.int v1)) ∧ h = h9) (by omega) rfl rfl (w_X10_made (by omega) ev1 (fun _ _ q => q)) (fun E h9 q => nomatch (show (Sum.inr E : tq_R) = Sum.inl _ from q.1)) (fun r9 h9 q => ?_)
  obtain ⟨q1, rfl⟩ := q
  cases (show (Sum.inl r9 : tq_R) = Sum.inl (some (.int v1)) from q1)
  refine tq_aload_n (M := mL_alike) (pc := 4) dL_alike_4 rfl ?_
  obtain ⟨⟨⟩, eu4, hf⟩ := tq_be hf
  obtain ⟨fsu4, eu4⟩ := tq_is_s eu4
  obtain ⟨v3, ev3, hf⟩ := tq_be hf
  refine tq_calV (M := mL_alike) (pc := 5) (S := [.int v1]) tk_y_X10_made tk_v_X10_made tk_RL_172 dL_alike_5 [] rfl (S0 := _) rfl eu4 rfl (Nat.le_of_ble_eq_true rfl) (d1 := d - 1) (b1 := 0) (s1 := 0) (bc' := 1028) (bs' := 6168) (Q1 := fun r h9 => r = .inl (some (.int v3)) ∧ h = h9) (by omega) rfl rfl (w_X10_made (by omega) ev3 (fun _ _ q => q)) (fun E h9 q => nomatch (show (Sum.inr E : tq_R) = Sum.inl _ from q.1)) (fun r9 h9 q => ?_)
  obtain ⟨q1, rfl⟩ := q
  cases (show (Sum.inl r9 : tq_R) = Sum.inl (some (.int v3)) from q1)
  obtain ⟨p23, ep23, hf⟩ := tq_be hf
  have HJ8 : tq_W l mL_alike d 1026 6156 Q 83 [(0, .ref a0), (1, .ref a1), (2, .int a2)] [.int p23.1] p23.2 := by
    refine tq_istore_n (M := mL_alike) (pc := 83) rfl dL_alike_83 (L2 := [(3, .int p23.1), (0, .ref a0), (1, .ref a1), (2, .int a2)]) (by decide) rfl ?_
    refine tq_iconst (M := mL_alike) (pc := 84) dL_alike_84 tk_ki_0 ?_
    refine tq_istore (M := mL_alike) (pc := 85) dL_alike_85 (L2 := [(4, .int (0 : Int32)), (3, .int p23.1), (0, .ref a0), (1, .ref a1), (2, .int a2)]) (by decide) rfl ?_
    obtain ⟨o42, eo42, hf⟩ := tq_be hf
    refine tq_pick (L2 := [(0, .ref a0), (1, .ref a1), (2, .int a2), (3, .int p23.1), (4, .int (0 : Int32))]) [2, 3, 4, 1, 0] rfl ?_
    refine tq_more (bc := 14 * 61 + 172) (bs := 84 * 61 + 1032) (by omega) (by omega) ?_
    refine l_L_alike_87 (bc := 172) (bs := 1032) (by omega) a0 a1 a2 _ p23.1 (0 : Int32) p23.2 _ eo42 ?_
    refine tq_iconst (M := mL_alike) (pc := 217) dL_alike_217 tk_ki_0 ?_
    refine tq_istore (M := mL_alike) (pc := 218) dL_alike_218 (L2 := [(4, .int (0 : Int32)), (0, .ref a0), (1, .ref a1), (2, .int a2), (3, .int o42.1)]) (by decide) rfl ?_
    obtain ⟨o55, eo55, hf⟩ := tq_be hf
    refine tq_pick (L2 := [(0, .ref a0), (1, .ref a1), (2, .int a2), (3, .int o42.1), (4, .int (0 : Int32))]) [1, 2, 3, 4, 0] rfl ?_
    refine tq_more (bc := 8 * 21 + 4) (bs := 48 * 21 + 24) (by omega) (by omega) ?_
    refine l_L_alike_220 (bc := 4) (bs := 24) (by omega) a0 a1 a2 _ o42.1 (0 : Int32) o42.2 _ eo55 ?_
    refine tq_iload_n (M := mL_alike) (pc := 307) dL_alike_307 rfl ?_
    obtain ⟨p60, ep60, hf⟩ := tq_be hf
    have HJ308 : tq_W l mL_alike d 0 0 Q 352 [] [.int p60.1] p60.2 := by
      obtain ⟨z61, ez61, hf⟩ := tq_be hf
      refine tq_zretB (M := mL_alike) (pc := 352) dL_alike_352 rfl ez61 ?_
      cases (Option.some.inj hf)
      exact hQ _ _ ⟨rfl, rfl⟩
    refine tq_if_eq (M := mL_alike) (pc := 308) (tgt := 351) dL_alike_308 (by decide) (fun cc => ?_) (fun cc => ?_)
    · have hf := tq_ifp ep60 cc
      refine tq_iconst (M := mL_alike) (pc := 351) dL_alike_351 tk_ki_0 ?_
      refine tq_pick (L2 := []) [] rfl ?_
      refine tq_more (bc := 0) (bs := 0) (by omega) (by omega) ?_
      cases (Option.some.inj hf)
      exact HJ308
    · have hf := tq_ifn ep60 cc
      refine tq_aload_n (M := mL_alike) (pc := 311) dL_alike_311 rfl ?_
      refine tq_iload_n (M := mL_alike) (pc := 312) dL_alike_312 rfl ?_
      refine tq_iconst (M := mL_alike) (pc := 313) dL_alike_313 tk_ki_5 ?_
      refine tq_irem (M := mL_alike) (pc := 314) dL_alike_314 (by decide +kernel) ?_
      refine tq_iconst (M := mL_alike) (pc := 315) dL_alike_315 tk_ki_0 ?_
      obtain ⟨v56, ev56, hf⟩ := tq_be hf
      refine tq_calSW (M := mL_alike) (pc := 316) (S := []) tk_w_L_viewed.1 tk_w_L_viewed.2.1 tk_w_L_viewed.2.2.1 tk_w_L_viewed.2.2.2.1 tk_w_L_viewed.2.2.2.2 tk_s_L_viewed tk_RL_251 dL_alike_316 [.ref a0, .int ((a2 - a2 / (5 : Int32) * (5 : Int32))), .int (0 : Int32)] rfl (Nat.le_of_ble_eq_true rfl) (d1 := d - 1) (b1 := 1) (s1 := 6) (bc' := 3) (bs' := 18) (Q1 := fun r h9 => r = .inl (some (.int v56.1)) ∧ v56.2 = h9) (by omega) rfl rfl (w_L_viewed (bc := 1) (bs := 6) (by omega) ev56 (fun _ _ _ => ⟨by decide, by decide⟩) (fun _ _ q => q)) (fun E h9 q => nomatch (show (Sum.inr E : tq_R) = Sum.inl _ from q.1)) (fun r9 h9 q => ?_)
      obtain ⟨q1, rfl⟩ := q
      cases (show (Sum.inl r9 : tq_R) = Sum.inl (some (.int v56.1)) from q1)
      refine tq_aload_n (M := mL_alike) (pc := 319) dL_alike_319 rfl ?_
      refine tq_iload_n (M := mL_alike) (pc := 320) dL_alike_320 rfl ?_
      refine tq_iconst (M := mL_alike) (pc := 321) dL_alike_321 tk_ki_5 ?_
      refine tq_irem (M := mL_alike) (pc := 322) dL_alike_322 (by decide +kernel) ?_
      refine tq_iconst (M := mL_alike) (pc := 323) dL_alike_323 tk_ki_0 ?_
      obtain ⟨v57, ev57, hf⟩ := tq_be hf
      refine tq_calSW (M := mL_alike) (pc := 324) (S := [.int v56.1]) tk_w_L_viewed.1 tk_w_L_viewed.2.1 tk_w_L_viewed.2.2.1 tk_w_L_viewed.2.2.2.1 tk_w_L_viewed.2.2.2.2 tk_s_L_viewed tk_RL_251 dL_alike_324 [.ref a1, .int ((a2 - a2 / (5 : Int32) * (5 : Int32))), .int (0 : Int32)] rfl (Nat.le_of_ble_eq_true rfl) (d1 := d - 1) (b1 := 1) (s1 := 6) (bc' := 2) (bs' := 12) (Q1 := fun r h9 => r = .inl (some (.int v57.1)) ∧ v57.2 = h9) (by omega) rfl rfl (w_L_viewed (bc := 1) (bs := 6) (by omega) ev57 (fun _ _ _ => ⟨by decide, by decide⟩) (fun _ _ q => q)) (fun E h9 q => nomatch (show (Sum.inr E : tq_R) = Sum.inl _ from q.1)) (fun r9 h9 q => ?_)
      obtain ⟨q1, rfl⟩ := q
      cases (show (Sum.inl r9 : tq_R) = Sum.inl (some (.int v57.1)) from q1)
      refine tq_icmp_ne (M := mL_alike) (pc := 327) (tgt := 351) dL_alike_327 (by decide) (fun cc => ?_) (fun cc => ?_)
      · have hf := tq_ifn hf cc
        refine tq_iconst (M := mL_alike) (pc := 351) dL_alike_351 tk_ki_0 ?_
        refine tq_pick (L2 := []) [] rfl ?_
        refine tq_more (bc := 0) (bs := 0) (by omega) (by omega) ?_
        cases (Option.some.inj hf)
        exact HJ308
      · have hf := tq_ifp hf cc
        refine tq_aload_n (M := mL_alike) (pc := 330) dL_alike_330 rfl ?_
        refine tq_iload_n (M := mL_alike) (pc := 331) dL_alike_331 rfl ?_
        refine tq_iconst (M := mL_alike) (pc := 332) dL_alike_332 tk_ki_5 ?_
        refine tq_irem (M := mL_alike) (pc := 333) dL_alike_333 (by decide +kernel) ?_
        obtain ⟨v58, ev58, hf⟩ := tq_be hf
        refine tq_calSW (M := mL_alike) (pc := 334) (S := []) tk_w_L_changed.1 tk_w_L_changed.2.1 tk_w_L_changed.2.2.1 tk_w_L_changed.2.2.2.1 tk_w_L_changed.2.2.2.2 tk_s_L_changed tk_RL_253 dL_alike_334 [.ref a0, .int ((a2 - a2 / (5 : Int32) * (5 : Int32)))] rfl (Nat.le_of_ble_eq_true rfl) (d1 := d - 1) (b1 := 1) (s1 := 6) (bc' := 1) (bs' := 6) (Q1 := fun r h9 => r = .inl (some (.int v58.1)) ∧ v58.2 = h9) (by omega) rfl rfl (w_L_changed (bc := 1) (bs := 6) (by omega) ev58 (fun _ _ _ => ⟨by decide, by decide⟩) (fun _ _ q => q)) (fun E h9 q => nomatch (show (Sum.inr E : tq_R) = Sum.inl _ from q.1)) (fun r9 h9 q => ?_)
        obtain ⟨q1, rfl⟩ := q
        cases (show (Sum.inl r9 : tq_R) = Sum.inl (some (.int v58.1)) from q1)
        refine tq_aload_n (M := mL_alike) (pc := 337) dL_alike_337 rfl ?_
        refine tq_iload_n (M := mL_alike) (pc := 338) dL_alike_338 rfl ?_
        refine tq_iconst (M := mL_alike) (pc := 339) dL_alike_339 tk_ki_5 ?_
        refine tq_irem (M := mL_alike) (pc := 340) dL_alike_340 (by decide +kernel) ?_
        obtain ⟨v59, ev59, hf⟩ := tq_be hf
        refine tq_calSW (M := mL_alike) (pc := 341) (S := [.int v58.1]) tk_w_L_changed.1 tk_w_L_changed.2.1 tk_w_L_changed.2.2.1 tk_w_L_changed.2.2.2.1 tk_w_L_changed.2.2.2.2 tk_s_L_changed tk_RL_253 dL_alike_341 [.ref a1, .int ((a2 - a2 / (5 : Int32) * (5 : Int32)))] rfl (Nat.le_of_ble_eq_true rfl) (d1 := d - 1) (b1 := 1) (s1 := 6) (bc' := 0) (bs' := 0) (Q1 := fun r h9 => r = .inl (some (.int v59.1)) ∧ v59.2 = h9) (by omega) rfl rfl (w_L_changed (bc := 1) (bs := 6) (by omega) ev59 (fun _ _ _ => ⟨by decide, by decide⟩) (fun _ _ q => q)) (fun E h9 q => nomatch (show (Sum.inr E : tq_R) = Sum.inl _ from q.1)) (fun r9 h9 q => ?_)
        obtain ⟨q1, rfl⟩ := q
        cases (show (Sum.inl r9 : tq_R) = Sum.inl (some (.int v59.1)) from q1)
        refine tq_icmp_ne (M := mL_alike) (pc := 344) (tgt := 351) dL_alike_344 (by decide) (fun cc => ?_) (fun cc => ?_)
        · have hf := tq_ifn hf cc
          refine tq_iconst (M := mL_alike) (pc := 351) dL_alike_351 tk_ki_0 ?_
          refine tq_pick (L2 := []) [] rfl ?_
          cases (Option.some.inj hf)
          exact HJ308
        · have hf := tq_ifp hf cc
          refine tq_iconst (M := mL_alike) (pc := 347) dL_alike_347 tk_ki_1 ?_
          refine tq_goto (M := mL_alike) (pc := 348) (tgt := 352) dL_alike_348 (by decide) ?_
          refine tq_pick (L2 := []) [] rfl ?_
          cases (Option.some.inj hf)
          exact HJ308
  refine tq_icmp_ne (M := mL_alike) (pc := 8) (tgt := 82) dL_alike_8 (by decide) (fun cc => ?_) (fun cc => ?_)
  · have hf := tq_ifn ep23 cc
    refine tq_iconst (M := mL_alike) (pc := 82) dL_alike_82 tk_ki_0 ?_
    refine tq_more (bc := 1026) (bs := 6156) (by omega) (by omega) ?_
    cases (Option.some.inj hf)
    exact HJ8
  · have hf := tq_ifp ep23 cc
    refine tq_aload_n (M := mL_alike) (pc := 11) dL_alike_11 rfl ?_
    obtain ⟨⟨⟩, eu6, hf⟩ := tq_be hf
    obtain ⟨fsu6, eu6⟩ := tq_is_s eu6
    obtain ⟨v5, ev5, hf⟩ := tq_be hf
    refine tq_calV (M := mL_alike) (pc := 12) (S := []) tk_y_X10_nodes tk_v_X10_nodes tk_RL_296 dL_alike_12 [] rfl (S0 := _) rfl eu6 rfl (Nat.le_of_ble_eq_true rfl) (d1 := d - 1) (b1 := 0) (s1 := 0) (bc' := 1028) (bs' := 6168) (Q1 := fun r h9 => r = .inl (some (.int v5)) ∧ h = h9) (by omega) rfl rfl (w_X10_nodes (by omega) ev5 (fun _ _ q => q)) (fun E h9 q => nomatch (show (Sum.inr E : tq_R) = Sum.inl _ from q.1)) (fun r9 h9 q => ?_)
    obtain ⟨q1, rfl⟩ := q
    cases (show (Sum.inl r9 : tq_R) = Sum.inl (some (.int v5)) from q1)
    refine tq_aload_n (M := mL_alike) (pc := 15) dL_alike_15 rfl ?_
    obtain ⟨⟨⟩, eu8, hf⟩ := tq_be hf
    obtain ⟨fsu8, eu8⟩ := tq_is_s eu8
    obtain ⟨v7, ev7, hf⟩ := tq_be hf
    refine tq_calV (M := mL_alike) (pc := 16) (S := [.int v5]) tk_y_X10_nodes tk_v_X10_nodes tk_RL_296 dL_alike_16 [] rfl (S0 := _) rfl eu8 rfl (Nat.le_of_ble_eq_true rfl) (d1 := d - 1) (b1 := 0) (s1 := 0) (bc' := 1028) (bs' := 6168) (Q1 := fun r h9 => r = .inl (some (.int v7)) ∧ h = h9) (by omega) rfl rfl (w_X10_nodes (by omega) ev7 (fun _ _ q => q)) (fun E h9 q => nomatch (show (Sum.inr E : tq_R) = Sum.inl _ from q.1)) (fun r9 h9 q => ?_)
    obtain ⟨q1, rfl⟩ := q
    cases (show (Sum.inl r9 : tq_R) = Sum.inl (some (.int v7)) from q1)
    refine tq_icmp_ne (M := mL_alike) (pc := 19) (tgt := 82) dL_alike_19 (by decide) (fun cc => ?_) (fun cc => ?_)
    · have hf := tq_ifn hf cc
      refine tq_iconst (M := mL_alike) (pc := 82) dL_alike_82 tk_ki_0 ?_
      refine tq_more (bc := 1026) (bs := 6156) (by omega) (by omega) ?_
      cases (Option.some.inj hf)
      exact HJ8
    · have hf := tq_ifp hf cc
      refine tq_aload_n (M := mL_alike) (pc := 22) dL_alike_22 rfl ?_
      obtain ⟨⟨⟩, eu10, hf⟩ := tq_be hf
      obtain ⟨fsu10, eu10⟩ := tq_is_s eu10
      obtain ⟨v9, ev9, hf⟩ := tq_be hf
      refine tq_calV (M := mL_alike) (pc := 23) (S := []) tk_y_X10_numbered tk_v_X10_numbered tk_RL_299 dL_alike_23 [] rfl (S0 := _) rfl eu10 rfl (Nat.le_of_ble_eq_true rfl) (d1 := d - 1) (b1 := 0) (s1 := 0) (bc' := 1028) (bs' := 6168) (Q1 := fun r h9 => r = .inl (some (.int v9)) ∧ h = h9) (by omega) rfl rfl (w_X10_numbered (by omega) ev9 (fun _ _ q => q)) (fun E h9 q => nomatch (show (Sum.inr E : tq_R) = Sum.inl _ from q.1)) (fun r9 h9 q => ?_)
      obtain ⟨q1, rfl⟩ := q
      cases (show (Sum.inl r9 : tq_R) = Sum.inl (some (.int v9)) from q1)
      refine tq_aload_n (M := mL_alike) (pc := 26) dL_alike_26 rfl ?_
      obtain ⟨⟨⟩, eu12, hf⟩ := tq_be hf
      obtain ⟨fsu12, eu12⟩ := tq_is_s eu12
      obtain ⟨v11, ev11, hf⟩ := tq_be hf
      refine tq_calV (M := mL_alike) (pc := 27) (S := [.int v9]) tk_y_X10_numbered tk_v_X10_numbered tk_RL_299 dL_alike_27 [] rfl (S0 := _) rfl eu12 rfl (Nat.le_of_ble_eq_true rfl) (d1 := d - 1) (b1 := 0) (s1 := 0) (bc' := 1028) (bs' := 6168) (Q1 := fun r h9 => r = .inl (some (.int v11)) ∧ h = h9) (by omega) rfl rfl (w_X10_numbered (by omega) ev11 (fun _ _ q => q)) (fun E h9 q => nomatch (show (Sum.inr E : tq_R) = Sum.inl _ from q.1)) (fun r9 h9 q => ?_)
      obtain ⟨q1, rfl⟩ := q
      cases (show (Sum.inl r9 : tq_R) = Sum.inl (some (.int v11)) from q1)
      refine tq_icmp_ne (M := mL_alike) (pc := 30) (tgt := 82) dL_alike_30 (by decide) (fun cc => ?_) (fun cc => ?_)
      · have hf := tq_ifn hf cc
        refine tq_iconst (M := mL_alike) (pc := 82) dL_alike_82 tk_ki_0 ?_
        refine tq_more (bc := 1026) (bs := 6156) (by omega) (by omega) ?_
        cases (Option.some.inj hf)
        exact HJ8
      · have hf := tq_ifp hf cc
        refine tq_aload_n (M := mL_alike) (pc := 33) dL_alike_33 rfl ?_
        obtain ⟨⟨⟩, eu14, hf⟩ := tq_be hf
        obtain ⟨fsu14, eu14⟩ := tq_is_s eu14
        obtain ⟨v13, ev13, hf⟩ := tq_be hf
        refine tq_calV (M := mL_alike) (pc := 34) (S := []) tk_y_X10_paths tk_v_X10_paths tk_RL_175 dL_alike_34 [] rfl (S0 := _) rfl eu14 rfl (Nat.le_of_ble_eq_true rfl) (d1 := d - 1) (b1 := 0) (s1 := 0) (bc' := 1028) (bs' := 6168) (Q1 := fun r h9 => r = .inl (some (.int v13)) ∧ h = h9) (by omega) rfl rfl (w_X10_paths (by omega) ev13 (fun _ _ q => q)) (fun E h9 q => nomatch (show (Sum.inr E : tq_R) = Sum.inl _ from q.1)) (fun r9 h9 q => ?_)
        obtain ⟨q1, rfl⟩ := q
        cases (show (Sum.inl r9 : tq_R) = Sum.inl (some (.int v13)) from q1)
        refine tq_aload_n (M := mL_alike) (pc := 37) dL_alike_37 rfl ?_
        obtain ⟨⟨⟩, eu16, hf⟩ := tq_be hf
        obtain ⟨fsu16, eu16⟩ := tq_is_s eu16
        obtain ⟨v15, ev15, hf⟩ := tq_be hf
        refine tq_calV (M := mL_alike) (pc := 38) (S := [.int v13]) tk_y_X10_paths tk_v_X10_paths tk_RL_175 dL_alike_38 [] rfl (S0 := _) rfl eu16 rfl (Nat.le_of_ble_eq_true rfl) (d1 := d - 1) (b1 := 0) (s1 := 0) (bc' := 1028) (bs' := 6168) (Q1 := fun r h9 => r = .inl (some (.int v15)) ∧ h = h9) (by omega) rfl rfl (w_X10_paths (by omega) ev15 (fun _ _ q => q)) (fun E h9 q => nomatch (show (Sum.inr E : tq_R) = Sum.inl _ from q.1)) (fun r9 h9 q => ?_)
        obtain ⟨q1, rfl⟩ := q
        cases (show (Sum.inl r9 : tq_R) = Sum.inl (some (.int v15)) from q1)
        refine tq_icmp_ne (M := mL_alike) (pc := 41) (tgt := 82) dL_alike_41 (by decide) (fun cc => ?_) (fun cc => ?_)
        · have hf := tq_ifn hf cc
          refine tq_iconst (M := mL_alike) (pc := 82) dL_alike_82 tk_ki_0 ?_
          refine tq_more (bc := 1026) (bs := 6156) (by omega) (by omega) ?_
          cases (Option.some.inj hf)
          exact HJ8
        · have hf := tq_ifp hf cc
          refine tq_aload_n (M := mL_alike) (pc := 44) dL_alike_44 rfl ?_
          obtain ⟨⟨⟩, eu18, hf⟩ := tq_be hf
          obtain ⟨fsu18, eu18⟩ := tq_is_s eu18
          obtain ⟨v17, ev17, hf⟩ := tq_be hf
          refine tq_calV (M := mL_alike) (pc := 45) (S := []) tk_y_X10_isValid tk_v_X10_isValid tk_RL_302 dL_alike_45 [] rfl (S0 := _) rfl eu18 rfl (Nat.le_of_ble_eq_true rfl) (d1 := d - 1) (b1 := 0) (s1 := 0) (bc' := 1028) (bs' := 6168) (Q1 := fun r h9 => r = .inl (some (.int v17.1)) ∧ v17.2 = h9) (by omega) rfl rfl (w_X10_isValid (by omega) ev17 (fun _ _ q => q)) (fun E h9 q => nomatch (show (Sum.inr E : tq_R) = Sum.inl _ from q.1)) (fun r9 h9 q => ?_)
          obtain ⟨q1, rfl⟩ := q
          cases (show (Sum.inl r9 : tq_R) = Sum.inl (some (.int v17.1)) from q1)
          refine tq_aload_n (M := mL_alike) (pc := 48) dL_alike_48 rfl ?_
          obtain ⟨⟨⟩, eu20, hf⟩ := tq_be hf
          obtain ⟨fsu20, eu20⟩ := tq_is_s eu20
          obtain ⟨v19, ev19, hf⟩ := tq_be hf
          refine tq_calV (M := mL_alike) (pc := 49) (S := [.int v17.1]) tk_y_X10_isValid tk_v_X10_isValid tk_RL_302 dL_alike_49 [] rfl (S0 := _) rfl eu20 rfl (Nat.le_of_ble_eq_true rfl) (d1 := d - 1) (b1 := 0) (s1 := 0) (bc' := 1028) (bs' := 6168) (Q1 := fun r h9 => r = .inl (some (.int v19.1)) ∧ v19.2 = h9) (by omega) rfl rfl (w_X10_isValid (by omega) ev19 (fun _ _ q => q)) (fun E h9 q => nomatch (show (Sum.inr E : tq_R) = Sum.inl _ from q.1)) (fun r9 h9 q => ?_)
          obtain ⟨q1, rfl⟩ := q
          cases (show (Sum.inl r9 : tq_R) = Sum.inl (some (.int v19.1)) from q1)
          refine tq_icmp_ne (M := mL_alike) (pc := 52) (tgt := 82) dL_alike_52 (by decide) (fun cc => ?_) (fun cc => ?_)
          · have hf := tq_ifn hf cc
            refine tq_iconst (M := mL_alike) (pc := 82) dL_alike_82 tk_ki_0 ?_
            refine tq_more (bc := 1026) (bs := 6156) (by omega) (by omega) ?_
            cases (Option.some.inj hf)
            exact HJ8
          · have hf := tq_ifp hf cc
            refine tq_aload_n (M := mL_alike) (pc := 55) dL_alike_55 rfl ?_
            refine tq_iload_n (M := mL_alike) (pc := 56) dL_alike_56 rfl ?_
            refine tq_iconst (M := mL_alike) (pc := 57) dL_alike_57 tk_ki_5 ?_
            refine tq_irem (M := mL_alike) (pc := 58) dL_alike_58 (by decide +kernel) ?_
            refine tq_iload_n (M := mL_alike) (pc := 59) dL_alike_59 rfl ?_
            refine tq_iconst (M := mL_alike) (pc := 60) dL_alike_60 tk_ki_2 ?_
            refine tq_irem (M := mL_alike) (pc := 61) dL_alike_61 (by decide +kernel) ?_
            obtain ⟨v21, ev21, hf⟩ := tq_be hf
            refine tq_calSW (M := mL_alike) (pc := 62) (S := []) tk_w_L_ranked.1 tk_w_L_ranked.2.1 tk_w_L_ranked.2.2.1 tk_w_L_ranked.2.2.2.1 tk_w_L_ranked.2.2.2.2 tk_s_L_ranked tk_RL_271 dL_alike_62 [.ref a0, .int ((a2 - a2 / (5 : Int32) * (5 : Int32))), .int ((a2 - a2 / (2 : Int32) * (2 : Int32)))] rfl (Nat.le_of_ble_eq_true rfl) (d1 := d - 1) (b1 := 1) (s1 := 6) (bc' := 1027) (bs' := 6162) (Q1 := fun r h9 => r = .inl (some (.int v21.1)) ∧ v21.2 = h9) (by omega) rfl rfl (w_L_ranked (bc := 1) (bs := 6) (by omega) ev21 (fun _ _ _ => ⟨by decide, by decide⟩) (fun _ _ q => q)) (fun E h9 q => nomatch (show (Sum.inr E : tq_R) = Sum.inl _ from q.1)) (fun r9 h9 q => ?_)
            obtain ⟨q1, rfl⟩ := q
            cases (show (Sum.inl r9 : tq_R) = Sum.inl (some (.int v21.1)) from q1)
            refine tq_aload_n (M := mL_alike) (pc := 65) dL_alike_65 rfl ?_
            refine tq_iload_n (M := mL_alike) (pc := 66) dL_alike_66 rfl ?_
            refine tq_iconst (M := mL_alike) (pc := 67) dL_alike_67 tk_ki_5 ?_
            refine tq_irem (M := mL_alike) (pc := 68) dL_alike_68 (by decide +kernel) ?_
            refine tq_iload_n (M := mL_alike) (pc := 69) dL_alike_69 rfl ?_
            refine tq_iconst (M := mL_alike) (pc := 70) dL_alike_70 tk_ki_2 ?_
            refine tq_irem (M := mL_alike) (pc := 71) dL_alike_71 (by decide +kernel) ?_
            obtain ⟨v22, ev22, hf⟩ := tq_be hf
            refine tq_calSW (M := mL_alike) (pc := 72) (S := [.int v21.1]) tk_w_L_ranked.1 tk_w_L_ranked.2.1 tk_w_L_ranked.2.2.1 tk_w_L_ranked.2.2.2.1 tk_w_L_ranked.2.2.2.2 tk_s_L_ranked tk_RL_271 dL_alike_72 [.ref a1, .int ((a2 - a2 / (5 : Int32) * (5 : Int32))), .int ((a2 - a2 / (2 : Int32) * (2 : Int32)))] rfl (Nat.le_of_ble_eq_true rfl) (d1 := d - 1) (b1 := 1) (s1 := 6) (bc' := 1026) (bs' := 6156) (Q1 := fun r h9 => r = .inl (some (.int v22.1)) ∧ v22.2 = h9) (by omega) rfl rfl (w_L_ranked (bc := 1) (bs := 6) (by omega) ev22 (fun _ _ _ => ⟨by decide, by decide⟩) (fun _ _ q => q)) (fun E h9 q => nomatch (show (Sum.inr E : tq_R) = Sum.inl _ from q.1)) (fun r9 h9 q => ?_)
            obtain ⟨q1, rfl⟩ := q
            cases (show (Sum.inl r9 : tq_R) = Sum.inl (some (.int v22.1)) from q1)
            refine tq_icmp_ne (M := mL_alike) (pc := 75) (tgt := 82) dL_alike_75 (by decide) (fun cc => ?_) (fun cc => ?_)
            · have hf := tq_ifn hf cc
              refine tq_iconst (M := mL_alike) (pc := 82) dL_alike_82 tk_ki_0 ?_
              cases (Option.some.inj hf)
              exact HJ8
            · have hf := tq_ifp hf cc
              refine tq_iconst (M := mL_alike) (pc := 78) dL_alike_78 tk_ki_1 ?_
              refine tq_goto (M := mL_alike) (pc := 79) (tgt := 83) dL_alike_79 (by decide) ?_
              cases (Option.some.inj hf)
              exact HJ8
