/-! ===== printed by wip/p58/tools: p58's law: the acts ===== -/
abbrev cL_act : ByteArray := method_51_code
def yL_act : MethodName := ⟨RL, "act", "(LTreequery;I)I"⟩
theorem dL_act_0 : decode cL_act 0 = .ok (.iload_n 1, 1) := by decide +kernel
theorem dL_act_1 : decode cL_act 1 = .ok (.bipush 24, 2) := by decide +kernel
theorem dL_act_3 : decode cL_act 3 = .ok (.idiv, 1) := by decide +kernel
theorem dL_act_4 : decode cL_act 4 = .ok (.istore_n 2, 1) := by decide +kernel
theorem dL_act_5 : decode cL_act 5 = .ok (.iload_n 2, 1) := by decide +kernel
theorem dL_act_6 : decode cL_act 6 = .ok (.aload_n 0, 1) := by decide +kernel
theorem dL_act_7 : decode cL_act 7 = .ok (.invokevirtual 172, 3) := by decide +kernel
theorem dL_act_10 : decode cL_act 10 = .ok (.irem, 1) := by decide +kernel
theorem dL_act_11 : decode cL_act 11 = .ok (.istore_n 3, 1) := by decide +kernel
theorem dL_act_12 : decode cL_act 12 = .ok (.aload_n 0, 1) := by decide +kernel
theorem dL_act_13 : decode cL_act 13 = .ok (.invokevirtual 175, 3) := by decide +kernel
theorem dL_act_16 : decode cL_act 16 = .ok (.ifCond .ne 7, 3) := by decide +kernel
theorem dL_act_19 : decode cL_act 19 = .ok (.iconst 0, 1) := by decide +kernel
theorem dL_act_20 : decode cL_act 20 = .ok (.goto 9, 3) := by decide +kernel
theorem dL_act_23 : decode cL_act 23 = .ok (.aload_n 0, 1) := by decide +kernel
theorem dL_act_24 : decode cL_act 24 = .ok (.invokevirtual 175, 3) := by decide +kernel
theorem dL_act_27 : decode cL_act 27 = .ok (.iconst 1, 1) := by decide +kernel
theorem dL_act_28 : decode cL_act 28 = .ok (.isub, 1) := by decide +kernel
theorem dL_act_29 : decode cL_act 29 = .ok (.istore 4, 2) := by decide +kernel
theorem dL_act_31 : decode cL_act 31 = .ok (.iload_n 2, 1) := by decide +kernel
theorem dL_act_32 : decode cL_act 32 = .ok (.bipush 61, 2) := by decide +kernel
theorem dL_act_34 : decode cL_act 34 = .ok (.idiv, 1) := by decide +kernel
theorem dL_act_35 : decode cL_act 35 = .ok (.iconst 4, 1) := by decide +kernel
theorem dL_act_36 : decode cL_act 36 = .ok (.irem, 1) := by decide +kernel
theorem dL_act_37 : decode cL_act 37 = .ok (.istore 5, 2) := by decide +kernel
theorem dL_act_39 : decode cL_act 39 = .ok (.iload_n 1, 1) := by decide +kernel
theorem dL_act_40 : decode cL_act 40 = .ok (.bipush 24, 2) := by decide +kernel
theorem dL_act_42 : decode cL_act 42 = .ok (.irem, 1) := by decide +kernel
theorem dL_act_43 : decode cL_act 43 = .ok (.tableswitch 654 0 22 #[105, 105, 105, 124, 124, 137, 152, 181, 214, 236, 236, 236, 236, 262, 267, 267, 300, 357, 441, 532, 613, 620, 631], 105) := by decide +kernel
theorem dL_act_148 : decode cL_act 148 = .ok (.aload_n 0, 1) := by decide +kernel
theorem dL_act_149 : decode cL_act 149 = .ok (.iload_n 3, 1) := by decide +kernel
theorem dL_act_150 : decode cL_act 150 = .ok (.iload_n 2, 1) := by decide +kernel
theorem dL_act_151 : decode cL_act 151 = .ok (.bipush 61, 2) := by decide +kernel
theorem dL_act_153 : decode cL_act 153 = .ok (.idiv, 1) := by decide +kernel
theorem dL_act_154 : decode cL_act 154 = .ok (.iconst 3, 1) := by decide +kernel
theorem dL_act_155 : decode cL_act 155 = .ok (.irem, 1) := by decide +kernel
theorem dL_act_156 : decode cL_act 156 = .ok (.iload_n 2, 1) := by decide +kernel
theorem dL_act_157 : decode cL_act 157 = .ok (.sipush 183, 3) := by decide +kernel
theorem dL_act_160 : decode cL_act 160 = .ok (.idiv, 1) := by decide +kernel
theorem dL_act_161 : decode cL_act 161 = .ok (.iconst 4, 1) := by decide +kernel
theorem dL_act_162 : decode cL_act 162 = .ok (.irem, 1) := by decide +kernel
theorem dL_act_163 : decode cL_act 163 = .ok (.invokestatic 178, 3) := by decide +kernel
theorem dL_act_166 : decode cL_act 166 = .ok (.ireturn, 1) := by decide +kernel
theorem dL_act_167 : decode cL_act 167 = .ok (.aload_n 0, 1) := by decide +kernel
theorem dL_act_168 : decode cL_act 168 = .ok (.iload_n 3, 1) := by decide +kernel
theorem dL_act_169 : decode cL_act 169 = .ok (.iconst 0, 1) := by decide +kernel
theorem dL_act_170 : decode cL_act 170 = .ok (.iload_n 2, 1) := by decide +kernel
theorem dL_act_171 : decode cL_act 171 = .ok (.bipush 61, 2) := by decide +kernel
theorem dL_act_173 : decode cL_act 173 = .ok (.idiv, 1) := by decide +kernel
theorem dL_act_174 : decode cL_act 174 = .ok (.iconst 5, 1) := by decide +kernel
theorem dL_act_175 : decode cL_act 175 = .ok (.irem, 1) := by decide +kernel
theorem dL_act_176 : decode cL_act 176 = .ok (.invokestatic 184, 3) := by decide +kernel
theorem dL_act_179 : decode cL_act 179 = .ok (.ireturn, 1) := by decide +kernel
theorem dL_act_180 : decode cL_act 180 = .ok (.aload_n 0, 1) := by decide +kernel
theorem dL_act_181 : decode cL_act 181 = .ok (.iload_n 3, 1) := by decide +kernel
theorem dL_act_182 : decode cL_act 182 = .ok (.iload 5, 2) := by decide +kernel
theorem dL_act_184 : decode cL_act 184 = .ok (.iload_n 2, 1) := by decide +kernel
theorem dL_act_185 : decode cL_act 185 = .ok (.sipush 244, 3) := by decide +kernel
theorem dL_act_188 : decode cL_act 188 = .ok (.idiv, 1) := by decide +kernel
theorem dL_act_189 : decode cL_act 189 = .ok (.iconst 5, 1) := by decide +kernel
theorem dL_act_190 : decode cL_act 190 = .ok (.irem, 1) := by decide +kernel
theorem dL_act_191 : decode cL_act 191 = .ok (.invokestatic 187, 3) := by decide +kernel
theorem dL_act_194 : decode cL_act 194 = .ok (.ireturn, 1) := by decide +kernel
theorem dL_act_195 : decode cL_act 195 = .ok (.iload_n 2, 1) := by decide +kernel
theorem dL_act_196 : decode cL_act 196 = .ok (.iconst 3, 1) := by decide +kernel
theorem dL_act_197 : decode cL_act 197 = .ok (.irem, 1) := by decide +kernel
theorem dL_act_198 : decode cL_act 198 = .ok (.ifCond .ne 18, 3) := by decide +kernel
theorem dL_act_201 : decode cL_act 201 = .ok (.aload_n 0, 1) := by decide +kernel
theorem dL_act_202 : decode cL_act 202 = .ok (.iload_n 2, 1) := by decide +kernel
theorem dL_act_203 : decode cL_act 203 = .ok (.iconst 3, 1) := by decide +kernel
theorem dL_act_204 : decode cL_act 204 = .ok (.idiv, 1) := by decide +kernel
theorem dL_act_205 : decode cL_act 205 = .ok (.aload_n 0, 1) := by decide +kernel
theorem dL_act_206 : decode cL_act 206 = .ok (.invokevirtual 172, 3) := by decide +kernel
theorem dL_act_209 : decode cL_act 209 = .ok (.irem, 1) := by decide +kernel
theorem dL_act_210 : decode cL_act 210 = .ok (.invokestatic 194, 3) := by decide +kernel
theorem dL_act_213 : decode cL_act 213 = .ok (.goto 10, 3) := by decide +kernel
theorem dL_act_216 : decode cL_act 216 = .ok (.aload_n 0, 1) := by decide +kernel
theorem dL_act_217 : decode cL_act 217 = .ok (.iload_n 3, 1) := by decide +kernel
theorem dL_act_218 : decode cL_act 218 = .ok (.iload 5, 2) := by decide +kernel
theorem dL_act_220 : decode cL_act 220 = .ok (.invokestatic 189, 3) := by decide +kernel
theorem dL_act_223 : decode cL_act 223 = .ok (.ireturn, 1) := by decide +kernel
theorem dL_act_224 : decode cL_act 224 = .ok (.iload_n 2, 1) := by decide +kernel
theorem dL_act_225 : decode cL_act 225 = .ok (.iconst 2, 1) := by decide +kernel
theorem dL_act_226 : decode cL_act 226 = .ok (.irem, 1) := by decide +kernel
theorem dL_act_227 : decode cL_act 227 = .ok (.ifCond .ne 20, 3) := by decide +kernel
theorem dL_act_230 : decode cL_act 230 = .ok (.aload_n 0, 1) := by decide +kernel
theorem dL_act_231 : decode cL_act 231 = .ok (.iload_n 2, 1) := by decide +kernel
theorem dL_act_232 : decode cL_act 232 = .ok (.iconst 2, 1) := by decide +kernel
theorem dL_act_233 : decode cL_act 233 = .ok (.idiv, 1) := by decide +kernel
theorem dL_act_234 : decode cL_act 234 = .ok (.aload_n 0, 1) := by decide +kernel
theorem dL_act_235 : decode cL_act 235 = .ok (.invokevirtual 172, 3) := by decide +kernel
theorem dL_act_238 : decode cL_act 238 = .ok (.irem, 1) := by decide +kernel
theorem dL_act_239 : decode cL_act 239 = .ok (.iload 5, 2) := by decide +kernel
theorem dL_act_241 : decode cL_act 241 = .ok (.invokestatic 197, 3) := by decide +kernel
theorem dL_act_244 : decode cL_act 244 = .ok (.goto 12, 3) := by decide +kernel
theorem dL_act_247 : decode cL_act 247 = .ok (.aload_n 0, 1) := by decide +kernel
theorem dL_act_248 : decode cL_act 248 = .ok (.iload_n 3, 1) := by decide +kernel
theorem dL_act_249 : decode cL_act 249 = .ok (.iload 5, 2) := by decide +kernel
theorem dL_act_251 : decode cL_act 251 = .ok (.iconst 1, 1) := by decide +kernel
theorem dL_act_252 : decode cL_act 252 = .ok (.isub, 1) := by decide +kernel
theorem dL_act_253 : decode cL_act 253 = .ok (.invokestatic 192, 3) := by decide +kernel
theorem dL_act_256 : decode cL_act 256 = .ok (.ireturn, 1) := by decide +kernel
theorem dL_act_257 : decode cL_act 257 = .ok (.aload_n 0, 1) := by decide +kernel
theorem dL_act_258 : decode cL_act 258 = .ok (.iload_n 3, 1) := by decide +kernel
theorem dL_act_259 : decode cL_act 259 = .ok (.iload_n 2, 1) := by decide +kernel
theorem dL_act_260 : decode cL_act 260 = .ok (.bipush 61, 2) := by decide +kernel
theorem dL_act_262 : decode cL_act 262 = .ok (.idiv, 1) := by decide +kernel
theorem dL_act_263 : decode cL_act 263 = .ok (.aload_n 0, 1) := by decide +kernel
theorem dL_act_264 : decode cL_act 264 = .ok (.invokevirtual 172, 3) := by decide +kernel
theorem dL_act_267 : decode cL_act 267 = .ok (.irem, 1) := by decide +kernel
theorem dL_act_268 : decode cL_act 268 = .ok (.iload_n 2, 1) := by decide +kernel
theorem dL_act_269 : decode cL_act 269 = .ok (.sipush 3721, 3) := by decide +kernel
theorem dL_act_272 : decode cL_act 272 = .ok (.idiv, 1) := by decide +kernel
theorem dL_act_273 : decode cL_act 273 = .ok (.iconst 2, 1) := by decide +kernel
theorem dL_act_274 : decode cL_act 274 = .ok (.irem, 1) := by decide +kernel
theorem dL_act_275 : decode cL_act 275 = .ok (.invokestatic 200, 3) := by decide +kernel
theorem dL_act_278 : decode cL_act 278 = .ok (.ireturn, 1) := by decide +kernel
theorem dL_act_279 : decode cL_act 279 = .ok (.aload_n 0, 1) := by decide +kernel
theorem dL_act_280 : decode cL_act 280 = .ok (.invokestatic 279, 3) := by decide +kernel
theorem dL_act_283 : decode cL_act 283 = .ok (.istore 6, 2) := by decide +kernel
theorem dL_act_285 : decode cL_act 285 = .ok (.iload 6, 2) := by decide +kernel
theorem dL_act_287 : decode cL_act 287 = .ok (.ldc 21, 2) := by decide +kernel
theorem dL_act_289 : decode cL_act 289 = .ok (.if_icmp .ne 13, 3) := by decide +kernel
theorem dL_act_292 : decode cL_act 292 = .ok (.bipush (-9), 2) := by decide +kernel
theorem dL_act_294 : decode cL_act 294 = .ok (.aload_n 0, 1) := by decide +kernel
theorem dL_act_295 : decode cL_act 295 = .ok (.invokevirtual 282, 3) := by decide +kernel
theorem dL_act_298 : decode cL_act 298 = .ok (.isub, 1) := by decide +kernel
theorem dL_act_299 : decode cL_act 299 = .ok (.goto 5, 3) := by decide +kernel
theorem dL_act_302 : decode cL_act 302 = .ok (.iload 6, 2) := by decide +kernel
theorem dL_act_304 : decode cL_act 304 = .ok (.ireturn, 1) := by decide +kernel
theorem dL_act_305 : decode cL_act 305 = .ok (.aload_n 0, 1) := by decide +kernel
theorem dL_act_306 : decode cL_act 306 = .ok (.invokestatic 285, 3) := by decide +kernel
theorem dL_act_309 : decode cL_act 309 = .ok (.ireturn, 1) := by decide +kernel
theorem dL_act_310 : decode cL_act 310 = .ok (.aload_n 0, 1) := by decide +kernel
theorem dL_act_311 : decode cL_act 311 = .ok (.iload 4, 2) := by decide +kernel
theorem dL_act_313 : decode cL_act 313 = .ok (.iload_n 2, 1) := by decide +kernel
theorem dL_act_314 : decode cL_act 314 = .ok (.bipush 12, 2) := by decide +kernel
theorem dL_act_316 : decode cL_act 316 = .ok (.irem, 1) := by decide +kernel
theorem dL_act_317 : decode cL_act 317 = .ok (.iload_n 2, 1) := by decide +kernel
theorem dL_act_318 : decode cL_act 318 = .ok (.bipush 12, 2) := by decide +kernel
theorem dL_act_320 : decode cL_act 320 = .ok (.idiv, 1) := by decide +kernel
theorem dL_act_321 : decode cL_act 321 = .ok (.iconst 3, 1) := by decide +kernel
theorem dL_act_322 : decode cL_act 322 = .ok (.irem, 1) := by decide +kernel
theorem dL_act_323 : decode cL_act 323 = .ok (.ifCond .ne 13, 3) := by decide +kernel
theorem dL_act_326 : decode cL_act 326 = .ok (.iload_n 2, 1) := by decide +kernel
theorem dL_act_327 : decode cL_act 327 = .ok (.bipush 36, 2) := by decide +kernel
theorem dL_act_329 : decode cL_act 329 = .ok (.idiv, 1) := by decide +kernel
theorem dL_act_330 : decode cL_act 330 = .ok (.bipush 14, 2) := by decide +kernel
theorem dL_act_332 : decode cL_act 332 = .ok (.irem, 1) := by decide +kernel
theorem dL_act_333 : decode cL_act 333 = .ok (.goto 5, 3) := by decide +kernel
theorem dL_act_336 : decode cL_act 336 = .ok (.bipush 8, 2) := by decide +kernel
theorem dL_act_338 : decode cL_act 338 = .ok (.iconst (-1), 1) := by decide +kernel
theorem dL_act_339 : decode cL_act 339 = .ok (.invokestatic 221, 3) := by decide +kernel
theorem dL_act_342 : decode cL_act 342 = .ok (.ireturn, 1) := by decide +kernel
theorem dL_act_343 : decode cL_act 343 = .ok (.iload_n 2, 1) := by decide +kernel
theorem dL_act_344 : decode cL_act 344 = .ok (.iconst 2, 1) := by decide +kernel
theorem dL_act_345 : decode cL_act 345 = .ok (.irem, 1) := by decide +kernel
theorem dL_act_346 : decode cL_act 346 = .ok (.ifCond .ne 25, 3) := by decide +kernel
theorem dL_act_349 : decode cL_act 349 = .ok (.aload_n 0, 1) := by decide +kernel
theorem dL_act_350 : decode cL_act 350 = .ok (.iload 4, 2) := by decide +kernel
theorem dL_act_352 : decode cL_act 352 = .ok (.iload_n 2, 1) := by decide +kernel
theorem dL_act_353 : decode cL_act 353 = .ok (.iconst 2, 1) := by decide +kernel
theorem dL_act_354 : decode cL_act 354 = .ok (.idiv, 1) := by decide +kernel
theorem dL_act_355 : decode cL_act 355 = .ok (.iconst 3, 1) := by decide +kernel
theorem dL_act_356 : decode cL_act 356 = .ok (.irem, 1) := by decide +kernel
theorem dL_act_357 : decode cL_act 357 = .ok (.iconst 1, 1) := by decide +kernel
theorem dL_act_358 : decode cL_act 358 = .ok (.iload_n 2, 1) := by decide +kernel
theorem dL_act_359 : decode cL_act 359 = .ok (.bipush 6, 2) := by decide +kernel
theorem dL_act_361 : decode cL_act 361 = .ok (.idiv, 1) := by decide +kernel
theorem dL_act_362 : decode cL_act 362 = .ok (.iconst 3, 1) := by decide +kernel
theorem dL_act_363 : decode cL_act 363 = .ok (.irem, 1) := by decide +kernel
theorem dL_act_364 : decode cL_act 364 = .ok (.iadd, 1) := by decide +kernel
theorem dL_act_365 : decode cL_act 365 = .ok (.invokestatic 224, 3) := by decide +kernel
theorem dL_act_368 : decode cL_act 368 = .ok (.goto 31, 3) := by decide +kernel
theorem dL_act_371 : decode cL_act 371 = .ok (.aload_n 0, 1) := by decide +kernel
theorem dL_act_372 : decode cL_act 372 = .ok (.iload 4, 2) := by decide +kernel
theorem dL_act_374 : decode cL_act 374 = .ok (.iload_n 2, 1) := by decide +kernel
theorem dL_act_375 : decode cL_act 375 = .ok (.iconst 2, 1) := by decide +kernel
theorem dL_act_376 : decode cL_act 376 = .ok (.idiv, 1) := by decide +kernel
theorem dL_act_377 : decode cL_act 377 = .ok (.iload 4, 2) := by decide +kernel
theorem dL_act_379 : decode cL_act 379 = .ok (.iconst 1, 1) := by decide +kernel
theorem dL_act_380 : decode cL_act 380 = .ok (.iadd, 1) := by decide +kernel
theorem dL_act_381 : decode cL_act 381 = .ok (.irem, 1) := by decide +kernel
theorem dL_act_382 : decode cL_act 382 = .ok (.iload_n 2, 1) := by decide +kernel
theorem dL_act_383 : decode cL_act 383 = .ok (.bipush 97, 2) := by decide +kernel
theorem dL_act_385 : decode cL_act 385 = .ok (.idiv, 1) := by decide +kernel
theorem dL_act_386 : decode cL_act 386 = .ok (.iconst 2, 1) := by decide +kernel
theorem dL_act_387 : decode cL_act 387 = .ok (.irem, 1) := by decide +kernel
theorem dL_act_388 : decode cL_act 388 = .ok (.ifCond .ne 7, 3) := by decide +kernel
theorem dL_act_391 : decode cL_act 391 = .ok (.iconst 1, 1) := by decide +kernel
theorem dL_act_392 : decode cL_act 392 = .ok (.goto 4, 3) := by decide +kernel
theorem dL_act_395 : decode cL_act 395 = .ok (.iconst 0, 1) := by decide +kernel
theorem dL_act_396 : decode cL_act 396 = .ok (.invokestatic 228, 3) := by decide +kernel
theorem dL_act_399 : decode cL_act 399 = .ok (.ireturn, 1) := by decide +kernel
theorem dL_act_400 : decode cL_act 400 = .ok (.iload_n 2, 1) := by decide +kernel
theorem dL_act_401 : decode cL_act 401 = .ok (.iconst 3, 1) := by decide +kernel
theorem dL_act_402 : decode cL_act 402 = .ok (.irem, 1) := by decide +kernel
theorem dL_act_403 : decode cL_act 403 = .ok (.ifCond .ne 12, 3) := by decide +kernel
theorem dL_act_406 : decode cL_act 406 = .ok (.aload_n 0, 1) := by decide +kernel
theorem dL_act_407 : decode cL_act 407 = .ok (.iload 4, 2) := by decide +kernel
theorem dL_act_409 : decode cL_act 409 = .ok (.invokestatic 226, 3) := by decide +kernel
theorem dL_act_412 : decode cL_act 412 = .ok (.goto 71, 3) := by decide +kernel
theorem dL_act_415 : decode cL_act 415 = .ok (.iload_n 2, 1) := by decide +kernel
theorem dL_act_416 : decode cL_act 416 = .ok (.iconst 3, 1) := by decide +kernel
theorem dL_act_417 : decode cL_act 417 = .ok (.irem, 1) := by decide +kernel
theorem dL_act_418 : decode cL_act 418 = .ok (.iconst 1, 1) := by decide +kernel
theorem dL_act_419 : decode cL_act 419 = .ok (.if_icmp .ne 31, 3) := by decide +kernel
theorem dL_act_422 : decode cL_act 422 = .ok (.aload_n 0, 1) := by decide +kernel
theorem dL_act_423 : decode cL_act 423 = .ok (.iload 4, 2) := by decide +kernel
theorem dL_act_425 : decode cL_act 425 = .ok (.bipush 12, 2) := by decide +kernel
theorem dL_act_427 : decode cL_act 427 = .ok (.bipush 8, 2) := by decide +kernel
theorem dL_act_429 : decode cL_act 429 = .ok (.iload 4, 2) := by decide +kernel
theorem dL_act_431 : decode cL_act 431 = .ok (.ifCond .ne 7, 3) := by decide +kernel
theorem dL_act_434 : decode cL_act 434 = .ok (.iconst 0, 1) := by decide +kernel
theorem dL_act_435 : decode cL_act 435 = .ok (.goto 9, 3) := by decide +kernel
theorem dL_act_438 : decode cL_act 438 = .ok (.iload_n 2, 1) := by decide +kernel
theorem dL_act_439 : decode cL_act 439 = .ok (.iconst 3, 1) := by decide +kernel
theorem dL_act_440 : decode cL_act 440 = .ok (.idiv, 1) := by decide +kernel
theorem dL_act_441 : decode cL_act 441 = .ok (.iload 4, 2) := by decide +kernel
theorem dL_act_443 : decode cL_act 443 = .ok (.irem, 1) := by decide +kernel
theorem dL_act_444 : decode cL_act 444 = .ok (.invokestatic 221, 3) := by decide +kernel
theorem dL_act_447 : decode cL_act 447 = .ok (.goto 36, 3) := by decide +kernel
theorem dL_act_450 : decode cL_act 450 = .ok (.aload_n 0, 1) := by decide +kernel
theorem dL_act_451 : decode cL_act 451 = .ok (.iload 4, 2) := by decide +kernel
theorem dL_act_453 : decode cL_act 453 = .ok (.iload 4, 2) := by decide +kernel
theorem dL_act_455 : decode cL_act 455 = .ok (.ifCond .ne 7, 3) := by decide +kernel
theorem dL_act_458 : decode cL_act 458 = .ok (.iconst 0, 1) := by decide +kernel
theorem dL_act_459 : decode cL_act 459 = .ok (.goto 9, 3) := by decide +kernel
theorem dL_act_462 : decode cL_act 462 = .ok (.iload_n 2, 1) := by decide +kernel
theorem dL_act_463 : decode cL_act 463 = .ok (.iconst 3, 1) := by decide +kernel
theorem dL_act_464 : decode cL_act 464 = .ok (.idiv, 1) := by decide +kernel
theorem dL_act_465 : decode cL_act 465 = .ok (.iload 4, 2) := by decide +kernel
theorem dL_act_467 : decode cL_act 467 = .ok (.irem, 1) := by decide +kernel
theorem dL_act_468 : decode cL_act 468 = .ok (.iload_n 2, 1) := by decide +kernel
theorem dL_act_469 : decode cL_act 469 = .ok (.bipush 7, 2) := by decide +kernel
theorem dL_act_471 : decode cL_act 471 = .ok (.idiv, 1) := by decide +kernel
theorem dL_act_472 : decode cL_act 472 = .ok (.iconst 3, 1) := by decide +kernel
theorem dL_act_473 : decode cL_act 473 = .ok (.irem, 1) := by decide +kernel
theorem dL_act_474 : decode cL_act 474 = .ok (.iload_n 2, 1) := by decide +kernel
theorem dL_act_475 : decode cL_act 475 = .ok (.bipush 21, 2) := by decide +kernel
theorem dL_act_477 : decode cL_act 477 = .ok (.idiv, 1) := by decide +kernel
theorem dL_act_478 : decode cL_act 478 = .ok (.iconst 4, 1) := by decide +kernel
theorem dL_act_479 : decode cL_act 479 = .ok (.irem, 1) := by decide +kernel
theorem dL_act_480 : decode cL_act 480 = .ok (.invokestatic 231, 3) := by decide +kernel
theorem dL_act_483 : decode cL_act 483 = .ok (.ireturn, 1) := by decide +kernel
theorem dL_act_484 : decode cL_act 484 = .ok (.iload_n 2, 1) := by decide +kernel
theorem dL_act_485 : decode cL_act 485 = .ok (.iconst 3, 1) := by decide +kernel
theorem dL_act_486 : decode cL_act 486 = .ok (.irem, 1) := by decide +kernel
theorem dL_act_487 : decode cL_act 487 = .ok (.ifCond .ne 21, 3) := by decide +kernel
theorem dL_act_490 : decode cL_act 490 = .ok (.aload_n 0, 1) := by decide +kernel
theorem dL_act_491 : decode cL_act 491 = .ok (.iload_n 2, 1) := by decide +kernel
theorem dL_act_492 : decode cL_act 492 = .ok (.iconst 3, 1) := by decide +kernel
theorem dL_act_493 : decode cL_act 493 = .ok (.idiv, 1) := by decide +kernel
theorem dL_act_494 : decode cL_act 494 = .ok (.iconst 3, 1) := by decide +kernel
theorem dL_act_495 : decode cL_act 495 = .ok (.irem, 1) := by decide +kernel
theorem dL_act_496 : decode cL_act 496 = .ok (.iload_n 2, 1) := by decide +kernel
theorem dL_act_497 : decode cL_act 497 = .ok (.bipush 9, 2) := by decide +kernel
theorem dL_act_499 : decode cL_act 499 = .ok (.idiv, 1) := by decide +kernel
theorem dL_act_500 : decode cL_act 500 = .ok (.iconst 4, 1) := by decide +kernel
theorem dL_act_501 : decode cL_act 501 = .ok (.irem, 1) := by decide +kernel
theorem dL_act_502 : decode cL_act 502 = .ok (.invokestatic 255, 3) := by decide +kernel
theorem dL_act_505 : decode cL_act 505 = .ok (.goto 69, 3) := by decide +kernel
theorem dL_act_508 : decode cL_act 508 = .ok (.iload_n 2, 1) := by decide +kernel
theorem dL_act_509 : decode cL_act 509 = .ok (.iconst 3, 1) := by decide +kernel
theorem dL_act_510 : decode cL_act 510 = .ok (.irem, 1) := by decide +kernel
theorem dL_act_511 : decode cL_act 511 = .ok (.iconst 1, 1) := by decide +kernel
theorem dL_act_512 : decode cL_act 512 = .ok (.if_icmp .ne 33, 3) := by decide +kernel
theorem dL_act_515 : decode cL_act 515 = .ok (.aload_n 0, 1) := by decide +kernel
theorem dL_act_516 : decode cL_act 516 = .ok (.iload_n 2, 1) := by decide +kernel
theorem dL_act_517 : decode cL_act 517 = .ok (.iconst 3, 1) := by decide +kernel
theorem dL_act_518 : decode cL_act 518 = .ok (.idiv, 1) := by decide +kernel
theorem dL_act_519 : decode cL_act 519 = .ok (.iconst 3, 1) := by decide +kernel
theorem dL_act_520 : decode cL_act 520 = .ok (.irem, 1) := by decide +kernel
theorem dL_act_521 : decode cL_act 521 = .ok (.iload_n 2, 1) := by decide +kernel
theorem dL_act_522 : decode cL_act 522 = .ok (.bipush 9, 2) := by decide +kernel
theorem dL_act_524 : decode cL_act 524 = .ok (.idiv, 1) := by decide +kernel
theorem dL_act_525 : decode cL_act 525 = .ok (.iconst 2, 1) := by decide +kernel
theorem dL_act_526 : decode cL_act 526 = .ok (.irem, 1) := by decide +kernel
theorem dL_act_527 : decode cL_act 527 = .ok (.iload_n 2, 1) := by decide +kernel
theorem dL_act_528 : decode cL_act 528 = .ok (.bipush 18, 2) := by decide +kernel
theorem dL_act_530 : decode cL_act 530 = .ok (.idiv, 1) := by decide +kernel
theorem dL_act_531 : decode cL_act 531 = .ok (.iconst 3, 1) := by decide +kernel
theorem dL_act_532 : decode cL_act 532 = .ok (.irem, 1) := by decide +kernel
theorem dL_act_533 : decode cL_act 533 = .ok (.iload_n 2, 1) := by decide +kernel
theorem dL_act_534 : decode cL_act 534 = .ok (.bipush 54, 2) := by decide +kernel
theorem dL_act_536 : decode cL_act 536 = .ok (.idiv, 1) := by decide +kernel
theorem dL_act_537 : decode cL_act 537 = .ok (.iconst 2, 1) := by decide +kernel
theorem dL_act_538 : decode cL_act 538 = .ok (.irem, 1) := by decide +kernel
theorem dL_act_539 : decode cL_act 539 = .ok (.invokestatic 257, 3) := by decide +kernel
theorem dL_act_542 : decode cL_act 542 = .ok (.goto 32, 3) := by decide +kernel
theorem dL_act_545 : decode cL_act 545 = .ok (.aload_n 0, 1) := by decide +kernel
theorem dL_act_546 : decode cL_act 546 = .ok (.iload_n 2, 1) := by decide +kernel
theorem dL_act_547 : decode cL_act 547 = .ok (.iconst 3, 1) := by decide +kernel
theorem dL_act_548 : decode cL_act 548 = .ok (.idiv, 1) := by decide +kernel
theorem dL_act_549 : decode cL_act 549 = .ok (.iconst 3, 1) := by decide +kernel
theorem dL_act_550 : decode cL_act 550 = .ok (.irem, 1) := by decide +kernel
theorem dL_act_551 : decode cL_act 551 = .ok (.iload_n 2, 1) := by decide +kernel
theorem dL_act_552 : decode cL_act 552 = .ok (.bipush 9, 2) := by decide +kernel
theorem dL_act_554 : decode cL_act 554 = .ok (.idiv, 1) := by decide +kernel
theorem dL_act_555 : decode cL_act 555 = .ok (.iconst 2, 1) := by decide +kernel
theorem dL_act_556 : decode cL_act 556 = .ok (.irem, 1) := by decide +kernel
theorem dL_act_557 : decode cL_act 557 = .ok (.iload_n 2, 1) := by decide +kernel
theorem dL_act_558 : decode cL_act 558 = .ok (.bipush 18, 2) := by decide +kernel
theorem dL_act_560 : decode cL_act 560 = .ok (.idiv, 1) := by decide +kernel
theorem dL_act_561 : decode cL_act 561 = .ok (.iconst 2, 1) := by decide +kernel
theorem dL_act_562 : decode cL_act 562 = .ok (.irem, 1) := by decide +kernel
theorem dL_act_563 : decode cL_act 563 = .ok (.ifCond .ne 7, 3) := by decide +kernel
theorem dL_act_566 : decode cL_act 566 = .ok (.iconst 1, 1) := by decide +kernel
theorem dL_act_567 : decode cL_act 567 = .ok (.goto 4, 3) := by decide +kernel
theorem dL_act_570 : decode cL_act 570 = .ok (.iconst 0, 1) := by decide +kernel
theorem dL_act_571 : decode cL_act 571 = .ok (.invokestatic 259, 3) := by decide +kernel
theorem dL_act_574 : decode cL_act 574 = .ok (.ireturn, 1) := by decide +kernel
theorem dL_act_575 : decode cL_act 575 = .ok (.iload_n 2, 1) := by decide +kernel
theorem dL_act_576 : decode cL_act 576 = .ok (.iconst 3, 1) := by decide +kernel
theorem dL_act_577 : decode cL_act 577 = .ok (.irem, 1) := by decide +kernel
theorem dL_act_578 : decode cL_act 578 = .ok (.ifCond .ne 29, 3) := by decide +kernel
theorem dL_act_581 : decode cL_act 581 = .ok (.aload_n 0, 1) := by decide +kernel
theorem dL_act_582 : decode cL_act 582 = .ok (.iload_n 2, 1) := by decide +kernel
theorem dL_act_583 : decode cL_act 583 = .ok (.iconst 3, 1) := by decide +kernel
theorem dL_act_584 : decode cL_act 584 = .ok (.idiv, 1) := by decide +kernel
theorem dL_act_585 : decode cL_act 585 = .ok (.iconst 3, 1) := by decide +kernel
theorem dL_act_586 : decode cL_act 586 = .ok (.irem, 1) := by decide +kernel
theorem dL_act_587 : decode cL_act 587 = .ok (.iload_n 2, 1) := by decide +kernel
theorem dL_act_588 : decode cL_act 588 = .ok (.bipush 9, 2) := by decide +kernel
theorem dL_act_590 : decode cL_act 590 = .ok (.idiv, 1) := by decide +kernel
theorem dL_act_591 : decode cL_act 591 = .ok (.iconst 2, 1) := by decide +kernel
theorem dL_act_592 : decode cL_act 592 = .ok (.irem, 1) := by decide +kernel
theorem dL_act_593 : decode cL_act 593 = .ok (.ifCond .ne 7, 3) := by decide +kernel
theorem dL_act_596 : decode cL_act 596 = .ok (.iconst 1, 1) := by decide +kernel
theorem dL_act_597 : decode cL_act 597 = .ok (.goto 4, 3) := by decide +kernel
theorem dL_act_600 : decode cL_act 600 = .ok (.iconst 0, 1) := by decide +kernel
theorem dL_act_601 : decode cL_act 601 = .ok (.invokestatic 262, 3) := by decide +kernel
theorem dL_act_604 : decode cL_act 604 = .ok (.goto 51, 3) := by decide +kernel
theorem dL_act_607 : decode cL_act 607 = .ok (.iload_n 2, 1) := by decide +kernel
theorem dL_act_608 : decode cL_act 608 = .ok (.iconst 3, 1) := by decide +kernel
theorem dL_act_609 : decode cL_act 609 = .ok (.irem, 1) := by decide +kernel
theorem dL_act_610 : decode cL_act 610 = .ok (.iconst 1, 1) := by decide +kernel
theorem dL_act_611 : decode cL_act 611 = .ok (.if_icmp .ne 27, 3) := by decide +kernel
theorem dL_act_614 : decode cL_act 614 = .ok (.aload_n 0, 1) := by decide +kernel
theorem dL_act_615 : decode cL_act 615 = .ok (.iload_n 2, 1) := by decide +kernel
theorem dL_act_616 : decode cL_act 616 = .ok (.iconst 3, 1) := by decide +kernel
theorem dL_act_617 : decode cL_act 617 = .ok (.idiv, 1) := by decide +kernel
theorem dL_act_618 : decode cL_act 618 = .ok (.iconst 3, 1) := by decide +kernel
theorem dL_act_619 : decode cL_act 619 = .ok (.irem, 1) := by decide +kernel
theorem dL_act_620 : decode cL_act 620 = .ok (.iload_n 2, 1) := by decide +kernel
theorem dL_act_621 : decode cL_act 621 = .ok (.bipush 9, 2) := by decide +kernel
theorem dL_act_623 : decode cL_act 623 = .ok (.idiv, 1) := by decide +kernel
theorem dL_act_624 : decode cL_act 624 = .ok (.iconst 4, 1) := by decide +kernel
theorem dL_act_625 : decode cL_act 625 = .ok (.irem, 1) := by decide +kernel
theorem dL_act_626 : decode cL_act 626 = .ok (.iload_n 2, 1) := by decide +kernel
theorem dL_act_627 : decode cL_act 627 = .ok (.bipush 36, 2) := by decide +kernel
theorem dL_act_629 : decode cL_act 629 = .ok (.idiv, 1) := by decide +kernel
theorem dL_act_630 : decode cL_act 630 = .ok (.iconst 3, 1) := by decide +kernel
theorem dL_act_631 : decode cL_act 631 = .ok (.irem, 1) := by decide +kernel
theorem dL_act_632 : decode cL_act 632 = .ok (.invokestatic 266, 3) := by decide +kernel
theorem dL_act_635 : decode cL_act 635 = .ok (.goto 20, 3) := by decide +kernel
theorem dL_act_638 : decode cL_act 638 = .ok (.aload_n 0, 1) := by decide +kernel
theorem dL_act_639 : decode cL_act 639 = .ok (.iload_n 2, 1) := by decide +kernel
theorem dL_act_640 : decode cL_act 640 = .ok (.iconst 3, 1) := by decide +kernel
theorem dL_act_641 : decode cL_act 641 = .ok (.idiv, 1) := by decide +kernel
theorem dL_act_642 : decode cL_act 642 = .ok (.iconst 2, 1) := by decide +kernel
theorem dL_act_643 : decode cL_act 643 = .ok (.irem, 1) := by decide +kernel
theorem dL_act_644 : decode cL_act 644 = .ok (.ifCond .ne 7, 3) := by decide +kernel
theorem dL_act_647 : decode cL_act 647 = .ok (.iconst 1, 1) := by decide +kernel
theorem dL_act_648 : decode cL_act 648 = .ok (.goto 4, 3) := by decide +kernel
theorem dL_act_651 : decode cL_act 651 = .ok (.iconst 0, 1) := by decide +kernel
theorem dL_act_652 : decode cL_act 652 = .ok (.invokestatic 287, 3) := by decide +kernel
theorem dL_act_655 : decode cL_act 655 = .ok (.ireturn, 1) := by decide +kernel
theorem dL_act_656 : decode cL_act 656 = .ok (.aload_n 0, 1) := by decide +kernel
theorem dL_act_657 : decode cL_act 657 = .ok (.iload 5, 2) := by decide +kernel
theorem dL_act_659 : decode cL_act 659 = .ok (.invokestatic 269, 3) := by decide +kernel
theorem dL_act_662 : decode cL_act 662 = .ok (.ireturn, 1) := by decide +kernel
theorem dL_act_663 : decode cL_act 663 = .ok (.aload_n 0, 1) := by decide +kernel
theorem dL_act_664 : decode cL_act 664 = .ok (.iload_n 2, 1) := by decide +kernel
theorem dL_act_665 : decode cL_act 665 = .ok (.iload 4, 2) := by decide +kernel
theorem dL_act_667 : decode cL_act 667 = .ok (.iconst 1, 1) := by decide +kernel
theorem dL_act_668 : decode cL_act 668 = .ok (.iadd, 1) := by decide +kernel
theorem dL_act_669 : decode cL_act 669 = .ok (.irem, 1) := by decide +kernel
theorem dL_act_670 : decode cL_act 670 = .ok (.invokestatic 247, 3) := by decide +kernel
theorem dL_act_673 : decode cL_act 673 = .ok (.ireturn, 1) := by decide +kernel
theorem dL_act_674 : decode cL_act 674 = .ok (.iload_n 2, 1) := by decide +kernel
theorem dL_act_675 : decode cL_act 675 = .ok (.iconst 2, 1) := by decide +kernel
theorem dL_act_676 : decode cL_act 676 = .ok (.irem, 1) := by decide +kernel
theorem dL_act_677 : decode cL_act 677 = .ok (.ifCond .ne 10, 3) := by decide +kernel
theorem dL_act_680 : decode cL_act 680 = .ok (.aload_n 0, 1) := by decide +kernel
theorem dL_act_681 : decode cL_act 681 = .ok (.invokestatic 291, 3) := by decide +kernel
theorem dL_act_684 : decode cL_act 684 = .ok (.goto 12, 3) := by decide +kernel
theorem dL_act_687 : decode cL_act 687 = .ok (.aload_n 0, 1) := by decide +kernel
theorem dL_act_688 : decode cL_act 688 = .ok (.iload_n 2, 1) := by decide +kernel
theorem dL_act_689 : decode cL_act 689 = .ok (.iconst 2, 1) := by decide +kernel
theorem dL_act_690 : decode cL_act 690 = .ok (.idiv, 1) := by decide +kernel
theorem dL_act_691 : decode cL_act 691 = .ok (.iconst 3, 1) := by decide +kernel
theorem dL_act_692 : decode cL_act 692 = .ok (.irem, 1) := by decide +kernel
theorem dL_act_693 : decode cL_act 693 = .ok (.invokestatic 273, 3) := by decide +kernel
theorem dL_act_696 : decode cL_act 696 = .ok (.ireturn, 1) := by decide +kernel
theorem dL_act_697 : decode cL_act 697 = .ok (.iload_n 2, 1) := by decide +kernel
theorem dL_act_698 : decode cL_act 698 = .ok (.iconst 2, 1) := by decide +kernel
theorem dL_act_699 : decode cL_act 699 = .ok (.irem, 1) := by decide +kernel
theorem dL_act_700 : decode cL_act 700 = .ok (.ifCond .ne 18, 3) := by decide +kernel
theorem dL_act_703 : decode cL_act 703 = .ok (.aload_n 0, 1) := by decide +kernel
theorem dL_act_704 : decode cL_act 704 = .ok (.iload_n 2, 1) := by decide +kernel
theorem dL_act_705 : decode cL_act 705 = .ok (.iconst 2, 1) := by decide +kernel
theorem dL_act_706 : decode cL_act 706 = .ok (.idiv, 1) := by decide +kernel
theorem dL_act_707 : decode cL_act 707 = .ok (.iload 4, 2) := by decide +kernel
theorem dL_act_709 : decode cL_act 709 = .ok (.iconst 1, 1) := by decide +kernel
theorem dL_act_710 : decode cL_act 710 = .ok (.iadd, 1) := by decide +kernel
theorem dL_act_711 : decode cL_act 711 = .ok (.irem, 1) := by decide +kernel
theorem dL_act_712 : decode cL_act 712 = .ok (.invokestatic 249, 3) := by decide +kernel
theorem dL_act_715 : decode cL_act 715 = .ok (.goto 28, 3) := by decide +kernel
theorem dL_act_718 : decode cL_act 718 = .ok (.aload_n 0, 1) := by decide +kernel
theorem dL_act_719 : decode cL_act 719 = .ok (.iload_n 2, 1) := by decide +kernel
theorem dL_act_720 : decode cL_act 720 = .ok (.iconst 2, 1) := by decide +kernel
theorem dL_act_721 : decode cL_act 721 = .ok (.idiv, 1) := by decide +kernel
theorem dL_act_722 : decode cL_act 722 = .ok (.iconst 3, 1) := by decide +kernel
theorem dL_act_723 : decode cL_act 723 = .ok (.irem, 1) := by decide +kernel
theorem dL_act_724 : decode cL_act 724 = .ok (.ifCond .ne 7, 3) := by decide +kernel
theorem dL_act_727 : decode cL_act 727 = .ok (.iconst 1, 1) := by decide +kernel
theorem dL_act_728 : decode cL_act 728 = .ok (.goto 4, 3) := by decide +kernel
theorem dL_act_731 : decode cL_act 731 = .ok (.iconst 0, 1) := by decide +kernel
theorem dL_act_732 : decode cL_act 732 = .ok (.invokevirtual 293, 3) := by decide +kernel
theorem dL_act_735 : decode cL_act 735 = .ok (.ifCond .eq 7, 3) := by decide +kernel
theorem dL_act_738 : decode cL_act 738 = .ok (.iconst 1, 1) := by decide +kernel
theorem dL_act_739 : decode cL_act 739 = .ok (.goto 4, 3) := by decide +kernel
theorem dL_act_742 : decode cL_act 742 = .ok (.iconst 0, 1) := by decide +kernel
theorem dL_act_743 : decode cL_act 743 = .ok (.ireturn, 1) := by decide +kernel
theorem tk_kb_24 : (Int8.ofInt (24)).toInt32 = (24 : Int32) := by decide +kernel
theorem tk_ks_183 : (Int16.ofInt (183)).toInt32 = (183 : Int32) := by decide +kernel
theorem tk_RL_178 : Cond.methodLink RL 178 yL_element ∈ tq_G := tq_g (i := 584) (by decide +kernel) rfl
theorem tk_w_L_element : Cond.codeWith yL_element cL_element 5 (some .int) [(0, 7, 8, 13), (0, 7, 13, 16), (0, 7, 18, 19)] ∈ tq_G ∧ Cond.initialized yL_element.cls ∈ tq_G ∧ (yL_element.cls ≠ "java/lang/invoke/MethodHandle" ∧ yL_element.cls ≠ "java/lang/invoke/VarHandle") ∧ (parseMethodDescriptor yL_element.desc).map (fun q => q.parameters.length) = some 4 ∧ 5 ≤ 19 := ⟨tq_g (i := 586) (by decide +kernel) rfl, tq_g (i := 52) (by decide +kernel) rfl, ⟨by decide +kernel, by decide +kernel⟩, by decide +kernel, by decide⟩
theorem tk_s_L_element : Cond.static yL_element ∈ tq_G := tq_g (i := 585) (by decide +kernel) rfl
theorem tk_RL_184 : Cond.methodLink RL 184 yL_text ∈ tq_G := tq_g (i := 1071) (by decide +kernel) rfl
theorem tk_w_L_text : Cond.codeWith yL_text cL_text 5 (some .int) [(0, 7, 8, 13), (0, 7, 13, 16), (0, 7, 18, 19)] ∈ tq_G ∧ Cond.initialized yL_text.cls ∈ tq_G ∧ (yL_text.cls ≠ "java/lang/invoke/MethodHandle" ∧ yL_text.cls ≠ "java/lang/invoke/VarHandle") ∧ (parseMethodDescriptor yL_text.desc).map (fun q => q.parameters.length) = some 4 ∧ 5 ≤ 19 := ⟨tq_g (i := 1073) (by decide +kernel) rfl, tq_g (i := 52) (by decide +kernel) rfl, ⟨by decide +kernel, by decide +kernel⟩, by decide +kernel, by decide⟩
theorem tk_s_L_text : Cond.static yL_text ∈ tq_G := tq_g (i := 1072) (by decide +kernel) rfl
theorem tk_ks_244 : (Int16.ofInt (244)).toInt32 = (244 : Int32) := by decide +kernel
theorem tk_RL_187 : Cond.methodLink RL 187 yL_attribute ∈ tq_G := tq_g (i := 1078) (by decide +kernel) rfl
theorem tk_w_L_attribute : Cond.codeWith yL_attribute cL_attribute 5 (some .int) [(0, 7, 8, 13), (0, 7, 13, 16), (0, 7, 18, 19)] ∈ tq_G ∧ Cond.initialized yL_attribute.cls ∈ tq_G ∧ (yL_attribute.cls ≠ "java/lang/invoke/MethodHandle" ∧ yL_attribute.cls ≠ "java/lang/invoke/VarHandle") ∧ (parseMethodDescriptor yL_attribute.desc).map (fun q => q.parameters.length) = some 4 ∧ 5 ≤ 19 := ⟨tq_g (i := 1080) (by decide +kernel) rfl, tq_g (i := 52) (by decide +kernel) rfl, ⟨by decide +kernel, by decide +kernel⟩, by decide +kernel, by decide⟩
theorem tk_s_L_attribute : Cond.static yL_attribute ∈ tq_G := tq_g (i := 1079) (by decide +kernel) rfl
theorem tk_RL_189 : Cond.methodLink RL 189 yL_rename ∈ tq_G := tq_g (i := 1085) (by decide +kernel) rfl
theorem tk_w_L_rename : Cond.codeWith yL_rename cL_rename 4 (some .int) [(0, 6, 7, 13), (0, 6, 11, 16), (0, 6, 15, 19)] ∈ tq_G ∧ Cond.initialized yL_rename.cls ∈ tq_G ∧ (yL_rename.cls ≠ "java/lang/invoke/MethodHandle" ∧ yL_rename.cls ≠ "java/lang/invoke/VarHandle") ∧ (parseMethodDescriptor yL_rename.desc).map (fun q => q.parameters.length) = some 3 ∧ 4 ≤ 19 := ⟨tq_g (i := 1087) (by decide +kernel) rfl, tq_g (i := 52) (by decide +kernel) rfl, ⟨by decide +kernel, by decide +kernel⟩, by decide +kernel, by decide⟩
theorem tk_s_L_rename : Cond.static yL_rename ∈ tq_G := tq_g (i := 1086) (by decide +kernel) rfl
theorem tk_RL_194 : Cond.methodLink RL 194 yL_remove ∈ tq_G := tq_g (i := 1104) (by decide +kernel) rfl
theorem tk_w_L_remove : Cond.codeWith yL_remove cL_remove 3 (some .int) [(0, 5, 6, 13), (0, 5, 10, 19)] ∈ tq_G ∧ Cond.initialized yL_remove.cls ∈ tq_G ∧ (yL_remove.cls ≠ "java/lang/invoke/MethodHandle" ∧ yL_remove.cls ≠ "java/lang/invoke/VarHandle") ∧ (parseMethodDescriptor yL_remove.desc).map (fun q => q.parameters.length) = some 2 ∧ 3 ≤ 19 := ⟨tq_g (i := 1106) (by decide +kernel) rfl, tq_g (i := 52) (by decide +kernel) rfl, ⟨by decide +kernel, by decide +kernel⟩, by decide +kernel, by decide⟩
theorem tk_s_L_remove : Cond.static yL_remove ∈ tq_G := tq_g (i := 1105) (by decide +kernel) rfl
theorem tk_RL_192 : Cond.methodLink RL 192 yL_declare ∈ tq_G := tq_g (i := 1097) (by decide +kernel) rfl
theorem tk_w_L_declare : Cond.codeWith yL_declare cL_declare 4 (some .int) [(0, 6, 7, 13), (0, 6, 11, 16), (0, 6, 15, 19)] ∈ tq_G ∧ Cond.initialized yL_declare.cls ∈ tq_G ∧ (yL_declare.cls ≠ "java/lang/invoke/MethodHandle" ∧ yL_declare.cls ≠ "java/lang/invoke/VarHandle") ∧ (parseMethodDescriptor yL_declare.desc).map (fun q => q.parameters.length) = some 3 ∧ 4 ≤ 19 := ⟨tq_g (i := 1099) (by decide +kernel) rfl, tq_g (i := 52) (by decide +kernel) rfl, ⟨by decide +kernel, by decide +kernel⟩, by decide +kernel, by decide⟩
theorem tk_s_L_declare : Cond.static yL_declare ∈ tq_G := tq_g (i := 1098) (by decide +kernel) rfl
theorem tk_RL_197 : Cond.methodLink RL 197 yL_revalue ∈ tq_G := tq_g (i := 1112) (by decide +kernel) rfl
theorem tk_w_L_revalue : Cond.codeWith yL_revalue cL_revalue 4 (some .int) [(0, 6, 7, 13), (0, 6, 11, 16), (0, 6, 15, 19)] ∈ tq_G ∧ Cond.initialized yL_revalue.cls ∈ tq_G ∧ (yL_revalue.cls ≠ "java/lang/invoke/MethodHandle" ∧ yL_revalue.cls ≠ "java/lang/invoke/VarHandle") ∧ (parseMethodDescriptor yL_revalue.desc).map (fun q => q.parameters.length) = some 3 ∧ 4 ≤ 19 := ⟨tq_g (i := 1114) (by decide +kernel) rfl, tq_g (i := 52) (by decide +kernel) rfl, ⟨by decide +kernel, by decide +kernel⟩, by decide +kernel, by decide⟩
theorem tk_s_L_revalue : Cond.static yL_revalue ∈ tq_G := tq_g (i := 1113) (by decide +kernel) rfl
theorem tk_RL_200 : Cond.methodLink RL 200 yL_move ∈ tq_G := tq_g (i := 1120) (by decide +kernel) rfl
theorem tk_w_L_move : Cond.codeWith yL_move cL_move 5 (some .int) [(0, 7, 8, 13), (0, 7, 13, 19)] ∈ tq_G ∧ Cond.initialized yL_move.cls ∈ tq_G ∧ (yL_move.cls ≠ "java/lang/invoke/MethodHandle" ∧ yL_move.cls ≠ "java/lang/invoke/VarHandle") ∧ (parseMethodDescriptor yL_move.desc).map (fun q => q.parameters.length) = some 4 ∧ 5 ≤ 19 := ⟨tq_g (i := 1122) (by decide +kernel) rfl, tq_g (i := 52) (by decide +kernel) rfl, ⟨by decide +kernel, by decide +kernel⟩, by decide +kernel, by decide⟩
theorem tk_s_L_move : Cond.static yL_move ∈ tq_G := tq_g (i := 1121) (by decide +kernel) rfl
theorem tk_RL_279 : Cond.methodLink RL 279 yL_apply ∈ tq_G := tq_g (i := 1578) (by decide +kernel) rfl
theorem tk_kb_m9 : (Int8.ofInt (-9)).toInt32 = (-9 : Int32) := by decide +kernel
theorem tk_RL_282 : Cond.methodLink RL 282 yX10_forget ∈ tq_G := tq_g (i := 571) (by decide +kernel) rfl
theorem tk_y_X10_forget : tq_yok yX10_forget cX10_forget 1 (some .int) 0 := ⟨tq_g (i := 574) (by decide +kernel) rfl, tq_g (i := 53) (by decide +kernel) rfl, ⟨by decide +kernel, by decide +kernel⟩, by decide +kernel, by decide⟩
theorem tk_v_X10_forget : tq_vok yX10_forget := ⟨tq_g (i := 572) (by decide +kernel) rfl, tq_g (i := 573) (by decide +kernel) rfl⟩
theorem tk_w_L_apply : Cond.codeWith yL_apply cL_apply 2 (some .int) [(0, 4, 5, 19)] ∈ tq_G ∧ Cond.initialized yL_apply.cls ∈ tq_G ∧ (yL_apply.cls ≠ "java/lang/invoke/MethodHandle" ∧ yL_apply.cls ≠ "java/lang/invoke/VarHandle") ∧ (parseMethodDescriptor yL_apply.desc).map (fun q => q.parameters.length) = some 1 ∧ 2 ≤ 19 := ⟨tq_g (i := 1580) (by decide +kernel) rfl, tq_g (i := 52) (by decide +kernel) rfl, ⟨by decide +kernel, by decide +kernel⟩, by decide +kernel, by decide⟩
theorem tk_s_L_apply : Cond.static yL_apply ∈ tq_G := tq_g (i := 1579) (by decide +kernel) rfl
theorem tk_RL_285 : Cond.methodLink RL 285 yL_path ∈ tq_G := tq_g (i := 1671) (by decide +kernel) rfl
theorem tk_w_L_path : Cond.codeWith yL_path cL_path 2 (some .int) [(0, 4, 5, 19)] ∈ tq_G ∧ Cond.initialized yL_path.cls ∈ tq_G ∧ (yL_path.cls ≠ "java/lang/invoke/MethodHandle" ∧ yL_path.cls ≠ "java/lang/invoke/VarHandle") ∧ (parseMethodDescriptor yL_path.desc).map (fun q => q.parameters.length) = some 1 ∧ 2 ≤ 19 := ⟨tq_g (i := 1673) (by decide +kernel) rfl, tq_g (i := 52) (by decide +kernel) rfl, ⟨by decide +kernel, by decide +kernel⟩, by decide +kernel, by decide⟩
theorem tk_s_L_path : Cond.static yL_path ∈ tq_G := tq_g (i := 1672) (by decide +kernel) rfl
theorem tk_RL_221 : Cond.methodLink RL 221 yL_step ∈ tq_G := tq_g (i := 1225) (by decide +kernel) rfl
theorem tk_w_L_step : Cond.codeWith yL_step cL_step 6 (some .int) [(0, 9, 10, 13), (0, 9, 15, 16), (0, 9, 20, 19)] ∈ tq_G ∧ Cond.initialized yL_step.cls ∈ tq_G ∧ (yL_step.cls ≠ "java/lang/invoke/MethodHandle" ∧ yL_step.cls ≠ "java/lang/invoke/VarHandle") ∧ (parseMethodDescriptor yL_step.desc).map (fun q => q.parameters.length) = some 5 ∧ 6 ≤ 19 := ⟨tq_g (i := 1227) (by decide +kernel) rfl, tq_g (i := 52) (by decide +kernel) rfl, ⟨by decide +kernel, by decide +kernel⟩, by decide +kernel, by decide⟩
theorem tk_s_L_step : Cond.static yL_step ∈ tq_G := tq_g (i := 1226) (by decide +kernel) rfl
theorem tk_kb_97 : (Int8.ofInt (97)).toInt32 = (97 : Int32) := by decide +kernel
theorem tk_RL_228 : Cond.methodLink RL 228 yL_has ∈ tq_G := tq_g (i := 1295) (by decide +kernel) rfl
theorem tk_w_L_has : Cond.codeWith yL_has cL_has 5 (some .int) [(0, 7, 8, 13), (0, 7, 13, 19)] ∈ tq_G ∧ Cond.initialized yL_has.cls ∈ tq_G ∧ (yL_has.cls ≠ "java/lang/invoke/MethodHandle" ∧ yL_has.cls ≠ "java/lang/invoke/VarHandle") ∧ (parseMethodDescriptor yL_has.desc).map (fun q => q.parameters.length) = some 4 ∧ 5 ≤ 19 := ⟨tq_g (i := 1297) (by decide +kernel) rfl, tq_g (i := 52) (by decide +kernel) rfl, ⟨by decide +kernel, by decide +kernel⟩, by decide +kernel, by decide⟩
theorem tk_s_L_has : Cond.static yL_has ∈ tq_G := tq_g (i := 1296) (by decide +kernel) rfl
theorem tk_RL_224 : Cond.methodLink RL 224 yL_place ∈ tq_G := tq_g (i := 1266) (by decide +kernel) rfl
theorem tk_w_L_place : Cond.codeWith yL_place cL_place 5 (some .int) [(0, 7, 8, 13), (0, 7, 13, 16), (0, 7, 18, 19)] ∈ tq_G ∧ Cond.initialized yL_place.cls ∈ tq_G ∧ (yL_place.cls ≠ "java/lang/invoke/MethodHandle" ∧ yL_place.cls ≠ "java/lang/invoke/VarHandle") ∧ (parseMethodDescriptor yL_place.desc).map (fun q => q.parameters.length) = some 4 ∧ 5 ≤ 19 := ⟨tq_g (i := 1268) (by decide +kernel) rfl, tq_g (i := 52) (by decide +kernel) rfl, ⟨by decide +kernel, by decide +kernel⟩, by decide +kernel, by decide⟩
theorem tk_s_L_place : Cond.static yL_place ∈ tq_G := tq_g (i := 1267) (by decide +kernel) rfl
theorem tk_kb_21 : (Int8.ofInt (21)).toInt32 = (21 : Int32) := by decide +kernel
theorem tk_RL_231 : Cond.methodLink RL 231 yL_worth ∈ tq_G := tq_g (i := 1302) (by decide +kernel) rfl
theorem tk_w_L_worth : Cond.codeWith yL_worth cL_worth 6 (some .int) [(0, 9, 10, 13), (0, 9, 15, 16), (0, 9, 20, 19)] ∈ tq_G ∧ Cond.initialized yL_worth.cls ∈ tq_G ∧ (yL_worth.cls ≠ "java/lang/invoke/MethodHandle" ∧ yL_worth.cls ≠ "java/lang/invoke/VarHandle") ∧ (parseMethodDescriptor yL_worth.desc).map (fun q => q.parameters.length) = some 5 ∧ 6 ≤ 19 := ⟨tq_g (i := 1304) (by decide +kernel) rfl, tq_g (i := 52) (by decide +kernel) rfl, ⟨by decide +kernel, by decide +kernel⟩, by decide +kernel, by decide⟩
theorem tk_s_L_worth : Cond.static yL_worth ∈ tq_G := tq_g (i := 1303) (by decide +kernel) rfl
theorem tk_RL_226 : Cond.methodLink RL 226 yL_last ∈ tq_G := tq_g (i := 1288) (by decide +kernel) rfl
theorem tk_w_L_last : Cond.codeWith yL_last cL_last 3 (some .int) [(0, 5, 6, 13), (0, 5, 10, 19)] ∈ tq_G ∧ Cond.initialized yL_last.cls ∈ tq_G ∧ (yL_last.cls ≠ "java/lang/invoke/MethodHandle" ∧ yL_last.cls ≠ "java/lang/invoke/VarHandle") ∧ (parseMethodDescriptor yL_last.desc).map (fun q => q.parameters.length) = some 2 ∧ 3 ≤ 19 := ⟨tq_g (i := 1290) (by decide +kernel) rfl, tq_g (i := 52) (by decide +kernel) rfl, ⟨by decide +kernel, by decide +kernel⟩, by decide +kernel, by decide⟩
theorem tk_s_L_last : Cond.static yL_last ∈ tq_G := tq_g (i := 1289) (by decide +kernel) rfl
theorem tk_kb_18 : (Int8.ofInt (18)).toInt32 = (18 : Int32) := by decide +kernel
theorem tk_RL_259 : Cond.methodLink RL 259 yL_fin ∈ tq_G := tq_g (i := 1506) (by decide +kernel) rfl
theorem tk_w_L_fin : Cond.codeWith yL_fin cL_fin 5 (some .int) [(0, 15, 16, 13), (0, 15, 21, 19)] ∈ tq_G ∧ Cond.initialized yL_fin.cls ∈ tq_G ∧ (yL_fin.cls ≠ "java/lang/invoke/MethodHandle" ∧ yL_fin.cls ≠ "java/lang/invoke/VarHandle") ∧ (parseMethodDescriptor yL_fin.desc).map (fun q => q.parameters.length) = some 4 ∧ 5 ≤ 19 := ⟨tq_g (i := 1508) (by decide +kernel) rfl, tq_g (i := 52) (by decide +kernel) rfl, ⟨by decide +kernel, by decide +kernel⟩, by decide +kernel, by decide⟩
theorem tk_s_L_fin : Cond.static yL_fin ∈ tq_G := tq_g (i := 1507) (by decide +kernel) rfl
theorem tk_kb_54 : (Int8.ofInt (54)).toInt32 = (54 : Int32) := by decide +kernel
theorem tk_RL_257 : Cond.methodLink RL 257 yL_arc ∈ tq_G := tq_g (i := 1495) (by decide +kernel) rfl
theorem tk_w_L_arc : Cond.codeWith yL_arc cL_arc 6 (some .int) [(0, 17, 18, 13), (0, 17, 23, 19)] ∈ tq_G ∧ Cond.initialized yL_arc.cls ∈ tq_G ∧ (yL_arc.cls ≠ "java/lang/invoke/MethodHandle" ∧ yL_arc.cls ≠ "java/lang/invoke/VarHandle") ∧ (parseMethodDescriptor yL_arc.desc).map (fun q => q.parameters.length) = some 5 ∧ 6 ≤ 19 := ⟨tq_g (i := 1497) (by decide +kernel) rfl, tq_g (i := 52) (by decide +kernel) rfl, ⟨by decide +kernel, by decide +kernel⟩, by decide +kernel, by decide⟩
theorem tk_s_L_arc : Cond.static yL_arc ∈ tq_G := tq_g (i := 1496) (by decide +kernel) rfl
theorem tk_RL_255 : Cond.methodLink RL 255 yL_nameType ∈ tq_G := tq_g (i := 1479) (by decide +kernel) rfl
theorem tk_w_L_nameType : Cond.codeWith yL_nameType cL_nameType 4 (some .int) [(0, 6, 7, 13), (0, 6, 11, 16), (0, 6, 15, 19)] ∈ tq_G ∧ Cond.initialized yL_nameType.cls ∈ tq_G ∧ (yL_nameType.cls ≠ "java/lang/invoke/MethodHandle" ∧ yL_nameType.cls ≠ "java/lang/invoke/VarHandle") ∧ (parseMethodDescriptor yL_nameType.desc).map (fun q => q.parameters.length) = some 3 ∧ 4 ≤ 19 := ⟨tq_g (i := 1481) (by decide +kernel) rfl, tq_g (i := 52) (by decide +kernel) rfl, ⟨by decide +kernel, by decide +kernel⟩, by decide +kernel, by decide⟩
theorem tk_s_L_nameType : Cond.static yL_nameType ∈ tq_G := tq_g (i := 1480) (by decide +kernel) rfl
theorem tk_RL_287 : Cond.methodLink RL 287 yL_strict ∈ tq_G := tq_g (i := 1683) (by decide +kernel) rfl
theorem tk_w_L_strict : Cond.codeWith yL_strict cL_strict 3 (some .int) [(0, 13, 14, 19)] ∈ tq_G ∧ Cond.initialized yL_strict.cls ∈ tq_G ∧ (yL_strict.cls ≠ "java/lang/invoke/MethodHandle" ∧ yL_strict.cls ≠ "java/lang/invoke/VarHandle") ∧ (parseMethodDescriptor yL_strict.desc).map (fun q => q.parameters.length) = some 2 ∧ 3 ≤ 19 := ⟨tq_g (i := 1685) (by decide +kernel) rfl, tq_g (i := 52) (by decide +kernel) rfl, ⟨by decide +kernel, by decide +kernel⟩, by decide +kernel, by decide⟩
theorem tk_s_L_strict : Cond.static yL_strict ∈ tq_G := tq_g (i := 1684) (by decide +kernel) rfl
theorem tk_RL_266 : Cond.methodLink RL 266 yL_says ∈ tq_G := tq_g (i := 1528) (by decide +kernel) rfl
theorem tk_w_L_says : Cond.codeWith yL_says cL_says 5 (some .int) [(0, 7, 8, 13), (0, 7, 13, 16), (0, 7, 18, 19)] ∈ tq_G ∧ Cond.initialized yL_says.cls ∈ tq_G ∧ (yL_says.cls ≠ "java/lang/invoke/MethodHandle" ∧ yL_says.cls ≠ "java/lang/invoke/VarHandle") ∧ (parseMethodDescriptor yL_says.desc).map (fun q => q.parameters.length) = some 4 ∧ 5 ≤ 19 := ⟨tq_g (i := 1530) (by decide +kernel) rfl, tq_g (i := 52) (by decide +kernel) rfl, ⟨by decide +kernel, by decide +kernel⟩, by decide +kernel, by decide⟩
theorem tk_s_L_says : Cond.static yL_says ∈ tq_G := tq_g (i := 1529) (by decide +kernel) rfl
theorem tk_RL_262 : Cond.methodLink RL 262 yL_texts ∈ tq_G := tq_g (i := 1517) (by decide +kernel) rfl
theorem tk_w_L_texts : Cond.codeWith yL_texts cL_texts 4 (some .int) [(0, 14, 15, 13), (0, 14, 19, 19)] ∈ tq_G ∧ Cond.initialized yL_texts.cls ∈ tq_G ∧ (yL_texts.cls ≠ "java/lang/invoke/MethodHandle" ∧ yL_texts.cls ≠ "java/lang/invoke/VarHandle") ∧ (parseMethodDescriptor yL_texts.desc).map (fun q => q.parameters.length) = some 3 ∧ 4 ≤ 19 := ⟨tq_g (i := 1519) (by decide +kernel) rfl, tq_g (i := 52) (by decide +kernel) rfl, ⟨by decide +kernel, by decide +kernel⟩, by decide +kernel, by decide⟩
theorem tk_s_L_texts : Cond.static yL_texts ∈ tq_G := tq_g (i := 1518) (by decide +kernel) rfl
theorem tk_RL_269 : Cond.methodLink RL 269 yL_index ∈ tq_G := tq_g (i := 1539) (by decide +kernel) rfl
theorem tk_w_L_index : Cond.codeWith yL_index cL_index 3 (some .int) [(0, 13, 14, 16)] ∈ tq_G ∧ Cond.initialized yL_index.cls ∈ tq_G ∧ (yL_index.cls ≠ "java/lang/invoke/MethodHandle" ∧ yL_index.cls ≠ "java/lang/invoke/VarHandle") ∧ (parseMethodDescriptor yL_index.desc).map (fun q => q.parameters.length) = some 2 ∧ 3 ≤ 19 := ⟨tq_g (i := 1541) (by decide +kernel) rfl, tq_g (i := 52) (by decide +kernel) rfl, ⟨by decide +kernel, by decide +kernel⟩, by decide +kernel, by decide⟩
theorem tk_s_L_index : Cond.static yL_index ∈ tq_G := tq_g (i := 1540) (by decide +kernel) rfl
theorem tk_RL_247 : Cond.methodLink RL 247 yL_view ∈ tq_G := tq_g (i := 1444) (by decide +kernel) rfl
theorem tk_w_L_view : Cond.codeWith yL_view cL_view 3 (some .int) [(0, 5, 6, 13), (0, 5, 10, 19)] ∈ tq_G ∧ Cond.initialized yL_view.cls ∈ tq_G ∧ (yL_view.cls ≠ "java/lang/invoke/MethodHandle" ∧ yL_view.cls ≠ "java/lang/invoke/VarHandle") ∧ (parseMethodDescriptor yL_view.desc).map (fun q => q.parameters.length) = some 2 ∧ 3 ≤ 19 := ⟨tq_g (i := 1446) (by decide +kernel) rfl, tq_g (i := 52) (by decide +kernel) rfl, ⟨by decide +kernel, by decide +kernel⟩, by decide +kernel, by decide⟩
theorem tk_s_L_view : Cond.static yL_view ∈ tq_G := tq_g (i := 1445) (by decide +kernel) rfl
theorem tk_RL_273 : Cond.methodLink RL 273 yL_take ∈ tq_G := tq_g (i := 770) (by decide +kernel) rfl
theorem tk_w_L_take : Cond.codeWith yL_take cL_take 3 (some .int) [(0, 5, 6, 13), (0, 5, 10, 19)] ∈ tq_G ∧ Cond.initialized yL_take.cls ∈ tq_G ∧ (yL_take.cls ≠ "java/lang/invoke/MethodHandle" ∧ yL_take.cls ≠ "java/lang/invoke/VarHandle") ∧ (parseMethodDescriptor yL_take.desc).map (fun q => q.parameters.length) = some 2 ∧ 3 ≤ 19 := ⟨tq_g (i := 772) (by decide +kernel) rfl, tq_g (i := 52) (by decide +kernel) rfl, ⟨by decide +kernel, by decide +kernel⟩, by decide +kernel, by decide⟩
theorem tk_s_L_take : Cond.static yL_take ∈ tq_G := tq_g (i := 771) (by decide +kernel) rfl
theorem tk_RL_291 : Cond.methodLink RL 291 yL_keep ∈ tq_G := tq_g (i := 742) (by decide +kernel) rfl
theorem tk_w_L_keep : Cond.codeWith yL_keep cL_keep 2 (some .int) [(0, 4, 5, 19)] ∈ tq_G ∧ Cond.initialized yL_keep.cls ∈ tq_G ∧ (yL_keep.cls ≠ "java/lang/invoke/MethodHandle" ∧ yL_keep.cls ≠ "java/lang/invoke/VarHandle") ∧ (parseMethodDescriptor yL_keep.desc).map (fun q => q.parameters.length) = some 1 ∧ 2 ≤ 19 := ⟨tq_g (i := 744) (by decide +kernel) rfl, tq_g (i := 52) (by decide +kernel) rfl, ⟨by decide +kernel, by decide +kernel⟩, by decide +kernel, by decide⟩
theorem tk_s_L_keep : Cond.static yL_keep ∈ tq_G := tq_g (i := 743) (by decide +kernel) rfl
theorem tk_RL_293 : Cond.methodLink RL 293 yX10_readAsReader ∈ tq_G := tq_g (i := 1695) (by decide +kernel) rfl
theorem tk_y_X10_readAsReader : tq_yok yX10_readAsReader cX10_readAsReader 3 (some .boolean) 1 := ⟨tq_g (i := 1698) (by decide +kernel) rfl, tq_g (i := 53) (by decide +kernel) rfl, ⟨by decide +kernel, by decide +kernel⟩, by decide +kernel, by decide⟩
theorem tk_v_X10_readAsReader : tq_vok yX10_readAsReader := ⟨tq_g (i := 1696) (by decide +kernel) rfl, tq_g (i := 1697) (by decide +kernel) rfl⟩
theorem tk_RL_249 : Cond.methodLink RL 249 yL_hide ∈ tq_G := tq_g (i := 1452) (by decide +kernel) rfl
theorem tk_w_L_hide : Cond.codeWith yL_hide cL_hide 3 (some .int) [(0, 13, 14, 13), (0, 13, 18, 19)] ∈ tq_G ∧ Cond.initialized yL_hide.cls ∈ tq_G ∧ (yL_hide.cls ≠ "java/lang/invoke/MethodHandle" ∧ yL_hide.cls ≠ "java/lang/invoke/VarHandle") ∧ (parseMethodDescriptor yL_hide.desc).map (fun q => q.parameters.length) = some 2 ∧ 3 ≤ 19 := ⟨tq_g (i := 1454) (by decide +kernel) rfl, tq_g (i := 52) (by decide +kernel) rfl, ⟨by decide +kernel, by decide +kernel⟩, by decide +kernel, by decide⟩
theorem tk_s_L_hide : Cond.static yL_hide ∈ tq_G := tq_g (i := 1453) (by decide +kernel) rfl
abbrev mL_act : tq_M := (RL, cL_act, 7, (some .int), false, [], none)
def f_L_act (a0 : Nat) (a1 : Int32) (h : tq_H) : Option (Int32 × tq_H) :=
  tq_let ((a1 / (24 : Int32))) fun x1 =>
  (tq_is h a0 10).bind fun _ =>
  (f_X10_made a0 h).bind fun v2 =>
  (tq_nz v2).bind fun _ =>
  tq_let ((x1 - x1 / v2 * v2)) fun x4 =>
  (tq_is h a0 10).bind fun _ =>
  (f_X10_paths a0 h).bind fun v5 =>
  (if v5 = 0 then
    some (0 : Int32)
  else
    (tq_is h a0 10).bind fun _ =>
    (f_X10_paths a0 h).bind fun v7 =>
    some (v7 - (1 : Int32))).bind fun p9 =>
  tq_let (((x1 / (61 : Int32)) - (x1 / (61 : Int32)) / (4 : Int32) * (4 : Int32))) fun x10 =>
  if (a1 - a1 / (24 : Int32) * (24 : Int32)) = (0 : Int32) then
    (f_L_element a0 x4 ((x1 / (61 : Int32)) - (x1 / (61 : Int32)) / (3 : Int32) * (3 : Int32)) ((x1 / (183 : Int32)) - (x1 / (183 : Int32)) / (4 : Int32) * (4 : Int32)) h).bind fun v11 =>
    some (v11.1, v11.2)
  else
  if (a1 - a1 / (24 : Int32) * (24 : Int32)) = (1 : Int32) then
    (f_L_element a0 x4 ((x1 / (61 : Int32)) - (x1 / (61 : Int32)) / (3 : Int32) * (3 : Int32)) ((x1 / (183 : Int32)) - (x1 / (183 : Int32)) / (4 : Int32) * (4 : Int32)) h).bind fun v12 =>
    some (v12.1, v12.2)
  else
  if (a1 - a1 / (24 : Int32) * (24 : Int32)) = (2 : Int32) then
    (f_L_element a0 x4 ((x1 / (61 : Int32)) - (x1 / (61 : Int32)) / (3 : Int32) * (3 : Int32)) ((x1 / (183 : Int32)) - (x1 / (183 : Int32)) / (4 : Int32) * (4 : Int32)) h).bind fun v13 =>
    some (v13.1, v13.2)
  else
  if (a1 - a1 / (24 : Int32) * (24 : Int32)) = (3 : Int32) then
    (f_L_text a0 x4 (0 : Int32) ((x1 / (61 : Int32)) - (x1 / (61 : Int32)) / (5 : Int32) * (5 : Int32)) h).bind fun v14 =>
    some (v14.1, v14.2)
  else
  if (a1 - a1 / (24 : Int32) * (24 : Int32)) = (4 : Int32) then
    (f_L_text a0 x4 (0 : Int32) ((x1 / (61 : Int32)) - (x1 / (61 : Int32)) / (5 : Int32) * (5 : Int32)) h).bind fun v15 =>
    some (v15.1, v15.2)
  else
  if (a1 - a1 / (24 : Int32) * (24 : Int32)) = (5 : Int32) then
    (f_L_attribute a0 x4 x10 ((x1 / (244 : Int32)) - (x1 / (244 : Int32)) / (5 : Int32) * (5 : Int32)) h).bind fun v16 =>
    some (v16.1, v16.2)
  else
  if (a1 - a1 / (24 : Int32) * (24 : Int32)) = (6 : Int32) then
    (if (x1 - x1 / (3 : Int32) * (3 : Int32)) = 0 then
      (tq_is h a0 10).bind fun _ =>
      (f_X10_made a0 h).bind fun v18 =>
      (tq_nz v18).bind fun _ =>
      (f_L_remove a0 ((x1 / (3 : Int32)) - (x1 / (3 : Int32)) / v18 * v18) h).bind fun v20 =>
      some (v20.1, v20.2)
    else
      (f_L_rename a0 x4 x10 h).bind fun v17 =>
      some (v17.1, v17.2)).bind fun p22 =>
    some (p22.1, p22.2)
  else
  if (a1 - a1 / (24 : Int32) * (24 : Int32)) = (7 : Int32) then
    (if (x1 - x1 / (2 : Int32) * (2 : Int32)) = 0 then
      (tq_is h a0 10).bind fun _ =>
      (f_X10_made a0 h).bind fun v24 =>
      (tq_nz v24).bind fun _ =>
      (f_L_revalue a0 ((x1 / (2 : Int32)) - (x1 / (2 : Int32)) / v24 * v24) x10 h).bind fun v26 =>
      some (v26.1, v26.2)
    else
      (f_L_declare a0 x4 (x10 - (1 : Int32)) h).bind fun v23 =>
      some (v23.1, v23.2)).bind fun p28 =>
    some (p28.1, p28.2)
  else
  if (a1 - a1 / (24 : Int32) * (24 : Int32)) = (8 : Int32) then
    (tq_is h a0 10).bind fun _ =>
    (f_X10_made a0 h).bind fun v29 =>
    (tq_nz v29).bind fun _ =>
    (f_L_move a0 x4 ((x1 / (61 : Int32)) - (x1 / (61 : Int32)) / v29 * v29) ((x1 / (3721 : Int32)) - (x1 / (3721 : Int32)) / (2 : Int32) * (2 : Int32)) h).bind fun v31 =>
    some (v31.1, v31.2)
  else
  if (a1 - a1 / (24 : Int32) * (24 : Int32)) = (9 : Int32) then
    (f_L_apply a0 h).bind fun v33 =>
    (if v33.1 = (-2000000003 : Int32) then
      (tq_is v33.2 a0 10).bind fun _ =>
      (f_X10_forget a0 v33.2).bind fun v34 =>
      some (((-9 : Int32) - v34.1), v34.2)
    else
      some (v33.1, v33.2)).bind fun p36 =>
    some (p36.1, p36.2)
  else
  if (a1 - a1 / (24 : Int32) * (24 : Int32)) = (10 : Int32) then
    (f_L_apply a0 h).bind fun v37 =>
    (if v37.1 = (-2000000003 : Int32) then
      (tq_is v37.2 a0 10).bind fun _ =>
      (f_X10_forget a0 v37.2).bind fun v38 =>
      some (((-9 : Int32) - v38.1), v38.2)
    else
      some (v37.1, v37.2)).bind fun p40 =>
    some (p40.1, p40.2)
  else
  if (a1 - a1 / (24 : Int32) * (24 : Int32)) = (11 : Int32) then
    (f_L_apply a0 h).bind fun v41 =>
    (if v41.1 = (-2000000003 : Int32) then
      (tq_is v41.2 a0 10).bind fun _ =>
      (f_X10_forget a0 v41.2).bind fun v42 =>
      some (((-9 : Int32) - v42.1), v42.2)
    else
      some (v41.1, v41.2)).bind fun p44 =>
    some (p44.1, p44.2)
  else
  if (a1 - a1 / (24 : Int32) * (24 : Int32)) = (12 : Int32) then
    (f_L_apply a0 h).bind fun v45 =>
    (if v45.1 = (-2000000003 : Int32) then
      (tq_is v45.2 a0 10).bind fun _ =>
      (f_X10_forget a0 v45.2).bind fun v46 =>
      some (((-9 : Int32) - v46.1), v46.2)
    else
      some (v45.1, v45.2)).bind fun p48 =>
    some (p48.1, p48.2)
  else
  if (a1 - a1 / (24 : Int32) * (24 : Int32)) = (13 : Int32) then
    (f_L_path a0 h).bind fun v49 =>
    some (v49.1, v49.2)
  else
  if (a1 - a1 / (24 : Int32) * (24 : Int32)) = (14 : Int32) then
    tq_let (if ((x1 / (12 : Int32)) - (x1 / (12 : Int32)) / (3 : Int32) * (3 : Int32)) = 0 then ((x1 / (36 : Int32)) - (x1 / (36 : Int32)) / (14 : Int32) * (14 : Int32)) else (8 : Int32)) fun p50 =>
    (f_L_step a0 p9 (x1 - x1 / (12 : Int32) * (12 : Int32)) p50 (-1 : Int32) h).bind fun v51 =>
    some (v51.1, v51.2)
  else
  if (a1 - a1 / (24 : Int32) * (24 : Int32)) = (15 : Int32) then
    tq_let (if ((x1 / (12 : Int32)) - (x1 / (12 : Int32)) / (3 : Int32) * (3 : Int32)) = 0 then ((x1 / (36 : Int32)) - (x1 / (36 : Int32)) / (14 : Int32) * (14 : Int32)) else (8 : Int32)) fun p52 =>
    (f_L_step a0 p9 (x1 - x1 / (12 : Int32) * (12 : Int32)) p52 (-1 : Int32) h).bind fun v53 =>
    some (v53.1, v53.2)
  else
  if (a1 - a1 / (24 : Int32) * (24 : Int32)) = (16 : Int32) then
    (if (x1 - x1 / (2 : Int32) * (2 : Int32)) = 0 then
      (f_L_place a0 p9 ((x1 / (2 : Int32)) - (x1 / (2 : Int32)) / (3 : Int32) * (3 : Int32)) ((1 : Int32) + ((x1 / (6 : Int32)) - (x1 / (6 : Int32)) / (3 : Int32) * (3 : Int32))) h).bind fun v57 =>
      some (v57.1, v57.2)
    else
      (tq_nz (p9 + (1 : Int32))).bind fun _ =>
      tq_let (if ((x1 / (97 : Int32)) - (x1 / (97 : Int32)) / (2 : Int32) * (2 : Int32)) = 0 then (1 : Int32) else (0 : Int32)) fun p54 =>
      (f_L_has a0 p9 ((x1 / (2 : Int32)) - (x1 / (2 : Int32)) / (p9 + (1 : Int32)) * (p9 + (1 : Int32))) p54 h).bind fun v55 =>
      some (v55.1, v55.2)).bind fun p58 =>
    some (p58.1, p58.2)
  else
  if (a1 - a1 / (24 : Int32) * (24 : Int32)) = (17 : Int32) then
    (if (x1 - x1 / (3 : Int32) * (3 : Int32)) = 0 then
      (f_L_last a0 p9 h).bind fun v65 =>
      some (v65.1, v65.2)
    else
      if (x1 - x1 / (3 : Int32) * (3 : Int32)) = (1 : Int32) then
        (if p9 = 0 then
          some (0 : Int32)
        else
          (tq_nz p9).bind fun _ =>
          some ((x1 / (3 : Int32)) - (x1 / (3 : Int32)) / p9 * p9)).bind fun p63 =>
        (f_L_step a0 p9 (12 : Int32) (8 : Int32) p63 h).bind fun v64 =>
        some (v64.1, v64.2)
      else
        (if p9 = 0 then
          some (0 : Int32)
        else
          (tq_nz p9).bind fun _ =>
          some ((x1 / (3 : Int32)) - (x1 / (3 : Int32)) / p9 * p9)).bind fun p60 =>
        (f_L_worth a0 p9 p60 ((x1 / (7 : Int32)) - (x1 / (7 : Int32)) / (3 : Int32) * (3 : Int32)) ((x1 / (21 : Int32)) - (x1 / (21 : Int32)) / (4 : Int32) * (4 : Int32)) h).bind fun v61 =>
        some (v61.1, v61.2)).bind fun p66 =>
    some (p66.1, p66.2)
  else
  if (a1 - a1 / (24 : Int32) * (24 : Int32)) = (18 : Int32) then
    (if (x1 - x1 / (3 : Int32) * (3 : Int32)) = 0 then
      (f_L_nameType a0 ((x1 / (3 : Int32)) - (x1 / (3 : Int32)) / (3 : Int32) * (3 : Int32)) ((x1 / (9 : Int32)) - (x1 / (9 : Int32)) / (4 : Int32) * (4 : Int32)) h).bind fun v70 =>
      some (v70.1, v70.2)
    else
      if (x1 - x1 / (3 : Int32) * (3 : Int32)) = (1 : Int32) then
        (f_L_arc a0 ((x1 / (3 : Int32)) - (x1 / (3 : Int32)) / (3 : Int32) * (3 : Int32)) ((x1 / (9 : Int32)) - (x1 / (9 : Int32)) / (2 : Int32) * (2 : Int32)) ((x1 / (18 : Int32)) - (x1 / (18 : Int32)) / (3 : Int32) * (3 : Int32)) ((x1 / (54 : Int32)) - (x1 / (54 : Int32)) / (2 : Int32) * (2 : Int32)) h).bind fun v69 =>
        some (v69.1, v69.2)
      else
        tq_let (if ((x1 / (18 : Int32)) - (x1 / (18 : Int32)) / (2 : Int32) * (2 : Int32)) = 0 then (1 : Int32) else (0 : Int32)) fun p67 =>
        (f_L_fin a0 ((x1 / (3 : Int32)) - (x1 / (3 : Int32)) / (3 : Int32) * (3 : Int32)) ((x1 / (9 : Int32)) - (x1 / (9 : Int32)) / (2 : Int32) * (2 : Int32)) p67 h).bind fun v68 =>
        some (v68.1, v68.2)).bind fun p71 =>
    some (p71.1, p71.2)
  else
  if (a1 - a1 / (24 : Int32) * (24 : Int32)) = (19 : Int32) then
    (if (x1 - x1 / (3 : Int32) * (3 : Int32)) = 0 then
      tq_let (if ((x1 / (9 : Int32)) - (x1 / (9 : Int32)) / (2 : Int32) * (2 : Int32)) = 0 then (1 : Int32) else (0 : Int32)) fun p75 =>
      (f_L_texts a0 ((x1 / (3 : Int32)) - (x1 / (3 : Int32)) / (3 : Int32) * (3 : Int32)) p75 h).bind fun v76 =>
      some (v76.1, v76.2)
    else
      if (x1 - x1 / (3 : Int32) * (3 : Int32)) = (1 : Int32) then
        (f_L_says a0 ((x1 / (3 : Int32)) - (x1 / (3 : Int32)) / (3 : Int32) * (3 : Int32)) ((x1 / (9 : Int32)) - (x1 / (9 : Int32)) / (4 : Int32) * (4 : Int32)) ((x1 / (36 : Int32)) - (x1 / (36 : Int32)) / (3 : Int32) * (3 : Int32)) h).bind fun v74 =>
        some (v74.1, v74.2)
      else
        tq_let (if ((x1 / (3 : Int32)) - (x1 / (3 : Int32)) / (2 : Int32) * (2 : Int32)) = 0 then (1 : Int32) else (0 : Int32)) fun p72 =>
        (f_L_strict a0 p72 h).bind fun v73 =>
        some (v73.1, v73.2)).bind fun p77 =>
    some (p77.1, p77.2)
  else
  if (a1 - a1 / (24 : Int32) * (24 : Int32)) = (20 : Int32) then
    (f_L_index a0 x10 h).bind fun v78 =>
    some (v78.1, v78.2)
  else
  if (a1 - a1 / (24 : Int32) * (24 : Int32)) = (21 : Int32) then
    (tq_nz (p9 + (1 : Int32))).bind fun _ =>
    (f_L_view a0 (x1 - x1 / (p9 + (1 : Int32)) * (p9 + (1 : Int32))) h).bind fun v79 =>
    some (v79.1, v79.2)
  else
  if (a1 - a1 / (24 : Int32) * (24 : Int32)) = (22 : Int32) then
    (if (x1 - x1 / (2 : Int32) * (2 : Int32)) = 0 then
      (f_L_keep a0 h).bind fun v82 =>
      some (v82.1, v82.2)
    else
      (f_L_take a0 ((x1 / (2 : Int32)) - (x1 / (2 : Int32)) / (3 : Int32) * (3 : Int32)) h).bind fun v81 =>
      some (v81.1, v81.2)).bind fun p83 =>
    some (p83.1, p83.2)
  else
    (if (x1 - x1 / (2 : Int32) * (2 : Int32)) = 0 then
      (tq_nz (p9 + (1 : Int32))).bind fun _ =>
      (f_L_hide a0 ((x1 / (2 : Int32)) - (x1 / (2 : Int32)) / (p9 + (1 : Int32)) * (p9 + (1 : Int32))) h).bind fun v87 =>
      some (v87.1, v87.2)
    else
      tq_let (if ((x1 / (2 : Int32)) - (x1 / (2 : Int32)) / (3 : Int32) * (3 : Int32)) = 0 then (1 : Int32) else (0 : Int32)) fun p84 =>
      (tq_is h a0 10).bind fun _ =>
      (f_X10_readAsReader a0 p84 h).bind fun v85 =>
      if v85.1 = 0 then
        some ((0 : Int32), v85.2)
      else
        some ((1 : Int32), v85.2)).bind fun p89 =>
    some (p89.1, p89.2)
set_option maxHeartbeats 4000000 in
set_option maxRecDepth 20000 in
theorem w_L_act {l : Launch} {d : Nat} (hd9 : 10 ≤ d) {a0 : Nat} {a1 : Int32} {h : tq_H} {o : Int32 × tq_H} {Q : tq_R → tq_H → Prop} (hf : f_L_act a0 a1 h = some o) (hQ : ∀ r h9, r = .inl (some (.int o.1)) ∧ o.2 = h9 → Q r h9) : tq_C l yL_act cL_act 7 (some .int) d 67 1299 [.ref a0, .int a1] h Q := by
  refine tq_body (y := yL_act) false (by decide +kernel) (fun z => by cases z) (Nat.le_of_ble_eq_true rfl) ?_
  show tq_W l mL_act d 67 1299 Q 0 [(0, .ref a0), (1, .int a1)] [] h
  refine tq_iload_n (M := mL_act) (pc := 0) dL_act_0 rfl ?_
  refine tq_bipush (M := mL_act) (pc := 1) dL_act_1 tk_kb_24 ?_
  refine tq_idiv (M := mL_act) (pc := 3) dL_act_3 (by decide +kernel) ?_
  obtain ⟨x1, ex1, hf⟩ := tq_le hf
  refine tq_istore_n (M := mL_act) (pc := 4) rfl dL_act_4 (L2 := [(2, .int x1), (0, .ref a0), (1, .int a1)]) (by decide) (by rw [ex1]; rfl) ?_
  refine tq_iload_n (M := mL_act) (pc := 5) dL_act_5 rfl ?_
  refine tq_aload_n (M := mL_act) (pc := 6) dL_act_6 rfl ?_
  obtain ⟨⟨⟩, eu3, hf⟩ := tq_be hf
  obtain ⟨fsu3, eu3⟩ := tq_is_s eu3
  obtain ⟨v2, ev2, hf⟩ := tq_be hf
  refine tq_calV (M := mL_act) (pc := 7) (S := [.int x1]) tk_y_X10_made tk_v_X10_made tk_RL_172 dL_act_7 [] rfl (S0 := _) rfl eu3 rfl (Nat.le_of_ble_eq_true rfl) (d1 := d - 1) (b1 := 0) (s1 := 0) (bc' := 67) (bs' := 1299) (Q1 := fun r h9 => r = .inl (some (.int v2)) ∧ h = h9) (by omega) rfl rfl (w_X10_made (by omega) ev2 (fun _ _ q => q)) (fun E h9 q => nomatch (show (Sum.inr E : tq_R) = Sum.inl _ from q.1)) (fun r9 h9 q => ?_)
  obtain ⟨q1, rfl⟩ := q
  cases (show (Sum.inl r9 : tq_R) = Sum.inl (some (.int v2)) from q1)
  obtain ⟨u90, eu90, hf⟩ := tq_be hf
  refine tq_irem (M := mL_act) (pc := 10) dL_act_10 (tq_nz_s eu90) ?_
  obtain ⟨x4, ex4, hf⟩ := tq_le hf
  refine tq_istore_n (M := mL_act) (pc := 11) rfl dL_act_11 (L2 := [(3, .int x4), (2, .int x1), (0, .ref a0), (1, .int a1)]) (by decide) (by rw [ex4]; rfl) ?_
  refine tq_aload_n (M := mL_act) (pc := 12) dL_act_12 rfl ?_
  obtain ⟨⟨⟩, eu6, hf⟩ := tq_be hf
  obtain ⟨fsu6, eu6⟩ := tq_is_s eu6
  obtain ⟨v5, ev5, hf⟩ := tq_be hf
  refine tq_calV (M := mL_act) (pc := 13) (S := []) tk_y_X10_paths tk_v_X10_paths tk_RL_175 dL_act_13 [] rfl (S0 := _) rfl eu6 rfl (Nat.le_of_ble_eq_true rfl) (d1 := d - 1) (b1 := 0) (s1 := 0) (bc' := 67) (bs' := 1299) (Q1 := fun r h9 => r = .inl (some (.int v5)) ∧ h = h9) (by omega) rfl rfl (w_X10_paths (by omega) ev5 (fun _ _ q => q)) (fun E h9 q => nomatch (show (Sum.inr E : tq_R) = Sum.inl _ from q.1)) (fun r9 h9 q => ?_)
  obtain ⟨q1, rfl⟩ := q
  cases (show (Sum.inl r9 : tq_R) = Sum.inl (some (.int v5)) from q1)
  obtain ⟨p9, ep9, hf⟩ := tq_be hf
  have HJ16 : tq_W l mL_act d 67 1299 Q 29 [(0, .ref a0), (1, .int a1), (2, .int x1), (3, .int x4)] [.int p9] h := by
    refine tq_istore (M := mL_act) (pc := 29) dL_act_29 (L2 := [(4, .int p9), (0, .ref a0), (1, .int a1), (2, .int x1), (3, .int x4)]) (by decide) rfl ?_
    refine tq_iload_n (M := mL_act) (pc := 31) dL_act_31 rfl ?_
    refine tq_bipush (M := mL_act) (pc := 32) dL_act_32 tk_kb_61 ?_
    refine tq_idiv (M := mL_act) (pc := 34) dL_act_34 (by decide +kernel) ?_
    refine tq_iconst (M := mL_act) (pc := 35) dL_act_35 tk_ki_4 ?_
    refine tq_irem (M := mL_act) (pc := 36) dL_act_36 (by decide +kernel) ?_
    obtain ⟨x10, ex10, hf⟩ := tq_le hf
    refine tq_istore (M := mL_act) (pc := 37) dL_act_37 (L2 := [(5, .int x10), (4, .int p9), (0, .ref a0), (1, .int a1), (2, .int x1), (3, .int x4)]) (by decide) (by rw [ex10]; rfl) ?_
    refine tq_iload_n (M := mL_act) (pc := 39) dL_act_39 rfl ?_
    refine tq_bipush (M := mL_act) (pc := 40) dL_act_40 tk_kb_24 ?_
    refine tq_irem (M := mL_act) (pc := 42) dL_act_42 (by decide +kernel) ?_
    by_cases c0 : (a1 - a1 / (24 : Int32) * (24 : Int32)) = (0 : Int32)
    · have hf := tq_ifp hf c0
      refine tq_tabX (M := mL_act) (pc := 43) (tgt := 148) (0 : Int32) c0 dL_act_43 (by decide +kernel) (by decide +kernel) (off := 105) (by decide +kernel) (by decide) ?_
      refine tq_aload_n (M := mL_act) (pc := 148) dL_act_148 rfl ?_
      refine tq_iload_n (M := mL_act) (pc := 149) dL_act_149 rfl ?_
      refine tq_iload_n (M := mL_act) (pc := 150) dL_act_150 rfl ?_
      refine tq_bipush (M := mL_act) (pc := 151) dL_act_151 tk_kb_61 ?_
      refine tq_idiv (M := mL_act) (pc := 153) dL_act_153 (by decide +kernel) ?_
      refine tq_iconst (M := mL_act) (pc := 154) dL_act_154 tk_ki_3 ?_
      refine tq_irem (M := mL_act) (pc := 155) dL_act_155 (by decide +kernel) ?_
      refine tq_iload_n (M := mL_act) (pc := 156) dL_act_156 rfl ?_
      refine tq_sipush (M := mL_act) (pc := 157) dL_act_157 tk_ks_183 ?_
      refine tq_idiv (M := mL_act) (pc := 160) dL_act_160 (by decide +kernel) ?_
      refine tq_iconst (M := mL_act) (pc := 161) dL_act_161 tk_ki_4 ?_
      refine tq_irem (M := mL_act) (pc := 162) dL_act_162 (by decide +kernel) ?_
      obtain ⟨v11, ev11, hf⟩ := tq_be hf
      refine tq_calSW (M := mL_act) (pc := 163) (S := []) tk_w_L_element.1 tk_w_L_element.2.1 tk_w_L_element.2.2.1 tk_w_L_element.2.2.2.1 tk_w_L_element.2.2.2.2 tk_s_L_element tk_RL_178 dL_act_163 [.ref a0, .int x4, .int (((x1 / (61 : Int32)) - (x1 / (61 : Int32)) / (3 : Int32) * (3 : Int32))), .int (((x1 / (183 : Int32)) - (x1 / (183 : Int32)) / (4 : Int32) * (4 : Int32)))] rfl (Nat.le_of_ble_eq_true rfl) (d1 := d - 1) (b1 := 1) (s1 := 6) (bc' := 66) (bs' := 1293) (Q1 := fun r h9 => r = .inl (some (.int v11.1)) ∧ v11.2 = h9) (by omega) rfl rfl (w_L_element (bc := 1) (bs := 6) (by omega) ev11 (fun _ _ _ => ⟨by decide, by decide⟩) (fun _ _ q => q)) (fun E h9 q => nomatch (show (Sum.inr E : tq_R) = Sum.inl _ from q.1)) (fun r9 h9 q => ?_)
      obtain ⟨q1, rfl⟩ := q
      cases (show (Sum.inl r9 : tq_R) = Sum.inl (some (.int v11.1)) from q1)
      refine tq_iret (M := mL_act) (pc := 166) dL_act_166 rfl ?_
      cases (Option.some.inj hf)
      exact hQ _ _ ⟨rfl, rfl⟩
    have hf := tq_ifn hf c0
    by_cases c1 : (a1 - a1 / (24 : Int32) * (24 : Int32)) = (1 : Int32)
    · have hf := tq_ifp hf c1
      refine tq_tabX (M := mL_act) (pc := 43) (tgt := 148) (1 : Int32) c1 dL_act_43 (by decide +kernel) (by decide +kernel) (off := 105) (by decide +kernel) (by decide) ?_
      refine tq_aload_n (M := mL_act) (pc := 148) dL_act_148 rfl ?_
      refine tq_iload_n (M := mL_act) (pc := 149) dL_act_149 rfl ?_
      refine tq_iload_n (M := mL_act) (pc := 150) dL_act_150 rfl ?_
      refine tq_bipush (M := mL_act) (pc := 151) dL_act_151 tk_kb_61 ?_
      refine tq_idiv (M := mL_act) (pc := 153) dL_act_153 (by decide +kernel) ?_
      refine tq_iconst (M := mL_act) (pc := 154) dL_act_154 tk_ki_3 ?_
      refine tq_irem (M := mL_act) (pc := 155) dL_act_155 (by decide +kernel) ?_
      refine tq_iload_n (M := mL_act) (pc := 156) dL_act_156 rfl ?_
      refine tq_sipush (M := mL_act) (pc := 157) dL_act_157 tk_ks_183 ?_
      refine tq_idiv (M := mL_act) (pc := 160) dL_act_160 (by decide +kernel) ?_
      refine tq_iconst (M := mL_act) (pc := 161) dL_act_161 tk_ki_4 ?_
      refine tq_irem (M := mL_act) (pc := 162) dL_act_162 (by decide +kernel) ?_
      obtain ⟨v12, ev12, hf⟩ := tq_be hf
      refine tq_calSW (M := mL_act) (pc := 163) (S := []) tk_w_L_element.1 tk_w_L_element.2.1 tk_w_L_element.2.2.1 tk_w_L_element.2.2.2.1 tk_w_L_element.2.2.2.2 tk_s_L_element tk_RL_178 dL_act_163 [.ref a0, .int x4, .int (((x1 / (61 : Int32)) - (x1 / (61 : Int32)) / (3 : Int32) * (3 : Int32))), .int (((x1 / (183 : Int32)) - (x1 / (183 : Int32)) / (4 : Int32) * (4 : Int32)))] rfl (Nat.le_of_ble_eq_true rfl) (d1 := d - 1) (b1 := 1) (s1 := 6) (bc' := 66) (bs' := 1293) (Q1 := fun r h9 => r = .inl (some (.int v12.1)) ∧ v12.2 = h9) (by omega) rfl rfl (w_L_element (bc := 1) (bs := 6) (by omega) ev12 (fun _ _ _ => ⟨by decide, by decide⟩) (fun _ _ q => q)) (fun E h9 q => nomatch (show (Sum.inr E : tq_R) = Sum.inl _ from q.1)) (fun r9 h9 q => ?_)
      obtain ⟨q1, rfl⟩ := q
      cases (show (Sum.inl r9 : tq_R) = Sum.inl (some (.int v12.1)) from q1)
      refine tq_iret (M := mL_act) (pc := 166) dL_act_166 rfl ?_
      cases (Option.some.inj hf)
      exact hQ _ _ ⟨rfl, rfl⟩
    have hf := tq_ifn hf c1
    by_cases c2 : (a1 - a1 / (24 : Int32) * (24 : Int32)) = (2 : Int32)
    · have hf := tq_ifp hf c2
      refine tq_tabX (M := mL_act) (pc := 43) (tgt := 148) (2 : Int32) c2 dL_act_43 (by decide +kernel) (by decide +kernel) (off := 105) (by decide +kernel) (by decide) ?_
      refine tq_aload_n (M := mL_act) (pc := 148) dL_act_148 rfl ?_
      refine tq_iload_n (M := mL_act) (pc := 149) dL_act_149 rfl ?_
      refine tq_iload_n (M := mL_act) (pc := 150) dL_act_150 rfl ?_
      refine tq_bipush (M := mL_act) (pc := 151) dL_act_151 tk_kb_61 ?_
      refine tq_idiv (M := mL_act) (pc := 153) dL_act_153 (by decide +kernel) ?_
      refine tq_iconst (M := mL_act) (pc := 154) dL_act_154 tk_ki_3 ?_
      refine tq_irem (M := mL_act) (pc := 155) dL_act_155 (by decide +kernel) ?_
      refine tq_iload_n (M := mL_act) (pc := 156) dL_act_156 rfl ?_
      refine tq_sipush (M := mL_act) (pc := 157) dL_act_157 tk_ks_183 ?_
      refine tq_idiv (M := mL_act) (pc := 160) dL_act_160 (by decide +kernel) ?_
      refine tq_iconst (M := mL_act) (pc := 161) dL_act_161 tk_ki_4 ?_
      refine tq_irem (M := mL_act) (pc := 162) dL_act_162 (by decide +kernel) ?_
      obtain ⟨v13, ev13, hf⟩ := tq_be hf
      refine tq_calSW (M := mL_act) (pc := 163) (S := []) tk_w_L_element.1 tk_w_L_element.2.1 tk_w_L_element.2.2.1 tk_w_L_element.2.2.2.1 tk_w_L_element.2.2.2.2 tk_s_L_element tk_RL_178 dL_act_163 [.ref a0, .int x4, .int (((x1 / (61 : Int32)) - (x1 / (61 : Int32)) / (3 : Int32) * (3 : Int32))), .int (((x1 / (183 : Int32)) - (x1 / (183 : Int32)) / (4 : Int32) * (4 : Int32)))] rfl (Nat.le_of_ble_eq_true rfl) (d1 := d - 1) (b1 := 1) (s1 := 6) (bc' := 66) (bs' := 1293) (Q1 := fun r h9 => r = .inl (some (.int v13.1)) ∧ v13.2 = h9) (by omega) rfl rfl (w_L_element (bc := 1) (bs := 6) (by omega) ev13 (fun _ _ _ => ⟨by decide, by decide⟩) (fun _ _ q => q)) (fun E h9 q => nomatch (show (Sum.inr E : tq_R) = Sum.inl _ from q.1)) (fun r9 h9 q => ?_)
      obtain ⟨q1, rfl⟩ := q
      cases (show (Sum.inl r9 : tq_R) = Sum.inl (some (.int v13.1)) from q1)
      refine tq_iret (M := mL_act) (pc := 166) dL_act_166 rfl ?_
      cases (Option.some.inj hf)
      exact hQ _ _ ⟨rfl, rfl⟩
    have hf := tq_ifn hf c2
    by_cases c3 : (a1 - a1 / (24 : Int32) * (24 : Int32)) = (3 : Int32)
    · have hf := tq_ifp hf c3
      refine tq_tabX (M := mL_act) (pc := 43) (tgt := 167) (3 : Int32) c3 dL_act_43 (by decide +kernel) (by decide +kernel) (off := 124) (by decide +kernel) (by decide) ?_
      refine tq_aload_n (M := mL_act) (pc := 167) dL_act_167 rfl ?_
      refine tq_iload_n (M := mL_act) (pc := 168) dL_act_168 rfl ?_
      refine tq_iconst (M := mL_act) (pc := 169) dL_act_169 tk_ki_0 ?_
      refine tq_iload_n (M := mL_act) (pc := 170) dL_act_170 rfl ?_
      refine tq_bipush (M := mL_act) (pc := 171) dL_act_171 tk_kb_61 ?_
      refine tq_idiv (M := mL_act) (pc := 173) dL_act_173 (by decide +kernel) ?_
      refine tq_iconst (M := mL_act) (pc := 174) dL_act_174 tk_ki_5 ?_
      refine tq_irem (M := mL_act) (pc := 175) dL_act_175 (by decide +kernel) ?_
      obtain ⟨v14, ev14, hf⟩ := tq_be hf
      refine tq_calSW (M := mL_act) (pc := 176) (S := []) tk_w_L_text.1 tk_w_L_text.2.1 tk_w_L_text.2.2.1 tk_w_L_text.2.2.2.1 tk_w_L_text.2.2.2.2 tk_s_L_text tk_RL_184 dL_act_176 [.ref a0, .int x4, .int (0 : Int32), .int (((x1 / (61 : Int32)) - (x1 / (61 : Int32)) / (5 : Int32) * (5 : Int32)))] rfl (Nat.le_of_ble_eq_true rfl) (d1 := d - 1) (b1 := 1) (s1 := 6) (bc' := 66) (bs' := 1293) (Q1 := fun r h9 => r = .inl (some (.int v14.1)) ∧ v14.2 = h9) (by omega) rfl rfl (w_L_text (bc := 1) (bs := 6) (by omega) ev14 (fun _ _ _ => ⟨by decide, by decide⟩) (fun _ _ q => q)) (fun E h9 q => nomatch (show (Sum.inr E : tq_R) = Sum.inl _ from q.1)) (fun r9 h9 q => ?_)
      obtain ⟨q1, rfl⟩ := q
      cases (show (Sum.inl r9 : tq_R) = Sum.inl (some (.int v14.1)) from q1)
      refine tq_iret (M := mL_act) (pc := 179) dL_act_179 rfl ?_
      cases (Option.some.inj hf)
      exact hQ _ _ ⟨rfl, rfl⟩
    have hf := tq_ifn hf c3
    by_cases c4 : (a1 - a1 / (24 : Int32) * (24 : Int32)) = (4 : Int32)
    · have hf := tq_ifp hf c4
      refine tq_tabX (M := mL_act) (pc := 43) (tgt := 167) (4 : Int32) c4 dL_act_43 (by decide +kernel) (by decide +kernel) (off := 124) (by decide +kernel) (by decide) ?_
      refine tq_aload_n (M := mL_act) (pc := 167) dL_act_167 rfl ?_
      refine tq_iload_n (M := mL_act) (pc := 168) dL_act_168 rfl ?_
      refine tq_iconst (M := mL_act) (pc := 169) dL_act_169 tk_ki_0 ?_
      refine tq_iload_n (M := mL_act) (pc := 170) dL_act_170 rfl ?_
      refine tq_bipush (M := mL_act) (pc := 171) dL_act_171 tk_kb_61 ?_
      refine tq_idiv (M := mL_act) (pc := 173) dL_act_173 (by decide +kernel) ?_
      refine tq_iconst (M := mL_act) (pc := 174) dL_act_174 tk_ki_5 ?_
      refine tq_irem (M := mL_act) (pc := 175) dL_act_175 (by decide +kernel) ?_
      obtain ⟨v15, ev15, hf⟩ := tq_be hf
      refine tq_calSW (M := mL_act) (pc := 176) (S := []) tk_w_L_text.1 tk_w_L_text.2.1 tk_w_L_text.2.2.1 tk_w_L_text.2.2.2.1 tk_w_L_text.2.2.2.2 tk_s_L_text tk_RL_184 dL_act_176 [.ref a0, .int x4, .int (0 : Int32), .int (((x1 / (61 : Int32)) - (x1 / (61 : Int32)) / (5 : Int32) * (5 : Int32)))] rfl (Nat.le_of_ble_eq_true rfl) (d1 := d - 1) (b1 := 1) (s1 := 6) (bc' := 66) (bs' := 1293) (Q1 := fun r h9 => r = .inl (some (.int v15.1)) ∧ v15.2 = h9) (by omega) rfl rfl (w_L_text (bc := 1) (bs := 6) (by omega) ev15 (fun _ _ _ => ⟨by decide, by decide⟩) (fun _ _ q => q)) (fun E h9 q => nomatch (show (Sum.inr E : tq_R) = Sum.inl _ from q.1)) (fun r9 h9 q => ?_)
      obtain ⟨q1, rfl⟩ := q
      cases (show (Sum.inl r9 : tq_R) = Sum.inl (some (.int v15.1)) from q1)
      refine tq_iret (M := mL_act) (pc := 179) dL_act_179 rfl ?_
      cases (Option.some.inj hf)
      exact hQ _ _ ⟨rfl, rfl⟩
    have hf := tq_ifn hf c4
    by_cases c5 : (a1 - a1 / (24 : Int32) * (24 : Int32)) = (5 : Int32)
    · have hf := tq_ifp hf c5
      refine tq_tabX (M := mL_act) (pc := 43) (tgt := 180) (5 : Int32) c5 dL_act_43 (by decide +kernel) (by decide +kernel) (off := 137) (by decide +kernel) (by decide) ?_
      refine tq_aload_n (M := mL_act) (pc := 180) dL_act_180 rfl ?_
      refine tq_iload_n (M := mL_act) (pc := 181) dL_act_181 rfl ?_
      refine tq_iload (M := mL_act) (pc := 182) dL_act_182 rfl ?_
      refine tq_iload_n (M := mL_act) (pc := 184) dL_act_184 rfl ?_
      refine tq_sipush (M := mL_act) (pc := 185) dL_act_185 tk_ks_244 ?_
      refine tq_idiv (M := mL_act) (pc := 188) dL_act_188 (by decide +kernel) ?_
      refine tq_iconst (M := mL_act) (pc := 189) dL_act_189 tk_ki_5 ?_
      refine tq_irem (M := mL_act) (pc := 190) dL_act_190 (by decide +kernel) ?_
      obtain ⟨v16, ev16, hf⟩ := tq_be hf
      refine tq_calSW (M := mL_act) (pc := 191) (S := []) tk_w_L_attribute.1 tk_w_L_attribute.2.1 tk_w_L_attribute.2.2.1 tk_w_L_attribute.2.2.2.1 tk_w_L_attribute.2.2.2.2 tk_s_L_attribute tk_RL_187 dL_act_191 [.ref a0, .int x4, .int x10, .int (((x1 / (244 : Int32)) - (x1 / (244 : Int32)) / (5 : Int32) * (5 : Int32)))] rfl (Nat.le_of_ble_eq_true rfl) (d1 := d - 1) (b1 := 1) (s1 := 6) (bc' := 66) (bs' := 1293) (Q1 := fun r h9 => r = .inl (some (.int v16.1)) ∧ v16.2 = h9) (by omega) rfl rfl (w_L_attribute (bc := 1) (bs := 6) (by omega) ev16 (fun _ _ _ => ⟨by decide, by decide⟩) (fun _ _ q => q)) (fun E h9 q => nomatch (show (Sum.inr E : tq_R) = Sum.inl _ from q.1)) (fun r9 h9 q => ?_)
      obtain ⟨q1, rfl⟩ := q
      cases (show (Sum.inl r9 : tq_R) = Sum.inl (some (.int v16.1)) from q1)
      refine tq_iret (M := mL_act) (pc := 194) dL_act_194 rfl ?_
      cases (Option.some.inj hf)
      exact hQ _ _ ⟨rfl, rfl⟩
    have hf := tq_ifn hf c5
    by_cases c6 : (a1 - a1 / (24 : Int32) * (24 : Int32)) = (6 : Int32)
    · have hf := tq_ifp hf c6
      refine tq_tabX (M := mL_act) (pc := 43) (tgt := 195) (6 : Int32) c6 dL_act_43 (by decide +kernel) (by decide +kernel) (off := 152) (by decide +kernel) (by decide) ?_
      refine tq_iload_n (M := mL_act) (pc := 195) dL_act_195 rfl ?_
      refine tq_iconst (M := mL_act) (pc := 196) dL_act_196 tk_ki_3 ?_
      refine tq_irem (M := mL_act) (pc := 197) dL_act_197 (by decide +kernel) ?_
      obtain ⟨p22, ep22, hf⟩ := tq_be hf
      have HJ198 : tq_W l mL_act d 66 1293 Q 223 [] [.int p22.1] p22.2 := by
        refine tq_iret (M := mL_act) (pc := 223) dL_act_223 rfl ?_
        cases (Option.some.inj hf)
        exact hQ _ _ ⟨rfl, rfl⟩
      refine tq_if_ne (M := mL_act) (pc := 198) (tgt := 216) dL_act_198 (by decide) (fun cc => ?_) (fun cc => ?_)
      · have hf := tq_ifn ep22 cc
        refine tq_aload_n (M := mL_act) (pc := 216) dL_act_216 rfl ?_
        refine tq_iload_n (M := mL_act) (pc := 217) dL_act_217 rfl ?_
        refine tq_iload (M := mL_act) (pc := 218) dL_act_218 rfl ?_
        obtain ⟨v17, ev17, hf⟩ := tq_be hf
        refine tq_calSW (M := mL_act) (pc := 220) (S := []) tk_w_L_rename.1 tk_w_L_rename.2.1 tk_w_L_rename.2.2.1 tk_w_L_rename.2.2.2.1 tk_w_L_rename.2.2.2.2 tk_s_L_rename tk_RL_189 dL_act_220 [.ref a0, .int x4, .int x10] rfl (Nat.le_of_ble_eq_true rfl) (d1 := d - 1) (b1 := 1) (s1 := 6) (bc' := 66) (bs' := 1293) (Q1 := fun r h9 => r = .inl (some (.int v17.1)) ∧ v17.2 = h9) (by omega) rfl rfl (w_L_rename (bc := 1) (bs := 6) (by omega) ev17 (fun _ _ _ => ⟨by decide, by decide⟩) (fun _ _ q => q)) (fun E h9 q => nomatch (show (Sum.inr E : tq_R) = Sum.inl _ from q.1)) (fun r9 h9 q => ?_)
        obtain ⟨q1, rfl⟩ := q
        cases (show (Sum.inl r9 : tq_R) = Sum.inl (some (.int v17.1)) from q1)
        refine tq_pick (L2 := []) [] rfl ?_
        cases (Option.some.inj hf)
        exact HJ198
      · have hf := tq_ifp ep22 cc
        refine tq_aload_n (M := mL_act) (pc := 201) dL_act_201 rfl ?_
        refine tq_iload_n (M := mL_act) (pc := 202) dL_act_202 rfl ?_
        refine tq_iconst (M := mL_act) (pc := 203) dL_act_203 tk_ki_3 ?_
        refine tq_idiv (M := mL_act) (pc := 204) dL_act_204 (by decide +kernel) ?_
        refine tq_aload_n (M := mL_act) (pc := 205) dL_act_205 rfl ?_
        obtain ⟨⟨⟩, eu19, hf⟩ := tq_be hf
        obtain ⟨fsu19, eu19⟩ := tq_is_s eu19
        obtain ⟨v18, ev18, hf⟩ := tq_be hf
        refine tq_calV (M := mL_act) (pc := 206) (S := [.int ((x1 / (3 : Int32))), .ref a0]) tk_y_X10_made tk_v_X10_made tk_RL_172 dL_act_206 [] rfl (S0 := _) rfl eu19 rfl (Nat.le_of_ble_eq_true rfl) (d1 := d - 1) (b1 := 0) (s1 := 0) (bc' := 67) (bs' := 1299) (Q1 := fun r h9 => r = .inl (some (.int v18)) ∧ h = h9) (by omega) rfl rfl (w_X10_made (by omega) ev18 (fun _ _ q => q)) (fun E h9 q => nomatch (show (Sum.inr E : tq_R) = Sum.inl _ from q.1)) (fun r9 h9 q => ?_)
        obtain ⟨q1, rfl⟩ := q
        cases (show (Sum.inl r9 : tq_R) = Sum.inl (some (.int v18)) from q1)
        obtain ⟨u21, eu21, hf⟩ := tq_be hf
        refine tq_irem (M := mL_act) (pc := 209) dL_act_209 (tq_nz_s eu21) ?_
        obtain ⟨v20, ev20, hf⟩ := tq_be hf
        refine tq_calSW (M := mL_act) (pc := 210) (S := []) tk_w_L_remove.1 tk_w_L_remove.2.1 tk_w_L_remove.2.2.1 tk_w_L_remove.2.2.2.1 tk_w_L_remove.2.2.2.2 tk_s_L_remove tk_RL_194 dL_act_210 [.ref a0, .int (((x1 / (3 : Int32)) - (x1 / (3 : Int32)) / v18 * v18))] rfl (Nat.le_of_ble_eq_true rfl) (d1 := d - 1) (b1 := 1) (s1 := 6) (bc' := 66) (bs' := 1293) (Q1 := fun r h9 => r = .inl (some (.int v20.1)) ∧ v20.2 = h9) (by omega) rfl rfl (w_L_remove (bc := 1) (bs := 6) (by omega) ev20 (fun _ _ _ => ⟨by decide, by decide⟩) (fun _ _ q => q)) (fun E h9 q => nomatch (show (Sum.inr E : tq_R) = Sum.inl _ from q.1)) (fun r9 h9 q => ?_)
        obtain ⟨q1, rfl⟩ := q
        cases (show (Sum.inl r9 : tq_R) = Sum.inl (some (.int v20.1)) from q1)
        refine tq_goto (M := mL_act) (pc := 213) (tgt := 223) dL_act_213 (by decide) ?_
        refine tq_pick (L2 := []) [] rfl ?_
        cases (Option.some.inj hf)
        exact HJ198
    have hf := tq_ifn hf c6
    by_cases c7 : (a1 - a1 / (24 : Int32) * (24 : Int32)) = (7 : Int32)
    · have hf := tq_ifp hf c7
      refine tq_tabX (M := mL_act) (pc := 43) (tgt := 224) (7 : Int32) c7 dL_act_43 (by decide +kernel) (by decide +kernel) (off := 181) (by decide +kernel) (by decide) ?_
      refine tq_iload_n (M := mL_act) (pc := 224) dL_act_224 rfl ?_
      refine tq_iconst (M := mL_act) (pc := 225) dL_act_225 tk_ki_2 ?_
      refine tq_irem (M := mL_act) (pc := 226) dL_act_226 (by decide +kernel) ?_
      obtain ⟨p28, ep28, hf⟩ := tq_be hf
      have HJ227 : tq_W l mL_act d 66 1293 Q 256 [] [.int p28.1] p28.2 := by
        refine tq_iret (M := mL_act) (pc := 256) dL_act_256 rfl ?_
        cases (Option.some.inj hf)
        exact hQ _ _ ⟨rfl, rfl⟩
      refine tq_if_ne (M := mL_act) (pc := 227) (tgt := 247) dL_act_227 (by decide) (fun cc => ?_) (fun cc => ?_)
      · have hf := tq_ifn ep28 cc
        refine tq_aload_n (M := mL_act) (pc := 247) dL_act_247 rfl ?_
        refine tq_iload_n (M := mL_act) (pc := 248) dL_act_248 rfl ?_
        refine tq_iload (M := mL_act) (pc := 249) dL_act_249 rfl ?_
        refine tq_iconst (M := mL_act) (pc := 251) dL_act_251 tk_ki_1 ?_
        refine tq_isub (M := mL_act) (pc := 252) dL_act_252 ?_
        obtain ⟨v23, ev23, hf⟩ := tq_be hf
        refine tq_calSW (M := mL_act) (pc := 253) (S := []) tk_w_L_declare.1 tk_w_L_declare.2.1 tk_w_L_declare.2.2.1 tk_w_L_declare.2.2.2.1 tk_w_L_declare.2.2.2.2 tk_s_L_declare tk_RL_192 dL_act_253 [.ref a0, .int x4, .int ((x10 - (1 : Int32)))] rfl (Nat.le_of_ble_eq_true rfl) (d1 := d - 1) (b1 := 1) (s1 := 6) (bc' := 66) (bs' := 1293) (Q1 := fun r h9 => r = .inl (some (.int v23.1)) ∧ v23.2 = h9) (by omega) rfl rfl (w_L_declare (bc := 1) (bs := 6) (by omega) ev23 (fun _ _ _ => ⟨by decide, by decide⟩) (fun _ _ q => q)) (fun E h9 q => nomatch (show (Sum.inr E : tq_R) = Sum.inl _ from q.1)) (fun r9 h9 q => ?_)
        obtain ⟨q1, rfl⟩ := q
        cases (show (Sum.inl r9 : tq_R) = Sum.inl (some (.int v23.1)) from q1)
        refine tq_pick (L2 := []) [] rfl ?_
        cases (Option.some.inj hf)
        exact HJ227
      · have hf := tq_ifp ep28 cc
        refine tq_aload_n (M := mL_act) (pc := 230) dL_act_230 rfl ?_
        refine tq_iload_n (M := mL_act) (pc := 231) dL_act_231 rfl ?_
        refine tq_iconst (M := mL_act) (pc := 232) dL_act_232 tk_ki_2 ?_
        refine tq_idiv (M := mL_act) (pc := 233) dL_act_233 (by decide +kernel) ?_
        refine tq_aload_n (M := mL_act) (pc := 234) dL_act_234 rfl ?_
        obtain ⟨⟨⟩, eu25, hf⟩ := tq_be hf
        obtain ⟨fsu25, eu25⟩ := tq_is_s eu25
        obtain ⟨v24, ev24, hf⟩ := tq_be hf
        refine tq_calV (M := mL_act) (pc := 235) (S := [.int ((x1 / (2 : Int32))), .ref a0]) tk_y_X10_made tk_v_X10_made tk_RL_172 dL_act_235 [] rfl (S0 := _) rfl eu25 rfl (Nat.le_of_ble_eq_true rfl) (d1 := d - 1) (b1 := 0) (s1 := 0) (bc' := 67) (bs' := 1299) (Q1 := fun r h9 => r = .inl (some (.int v24)) ∧ h = h9) (by omega) rfl rfl (w_X10_made (by omega) ev24 (fun _ _ q => q)) (fun E h9 q => nomatch (show (Sum.inr E : tq_R) = Sum.inl _ from q.1)) (fun r9 h9 q => ?_)
        obtain ⟨q1, rfl⟩ := q
        cases (show (Sum.inl r9 : tq_R) = Sum.inl (some (.int v24)) from q1)
        obtain ⟨u27, eu27, hf⟩ := tq_be hf
        refine tq_irem (M := mL_act) (pc := 238) dL_act_238 (tq_nz_s eu27) ?_
        refine tq_iload (M := mL_act) (pc := 239) dL_act_239 rfl ?_
        obtain ⟨v26, ev26, hf⟩ := tq_be hf
        refine tq_calSW (M := mL_act) (pc := 241) (S := []) tk_w_L_revalue.1 tk_w_L_revalue.2.1 tk_w_L_revalue.2.2.1 tk_w_L_revalue.2.2.2.1 tk_w_L_revalue.2.2.2.2 tk_s_L_revalue tk_RL_197 dL_act_241 [.ref a0, .int (((x1 / (2 : Int32)) - (x1 / (2 : Int32)) / v24 * v24)), .int x10] rfl (Nat.le_of_ble_eq_true rfl) (d1 := d - 1) (b1 := 1) (s1 := 6) (bc' := 66) (bs' := 1293) (Q1 := fun r h9 => r = .inl (some (.int v26.1)) ∧ v26.2 = h9) (by omega) rfl rfl (w_L_revalue (bc := 1) (bs := 6) (by omega) ev26 (fun _ _ _ => ⟨by decide, by decide⟩) (fun _ _ q => q)) (fun E h9 q => nomatch (show (Sum.inr E : tq_R) = Sum.inl _ from q.1)) (fun r9 h9 q => ?_)
        obtain ⟨q1, rfl⟩ := q
        cases (show (Sum.inl r9 : tq_R) = Sum.inl (some (.int v26.1)) from q1)
        refine tq_goto (M := mL_act) (pc := 244) (tgt := 256) dL_act_244 (by decide) ?_
        refine tq_pick (L2 := []) [] rfl ?_
        cases (Option.some.inj hf)
        exact HJ227
    have hf := tq_ifn hf c7
    by_cases c8 : (a1 - a1 / (24 : Int32) * (24 : Int32)) = (8 : Int32)
    · have hf := tq_ifp hf c8
      refine tq_tabX (M := mL_act) (pc := 43) (tgt := 257) (8 : Int32) c8 dL_act_43 (by decide +kernel) (by decide +kernel) (off := 214) (by decide +kernel) (by decide) ?_
      refine tq_aload_n (M := mL_act) (pc := 257) dL_act_257 rfl ?_
      refine tq_iload_n (M := mL_act) (pc := 258) dL_act_258 rfl ?_
      refine tq_iload_n (M := mL_act) (pc := 259) dL_act_259 rfl ?_
      refine tq_bipush (M := mL_act) (pc := 260) dL_act_260 tk_kb_61 ?_
      refine tq_idiv (M := mL_act) (pc := 262) dL_act_262 (by decide +kernel) ?_
      refine tq_aload_n (M := mL_act) (pc := 263) dL_act_263 rfl ?_
      obtain ⟨⟨⟩, eu30, hf⟩ := tq_be hf
      obtain ⟨fsu30, eu30⟩ := tq_is_s eu30
      obtain ⟨v29, ev29, hf⟩ := tq_be hf
      refine tq_calV (M := mL_act) (pc := 264) (S := [.int ((x1 / (61 : Int32))), .int x4, .ref a0]) tk_y_X10_made tk_v_X10_made tk_RL_172 dL_act_264 [] rfl (S0 := _) rfl eu30 rfl (Nat.le_of_ble_eq_true rfl) (d1 := d - 1) (b1 := 0) (s1 := 0) (bc' := 67) (bs' := 1299) (Q1 := fun r h9 => r = .inl (some (.int v29)) ∧ h = h9) (by omega) rfl rfl (w_X10_made (by omega) ev29 (fun _ _ q => q)) (fun E h9 q => nomatch (show (Sum.inr E : tq_R) = Sum.inl _ from q.1)) (fun r9 h9 q => ?_)
      obtain ⟨q1, rfl⟩ := q
      cases (show (Sum.inl r9 : tq_R) = Sum.inl (some (.int v29)) from q1)
      obtain ⟨u32, eu32, hf⟩ := tq_be hf
      refine tq_irem (M := mL_act) (pc := 267) dL_act_267 (tq_nz_s eu32) ?_
      refine tq_iload_n (M := mL_act) (pc := 268) dL_act_268 rfl ?_
      refine tq_sipush (M := mL_act) (pc := 269) dL_act_269 tk_ks_3721 ?_
      refine tq_idiv (M := mL_act) (pc := 272) dL_act_272 (by decide +kernel) ?_
      refine tq_iconst (M := mL_act) (pc := 273) dL_act_273 tk_ki_2 ?_
      refine tq_irem (M := mL_act) (pc := 274) dL_act_274 (by decide +kernel) ?_
      obtain ⟨v31, ev31, hf⟩ := tq_be hf
      refine tq_calSW (M := mL_act) (pc := 275) (S := []) tk_w_L_move.1 tk_w_L_move.2.1 tk_w_L_move.2.2.1 tk_w_L_move.2.2.2.1 tk_w_L_move.2.2.2.2 tk_s_L_move tk_RL_200 dL_act_275 [.ref a0, .int x4, .int (((x1 / (61 : Int32)) - (x1 / (61 : Int32)) / v29 * v29)), .int (((x1 / (3721 : Int32)) - (x1 / (3721 : Int32)) / (2 : Int32) * (2 : Int32)))] rfl (Nat.le_of_ble_eq_true rfl) (d1 := d - 1) (b1 := 1) (s1 := 6) (bc' := 66) (bs' := 1293) (Q1 := fun r h9 => r = .inl (some (.int v31.1)) ∧ v31.2 = h9) (by omega) rfl rfl (w_L_move (bc := 1) (bs := 6) (by omega) ev31 (fun _ _ _ => ⟨by decide, by decide⟩) (fun _ _ q => q)) (fun E h9 q => nomatch (show (Sum.inr E : tq_R) = Sum.inl _ from q.1)) (fun r9 h9 q => ?_)
      obtain ⟨q1, rfl⟩ := q
      cases (show (Sum.inl r9 : tq_R) = Sum.inl (some (.int v31.1)) from q1)
      refine tq_iret (M := mL_act) (pc := 278) dL_act_278 rfl ?_
      cases (Option.some.inj hf)
      exact hQ _ _ ⟨rfl, rfl⟩
    have hf := tq_ifn hf c8
    by_cases c9 : (a1 - a1 / (24 : Int32) * (24 : Int32)) = (9 : Int32)
    · have hf := tq_ifp hf c9
      refine tq_tabX (M := mL_act) (pc := 43) (tgt := 279) (9 : Int32) c9 dL_act_43 (by decide +kernel) (by decide +kernel) (off := 236) (by decide +kernel) (by decide) ?_
      refine tq_aload_n (M := mL_act) (pc := 279) dL_act_279 rfl ?_
      obtain ⟨v33, ev33, hf⟩ := tq_be hf
      refine tq_calSW (M := mL_act) (pc := 280) (S := []) tk_w_L_apply.1 tk_w_L_apply.2.1 tk_w_L_apply.2.2.1 tk_w_L_apply.2.2.2.1 tk_w_L_apply.2.2.2.2 tk_s_L_apply tk_RL_279 dL_act_280 [.ref a0] rfl (Nat.le_of_ble_eq_true rfl) (d1 := d - 1) (b1 := 1) (s1 := 6) (bc' := 66) (bs' := 1293) (Q1 := fun r h9 => r = .inl (some (.int v33.1)) ∧ v33.2 = h9) (by omega) rfl rfl (w_L_apply (bc := 1) (bs := 6) (by omega) ev33 (fun _ _ _ => ⟨by decide, by decide⟩) (fun _ _ q => q)) (fun E h9 q => nomatch (show (Sum.inr E : tq_R) = Sum.inl _ from q.1)) (fun r9 h9 q => ?_)
      obtain ⟨q1, rfl⟩ := q
      cases (show (Sum.inl r9 : tq_R) = Sum.inl (some (.int v33.1)) from q1)
      refine tq_istore (M := mL_act) (pc := 283) dL_act_283 (L2 := [(6, .int v33.1), (5, .int x10), (4, .int p9), (0, .ref a0), (1, .int a1), (2, .int x1), (3, .int x4)]) (by decide) rfl ?_
      refine tq_iload (M := mL_act) (pc := 285) dL_act_285 rfl ?_
      refine tq_ldc (M := mL_act) (pc := 287) dL_act_287 tk_RL_21 ?_
      obtain ⟨p36, ep36, hf⟩ := tq_be hf
      have HJ289 : tq_W l mL_act d 66 1293 Q 304 [] [.int p36.1] p36.2 := by
        refine tq_iret (M := mL_act) (pc := 304) dL_act_304 rfl ?_
        cases (Option.some.inj hf)
        exact hQ _ _ ⟨rfl, rfl⟩
      refine tq_icmp_ne (M := mL_act) (pc := 289) (tgt := 302) dL_act_289 (by decide) (fun cc => ?_) (fun cc => ?_)
      · have hf := tq_ifn ep36 cc
        refine tq_iload (M := mL_act) (pc := 302) dL_act_302 rfl ?_
        refine tq_pick (L2 := []) [] rfl ?_
        cases (Option.some.inj hf)
        exact HJ289
      · have hf := tq_ifp ep36 cc
        refine tq_bipush (M := mL_act) (pc := 292) dL_act_292 tk_kb_m9 ?_
        refine tq_aload_n (M := mL_act) (pc := 294) dL_act_294 rfl ?_
        obtain ⟨⟨⟩, eu35, hf⟩ := tq_be hf
        obtain ⟨fsu35, eu35⟩ := tq_is_s eu35
        obtain ⟨v34, ev34, hf⟩ := tq_be hf
        refine tq_calV (M := mL_act) (pc := 295) (S := [.int (-9 : Int32)]) tk_y_X10_forget tk_v_X10_forget tk_RL_282 dL_act_295 [] rfl (S0 := _) rfl eu35 rfl (Nat.le_of_ble_eq_true rfl) (d1 := d - 1) (b1 := 0) (s1 := 0) (bc' := 66) (bs' := 1293) (Q1 := fun r h9 => r = .inl (some (.int v34.1)) ∧ v34.2 = h9) (by omega) rfl rfl (w_X10_forget (by omega) ev34 (fun _ _ q => q)) (fun E h9 q => nomatch (show (Sum.inr E : tq_R) = Sum.inl _ from q.1)) (fun r9 h9 q => ?_)
        obtain ⟨q1, rfl⟩ := q
        cases (show (Sum.inl r9 : tq_R) = Sum.inl (some (.int v34.1)) from q1)
        refine tq_isub (M := mL_act) (pc := 298) dL_act_298 ?_
        refine tq_goto (M := mL_act) (pc := 299) (tgt := 304) dL_act_299 (by decide) ?_
        refine tq_pick (L2 := []) [] rfl ?_
        cases (Option.some.inj hf)
        exact HJ289
    have hf := tq_ifn hf c9
    by_cases c10 : (a1 - a1 / (24 : Int32) * (24 : Int32)) = (10 : Int32)
    · have hf := tq_ifp hf c10
      refine tq_tabX (M := mL_act) (pc := 43) (tgt := 279) (10 : Int32) c10 dL_act_43 (by decide +kernel) (by decide +kernel) (off := 236) (by decide +kernel) (by decide) ?_
      refine tq_aload_n (M := mL_act) (pc := 279) dL_act_279 rfl ?_
      obtain ⟨v37, ev37, hf⟩ := tq_be hf
      refine tq_calSW (M := mL_act) (pc := 280) (S := []) tk_w_L_apply.1 tk_w_L_apply.2.1 tk_w_L_apply.2.2.1 tk_w_L_apply.2.2.2.1 tk_w_L_apply.2.2.2.2 tk_s_L_apply tk_RL_279 dL_act_280 [.ref a0] rfl (Nat.le_of_ble_eq_true rfl) (d1 := d - 1) (b1 := 1) (s1 := 6) (bc' := 66) (bs' := 1293) (Q1 := fun r h9 => r = .inl (some (.int v37.1)) ∧ v37.2 = h9) (by omega) rfl rfl (w_L_apply (bc := 1) (bs := 6) (by omega) ev37 (fun _ _ _ => ⟨by decide, by decide⟩) (fun _ _ q => q)) (fun E h9 q => nomatch (show (Sum.inr E : tq_R) = Sum.inl _ from q.1)) (fun r9 h9 q => ?_)
      obtain ⟨q1, rfl⟩ := q
      cases (show (Sum.inl r9 : tq_R) = Sum.inl (some (.int v37.1)) from q1)
      refine tq_istore (M := mL_act) (pc := 283) dL_act_283 (L2 := [(6, .int v37.1), (5, .int x10), (4, .int p9), (0, .ref a0), (1, .int a1), (2, .int x1), (3, .int x4)]) (by decide) rfl ?_
      refine tq_iload (M := mL_act) (pc := 285) dL_act_285 rfl ?_
      refine tq_ldc (M := mL_act) (pc := 287) dL_act_287 tk_RL_21 ?_
      obtain ⟨p40, ep40, hf⟩ := tq_be hf
      have HJ289 : tq_W l mL_act d 66 1293 Q 304 [] [.int p40.1] p40.2 := by
        refine tq_iret (M := mL_act) (pc := 304) dL_act_304 rfl ?_
        cases (Option.some.inj hf)
        exact hQ _ _ ⟨rfl, rfl⟩
      refine tq_icmp_ne (M := mL_act) (pc := 289) (tgt := 302) dL_act_289 (by decide) (fun cc => ?_) (fun cc => ?_)
      · have hf := tq_ifn ep40 cc
        refine tq_iload (M := mL_act) (pc := 302) dL_act_302 rfl ?_
        refine tq_pick (L2 := []) [] rfl ?_
        cases (Option.some.inj hf)
        exact HJ289
      · have hf := tq_ifp ep40 cc
        refine tq_bipush (M := mL_act) (pc := 292) dL_act_292 tk_kb_m9 ?_
        refine tq_aload_n (M := mL_act) (pc := 294) dL_act_294 rfl ?_
        obtain ⟨⟨⟩, eu39, hf⟩ := tq_be hf
        obtain ⟨fsu39, eu39⟩ := tq_is_s eu39
        obtain ⟨v38, ev38, hf⟩ := tq_be hf
        refine tq_calV (M := mL_act) (pc := 295) (S := [.int (-9 : Int32)]) tk_y_X10_forget tk_v_X10_forget tk_RL_282 dL_act_295 [] rfl (S0 := _) rfl eu39 rfl (Nat.le_of_ble_eq_true rfl) (d1 := d - 1) (b1 := 0) (s1 := 0) (bc' := 66) (bs' := 1293) (Q1 := fun r h9 => r = .inl (some (.int v38.1)) ∧ v38.2 = h9) (by omega) rfl rfl (w_X10_forget (by omega) ev38 (fun _ _ q => q)) (fun E h9 q => nomatch (show (Sum.inr E : tq_R) = Sum.inl _ from q.1)) (fun r9 h9 q => ?_)
        obtain ⟨q1, rfl⟩ := q
        cases (show (Sum.inl r9 : tq_R) = Sum.inl (some (.int v38.1)) from q1)
        refine tq_isub (M := mL_act) (pc := 298) dL_act_298 ?_
        refine tq_goto (M := mL_act) (pc := 299) (tgt := 304) dL_act_299 (by decide) ?_
        refine tq_pick (L2 := []) [] rfl ?_
        cases (Option.some.inj hf)
        exact HJ289
    have hf := tq_ifn hf c10
    by_cases c11 : (a1 - a1 / (24 : Int32) * (24 : Int32)) = (11 : Int32)
    · have hf := tq_ifp hf c11
      refine tq_tabX (M := mL_act) (pc := 43) (tgt := 279) (11 : Int32) c11 dL_act_43 (by decide +kernel) (by decide +kernel) (off := 236) (by decide +kernel) (by decide) ?_
      refine tq_aload_n (M := mL_act) (pc := 279) dL_act_279 rfl ?_
      obtain ⟨v41, ev41, hf⟩ := tq_be hf
      refine tq_calSW (M := mL_act) (pc := 280) (S := []) tk_w_L_apply.1 tk_w_L_apply.2.1 tk_w_L_apply.2.2.1 tk_w_L_apply.2.2.2.1 tk_w_L_apply.2.2.2.2 tk_s_L_apply tk_RL_279 dL_act_280 [.ref a0] rfl (Nat.le_of_ble_eq_true rfl) (d1 := d - 1) (b1 := 1) (s1 := 6) (bc' := 66) (bs' := 1293) (Q1 := fun r h9 => r = .inl (some (.int v41.1)) ∧ v41.2 = h9) (by omega) rfl rfl (w_L_apply (bc := 1) (bs := 6) (by omega) ev41 (fun _ _ _ => ⟨by decide, by decide⟩) (fun _ _ q => q)) (fun E h9 q => nomatch (show (Sum.inr E : tq_R) = Sum.inl _ from q.1)) (fun r9 h9 q => ?_)
      obtain ⟨q1, rfl⟩ := q
      cases (show (Sum.inl r9 : tq_R) = Sum.inl (some (.int v41.1)) from q1)
      refine tq_istore (M := mL_act) (pc := 283) dL_act_283 (L2 := [(6, .int v41.1), (5, .int x10), (4, .int p9), (0, .ref a0), (1, .int a1), (2, .int x1), (3, .int x4)]) (by decide) rfl ?_
      refine tq_iload (M := mL_act) (pc := 285) dL_act_285 rfl ?_
      refine tq_ldc (M := mL_act) (pc := 287) dL_act_287 tk_RL_21 ?_
      obtain ⟨p44, ep44, hf⟩ := tq_be hf
      have HJ289 : tq_W l mL_act d 66 1293 Q 304 [] [.int p44.1] p44.2 := by
        refine tq_iret (M := mL_act) (pc := 304) dL_act_304 rfl ?_
        cases (Option.some.inj hf)
        exact hQ _ _ ⟨rfl, rfl⟩
      refine tq_icmp_ne (M := mL_act) (pc := 289) (tgt := 302) dL_act_289 (by decide) (fun cc => ?_) (fun cc => ?_)
      · have hf := tq_ifn ep44 cc
        refine tq_iload (M := mL_act) (pc := 302) dL_act_302 rfl ?_
        refine tq_pick (L2 := []) [] rfl ?_
        cases (Option.some.inj hf)
        exact HJ289
      · have hf := tq_ifp ep44 cc
        refine tq_bipush (M := mL_act) (pc := 292) dL_act_292 tk_kb_m9 ?_
        refine tq_aload_n (M := mL_act) (pc := 294) dL_act_294 rfl ?_
        obtain ⟨⟨⟩, eu43, hf⟩ := tq_be hf
        obtain ⟨fsu43, eu43⟩ := tq_is_s eu43
        obtain ⟨v42, ev42, hf⟩ := tq_be hf
        refine tq_calV (M := mL_act) (pc := 295) (S := [.int (-9 : Int32)]) tk_y_X10_forget tk_v_X10_forget tk_RL_282 dL_act_295 [] rfl (S0 := _) rfl eu43 rfl (Nat.le_of_ble_eq_true rfl) (d1 := d - 1) (b1 := 0) (s1 := 0) (bc' := 66) (bs' := 1293) (Q1 := fun r h9 => r = .inl (some (.int v42.1)) ∧ v42.2 = h9) (by omega) rfl rfl (w_X10_forget (by omega) ev42 (fun _ _ q => q)) (fun E h9 q => nomatch (show (Sum.inr E : tq_R) = Sum.inl _ from q.1)) (fun r9 h9 q => ?_)
        obtain ⟨q1, rfl⟩ := q
        cases (show (Sum.inl r9 : tq_R) = Sum.inl (some (.int v42.1)) from q1)
        refine tq_isub (M := mL_act) (pc := 298) dL_act_298 ?_
        refine tq_goto (M := mL_act) (pc := 299) (tgt := 304) dL_act_299 (by decide) ?_
        refine tq_pick (L2 := []) [] rfl ?_
        cases (Option.some.inj hf)
        exact HJ289
    have hf := tq_ifn hf c11
    by_cases c12 : (a1 - a1 / (24 : Int32) * (24 : Int32)) = (12 : Int32)
    · have hf := tq_ifp hf c12
      refine tq_tabX (M := mL_act) (pc := 43) (tgt := 279) (12 : Int32) c12 dL_act_43 (by decide +kernel) (by decide +kernel) (off := 236) (by decide +kernel) (by decide) ?_
      refine tq_aload_n (M := mL_act) (pc := 279) dL_act_279 rfl ?_
      obtain ⟨v45, ev45, hf⟩ := tq_be hf
      refine tq_calSW (M := mL_act) (pc := 280) (S := []) tk_w_L_apply.1 tk_w_L_apply.2.1 tk_w_L_apply.2.2.1 tk_w_L_apply.2.2.2.1 tk_w_L_apply.2.2.2.2 tk_s_L_apply tk_RL_279 dL_act_280 [.ref a0] rfl (Nat.le_of_ble_eq_true rfl) (d1 := d - 1) (b1 := 1) (s1 := 6) (bc' := 66) (bs' := 1293) (Q1 := fun r h9 => r = .inl (some (.int v45.1)) ∧ v45.2 = h9) (by omega) rfl rfl (w_L_apply (bc := 1) (bs := 6) (by omega) ev45 (fun _ _ _ => ⟨by decide, by decide⟩) (fun _ _ q => q)) (fun E h9 q => nomatch (show (Sum.inr E : tq_R) = Sum.inl _ from q.1)) (fun r9 h9 q => ?_)
      obtain ⟨q1, rfl⟩ := q
      cases (show (Sum.inl r9 : tq_R) = Sum.inl (some (.int v45.1)) from q1)
      refine tq_istore (M := mL_act) (pc := 283) dL_act_283 (L2 := [(6, .int v45.1), (5, .int x10), (4, .int p9), (0, .ref a0), (1, .int a1), (2, .int x1), (3, .int x4)]) (by decide) rfl ?_
      refine tq_iload (M := mL_act) (pc := 285) dL_act_285 rfl ?_
      refine tq_ldc (M := mL_act) (pc := 287) dL_act_287 tk_RL_21 ?_
      obtain ⟨p48, ep48, hf⟩ := tq_be hf
      have HJ289 : tq_W l mL_act d 66 1293 Q 304 [] [.int p48.1] p48.2 := by
        refine tq_iret (M := mL_act) (pc := 304) dL_act_304 rfl ?_
        cases (Option.some.inj hf)
        exact hQ _ _ ⟨rfl, rfl⟩
      refine tq_icmp_ne (M := mL_act) (pc := 289) (tgt := 302) dL_act_289 (by decide) (fun cc => ?_) (fun cc => ?_)
      · have hf := tq_ifn ep48 cc
        refine tq_iload (M := mL_act) (pc := 302) dL_act_302 rfl ?_
        refine tq_pick (L2 := []) [] rfl ?_
        cases (Option.some.inj hf)
        exact HJ289
      · have hf := tq_ifp ep48 cc
        refine tq_bipush (M := mL_act) (pc := 292) dL_act_292 tk_kb_m9 ?_
        refine tq_aload_n (M := mL_act) (pc := 294) dL_act_294 rfl ?_
        obtain ⟨⟨⟩, eu47, hf⟩ := tq_be hf
        obtain ⟨fsu47, eu47⟩ := tq_is_s eu47
        obtain ⟨v46, ev46, hf⟩ := tq_be hf
        refine tq_calV (M := mL_act) (pc := 295) (S := [.int (-9 : Int32)]) tk_y_X10_forget tk_v_X10_forget tk_RL_282 dL_act_295 [] rfl (S0 := _) rfl eu47 rfl (Nat.le_of_ble_eq_true rfl) (d1 := d - 1) (b1 := 0) (s1 := 0) (bc' := 66) (bs' := 1293) (Q1 := fun r h9 => r = .inl (some (.int v46.1)) ∧ v46.2 = h9) (by omega) rfl rfl (w_X10_forget (by omega) ev46 (fun _ _ q => q)) (fun E h9 q => nomatch (show (Sum.inr E : tq_R) = Sum.inl _ from q.1)) (fun r9 h9 q => ?_)
        obtain ⟨q1, rfl⟩ := q
        cases (show (Sum.inl r9 : tq_R) = Sum.inl (some (.int v46.1)) from q1)
        refine tq_isub (M := mL_act) (pc := 298) dL_act_298 ?_
        refine tq_goto (M := mL_act) (pc := 299) (tgt := 304) dL_act_299 (by decide) ?_
        refine tq_pick (L2 := []) [] rfl ?_
        cases (Option.some.inj hf)
        exact HJ289
    have hf := tq_ifn hf c12
    by_cases c13 : (a1 - a1 / (24 : Int32) * (24 : Int32)) = (13 : Int32)
    · have hf := tq_ifp hf c13
      refine tq_tabX (M := mL_act) (pc := 43) (tgt := 305) (13 : Int32) c13 dL_act_43 (by decide +kernel) (by decide +kernel) (off := 262) (by decide +kernel) (by decide) ?_
      refine tq_aload_n (M := mL_act) (pc := 305) dL_act_305 rfl ?_
      obtain ⟨v49, ev49, hf⟩ := tq_be hf
      refine tq_calSW (M := mL_act) (pc := 306) (S := []) tk_w_L_path.1 tk_w_L_path.2.1 tk_w_L_path.2.2.1 tk_w_L_path.2.2.2.1 tk_w_L_path.2.2.2.2 tk_s_L_path tk_RL_285 dL_act_306 [.ref a0] rfl (Nat.le_of_ble_eq_true rfl) (d1 := d - 1) (b1 := 1) (s1 := 6) (bc' := 66) (bs' := 1293) (Q1 := fun r h9 => r = .inl (some (.int v49.1)) ∧ v49.2 = h9) (by omega) rfl rfl (w_L_path (bc := 1) (bs := 6) (by omega) ev49 (fun _ _ _ => ⟨by decide, by decide⟩) (fun _ _ q => q)) (fun E h9 q => nomatch (show (Sum.inr E : tq_R) = Sum.inl _ from q.1)) (fun r9 h9 q => ?_)
      obtain ⟨q1, rfl⟩ := q
      cases (show (Sum.inl r9 : tq_R) = Sum.inl (some (.int v49.1)) from q1)
      refine tq_iret (M := mL_act) (pc := 309) dL_act_309 rfl ?_
      cases (Option.some.inj hf)
      exact hQ _ _ ⟨rfl, rfl⟩
    have hf := tq_ifn hf c13
    by_cases c14 : (a1 - a1 / (24 : Int32) * (24 : Int32)) = (14 : Int32)
    · have hf := tq_ifp hf c14
      refine tq_tabX (M := mL_act) (pc := 43) (tgt := 310) (14 : Int32) c14 dL_act_43 (by decide +kernel) (by decide +kernel) (off := 267) (by decide +kernel) (by decide) ?_
      refine tq_aload_n (M := mL_act) (pc := 310) dL_act_310 rfl ?_
      refine tq_iload (M := mL_act) (pc := 311) dL_act_311 rfl ?_
      refine tq_iload_n (M := mL_act) (pc := 313) dL_act_313 rfl ?_
      refine tq_bipush (M := mL_act) (pc := 314) dL_act_314 tk_kb_12 ?_
      refine tq_irem (M := mL_act) (pc := 316) dL_act_316 (by decide +kernel) ?_
      refine tq_iload_n (M := mL_act) (pc := 317) dL_act_317 rfl ?_
      refine tq_bipush (M := mL_act) (pc := 318) dL_act_318 tk_kb_12 ?_
      refine tq_idiv (M := mL_act) (pc := 320) dL_act_320 (by decide +kernel) ?_
      refine tq_iconst (M := mL_act) (pc := 321) dL_act_321 tk_ki_3 ?_
      refine tq_irem (M := mL_act) (pc := 322) dL_act_322 (by decide +kernel) ?_
      obtain ⟨p50, ep50, hf⟩ := tq_le hf
      have HJ323 : tq_W l mL_act d 67 1299 Q 338 [] [.int p50, .int ((x1 - x1 / (12 : Int32) * (12 : Int32))), .int p9, .ref a0] h := by
        refine tq_iconst (M := mL_act) (pc := 338) dL_act_338 tk_ki_m1 ?_
        obtain ⟨v51, ev51, hf⟩ := tq_be hf
        refine tq_calSW (M := mL_act) (pc := 339) (S := []) tk_w_L_step.1 tk_w_L_step.2.1 tk_w_L_step.2.2.1 tk_w_L_step.2.2.2.1 tk_w_L_step.2.2.2.2 tk_s_L_step tk_RL_221 dL_act_339 [.ref a0, .int p9, .int ((x1 - x1 / (12 : Int32) * (12 : Int32))), .int p50, .int (-1 : Int32)] rfl (Nat.le_of_ble_eq_true rfl) (d1 := d - 1) (b1 := 1) (s1 := 6) (bc' := 66) (bs' := 1293) (Q1 := fun r h9 => r = .inl (some (.int v51.1)) ∧ v51.2 = h9) (by omega) rfl rfl (w_L_step (bc := 1) (bs := 6) (by omega) ev51 (fun _ _ _ => ⟨by decide, by decide⟩) (fun _ _ q => q)) (fun E h9 q => nomatch (show (Sum.inr E : tq_R) = Sum.inl _ from q.1)) (fun r9 h9 q => ?_)
        obtain ⟨q1, rfl⟩ := q
        cases (show (Sum.inl r9 : tq_R) = Sum.inl (some (.int v51.1)) from q1)
        refine tq_iret (M := mL_act) (pc := 342) dL_act_342 rfl ?_
        cases (Option.some.inj hf)
        exact hQ _ _ ⟨rfl, rfl⟩
      refine tq_if_ne (M := mL_act) (pc := 323) (tgt := 336) dL_act_323 (by decide) (fun cc => ?_) (fun cc => ?_)
      · have hf := tq_ifn ep50.symm cc
        refine tq_bipush (M := mL_act) (pc := 336) dL_act_336 tk_kb_8 ?_
        refine tq_pick (L2 := []) [] rfl ?_
        cases hf
        exact HJ323
      · have hf := tq_ifp ep50.symm cc
        refine tq_iload_n (M := mL_act) (pc := 326) dL_act_326 rfl ?_
        refine tq_bipush (M := mL_act) (pc := 327) dL_act_327 tk_kb_36 ?_
        refine tq_idiv (M := mL_act) (pc := 329) dL_act_329 (by decide +kernel) ?_
        refine tq_bipush (M := mL_act) (pc := 330) dL_act_330 tk_kb_14 ?_
        refine tq_irem (M := mL_act) (pc := 332) dL_act_332 (by decide +kernel) ?_
        refine tq_goto (M := mL_act) (pc := 333) (tgt := 338) dL_act_333 (by decide) ?_
        refine tq_pick (L2 := []) [] rfl ?_
        cases hf
        exact HJ323
    have hf := tq_ifn hf c14
    by_cases c15 : (a1 - a1 / (24 : Int32) * (24 : Int32)) = (15 : Int32)
    · have hf := tq_ifp hf c15
      refine tq_tabX (M := mL_act) (pc := 43) (tgt := 310) (15 : Int32) c15 dL_act_43 (by decide +kernel) (by decide +kernel) (off := 267) (by decide +kernel) (by decide) ?_
      refine tq_aload_n (M := mL_act) (pc := 310) dL_act_310 rfl ?_
      refine tq_iload (M := mL_act) (pc := 311) dL_act_311 rfl ?_
      refine tq_iload_n (M := mL_act) (pc := 313) dL_act_313 rfl ?_
      refine tq_bipush (M := mL_act) (pc := 314) dL_act_314 tk_kb_12 ?_
      refine tq_irem (M := mL_act) (pc := 316) dL_act_316 (by decide +kernel) ?_
      refine tq_iload_n (M := mL_act) (pc := 317) dL_act_317 rfl ?_
      refine tq_bipush (M := mL_act) (pc := 318) dL_act_318 tk_kb_12 ?_
      refine tq_idiv (M := mL_act) (pc := 320) dL_act_320 (by decide +kernel) ?_
      refine tq_iconst (M := mL_act) (pc := 321) dL_act_321 tk_ki_3 ?_
      refine tq_irem (M := mL_act) (pc := 322) dL_act_322 (by decide +kernel) ?_
      obtain ⟨p52, ep52, hf⟩ := tq_le hf
      have HJ323 : tq_W l mL_act d 67 1299 Q 338 [] [.int p52, .int ((x1 - x1 / (12 : Int32) * (12 : Int32))), .int p9, .ref a0] h := by
        refine tq_iconst (M := mL_act) (pc := 338) dL_act_338 tk_ki_m1 ?_
        obtain ⟨v53, ev53, hf⟩ := tq_be hf
        refine tq_calSW (M := mL_act) (pc := 339) (S := []) tk_w_L_step.1 tk_w_L_step.2.1 tk_w_L_step.2.2.1 tk_w_L_step.2.2.2.1 tk_w_L_step.2.2.2.2 tk_s_L_step tk_RL_221 dL_act_339 [.ref a0, .int p9, .int ((x1 - x1 / (12 : Int32) * (12 : Int32))), .int p52, .int (-1 : Int32)] rfl (Nat.le_of_ble_eq_true rfl) (d1 := d - 1) (b1 := 1) (s1 := 6) (bc' := 66) (bs' := 1293) (Q1 := fun r h9 => r = .inl (some (.int v53.1)) ∧ v53.2 = h9) (by omega) rfl rfl (w_L_step (bc := 1) (bs := 6) (by omega) ev53 (fun _ _ _ => ⟨by decide, by decide⟩) (fun _ _ q => q)) (fun E h9 q => nomatch (show (Sum.inr E : tq_R) = Sum.inl _ from q.1)) (fun r9 h9 q => ?_)
        obtain ⟨q1, rfl⟩ := q
        cases (show (Sum.inl r9 : tq_R) = Sum.inl (some (.int v53.1)) from q1)
        refine tq_iret (M := mL_act) (pc := 342) dL_act_342 rfl ?_
        cases (Option.some.inj hf)
        exact hQ _ _ ⟨rfl, rfl⟩
      refine tq_if_ne (M := mL_act) (pc := 323) (tgt := 336) dL_act_323 (by decide) (fun cc => ?_) (fun cc => ?_)
      · have hf := tq_ifn ep52.symm cc
        refine tq_bipush (M := mL_act) (pc := 336) dL_act_336 tk_kb_8 ?_
        refine tq_pick (L2 := []) [] rfl ?_
        cases hf
        exact HJ323
      · have hf := tq_ifp ep52.symm cc
        refine tq_iload_n (M := mL_act) (pc := 326) dL_act_326 rfl ?_
        refine tq_bipush (M := mL_act) (pc := 327) dL_act_327 tk_kb_36 ?_
        refine tq_idiv (M := mL_act) (pc := 329) dL_act_329 (by decide +kernel) ?_
        refine tq_bipush (M := mL_act) (pc := 330) dL_act_330 tk_kb_14 ?_
        refine tq_irem (M := mL_act) (pc := 332) dL_act_332 (by decide +kernel) ?_
        refine tq_goto (M := mL_act) (pc := 333) (tgt := 338) dL_act_333 (by decide) ?_
        refine tq_pick (L2 := []) [] rfl ?_
        cases hf
        exact HJ323
    have hf := tq_ifn hf c15
    by_cases c16 : (a1 - a1 / (24 : Int32) * (24 : Int32)) = (16 : Int32)
    · have hf := tq_ifp hf c16
      refine tq_tabX (M := mL_act) (pc := 43) (tgt := 343) (16 : Int32) c16 dL_act_43 (by decide +kernel) (by decide +kernel) (off := 300) (by decide +kernel) (by decide) ?_
      refine tq_iload_n (M := mL_act) (pc := 343) dL_act_343 rfl ?_
      refine tq_iconst (M := mL_act) (pc := 344) dL_act_344 tk_ki_2 ?_
      refine tq_irem (M := mL_act) (pc := 345) dL_act_345 (by decide +kernel) ?_
      obtain ⟨p58, ep58, hf⟩ := tq_be hf
      have HJ346 : tq_W l mL_act d 66 1293 Q 399 [] [.int p58.1] p58.2 := by
        refine tq_iret (M := mL_act) (pc := 399) dL_act_399 rfl ?_
        cases (Option.some.inj hf)
        exact hQ _ _ ⟨rfl, rfl⟩
      refine tq_if_ne (M := mL_act) (pc := 346) (tgt := 371) dL_act_346 (by decide) (fun cc => ?_) (fun cc => ?_)
      · have hf := tq_ifn ep58 cc
        refine tq_aload_n (M := mL_act) (pc := 371) dL_act_371 rfl ?_
        refine tq_iload (M := mL_act) (pc := 372) dL_act_372 rfl ?_
        refine tq_iload_n (M := mL_act) (pc := 374) dL_act_374 rfl ?_
        refine tq_iconst (M := mL_act) (pc := 375) dL_act_375 tk_ki_2 ?_
        refine tq_idiv (M := mL_act) (pc := 376) dL_act_376 (by decide +kernel) ?_
        refine tq_iload (M := mL_act) (pc := 377) dL_act_377 rfl ?_
        refine tq_iconst (M := mL_act) (pc := 379) dL_act_379 tk_ki_1 ?_
        refine tq_iadd (M := mL_act) (pc := 380) dL_act_380 ?_
        obtain ⟨u56, eu56, hf⟩ := tq_be hf
        refine tq_irem (M := mL_act) (pc := 381) dL_act_381 (tq_nz_s eu56) ?_
        refine tq_iload_n (M := mL_act) (pc := 382) dL_act_382 rfl ?_
        refine tq_bipush (M := mL_act) (pc := 383) dL_act_383 tk_kb_97 ?_
        refine tq_idiv (M := mL_act) (pc := 385) dL_act_385 (by decide +kernel) ?_
        refine tq_iconst (M := mL_act) (pc := 386) dL_act_386 tk_ki_2 ?_
        refine tq_irem (M := mL_act) (pc := 387) dL_act_387 (by decide +kernel) ?_
        obtain ⟨p54, ep54, hf⟩ := tq_le hf
        have HJ388 : tq_W l mL_act d 67 1299 Q 396 [] [.int p54, .int (((x1 / (2 : Int32)) - (x1 / (2 : Int32)) / (p9 + (1 : Int32)) * (p9 + (1 : Int32)))), .int p9, .ref a0] h := by
          obtain ⟨v55, ev55, hf⟩ := tq_be hf
          refine tq_calSW (M := mL_act) (pc := 396) (S := []) tk_w_L_has.1 tk_w_L_has.2.1 tk_w_L_has.2.2.1 tk_w_L_has.2.2.2.1 tk_w_L_has.2.2.2.2 tk_s_L_has tk_RL_228 dL_act_396 [.ref a0, .int p9, .int (((x1 / (2 : Int32)) - (x1 / (2 : Int32)) / (p9 + (1 : Int32)) * (p9 + (1 : Int32)))), .int p54] rfl (Nat.le_of_ble_eq_true rfl) (d1 := d - 1) (b1 := 1) (s1 := 6) (bc' := 66) (bs' := 1293) (Q1 := fun r h9 => r = .inl (some (.int v55.1)) ∧ v55.2 = h9) (by omega) rfl rfl (w_L_has (bc := 1) (bs := 6) (by omega) ev55 (fun _ _ _ => ⟨by decide, by decide⟩) (fun _ _ q => q)) (fun E h9 q => nomatch (show (Sum.inr E : tq_R) = Sum.inl _ from q.1)) (fun r9 h9 q => ?_)
          obtain ⟨q1, rfl⟩ := q
          cases (show (Sum.inl r9 : tq_R) = Sum.inl (some (.int v55.1)) from q1)
          cases (Option.some.inj hf)
          exact HJ346
        refine tq_if_ne (M := mL_act) (pc := 388) (tgt := 395) dL_act_388 (by decide) (fun cc => ?_) (fun cc => ?_)
        · have hf := tq_ifn ep54.symm cc
          refine tq_iconst (M := mL_act) (pc := 395) dL_act_395 tk_ki_0 ?_
          refine tq_pick (L2 := []) [] rfl ?_
          cases hf
          exact HJ388
        · have hf := tq_ifp ep54.symm cc
          refine tq_iconst (M := mL_act) (pc := 391) dL_act_391 tk_ki_1 ?_
          refine tq_goto (M := mL_act) (pc := 392) (tgt := 396) dL_act_392 (by decide) ?_
          refine tq_pick (L2 := []) [] rfl ?_
          cases hf
          exact HJ388
      · have hf := tq_ifp ep58 cc
        refine tq_aload_n (M := mL_act) (pc := 349) dL_act_349 rfl ?_
        refine tq_iload (M := mL_act) (pc := 350) dL_act_350 rfl ?_
        refine tq_iload_n (M := mL_act) (pc := 352) dL_act_352 rfl ?_
        refine tq_iconst (M := mL_act) (pc := 353) dL_act_353 tk_ki_2 ?_
        refine tq_idiv (M := mL_act) (pc := 354) dL_act_354 (by decide +kernel) ?_
        refine tq_iconst (M := mL_act) (pc := 355) dL_act_355 tk_ki_3 ?_
        refine tq_irem (M := mL_act) (pc := 356) dL_act_356 (by decide +kernel) ?_
        refine tq_iconst (M := mL_act) (pc := 357) dL_act_357 tk_ki_1 ?_
        refine tq_iload_n (M := mL_act) (pc := 358) dL_act_358 rfl ?_
        refine tq_bipush (M := mL_act) (pc := 359) dL_act_359 tk_kb_6 ?_
        refine tq_idiv (M := mL_act) (pc := 361) dL_act_361 (by decide +kernel) ?_
        refine tq_iconst (M := mL_act) (pc := 362) dL_act_362 tk_ki_3 ?_
        refine tq_irem (M := mL_act) (pc := 363) dL_act_363 (by decide +kernel) ?_
        refine tq_iadd (M := mL_act) (pc := 364) dL_act_364 ?_
        obtain ⟨v57, ev57, hf⟩ := tq_be hf
        refine tq_calSW (M := mL_act) (pc := 365) (S := []) tk_w_L_place.1 tk_w_L_place.2.1 tk_w_L_place.2.2.1 tk_w_L_place.2.2.2.1 tk_w_L_place.2.2.2.2 tk_s_L_place tk_RL_224 dL_act_365 [.ref a0, .int p9, .int (((x1 / (2 : Int32)) - (x1 / (2 : Int32)) / (3 : Int32) * (3 : Int32))), .int (((1 : Int32) + ((x1 / (6 : Int32)) - (x1 / (6 : Int32)) / (3 : Int32) * (3 : Int32))))] rfl (Nat.le_of_ble_eq_true rfl) (d1 := d - 1) (b1 := 1) (s1 := 6) (bc' := 66) (bs' := 1293) (Q1 := fun r h9 => r = .inl (some (.int v57.1)) ∧ v57.2 = h9) (by omega) rfl rfl (w_L_place (bc := 1) (bs := 6) (by omega) ev57 (fun _ _ _ => ⟨by decide, by decide⟩) (fun _ _ q => q)) (fun E h9 q => nomatch (show (Sum.inr E : tq_R) = Sum.inl _ from q.1)) (fun r9 h9 q => ?_)
        obtain ⟨q1, rfl⟩ := q
        cases (show (Sum.inl r9 : tq_R) = Sum.inl (some (.int v57.1)) from q1)
        refine tq_goto (M := mL_act) (pc := 368) (tgt := 399) dL_act_368 (by decide) ?_
        refine tq_pick (L2 := []) [] rfl ?_
        cases (Option.some.inj hf)
        exact HJ346
    have hf := tq_ifn hf c16
    by_cases c17 : (a1 - a1 / (24 : Int32) * (24 : Int32)) = (17 : Int32)
    · have hf := tq_ifp hf c17
      refine tq_tabX (M := mL_act) (pc := 43) (tgt := 400) (17 : Int32) c17 dL_act_43 (by decide +kernel) (by decide +kernel) (off := 357) (by decide +kernel) (by decide) ?_
      refine tq_iload_n (M := mL_act) (pc := 400) dL_act_400 rfl ?_
      refine tq_iconst (M := mL_act) (pc := 401) dL_act_401 tk_ki_3 ?_
      refine tq_irem (M := mL_act) (pc := 402) dL_act_402 (by decide +kernel) ?_
      obtain ⟨p66, ep66, hf⟩ := tq_be hf
      have HJ403 : tq_W l mL_act d 66 1293 Q 483 [] [.int p66.1] p66.2 := by
        refine tq_iret (M := mL_act) (pc := 483) dL_act_483 rfl ?_
        cases (Option.some.inj hf)
        exact hQ _ _ ⟨rfl, rfl⟩
      refine tq_if_ne (M := mL_act) (pc := 403) (tgt := 415) dL_act_403 (by decide) (fun cc => ?_) (fun cc => ?_)
      · have hf := tq_ifn ep66 cc
        refine tq_iload_n (M := mL_act) (pc := 415) dL_act_415 rfl ?_
        refine tq_iconst (M := mL_act) (pc := 416) dL_act_416 tk_ki_3 ?_
        refine tq_irem (M := mL_act) (pc := 417) dL_act_417 (by decide +kernel) ?_
        refine tq_iconst (M := mL_act) (pc := 418) dL_act_418 tk_ki_1 ?_
        refine tq_icmp_ne (M := mL_act) (pc := 419) (tgt := 450) dL_act_419 (by decide) (fun cc => ?_) (fun cc => ?_)
        · have hf := tq_ifn hf cc
          refine tq_aload_n (M := mL_act) (pc := 450) dL_act_450 rfl ?_
          refine tq_iload (M := mL_act) (pc := 451) dL_act_451 rfl ?_
          refine tq_iload (M := mL_act) (pc := 453) dL_act_453 rfl ?_
          obtain ⟨p60, ep60, hf⟩ := tq_be hf
          have HJ455 : tq_W l mL_act d 67 1299 Q 468 [(2, .int x1)] [.int p60, .int p9, .ref a0] h := by
            refine tq_iload_n (M := mL_act) (pc := 468) dL_act_468 rfl ?_
            refine tq_bipush (M := mL_act) (pc := 469) dL_act_469 tk_kb_7 ?_
            refine tq_idiv (M := mL_act) (pc := 471) dL_act_471 (by decide +kernel) ?_
            refine tq_iconst (M := mL_act) (pc := 472) dL_act_472 tk_ki_3 ?_
            refine tq_irem (M := mL_act) (pc := 473) dL_act_473 (by decide +kernel) ?_
            refine tq_iload_n (M := mL_act) (pc := 474) dL_act_474 rfl ?_
            refine tq_bipush (M := mL_act) (pc := 475) dL_act_475 tk_kb_21 ?_
            refine tq_idiv (M := mL_act) (pc := 477) dL_act_477 (by decide +kernel) ?_
            refine tq_iconst (M := mL_act) (pc := 478) dL_act_478 tk_ki_4 ?_
            refine tq_irem (M := mL_act) (pc := 479) dL_act_479 (by decide +kernel) ?_
            obtain ⟨v61, ev61, hf⟩ := tq_be hf
            refine tq_calSW (M := mL_act) (pc := 480) (S := []) tk_w_L_worth.1 tk_w_L_worth.2.1 tk_w_L_worth.2.2.1 tk_w_L_worth.2.2.2.1 tk_w_L_worth.2.2.2.2 tk_s_L_worth tk_RL_231 dL_act_480 [.ref a0, .int p9, .int p60, .int (((x1 / (7 : Int32)) - (x1 / (7 : Int32)) / (3 : Int32) * (3 : Int32))), .int (((x1 / (21 : Int32)) - (x1 / (21 : Int32)) / (4 : Int32) * (4 : Int32)))] rfl (Nat.le_of_ble_eq_true rfl) (d1 := d - 1) (b1 := 1) (s1 := 6) (bc' := 66) (bs' := 1293) (Q1 := fun r h9 => r = .inl (some (.int v61.1)) ∧ v61.2 = h9) (by omega) rfl rfl (w_L_worth (bc := 1) (bs := 6) (by omega) ev61 (fun _ _ _ => ⟨by decide, by decide⟩) (fun _ _ q => q)) (fun E h9 q => nomatch (show (Sum.inr E : tq_R) = Sum.inl _ from q.1)) (fun r9 h9 q => ?_)
            obtain ⟨q1, rfl⟩ := q
            cases (show (Sum.inl r9 : tq_R) = Sum.inl (some (.int v61.1)) from q1)
            refine tq_pick (L2 := []) [] rfl ?_
            cases (Option.some.inj hf)
            exact HJ403
          refine tq_if_ne (M := mL_act) (pc := 455) (tgt := 462) dL_act_455 (by decide) (fun cc => ?_) (fun cc => ?_)
          · have hf := tq_ifn ep60 cc
            refine tq_iload_n (M := mL_act) (pc := 462) dL_act_462 rfl ?_
            refine tq_iconst (M := mL_act) (pc := 463) dL_act_463 tk_ki_3 ?_
            refine tq_idiv (M := mL_act) (pc := 464) dL_act_464 (by decide +kernel) ?_
            refine tq_iload (M := mL_act) (pc := 465) dL_act_465 rfl ?_
            obtain ⟨u59, eu59, hf⟩ := tq_be hf
            refine tq_irem (M := mL_act) (pc := 467) dL_act_467 (tq_nz_s eu59) ?_
            refine tq_pick (L2 := [(2, .int x1)]) [4] rfl ?_
            cases (Option.some.inj hf)
            exact HJ455
          · have hf := tq_ifp ep60 cc
            refine tq_iconst (M := mL_act) (pc := 458) dL_act_458 tk_ki_0 ?_
            refine tq_goto (M := mL_act) (pc := 459) (tgt := 468) dL_act_459 (by decide) ?_
            refine tq_pick (L2 := [(2, .int x1)]) [4] rfl ?_
            cases (Option.some.inj hf)
            exact HJ455
        · have hf := tq_ifp hf cc
          refine tq_aload_n (M := mL_act) (pc := 422) dL_act_422 rfl ?_
          refine tq_iload (M := mL_act) (pc := 423) dL_act_423 rfl ?_
          refine tq_bipush (M := mL_act) (pc := 425) dL_act_425 tk_kb_12 ?_
          refine tq_bipush (M := mL_act) (pc := 427) dL_act_427 tk_kb_8 ?_
          refine tq_iload (M := mL_act) (pc := 429) dL_act_429 rfl ?_
          obtain ⟨p63, ep63, hf⟩ := tq_be hf
          have HJ431 : tq_W l mL_act d 67 1299 Q 444 [] [.int p63, .int (8 : Int32), .int (12 : Int32), .int p9, .ref a0] h := by
            obtain ⟨v64, ev64, hf⟩ := tq_be hf
            refine tq_calSW (M := mL_act) (pc := 444) (S := []) tk_w_L_step.1 tk_w_L_step.2.1 tk_w_L_step.2.2.1 tk_w_L_step.2.2.2.1 tk_w_L_step.2.2.2.2 tk_s_L_step tk_RL_221 dL_act_444 [.ref a0, .int p9, .int (12 : Int32), .int (8 : Int32), .int p63] rfl (Nat.le_of_ble_eq_true rfl) (d1 := d - 1) (b1 := 1) (s1 := 6) (bc' := 66) (bs' := 1293) (Q1 := fun r h9 => r = .inl (some (.int v64.1)) ∧ v64.2 = h9) (by omega) rfl rfl (w_L_step (bc := 1) (bs := 6) (by omega) ev64 (fun _ _ _ => ⟨by decide, by decide⟩) (fun _ _ q => q)) (fun E h9 q => nomatch (show (Sum.inr E : tq_R) = Sum.inl _ from q.1)) (fun r9 h9 q => ?_)
            obtain ⟨q1, rfl⟩ := q
            cases (show (Sum.inl r9 : tq_R) = Sum.inl (some (.int v64.1)) from q1)
            refine tq_goto (M := mL_act) (pc := 447) (tgt := 483) dL_act_447 (by decide) ?_
            cases (Option.some.inj hf)
            exact HJ403
          refine tq_if_ne (M := mL_act) (pc := 431) (tgt := 438) dL_act_431 (by decide) (fun cc => ?_) (fun cc => ?_)
          · have hf := tq_ifn ep63 cc
            refine tq_iload_n (M := mL_act) (pc := 438) dL_act_438 rfl ?_
            refine tq_iconst (M := mL_act) (pc := 439) dL_act_439 tk_ki_3 ?_
            refine tq_idiv (M := mL_act) (pc := 440) dL_act_440 (by decide +kernel) ?_
            refine tq_iload (M := mL_act) (pc := 441) dL_act_441 rfl ?_
            obtain ⟨u62, eu62, hf⟩ := tq_be hf
            refine tq_irem (M := mL_act) (pc := 443) dL_act_443 (tq_nz_s eu62) ?_
            refine tq_pick (L2 := []) [] rfl ?_
            cases (Option.some.inj hf)
            exact HJ431
          · have hf := tq_ifp ep63 cc
            refine tq_iconst (M := mL_act) (pc := 434) dL_act_434 tk_ki_0 ?_
            refine tq_goto (M := mL_act) (pc := 435) (tgt := 444) dL_act_435 (by decide) ?_
            refine tq_pick (L2 := []) [] rfl ?_
            cases (Option.some.inj hf)
            exact HJ431
      · have hf := tq_ifp ep66 cc
        refine tq_aload_n (M := mL_act) (pc := 406) dL_act_406 rfl ?_
        refine tq_iload (M := mL_act) (pc := 407) dL_act_407 rfl ?_
        obtain ⟨v65, ev65, hf⟩ := tq_be hf
        refine tq_calSW (M := mL_act) (pc := 409) (S := []) tk_w_L_last.1 tk_w_L_last.2.1 tk_w_L_last.2.2.1 tk_w_L_last.2.2.2.1 tk_w_L_last.2.2.2.2 tk_s_L_last tk_RL_226 dL_act_409 [.ref a0, .int p9] rfl (Nat.le_of_ble_eq_true rfl) (d1 := d - 1) (b1 := 1) (s1 := 6) (bc' := 66) (bs' := 1293) (Q1 := fun r h9 => r = .inl (some (.int v65.1)) ∧ v65.2 = h9) (by omega) rfl rfl (w_L_last (bc := 1) (bs := 6) (by omega) ev65 (fun _ _ _ => ⟨by decide, by decide⟩) (fun _ _ q => q)) (fun E h9 q => nomatch (show (Sum.inr E : tq_R) = Sum.inl _ from q.1)) (fun r9 h9 q => ?_)
        obtain ⟨q1, rfl⟩ := q
        cases (show (Sum.inl r9 : tq_R) = Sum.inl (some (.int v65.1)) from q1)
        refine tq_goto (M := mL_act) (pc := 412) (tgt := 483) dL_act_412 (by decide) ?_
        refine tq_pick (L2 := []) [] rfl ?_
        cases (Option.some.inj hf)
        exact HJ403
    have hf := tq_ifn hf c17
    by_cases c18 : (a1 - a1 / (24 : Int32) * (24 : Int32)) = (18 : Int32)
    · have hf := tq_ifp hf c18
      refine tq_tabX (M := mL_act) (pc := 43) (tgt := 484) (18 : Int32) c18 dL_act_43 (by decide +kernel) (by decide +kernel) (off := 441) (by decide +kernel) (by decide) ?_
      refine tq_iload_n (M := mL_act) (pc := 484) dL_act_484 rfl ?_
      refine tq_iconst (M := mL_act) (pc := 485) dL_act_485 tk_ki_3 ?_
      refine tq_irem (M := mL_act) (pc := 486) dL_act_486 (by decide +kernel) ?_
      obtain ⟨p71, ep71, hf⟩ := tq_be hf
      have HJ487 : tq_W l mL_act d 66 1293 Q 574 [] [.int p71.1] p71.2 := by
        refine tq_iret (M := mL_act) (pc := 574) dL_act_574 rfl ?_
        cases (Option.some.inj hf)
        exact hQ _ _ ⟨rfl, rfl⟩
      refine tq_if_ne (M := mL_act) (pc := 487) (tgt := 508) dL_act_487 (by decide) (fun cc => ?_) (fun cc => ?_)
      · have hf := tq_ifn ep71 cc
        refine tq_iload_n (M := mL_act) (pc := 508) dL_act_508 rfl ?_
        refine tq_iconst (M := mL_act) (pc := 509) dL_act_509 tk_ki_3 ?_
        refine tq_irem (M := mL_act) (pc := 510) dL_act_510 (by decide +kernel) ?_
        refine tq_iconst (M := mL_act) (pc := 511) dL_act_511 tk_ki_1 ?_
        refine tq_icmp_ne (M := mL_act) (pc := 512) (tgt := 545) dL_act_512 (by decide) (fun cc => ?_) (fun cc => ?_)
        · have hf := tq_ifn hf cc
          refine tq_aload_n (M := mL_act) (pc := 545) dL_act_545 rfl ?_
          refine tq_iload_n (M := mL_act) (pc := 546) dL_act_546 rfl ?_
          refine tq_iconst (M := mL_act) (pc := 547) dL_act_547 tk_ki_3 ?_
          refine tq_idiv (M := mL_act) (pc := 548) dL_act_548 (by decide +kernel) ?_
          refine tq_iconst (M := mL_act) (pc := 549) dL_act_549 tk_ki_3 ?_
          refine tq_irem (M := mL_act) (pc := 550) dL_act_550 (by decide +kernel) ?_
          refine tq_iload_n (M := mL_act) (pc := 551) dL_act_551 rfl ?_
          refine tq_bipush (M := mL_act) (pc := 552) dL_act_552 tk_kb_9 ?_
          refine tq_idiv (M := mL_act) (pc := 554) dL_act_554 (by decide +kernel) ?_
          refine tq_iconst (M := mL_act) (pc := 555) dL_act_555 tk_ki_2 ?_
          refine tq_irem (M := mL_act) (pc := 556) dL_act_556 (by decide +kernel) ?_
          refine tq_iload_n (M := mL_act) (pc := 557) dL_act_557 rfl ?_
          refine tq_bipush (M := mL_act) (pc := 558) dL_act_558 tk_kb_18 ?_
          refine tq_idiv (M := mL_act) (pc := 560) dL_act_560 (by decide +kernel) ?_
          refine tq_iconst (M := mL_act) (pc := 561) dL_act_561 tk_ki_2 ?_
          refine tq_irem (M := mL_act) (pc := 562) dL_act_562 (by decide +kernel) ?_
          obtain ⟨p67, ep67, hf⟩ := tq_le hf
          have HJ563 : tq_W l mL_act d 67 1299 Q 571 [] [.int p67, .int (((x1 / (9 : Int32)) - (x1 / (9 : Int32)) / (2 : Int32) * (2 : Int32))), .int (((x1 / (3 : Int32)) - (x1 / (3 : Int32)) / (3 : Int32) * (3 : Int32))), .ref a0] h := by
            obtain ⟨v68, ev68, hf⟩ := tq_be hf
            refine tq_calSW (M := mL_act) (pc := 571) (S := []) tk_w_L_fin.1 tk_w_L_fin.2.1 tk_w_L_fin.2.2.1 tk_w_L_fin.2.2.2.1 tk_w_L_fin.2.2.2.2 tk_s_L_fin tk_RL_259 dL_act_571 [.ref a0, .int (((x1 / (3 : Int32)) - (x1 / (3 : Int32)) / (3 : Int32) * (3 : Int32))), .int (((x1 / (9 : Int32)) - (x1 / (9 : Int32)) / (2 : Int32) * (2 : Int32))), .int p67] rfl (Nat.le_of_ble_eq_true rfl) (d1 := d - 1) (b1 := 1) (s1 := 6) (bc' := 66) (bs' := 1293) (Q1 := fun r h9 => r = .inl (some (.int v68.1)) ∧ v68.2 = h9) (by omega) rfl rfl (w_L_fin (bc := 1) (bs := 6) (by omega) ev68 (fun _ _ _ => ⟨by decide, by decide⟩) (fun _ _ q => q)) (fun E h9 q => nomatch (show (Sum.inr E : tq_R) = Sum.inl _ from q.1)) (fun r9 h9 q => ?_)
            obtain ⟨q1, rfl⟩ := q
            cases (show (Sum.inl r9 : tq_R) = Sum.inl (some (.int v68.1)) from q1)
            cases (Option.some.inj hf)
            exact HJ487
          refine tq_if_ne (M := mL_act) (pc := 563) (tgt := 570) dL_act_563 (by decide) (fun cc => ?_) (fun cc => ?_)
          · have hf := tq_ifn ep67.symm cc
            refine tq_iconst (M := mL_act) (pc := 570) dL_act_570 tk_ki_0 ?_
            refine tq_pick (L2 := []) [] rfl ?_
            cases hf
            exact HJ563
          · have hf := tq_ifp ep67.symm cc
            refine tq_iconst (M := mL_act) (pc := 566) dL_act_566 tk_ki_1 ?_
            refine tq_goto (M := mL_act) (pc := 567) (tgt := 571) dL_act_567 (by decide) ?_
            refine tq_pick (L2 := []) [] rfl ?_
            cases hf
            exact HJ563
        · have hf := tq_ifp hf cc
          refine tq_aload_n (M := mL_act) (pc := 515) dL_act_515 rfl ?_
          refine tq_iload_n (M := mL_act) (pc := 516) dL_act_516 rfl ?_
          refine tq_iconst (M := mL_act) (pc := 517) dL_act_517 tk_ki_3 ?_
          refine tq_idiv (M := mL_act) (pc := 518) dL_act_518 (by decide +kernel) ?_
          refine tq_iconst (M := mL_act) (pc := 519) dL_act_519 tk_ki_3 ?_
          refine tq_irem (M := mL_act) (pc := 520) dL_act_520 (by decide +kernel) ?_
          refine tq_iload_n (M := mL_act) (pc := 521) dL_act_521 rfl ?_
          refine tq_bipush (M := mL_act) (pc := 522) dL_act_522 tk_kb_9 ?_
          refine tq_idiv (M := mL_act) (pc := 524) dL_act_524 (by decide +kernel) ?_
          refine tq_iconst (M := mL_act) (pc := 525) dL_act_525 tk_ki_2 ?_
          refine tq_irem (M := mL_act) (pc := 526) dL_act_526 (by decide +kernel) ?_
          refine tq_iload_n (M := mL_act) (pc := 527) dL_act_527 rfl ?_
          refine tq_bipush (M := mL_act) (pc := 528) dL_act_528 tk_kb_18 ?_
          refine tq_idiv (M := mL_act) (pc := 530) dL_act_530 (by decide +kernel) ?_
          refine tq_iconst (M := mL_act) (pc := 531) dL_act_531 tk_ki_3 ?_
          refine tq_irem (M := mL_act) (pc := 532) dL_act_532 (by decide +kernel) ?_
          refine tq_iload_n (M := mL_act) (pc := 533) dL_act_533 rfl ?_
          refine tq_bipush (M := mL_act) (pc := 534) dL_act_534 tk_kb_54 ?_
          refine tq_idiv (M := mL_act) (pc := 536) dL_act_536 (by decide +kernel) ?_
          refine tq_iconst (M := mL_act) (pc := 537) dL_act_537 tk_ki_2 ?_
          refine tq_irem (M := mL_act) (pc := 538) dL_act_538 (by decide +kernel) ?_
          obtain ⟨v69, ev69, hf⟩ := tq_be hf
          refine tq_calSW (M := mL_act) (pc := 539) (S := []) tk_w_L_arc.1 tk_w_L_arc.2.1 tk_w_L_arc.2.2.1 tk_w_L_arc.2.2.2.1 tk_w_L_arc.2.2.2.2 tk_s_L_arc tk_RL_257 dL_act_539 [.ref a0, .int (((x1 / (3 : Int32)) - (x1 / (3 : Int32)) / (3 : Int32) * (3 : Int32))), .int (((x1 / (9 : Int32)) - (x1 / (9 : Int32)) / (2 : Int32) * (2 : Int32))), .int (((x1 / (18 : Int32)) - (x1 / (18 : Int32)) / (3 : Int32) * (3 : Int32))), .int (((x1 / (54 : Int32)) - (x1 / (54 : Int32)) / (2 : Int32) * (2 : Int32)))] rfl (Nat.le_of_ble_eq_true rfl) (d1 := d - 1) (b1 := 1) (s1 := 6) (bc' := 66) (bs' := 1293) (Q1 := fun r h9 => r = .inl (some (.int v69.1)) ∧ v69.2 = h9) (by omega) rfl rfl (w_L_arc (bc := 1) (bs := 6) (by omega) ev69 (fun _ _ _ => ⟨by decide, by decide⟩) (fun _ _ q => q)) (fun E h9 q => nomatch (show (Sum.inr E : tq_R) = Sum.inl _ from q.1)) (fun r9 h9 q => ?_)
          obtain ⟨q1, rfl⟩ := q
          cases (show (Sum.inl r9 : tq_R) = Sum.inl (some (.int v69.1)) from q1)
          refine tq_goto (M := mL_act) (pc := 542) (tgt := 574) dL_act_542 (by decide) ?_
          refine tq_pick (L2 := []) [] rfl ?_
          cases (Option.some.inj hf)
          exact HJ487
      · have hf := tq_ifp ep71 cc
        refine tq_aload_n (M := mL_act) (pc := 490) dL_act_490 rfl ?_
        refine tq_iload_n (M := mL_act) (pc := 491) dL_act_491 rfl ?_
        refine tq_iconst (M := mL_act) (pc := 492) dL_act_492 tk_ki_3 ?_
        refine tq_idiv (M := mL_act) (pc := 493) dL_act_493 (by decide +kernel) ?_
        refine tq_iconst (M := mL_act) (pc := 494) dL_act_494 tk_ki_3 ?_
        refine tq_irem (M := mL_act) (pc := 495) dL_act_495 (by decide +kernel) ?_
        refine tq_iload_n (M := mL_act) (pc := 496) dL_act_496 rfl ?_
        refine tq_bipush (M := mL_act) (pc := 497) dL_act_497 tk_kb_9 ?_
        refine tq_idiv (M := mL_act) (pc := 499) dL_act_499 (by decide +kernel) ?_
        refine tq_iconst (M := mL_act) (pc := 500) dL_act_500 tk_ki_4 ?_
        refine tq_irem (M := mL_act) (pc := 501) dL_act_501 (by decide +kernel) ?_
        obtain ⟨v70, ev70, hf⟩ := tq_be hf
        refine tq_calSW (M := mL_act) (pc := 502) (S := []) tk_w_L_nameType.1 tk_w_L_nameType.2.1 tk_w_L_nameType.2.2.1 tk_w_L_nameType.2.2.2.1 tk_w_L_nameType.2.2.2.2 tk_s_L_nameType tk_RL_255 dL_act_502 [.ref a0, .int (((x1 / (3 : Int32)) - (x1 / (3 : Int32)) / (3 : Int32) * (3 : Int32))), .int (((x1 / (9 : Int32)) - (x1 / (9 : Int32)) / (4 : Int32) * (4 : Int32)))] rfl (Nat.le_of_ble_eq_true rfl) (d1 := d - 1) (b1 := 1) (s1 := 6) (bc' := 66) (bs' := 1293) (Q1 := fun r h9 => r = .inl (some (.int v70.1)) ∧ v70.2 = h9) (by omega) rfl rfl (w_L_nameType (bc := 1) (bs := 6) (by omega) ev70 (fun _ _ _ => ⟨by decide, by decide⟩) (fun _ _ q => q)) (fun E h9 q => nomatch (show (Sum.inr E : tq_R) = Sum.inl _ from q.1)) (fun r9 h9 q => ?_)
        obtain ⟨q1, rfl⟩ := q
        cases (show (Sum.inl r9 : tq_R) = Sum.inl (some (.int v70.1)) from q1)
        refine tq_goto (M := mL_act) (pc := 505) (tgt := 574) dL_act_505 (by decide) ?_
        refine tq_pick (L2 := []) [] rfl ?_
        cases (Option.some.inj hf)
        exact HJ487
    have hf := tq_ifn hf c18
    by_cases c19 : (a1 - a1 / (24 : Int32) * (24 : Int32)) = (19 : Int32)
    · have hf := tq_ifp hf c19
      refine tq_tabX (M := mL_act) (pc := 43) (tgt := 575) (19 : Int32) c19 dL_act_43 (by decide +kernel) (by decide +kernel) (off := 532) (by decide +kernel) (by decide) ?_
      refine tq_iload_n (M := mL_act) (pc := 575) dL_act_575 rfl ?_
      refine tq_iconst (M := mL_act) (pc := 576) dL_act_576 tk_ki_3 ?_
      refine tq_irem (M := mL_act) (pc := 577) dL_act_577 (by decide +kernel) ?_
      obtain ⟨p77, ep77, hf⟩ := tq_be hf
      have HJ578 : tq_W l mL_act d 66 1293 Q 655 [] [.int p77.1] p77.2 := by
        refine tq_iret (M := mL_act) (pc := 655) dL_act_655 rfl ?_
        cases (Option.some.inj hf)
        exact hQ _ _ ⟨rfl, rfl⟩
      refine tq_if_ne (M := mL_act) (pc := 578) (tgt := 607) dL_act_578 (by decide) (fun cc => ?_) (fun cc => ?_)
      · have hf := tq_ifn ep77 cc
        refine tq_iload_n (M := mL_act) (pc := 607) dL_act_607 rfl ?_
        refine tq_iconst (M := mL_act) (pc := 608) dL_act_608 tk_ki_3 ?_
        refine tq_irem (M := mL_act) (pc := 609) dL_act_609 (by decide +kernel) ?_
        refine tq_iconst (M := mL_act) (pc := 610) dL_act_610 tk_ki_1 ?_
        refine tq_icmp_ne (M := mL_act) (pc := 611) (tgt := 638) dL_act_611 (by decide) (fun cc => ?_) (fun cc => ?_)
        · have hf := tq_ifn hf cc
          refine tq_aload_n (M := mL_act) (pc := 638) dL_act_638 rfl ?_
          refine tq_iload_n (M := mL_act) (pc := 639) dL_act_639 rfl ?_
          refine tq_iconst (M := mL_act) (pc := 640) dL_act_640 tk_ki_3 ?_
          refine tq_idiv (M := mL_act) (pc := 641) dL_act_641 (by decide +kernel) ?_
          refine tq_iconst (M := mL_act) (pc := 642) dL_act_642 tk_ki_2 ?_
          refine tq_irem (M := mL_act) (pc := 643) dL_act_643 (by decide +kernel) ?_
          obtain ⟨p72, ep72, hf⟩ := tq_le hf
          have HJ644 : tq_W l mL_act d 67 1299 Q 652 [] [.int p72, .ref a0] h := by
            obtain ⟨v73, ev73, hf⟩ := tq_be hf
            refine tq_calSW (M := mL_act) (pc := 652) (S := []) tk_w_L_strict.1 tk_w_L_strict.2.1 tk_w_L_strict.2.2.1 tk_w_L_strict.2.2.2.1 tk_w_L_strict.2.2.2.2 tk_s_L_strict tk_RL_287 dL_act_652 [.ref a0, .int p72] rfl (Nat.le_of_ble_eq_true rfl) (d1 := d - 1) (b1 := 1) (s1 := 6) (bc' := 66) (bs' := 1293) (Q1 := fun r h9 => r = .inl (some (.int v73.1)) ∧ v73.2 = h9) (by omega) rfl rfl (w_L_strict (bc := 1) (bs := 6) (by omega) ev73 (fun _ _ _ => ⟨by decide, by decide⟩) (fun _ _ q => q)) (fun E h9 q => nomatch (show (Sum.inr E : tq_R) = Sum.inl _ from q.1)) (fun r9 h9 q => ?_)
            obtain ⟨q1, rfl⟩ := q
            cases (show (Sum.inl r9 : tq_R) = Sum.inl (some (.int v73.1)) from q1)
            cases (Option.some.inj hf)
            exact HJ578
          refine tq_if_ne (M := mL_act) (pc := 644) (tgt := 651) dL_act_644 (by decide) (fun cc => ?_) (fun cc => ?_)
          · have hf := tq_ifn ep72.symm cc
            refine tq_iconst (M := mL_act) (pc := 651) dL_act_651 tk_ki_0 ?_
            refine tq_pick (L2 := []) [] rfl ?_
            cases hf
            exact HJ644
          · have hf := tq_ifp ep72.symm cc
            refine tq_iconst (M := mL_act) (pc := 647) dL_act_647 tk_ki_1 ?_
            refine tq_goto (M := mL_act) (pc := 648) (tgt := 652) dL_act_648 (by decide) ?_
            refine tq_pick (L2 := []) [] rfl ?_
            cases hf
            exact HJ644
        · have hf := tq_ifp hf cc
          refine tq_aload_n (M := mL_act) (pc := 614) dL_act_614 rfl ?_
          refine tq_iload_n (M := mL_act) (pc := 615) dL_act_615 rfl ?_
          refine tq_iconst (M := mL_act) (pc := 616) dL_act_616 tk_ki_3 ?_
          refine tq_idiv (M := mL_act) (pc := 617) dL_act_617 (by decide +kernel) ?_
          refine tq_iconst (M := mL_act) (pc := 618) dL_act_618 tk_ki_3 ?_
          refine tq_irem (M := mL_act) (pc := 619) dL_act_619 (by decide +kernel) ?_
          refine tq_iload_n (M := mL_act) (pc := 620) dL_act_620 rfl ?_
          refine tq_bipush (M := mL_act) (pc := 621) dL_act_621 tk_kb_9 ?_
          refine tq_idiv (M := mL_act) (pc := 623) dL_act_623 (by decide +kernel) ?_
          refine tq_iconst (M := mL_act) (pc := 624) dL_act_624 tk_ki_4 ?_
          refine tq_irem (M := mL_act) (pc := 625) dL_act_625 (by decide +kernel) ?_
          refine tq_iload_n (M := mL_act) (pc := 626) dL_act_626 rfl ?_
          refine tq_bipush (M := mL_act) (pc := 627) dL_act_627 tk_kb_36 ?_
          refine tq_idiv (M := mL_act) (pc := 629) dL_act_629 (by decide +kernel) ?_
          refine tq_iconst (M := mL_act) (pc := 630) dL_act_630 tk_ki_3 ?_
          refine tq_irem (M := mL_act) (pc := 631) dL_act_631 (by decide +kernel) ?_
          obtain ⟨v74, ev74, hf⟩ := tq_be hf
          refine tq_calSW (M := mL_act) (pc := 632) (S := []) tk_w_L_says.1 tk_w_L_says.2.1 tk_w_L_says.2.2.1 tk_w_L_says.2.2.2.1 tk_w_L_says.2.2.2.2 tk_s_L_says tk_RL_266 dL_act_632 [.ref a0, .int (((x1 / (3 : Int32)) - (x1 / (3 : Int32)) / (3 : Int32) * (3 : Int32))), .int (((x1 / (9 : Int32)) - (x1 / (9 : Int32)) / (4 : Int32) * (4 : Int32))), .int (((x1 / (36 : Int32)) - (x1 / (36 : Int32)) / (3 : Int32) * (3 : Int32)))] rfl (Nat.le_of_ble_eq_true rfl) (d1 := d - 1) (b1 := 1) (s1 := 6) (bc' := 66) (bs' := 1293) (Q1 := fun r h9 => r = .inl (some (.int v74.1)) ∧ v74.2 = h9) (by omega) rfl rfl (w_L_says (bc := 1) (bs := 6) (by omega) ev74 (fun _ _ _ => ⟨by decide, by decide⟩) (fun _ _ q => q)) (fun E h9 q => nomatch (show (Sum.inr E : tq_R) = Sum.inl _ from q.1)) (fun r9 h9 q => ?_)
          obtain ⟨q1, rfl⟩ := q
          cases (show (Sum.inl r9 : tq_R) = Sum.inl (some (.int v74.1)) from q1)
          refine tq_goto (M := mL_act) (pc := 635) (tgt := 655) dL_act_635 (by decide) ?_
          refine tq_pick (L2 := []) [] rfl ?_
          cases (Option.some.inj hf)
          exact HJ578
      · have hf := tq_ifp ep77 cc
        refine tq_aload_n (M := mL_act) (pc := 581) dL_act_581 rfl ?_
        refine tq_iload_n (M := mL_act) (pc := 582) dL_act_582 rfl ?_
        refine tq_iconst (M := mL_act) (pc := 583) dL_act_583 tk_ki_3 ?_
        refine tq_idiv (M := mL_act) (pc := 584) dL_act_584 (by decide +kernel) ?_
        refine tq_iconst (M := mL_act) (pc := 585) dL_act_585 tk_ki_3 ?_
        refine tq_irem (M := mL_act) (pc := 586) dL_act_586 (by decide +kernel) ?_
        refine tq_iload_n (M := mL_act) (pc := 587) dL_act_587 rfl ?_
        refine tq_bipush (M := mL_act) (pc := 588) dL_act_588 tk_kb_9 ?_
        refine tq_idiv (M := mL_act) (pc := 590) dL_act_590 (by decide +kernel) ?_
        refine tq_iconst (M := mL_act) (pc := 591) dL_act_591 tk_ki_2 ?_
        refine tq_irem (M := mL_act) (pc := 592) dL_act_592 (by decide +kernel) ?_
        obtain ⟨p75, ep75, hf⟩ := tq_le hf
        have HJ593 : tq_W l mL_act d 67 1299 Q 601 [] [.int p75, .int (((x1 / (3 : Int32)) - (x1 / (3 : Int32)) / (3 : Int32) * (3 : Int32))), .ref a0] h := by
          obtain ⟨v76, ev76, hf⟩ := tq_be hf
          refine tq_calSW (M := mL_act) (pc := 601) (S := []) tk_w_L_texts.1 tk_w_L_texts.2.1 tk_w_L_texts.2.2.1 tk_w_L_texts.2.2.2.1 tk_w_L_texts.2.2.2.2 tk_s_L_texts tk_RL_262 dL_act_601 [.ref a0, .int (((x1 / (3 : Int32)) - (x1 / (3 : Int32)) / (3 : Int32) * (3 : Int32))), .int p75] rfl (Nat.le_of_ble_eq_true rfl) (d1 := d - 1) (b1 := 1) (s1 := 6) (bc' := 66) (bs' := 1293) (Q1 := fun r h9 => r = .inl (some (.int v76.1)) ∧ v76.2 = h9) (by omega) rfl rfl (w_L_texts (bc := 1) (bs := 6) (by omega) ev76 (fun _ _ _ => ⟨by decide, by decide⟩) (fun _ _ q => q)) (fun E h9 q => nomatch (show (Sum.inr E : tq_R) = Sum.inl _ from q.1)) (fun r9 h9 q => ?_)
          obtain ⟨q1, rfl⟩ := q
          cases (show (Sum.inl r9 : tq_R) = Sum.inl (some (.int v76.1)) from q1)
          refine tq_goto (M := mL_act) (pc := 604) (tgt := 655) dL_act_604 (by decide) ?_
          cases (Option.some.inj hf)
          exact HJ578
        refine tq_if_ne (M := mL_act) (pc := 593) (tgt := 600) dL_act_593 (by decide) (fun cc => ?_) (fun cc => ?_)
        · have hf := tq_ifn ep75.symm cc
          refine tq_iconst (M := mL_act) (pc := 600) dL_act_600 tk_ki_0 ?_
          refine tq_pick (L2 := []) [] rfl ?_
          cases hf
          exact HJ593
        · have hf := tq_ifp ep75.symm cc
          refine tq_iconst (M := mL_act) (pc := 596) dL_act_596 tk_ki_1 ?_
          refine tq_goto (M := mL_act) (pc := 597) (tgt := 601) dL_act_597 (by decide) ?_
          refine tq_pick (L2 := []) [] rfl ?_
          cases hf
          exact HJ593
    have hf := tq_ifn hf c19
    by_cases c20 : (a1 - a1 / (24 : Int32) * (24 : Int32)) = (20 : Int32)
    · have hf := tq_ifp hf c20
      refine tq_tabX (M := mL_act) (pc := 43) (tgt := 656) (20 : Int32) c20 dL_act_43 (by decide +kernel) (by decide +kernel) (off := 613) (by decide +kernel) (by decide) ?_
      refine tq_aload_n (M := mL_act) (pc := 656) dL_act_656 rfl ?_
      refine tq_iload (M := mL_act) (pc := 657) dL_act_657 rfl ?_
      obtain ⟨v78, ev78, hf⟩ := tq_be hf
      refine tq_calSW (M := mL_act) (pc := 659) (S := []) tk_w_L_index.1 tk_w_L_index.2.1 tk_w_L_index.2.2.1 tk_w_L_index.2.2.2.1 tk_w_L_index.2.2.2.2 tk_s_L_index tk_RL_269 dL_act_659 [.ref a0, .int x10] rfl (Nat.le_of_ble_eq_true rfl) (d1 := d - 1) (b1 := 1) (s1 := 6) (bc' := 66) (bs' := 1293) (Q1 := fun r h9 => r = .inl (some (.int v78.1)) ∧ v78.2 = h9) (by omega) rfl rfl (w_L_index (bc := 1) (bs := 6) (by omega) ev78 (fun _ _ _ => ⟨by decide, by decide⟩) (fun _ _ q => q)) (fun E h9 q => nomatch (show (Sum.inr E : tq_R) = Sum.inl _ from q.1)) (fun r9 h9 q => ?_)
      obtain ⟨q1, rfl⟩ := q
      cases (show (Sum.inl r9 : tq_R) = Sum.inl (some (.int v78.1)) from q1)
      refine tq_iret (M := mL_act) (pc := 662) dL_act_662 rfl ?_
      cases (Option.some.inj hf)
      exact hQ _ _ ⟨rfl, rfl⟩
    have hf := tq_ifn hf c20
    by_cases c21 : (a1 - a1 / (24 : Int32) * (24 : Int32)) = (21 : Int32)
    · have hf := tq_ifp hf c21
      refine tq_tabX (M := mL_act) (pc := 43) (tgt := 663) (21 : Int32) c21 dL_act_43 (by decide +kernel) (by decide +kernel) (off := 620) (by decide +kernel) (by decide) ?_
      refine tq_aload_n (M := mL_act) (pc := 663) dL_act_663 rfl ?_
      refine tq_iload_n (M := mL_act) (pc := 664) dL_act_664 rfl ?_
      refine tq_iload (M := mL_act) (pc := 665) dL_act_665 rfl ?_
      refine tq_iconst (M := mL_act) (pc := 667) dL_act_667 tk_ki_1 ?_
      refine tq_iadd (M := mL_act) (pc := 668) dL_act_668 ?_
      obtain ⟨u80, eu80, hf⟩ := tq_be hf
      refine tq_irem (M := mL_act) (pc := 669) dL_act_669 (tq_nz_s eu80) ?_
      obtain ⟨v79, ev79, hf⟩ := tq_be hf
      refine tq_calSW (M := mL_act) (pc := 670) (S := []) tk_w_L_view.1 tk_w_L_view.2.1 tk_w_L_view.2.2.1 tk_w_L_view.2.2.2.1 tk_w_L_view.2.2.2.2 tk_s_L_view tk_RL_247 dL_act_670 [.ref a0, .int ((x1 - x1 / (p9 + (1 : Int32)) * (p9 + (1 : Int32))))] rfl (Nat.le_of_ble_eq_true rfl) (d1 := d - 1) (b1 := 1) (s1 := 6) (bc' := 66) (bs' := 1293) (Q1 := fun r h9 => r = .inl (some (.int v79.1)) ∧ v79.2 = h9) (by omega) rfl rfl (w_L_view (bc := 1) (bs := 6) (by omega) ev79 (fun _ _ _ => ⟨by decide, by decide⟩) (fun _ _ q => q)) (fun E h9 q => nomatch (show (Sum.inr E : tq_R) = Sum.inl _ from q.1)) (fun r9 h9 q => ?_)
      obtain ⟨q1, rfl⟩ := q
      cases (show (Sum.inl r9 : tq_R) = Sum.inl (some (.int v79.1)) from q1)
      refine tq_iret (M := mL_act) (pc := 673) dL_act_673 rfl ?_
      cases (Option.some.inj hf)
      exact hQ _ _ ⟨rfl, rfl⟩
    have hf := tq_ifn hf c21
    by_cases c22 : (a1 - a1 / (24 : Int32) * (24 : Int32)) = (22 : Int32)
    · have hf := tq_ifp hf c22
      refine tq_tabX (M := mL_act) (pc := 43) (tgt := 674) (22 : Int32) c22 dL_act_43 (by decide +kernel) (by decide +kernel) (off := 631) (by decide +kernel) (by decide) ?_
      refine tq_iload_n (M := mL_act) (pc := 674) dL_act_674 rfl ?_
      refine tq_iconst (M := mL_act) (pc := 675) dL_act_675 tk_ki_2 ?_
      refine tq_irem (M := mL_act) (pc := 676) dL_act_676 (by decide +kernel) ?_
      obtain ⟨p83, ep83, hf⟩ := tq_be hf
      have HJ677 : tq_W l mL_act d 26 156 Q 696 [] [.int p83.1] p83.2 := by
        refine tq_iret (M := mL_act) (pc := 696) dL_act_696 rfl ?_
        cases (Option.some.inj hf)
        exact hQ _ _ ⟨rfl, rfl⟩
      refine tq_if_ne (M := mL_act) (pc := 677) (tgt := 687) dL_act_677 (by decide) (fun cc => ?_) (fun cc => ?_)
      · have hf := tq_ifn ep83 cc
        refine tq_aload_n (M := mL_act) (pc := 687) dL_act_687 rfl ?_
        refine tq_iload_n (M := mL_act) (pc := 688) dL_act_688 rfl ?_
        refine tq_iconst (M := mL_act) (pc := 689) dL_act_689 tk_ki_2 ?_
        refine tq_idiv (M := mL_act) (pc := 690) dL_act_690 (by decide +kernel) ?_
        refine tq_iconst (M := mL_act) (pc := 691) dL_act_691 tk_ki_3 ?_
        refine tq_irem (M := mL_act) (pc := 692) dL_act_692 (by decide +kernel) ?_
        obtain ⟨v81, ev81, hf⟩ := tq_be hf
        refine tq_calSW (M := mL_act) (pc := 693) (S := []) tk_w_L_take.1 tk_w_L_take.2.1 tk_w_L_take.2.2.1 tk_w_L_take.2.2.2.1 tk_w_L_take.2.2.2.2 tk_s_L_take tk_RL_273 dL_act_693 [.ref a0, .int (((x1 / (2 : Int32)) - (x1 / (2 : Int32)) / (3 : Int32) * (3 : Int32)))] rfl (Nat.le_of_ble_eq_true rfl) (d1 := d - 1) (b1 := 1) (s1 := 6) (bc' := 66) (bs' := 1293) (Q1 := fun r h9 => r = .inl (some (.int v81.1)) ∧ v81.2 = h9) (by omega) rfl rfl (w_L_take (bc := 1) (bs := 6) (by omega) ev81 (fun _ _ _ => ⟨by decide, by decide⟩) (fun _ _ q => q)) (fun E h9 q => nomatch (show (Sum.inr E : tq_R) = Sum.inl _ from q.1)) (fun r9 h9 q => ?_)
        obtain ⟨q1, rfl⟩ := q
        cases (show (Sum.inl r9 : tq_R) = Sum.inl (some (.int v81.1)) from q1)
        refine tq_pick (L2 := []) [] rfl ?_
        refine tq_more (bc := 26) (bs := 156) (by omega) (by omega) ?_
        cases (Option.some.inj hf)
        exact HJ677
      · have hf := tq_ifp ep83 cc
        refine tq_aload_n (M := mL_act) (pc := 680) dL_act_680 rfl ?_
        obtain ⟨v82, ev82, hf⟩ := tq_be hf
        refine tq_calSW (M := mL_act) (pc := 681) (S := []) tk_w_L_keep.1 tk_w_L_keep.2.1 tk_w_L_keep.2.2.1 tk_w_L_keep.2.2.2.1 tk_w_L_keep.2.2.2.2 tk_s_L_keep tk_RL_291 dL_act_681 [.ref a0] rfl (Nat.le_of_ble_eq_true rfl) (d1 := d - 1) (b1 := 41) (s1 := 1143) (bc' := 26) (bs' := 156) (Q1 := fun r h9 => r = .inl (some (.int v82.1)) ∧ v82.2 = h9) (by omega) rfl rfl (w_L_keep (bc := 1) (bs := 6) (by omega) ev82 (fun _ _ _ => ⟨by decide, by decide⟩) (fun _ _ q => q)) (fun E h9 q => nomatch (show (Sum.inr E : tq_R) = Sum.inl _ from q.1)) (fun r9 h9 q => ?_)
        obtain ⟨q1, rfl⟩ := q
        cases (show (Sum.inl r9 : tq_R) = Sum.inl (some (.int v82.1)) from q1)
        refine tq_goto (M := mL_act) (pc := 684) (tgt := 696) dL_act_684 (by decide) ?_
        refine tq_pick (L2 := []) [] rfl ?_
        cases (Option.some.inj hf)
        exact HJ677
    have hf := tq_ifn hf c22
    have hD := tq_far (c := (a1 - a1 / (24 : Int32) * (24 : Int32))) (n := 23) (by decide) (fun j hj => by match j, hj with
      | 0, _ => exact c0
      | 1, _ => exact c1
      | 2, _ => exact c2
      | 3, _ => exact c3
      | 4, _ => exact c4
      | 5, _ => exact c5
      | 6, _ => exact c6
      | 7, _ => exact c7
      | 8, _ => exact c8
      | 9, _ => exact c9
      | 10, _ => exact c10
      | 11, _ => exact c11
      | 12, _ => exact c12
      | 13, _ => exact c13
      | 14, _ => exact c14
      | 15, _ => exact c15
      | 16, _ => exact c16
      | 17, _ => exact c17
      | 18, _ => exact c18
      | 19, _ => exact c19
      | 20, _ => exact c20
      | 21, _ => exact c21
      | 22, _ => exact c22
      | j + 23, hj => exact absurd hj (by omega))
    refine tq_tabD (M := mL_act) (pc := 43) (tgt := 697) dL_act_43 (by exact hD) (by decide) ?_
    refine tq_iload_n (M := mL_act) (pc := 697) dL_act_697 rfl ?_
    refine tq_iconst (M := mL_act) (pc := 698) dL_act_698 tk_ki_2 ?_
    refine tq_irem (M := mL_act) (pc := 699) dL_act_699 (by decide +kernel) ?_
    obtain ⟨p89, ep89, hf⟩ := tq_be hf
    have HJ700 : tq_W l mL_act d 66 1293 Q 743 [] [.int p89.1] p89.2 := by
      refine tq_iret (M := mL_act) (pc := 743) dL_act_743 rfl ?_
      cases (Option.some.inj hf)
      exact hQ _ _ ⟨rfl, rfl⟩
    refine tq_if_ne (M := mL_act) (pc := 700) (tgt := 718) dL_act_700 (by decide) (fun cc => ?_) (fun cc => ?_)
    · have hf := tq_ifn ep89 cc
      refine tq_aload_n (M := mL_act) (pc := 718) dL_act_718 rfl ?_
      refine tq_iload_n (M := mL_act) (pc := 719) dL_act_719 rfl ?_
      refine tq_iconst (M := mL_act) (pc := 720) dL_act_720 tk_ki_2 ?_
      refine tq_idiv (M := mL_act) (pc := 721) dL_act_721 (by decide +kernel) ?_
      refine tq_iconst (M := mL_act) (pc := 722) dL_act_722 tk_ki_3 ?_
      refine tq_irem (M := mL_act) (pc := 723) dL_act_723 (by decide +kernel) ?_
      obtain ⟨p84, ep84, hf⟩ := tq_le hf
      have HJ724 : tq_W l mL_act d 67 1299 Q 732 [] [.int p84, .ref a0] h := by
        obtain ⟨⟨⟩, eu86, hf⟩ := tq_be hf
        obtain ⟨fsu86, eu86⟩ := tq_is_s eu86
        obtain ⟨v85, ev85, hf⟩ := tq_be hf
        refine tq_calV (M := mL_act) (pc := 732) (S := []) tk_y_X10_readAsReader tk_v_X10_readAsReader tk_RL_293 dL_act_732 [.int p84] rfl (S0 := _) rfl eu86 rfl (Nat.le_of_ble_eq_true rfl) (d1 := d - 1) (b1 := 0) (s1 := 0) (bc' := 67) (bs' := 1299) (Q1 := fun r h9 => r = .inl (some (.int v85.1)) ∧ v85.2 = h9) (by omega) rfl rfl (w_X10_readAsReader (by omega) ev85 (fun _ _ q => q)) (fun E h9 q => nomatch (show (Sum.inr E : tq_R) = Sum.inl _ from q.1)) (fun r9 h9 q => ?_)
        obtain ⟨q1, rfl⟩ := q
        cases (show (Sum.inl r9 : tq_R) = Sum.inl (some (.int v85.1)) from q1)
        refine tq_if_eq (M := mL_act) (pc := 735) (tgt := 742) dL_act_735 (by decide) (fun cc => ?_) (fun cc => ?_)
        · have hf := tq_ifp hf cc
          refine tq_iconst (M := mL_act) (pc := 742) dL_act_742 tk_ki_0 ?_
          refine tq_more (bc := 66) (bs := 1293) (by omega) (by omega) ?_
          cases (Option.some.inj hf)
          exact HJ700
        · have hf := tq_ifn hf cc
          refine tq_iconst (M := mL_act) (pc := 738) dL_act_738 tk_ki_1 ?_
          refine tq_goto (M := mL_act) (pc := 739) (tgt := 743) dL_act_739 (by decide) ?_
          refine tq_more (bc := 66) (bs := 1293) (by omega) (by omega) ?_
          cases (Option.some.inj hf)
          exact HJ700
      refine tq_if_ne (M := mL_act) (pc := 724) (tgt := 731) dL_act_724 (by decide) (fun cc => ?_) (fun cc => ?_)
      · have hf := tq_ifn ep84.symm cc
        refine tq_iconst (M := mL_act) (pc := 731) dL_act_731 tk_ki_0 ?_
        refine tq_pick (L2 := []) [] rfl ?_
        cases hf
        exact HJ724
      · have hf := tq_ifp ep84.symm cc
        refine tq_iconst (M := mL_act) (pc := 727) dL_act_727 tk_ki_1 ?_
        refine tq_goto (M := mL_act) (pc := 728) (tgt := 732) dL_act_728 (by decide) ?_
        refine tq_pick (L2 := []) [] rfl ?_
        cases hf
        exact HJ724
    · have hf := tq_ifp ep89 cc
      refine tq_aload_n (M := mL_act) (pc := 703) dL_act_703 rfl ?_
      refine tq_iload_n (M := mL_act) (pc := 704) dL_act_704 rfl ?_
      refine tq_iconst (M := mL_act) (pc := 705) dL_act_705 tk_ki_2 ?_
      refine tq_idiv (M := mL_act) (pc := 706) dL_act_706 (by decide +kernel) ?_
      refine tq_iload (M := mL_act) (pc := 707) dL_act_707 rfl ?_
      refine tq_iconst (M := mL_act) (pc := 709) dL_act_709 tk_ki_1 ?_
      refine tq_iadd (M := mL_act) (pc := 710) dL_act_710 ?_
      obtain ⟨u88, eu88, hf⟩ := tq_be hf
      refine tq_irem (M := mL_act) (pc := 711) dL_act_711 (tq_nz_s eu88) ?_
      obtain ⟨v87, ev87, hf⟩ := tq_be hf
      refine tq_calSW (M := mL_act) (pc := 712) (S := []) tk_w_L_hide.1 tk_w_L_hide.2.1 tk_w_L_hide.2.2.1 tk_w_L_hide.2.2.2.1 tk_w_L_hide.2.2.2.2 tk_s_L_hide tk_RL_249 dL_act_712 [.ref a0, .int (((x1 / (2 : Int32)) - (x1 / (2 : Int32)) / (p9 + (1 : Int32)) * (p9 + (1 : Int32))))] rfl (Nat.le_of_ble_eq_true rfl) (d1 := d - 1) (b1 := 1) (s1 := 6) (bc' := 66) (bs' := 1293) (Q1 := fun r h9 => r = .inl (some (.int v87.1)) ∧ v87.2 = h9) (by omega) rfl rfl (w_L_hide (bc := 1) (bs := 6) (by omega) ev87 (fun _ _ _ => ⟨by decide, by decide⟩) (fun _ _ q => q)) (fun E h9 q => nomatch (show (Sum.inr E : tq_R) = Sum.inl _ from q.1)) (fun r9 h9 q => ?_)
      obtain ⟨q1, rfl⟩ := q
      cases (show (Sum.inl r9 : tq_R) = Sum.inl (some (.int v87.1)) from q1)
      refine tq_goto (M := mL_act) (pc := 715) (tgt := 743) dL_act_715 (by decide) ?_
      refine tq_pick (L2 := []) [] rfl ?_
      cases (Option.some.inj hf)
      exact HJ700
  refine tq_if_ne (M := mL_act) (pc := 16) (tgt := 23) dL_act_16 (by decide) (fun cc => ?_) (fun cc => ?_)
  · have hf := tq_ifn ep9 cc
    refine tq_aload_n (M := mL_act) (pc := 23) dL_act_23 rfl ?_
    obtain ⟨⟨⟩, eu8, hf⟩ := tq_be hf
    obtain ⟨fsu8, eu8⟩ := tq_is_s eu8
    obtain ⟨v7, ev7, hf⟩ := tq_be hf
    refine tq_calV (M := mL_act) (pc := 24) (S := []) tk_y_X10_paths tk_v_X10_paths tk_RL_175 dL_act_24 [] rfl (S0 := _) rfl eu8 rfl (Nat.le_of_ble_eq_true rfl) (d1 := d - 1) (b1 := 0) (s1 := 0) (bc' := 67) (bs' := 1299) (Q1 := fun r h9 => r = .inl (some (.int v7)) ∧ h = h9) (by omega) rfl rfl (w_X10_paths (by omega) ev7 (fun _ _ q => q)) (fun E h9 q => nomatch (show (Sum.inr E : tq_R) = Sum.inl _ from q.1)) (fun r9 h9 q => ?_)
    obtain ⟨q1, rfl⟩ := q
    cases (show (Sum.inl r9 : tq_R) = Sum.inl (some (.int v7)) from q1)
    refine tq_iconst (M := mL_act) (pc := 27) dL_act_27 tk_ki_1 ?_
    refine tq_isub (M := mL_act) (pc := 28) dL_act_28 ?_
    refine tq_pick (L2 := [(0, .ref a0), (1, .int a1), (2, .int x1), (3, .int x4)]) [2, 3, 1, 0] rfl ?_
    cases (Option.some.inj hf)
    exact HJ16
  · have hf := tq_ifp ep9 cc
    refine tq_iconst (M := mL_act) (pc := 19) dL_act_19 tk_ki_0 ?_
    refine tq_goto (M := mL_act) (pc := 20) (tgt := 29) dL_act_20 (by decide) ?_
    refine tq_pick (L2 := [(0, .ref a0), (1, .int a1), (2, .int x1), (3, .int x4)]) [2, 3, 1, 0] rfl ?_
    cases (Option.some.inj hf)
    exact HJ16
