theorem dL_0 : decode code 0 = .ok (.new 8, 3) := by decide +kernel
theorem dL_3 : decode code 3 = .ok (.dup, 1) := by decide +kernel
theorem dL_4 : decode code 4 = .ok (.aload_n 0, 1) := by decide +kernel
theorem dL_5 : decode code 5 = .ok (.iconst 0, 1) := by decide +kernel
theorem dL_6 : decode code 6 = .ok (.invokestatic 65, 3) := by decide +kernel
theorem dL_9 : decode code 9 = .ok (.invokespecial 71, 3) := by decide +kernel
theorem dL_12 : decode code 12 = .ok (.astore_n 1, 1) := by decide +kernel
theorem dL_13 : decode code 13 = .ok (.new 73, 3) := by decide +kernel
theorem dL_16 : decode code 16 = .ok (.dup, 1) := by decide +kernel
theorem dL_17 : decode code 17 = .ok (.aload_n 0, 1) := by decide +kernel
theorem dL_18 : decode code 18 = .ok (.iconst 0, 1) := by decide +kernel
theorem dL_19 : decode code 19 = .ok (.invokestatic 65, 3) := by decide +kernel
theorem dL_22 : decode code 22 = .ok (.invokespecial 75, 3) := by decide +kernel
theorem dL_25 : decode code 25 = .ok (.astore_n 2, 1) := by decide +kernel
theorem dL_26 : decode code 26 = .ok (.iconst 1, 1) := by decide +kernel
theorem dL_27 : decode code 27 = .ok (.newarray .long, 2) := by decide +kernel
theorem dL_29 : decode code 29 = .ok (.astore_n 3, 1) := by decide +kernel
theorem dL_30 : decode code 30 = .ok (.iconst 1, 1) := by decide +kernel
theorem dL_31 : decode code 31 = .ok (.istore 4, 2) := by decide +kernel
theorem dL_33 : decode code 33 = .ok (.iload 4, 2) := by decide +kernel
theorem dL_35 : decode code 35 = .ok (.aload_n 0, 1) := by decide +kernel
theorem dL_36 : decode code 36 = .ok (.arraylength, 1) := by decide +kernel
theorem dL_37 : decode code 37 = .ok (.bipush 6, 2) := by decide +kernel
theorem dL_39 : decode code 39 = .ok (.isub, 1) := by decide +kernel
theorem dL_40 : decode code 40 = .ok (.if_icmp .gt 1099, 3) := by decide +kernel
theorem dL_43 : decode code 43 = .ok (.aload_n 0, 1) := by decide +kernel
theorem dL_44 : decode code 44 = .ok (.iload 4, 2) := by decide +kernel
theorem dL_46 : decode code 46 = .ok (.iaload, 1) := by decide +kernel
theorem dL_47 : decode code 47 = .ok (.bipush 31, 2) := by decide +kernel
theorem dL_49 : decode code 49 = .ok (.iand, 1) := by decide +kernel
theorem dL_50 : decode code 50 = .ok (.tableswitch 1083 0 17 #[86, 157, 182, 262, 287, 300, 325, 369, 437, 504, 572, 628, 679, 751, 807, 887, 955, 991], 86) := by decide +kernel
theorem dL_136 : decode code 136 = .ok (.aload_n 1, 1) := by decide +kernel
theorem dL_137 : decode code 137 = .ok (.aload_n 0, 1) := by decide +kernel
theorem dL_138 : decode code 138 = .ok (.iload 4, 2) := by decide +kernel
theorem dL_140 : decode code 140 = .ok (.iconst 1, 1) := by decide +kernel
theorem dL_141 : decode code 141 = .ok (.iadd, 1) := by decide +kernel
theorem dL_142 : decode code 142 = .ok (.iaload, 1) := by decide +kernel
theorem dL_143 : decode code 143 = .ok (.aload_n 0, 1) := by decide +kernel
theorem dL_144 : decode code 144 = .ok (.iload 4, 2) := by decide +kernel
theorem dL_146 : decode code 146 = .ok (.iconst 2, 1) := by decide +kernel
theorem dL_147 : decode code 147 = .ok (.iadd, 1) := by decide +kernel
theorem dL_148 : decode code 148 = .ok (.iaload, 1) := by decide +kernel
theorem dL_149 : decode code 149 = .ok (.aload_n 0, 1) := by decide +kernel
theorem dL_150 : decode code 150 = .ok (.iload 4, 2) := by decide +kernel
theorem dL_152 : decode code 152 = .ok (.iconst 3, 1) := by decide +kernel
theorem dL_153 : decode code 153 = .ok (.iadd, 1) := by decide +kernel
theorem dL_154 : decode code 154 = .ok (.iaload, 1) := by decide +kernel
theorem dL_155 : decode code 155 = .ok (.aload_n 0, 1) := by decide +kernel
theorem dL_156 : decode code 156 = .ok (.iload 4, 2) := by decide +kernel
theorem dL_158 : decode code 158 = .ok (.iconst 4, 1) := by decide +kernel
theorem dL_159 : decode code 159 = .ok (.iadd, 1) := by decide +kernel
theorem dL_160 : decode code 160 = .ok (.iaload, 1) := by decide +kernel
theorem dL_161 : decode code 161 = .ok (.aload_n 0, 1) := by decide +kernel
theorem dL_162 : decode code 162 = .ok (.iload 4, 2) := by decide +kernel
theorem dL_164 : decode code 164 = .ok (.iconst 5, 1) := by decide +kernel
theorem dL_165 : decode code 165 = .ok (.iadd, 1) := by decide +kernel
theorem dL_166 : decode code 166 = .ok (.iaload, 1) := by decide +kernel
theorem dL_167 : decode code 167 = .ok (.invokevirtual 76, 3) := by decide +kernel
theorem dL_170 : decode code 170 = .ok (.aload_n 2, 1) := by decide +kernel
theorem dL_171 : decode code 171 = .ok (.aload_n 0, 1) := by decide +kernel
theorem dL_172 : decode code 172 = .ok (.iload 4, 2) := by decide +kernel
theorem dL_174 : decode code 174 = .ok (.iconst 1, 1) := by decide +kernel
theorem dL_175 : decode code 175 = .ok (.iadd, 1) := by decide +kernel
theorem dL_176 : decode code 176 = .ok (.iaload, 1) := by decide +kernel
theorem dL_177 : decode code 177 = .ok (.aload_n 0, 1) := by decide +kernel
theorem dL_178 : decode code 178 = .ok (.iload 4, 2) := by decide +kernel
theorem dL_180 : decode code 180 = .ok (.iconst 2, 1) := by decide +kernel
theorem dL_181 : decode code 181 = .ok (.iadd, 1) := by decide +kernel
theorem dL_182 : decode code 182 = .ok (.iaload, 1) := by decide +kernel
theorem dL_183 : decode code 183 = .ok (.aload_n 0, 1) := by decide +kernel
theorem dL_184 : decode code 184 = .ok (.iload 4, 2) := by decide +kernel
theorem dL_186 : decode code 186 = .ok (.iconst 3, 1) := by decide +kernel
theorem dL_187 : decode code 187 = .ok (.iadd, 1) := by decide +kernel
theorem dL_188 : decode code 188 = .ok (.iaload, 1) := by decide +kernel
theorem dL_189 : decode code 189 = .ok (.aload_n 0, 1) := by decide +kernel
theorem dL_190 : decode code 190 = .ok (.iload 4, 2) := by decide +kernel
theorem dL_192 : decode code 192 = .ok (.iconst 4, 1) := by decide +kernel
theorem dL_193 : decode code 193 = .ok (.iadd, 1) := by decide +kernel
theorem dL_194 : decode code 194 = .ok (.iaload, 1) := by decide +kernel
theorem dL_195 : decode code 195 = .ok (.aload_n 0, 1) := by decide +kernel
theorem dL_196 : decode code 196 = .ok (.iload 4, 2) := by decide +kernel
theorem dL_198 : decode code 198 = .ok (.iconst 5, 1) := by decide +kernel
theorem dL_199 : decode code 199 = .ok (.iadd, 1) := by decide +kernel
theorem dL_200 : decode code 200 = .ok (.iaload, 1) := by decide +kernel
theorem dL_201 : decode code 201 = .ok (.invokevirtual 80, 3) := by decide +kernel
theorem dL_204 : decode code 204 = .ok (.goto 929, 3) := by decide +kernel
theorem dL_207 : decode code 207 = .ok (.aload_n 1, 1) := by decide +kernel
theorem dL_208 : decode code 208 = .ok (.aload_n 0, 1) := by decide +kernel
theorem dL_209 : decode code 209 = .ok (.iload 4, 2) := by decide +kernel
theorem dL_211 : decode code 211 = .ok (.iconst 1, 1) := by decide +kernel
theorem dL_212 : decode code 212 = .ok (.iadd, 1) := by decide +kernel
theorem dL_213 : decode code 213 = .ok (.iaload, 1) := by decide +kernel
theorem dL_214 : decode code 214 = .ok (.invokevirtual 81, 3) := by decide +kernel
theorem dL_217 : decode code 217 = .ok (.aload_n 2, 1) := by decide +kernel
theorem dL_218 : decode code 218 = .ok (.aload_n 0, 1) := by decide +kernel
theorem dL_219 : decode code 219 = .ok (.iload 4, 2) := by decide +kernel
theorem dL_221 : decode code 221 = .ok (.iconst 1, 1) := by decide +kernel
theorem dL_222 : decode code 222 = .ok (.iadd, 1) := by decide +kernel
theorem dL_223 : decode code 223 = .ok (.iaload, 1) := by decide +kernel
theorem dL_224 : decode code 224 = .ok (.invokevirtual 84, 3) := by decide +kernel
theorem dL_227 : decode code 227 = .ok (.if_icmp .eq 906, 3) := by decide +kernel
theorem dL_230 : decode code 230 = .ok (.iconst 0, 1) := by decide +kernel
theorem dL_231 : decode code 231 = .ok (.ireturn, 1) := by decide +kernel
theorem dL_232 : decode code 232 = .ok (.aload_n 1, 1) := by decide +kernel
theorem dL_233 : decode code 233 = .ok (.aload_n 0, 1) := by decide +kernel
theorem dL_234 : decode code 234 = .ok (.iload 4, 2) := by decide +kernel
theorem dL_236 : decode code 236 = .ok (.iconst 1, 1) := by decide +kernel
theorem dL_237 : decode code 237 = .ok (.iadd, 1) := by decide +kernel
theorem dL_238 : decode code 238 = .ok (.iaload, 1) := by decide +kernel
theorem dL_239 : decode code 239 = .ok (.aload_n 0, 1) := by decide +kernel
theorem dL_240 : decode code 240 = .ok (.iload 4, 2) := by decide +kernel
theorem dL_242 : decode code 242 = .ok (.iconst 2, 1) := by decide +kernel
theorem dL_243 : decode code 243 = .ok (.iadd, 1) := by decide +kernel
theorem dL_244 : decode code 244 = .ok (.iaload, 1) := by decide +kernel
theorem dL_245 : decode code 245 = .ok (.aload_n 0, 1) := by decide +kernel
theorem dL_246 : decode code 246 = .ok (.iload 4, 2) := by decide +kernel
theorem dL_248 : decode code 248 = .ok (.iconst 3, 1) := by decide +kernel
theorem dL_249 : decode code 249 = .ok (.iadd, 1) := by decide +kernel
theorem dL_250 : decode code 250 = .ok (.iaload, 1) := by decide +kernel
theorem dL_251 : decode code 251 = .ok (.aload_n 3, 1) := by decide +kernel
theorem dL_252 : decode code 252 = .ok (.invokestatic 85, 3) := by decide +kernel
theorem dL_255 : decode code 255 = .ok (.istore 5, 2) := by decide +kernel
theorem dL_257 : decode code 257 = .ok (.aload_n 2, 1) := by decide +kernel
theorem dL_258 : decode code 258 = .ok (.aload_n 0, 1) := by decide +kernel
theorem dL_259 : decode code 259 = .ok (.iload 4, 2) := by decide +kernel
theorem dL_261 : decode code 261 = .ok (.iconst 1, 1) := by decide +kernel
theorem dL_262 : decode code 262 = .ok (.iadd, 1) := by decide +kernel
theorem dL_263 : decode code 263 = .ok (.iaload, 1) := by decide +kernel
theorem dL_264 : decode code 264 = .ok (.aload_n 0, 1) := by decide +kernel
theorem dL_265 : decode code 265 = .ok (.iload 4, 2) := by decide +kernel
theorem dL_267 : decode code 267 = .ok (.iconst 2, 1) := by decide +kernel
theorem dL_268 : decode code 268 = .ok (.iadd, 1) := by decide +kernel
theorem dL_269 : decode code 269 = .ok (.iaload, 1) := by decide +kernel
theorem dL_270 : decode code 270 = .ok (.aload_n 0, 1) := by decide +kernel
theorem dL_271 : decode code 271 = .ok (.iload 4, 2) := by decide +kernel
theorem dL_273 : decode code 273 = .ok (.iconst 3, 1) := by decide +kernel
theorem dL_274 : decode code 274 = .ok (.iadd, 1) := by decide +kernel
theorem dL_275 : decode code 275 = .ok (.iaload, 1) := by decide +kernel
theorem dL_276 : decode code 276 = .ok (.invokevirtual 88, 3) := by decide +kernel
theorem dL_279 : decode code 279 = .ok (.istore 6, 2) := by decide +kernel
theorem dL_281 : decode code 281 = .ok (.aload_n 2, 1) := by decide +kernel
theorem dL_282 : decode code 282 = .ok (.invokevirtual 89, 3) := by decide +kernel
theorem dL_285 : decode code 285 = .ok (.iload 5, 2) := by decide +kernel
theorem dL_287 : decode code 287 = .ok (.if_icmp .eq 5, 3) := by decide +kernel
theorem dL_290 : decode code 290 = .ok (.iconst 0, 1) := by decide +kernel
theorem dL_291 : decode code 291 = .ok (.ireturn, 1) := by decide +kernel
theorem dL_292 : decode code 292 = .ok (.iload 5, 2) := by decide +kernel
theorem dL_294 : decode code 294 = .ok (.ifCond .ne 15, 3) := by decide +kernel
theorem dL_297 : decode code 297 = .ok (.aload_n 3, 1) := by decide +kernel
theorem dL_298 : decode code 298 = .ok (.iconst 0, 1) := by decide +kernel
theorem dL_299 : decode code 299 = .ok (.laload, 1) := by decide +kernel
theorem dL_300 : decode code 300 = .ok (.iload 6, 2) := by decide +kernel
theorem dL_302 : decode code 302 = .ok (.i2l, 1) := by decide +kernel
theorem dL_303 : decode code 303 = .ok (.lcmp, 1) := by decide +kernel
theorem dL_304 : decode code 304 = .ok (.ifCond .eq 5, 3) := by decide +kernel
theorem dL_307 : decode code 307 = .ok (.iconst 0, 1) := by decide +kernel
theorem dL_308 : decode code 308 = .ok (.ireturn, 1) := by decide +kernel
theorem dL_309 : decode code 309 = .ok (.goto 824, 3) := by decide +kernel
theorem dL_312 : decode code 312 = .ok (.aload_n 1, 1) := by decide +kernel
theorem dL_313 : decode code 313 = .ok (.aload_n 0, 1) := by decide +kernel
theorem dL_314 : decode code 314 = .ok (.iload 4, 2) := by decide +kernel
theorem dL_316 : decode code 316 = .ok (.iconst 1, 1) := by decide +kernel
theorem dL_317 : decode code 317 = .ok (.iadd, 1) := by decide +kernel
theorem dL_318 : decode code 318 = .ok (.iaload, 1) := by decide +kernel
theorem dL_319 : decode code 319 = .ok (.invokevirtual 92, 3) := by decide +kernel
theorem dL_322 : decode code 322 = .ok (.aload_n 2, 1) := by decide +kernel
theorem dL_323 : decode code 323 = .ok (.aload_n 0, 1) := by decide +kernel
theorem dL_324 : decode code 324 = .ok (.iload 4, 2) := by decide +kernel
theorem dL_326 : decode code 326 = .ok (.iconst 1, 1) := by decide +kernel
theorem dL_327 : decode code 327 = .ok (.iadd, 1) := by decide +kernel
theorem dL_328 : decode code 328 = .ok (.iaload, 1) := by decide +kernel
theorem dL_329 : decode code 329 = .ok (.invokevirtual 95, 3) := by decide +kernel
theorem dL_332 : decode code 332 = .ok (.if_icmp .eq 801, 3) := by decide +kernel
theorem dL_335 : decode code 335 = .ok (.iconst 0, 1) := by decide +kernel
theorem dL_336 : decode code 336 = .ok (.ireturn, 1) := by decide +kernel
theorem dL_337 : decode code 337 = .ok (.aload_n 1, 1) := by decide +kernel
theorem dL_338 : decode code 338 = .ok (.invokevirtual 96, 3) := by decide +kernel
theorem dL_341 : decode code 341 = .ok (.aload_n 2, 1) := by decide +kernel
theorem dL_342 : decode code 342 = .ok (.invokevirtual 99, 3) := by decide +kernel
theorem dL_345 : decode code 345 = .ok (.if_icmp .eq 788, 3) := by decide +kernel
theorem dL_348 : decode code 348 = .ok (.iconst 0, 1) := by decide +kernel
theorem dL_349 : decode code 349 = .ok (.ireturn, 1) := by decide +kernel
theorem dL_350 : decode code 350 = .ok (.aload_n 1, 1) := by decide +kernel
theorem dL_351 : decode code 351 = .ok (.aload_n 0, 1) := by decide +kernel
theorem dL_352 : decode code 352 = .ok (.iload 4, 2) := by decide +kernel
theorem dL_354 : decode code 354 = .ok (.iconst 1, 1) := by decide +kernel
theorem dL_355 : decode code 355 = .ok (.iadd, 1) := by decide +kernel
theorem dL_356 : decode code 356 = .ok (.iaload, 1) := by decide +kernel
theorem dL_357 : decode code 357 = .ok (.invokevirtual 100, 3) := by decide +kernel
theorem dL_360 : decode code 360 = .ok (.aload_n 2, 1) := by decide +kernel
theorem dL_361 : decode code 361 = .ok (.aload_n 0, 1) := by decide +kernel
theorem dL_362 : decode code 362 = .ok (.iload 4, 2) := by decide +kernel
theorem dL_364 : decode code 364 = .ok (.iconst 1, 1) := by decide +kernel
theorem dL_365 : decode code 365 = .ok (.iadd, 1) := by decide +kernel
theorem dL_366 : decode code 366 = .ok (.iaload, 1) := by decide +kernel
theorem dL_367 : decode code 367 = .ok (.invokevirtual 103, 3) := by decide +kernel
theorem dL_370 : decode code 370 = .ok (.if_icmp .eq 763, 3) := by decide +kernel
theorem dL_373 : decode code 373 = .ok (.iconst 0, 1) := by decide +kernel
theorem dL_374 : decode code 374 = .ok (.ireturn, 1) := by decide +kernel
theorem dL_375 : decode code 375 = .ok (.aload_n 1, 1) := by decide +kernel
theorem dL_376 : decode code 376 = .ok (.aload_n 3, 1) := by decide +kernel
theorem dL_377 : decode code 377 = .ok (.invokestatic 104, 3) := by decide +kernel
theorem dL_380 : decode code 380 = .ok (.istore 5, 2) := by decide +kernel
theorem dL_382 : decode code 382 = .ok (.aload_n 2, 1) := by decide +kernel
theorem dL_383 : decode code 383 = .ok (.invokevirtual 107, 3) := by decide +kernel
theorem dL_386 : decode code 386 = .ok (.istore 6, 2) := by decide +kernel
theorem dL_388 : decode code 388 = .ok (.aload_n 2, 1) := by decide +kernel
theorem dL_389 : decode code 389 = .ok (.invokevirtual 89, 3) := by decide +kernel
theorem dL_392 : decode code 392 = .ok (.iload 5, 2) := by decide +kernel
theorem dL_394 : decode code 394 = .ok (.if_icmp .eq 5, 3) := by decide +kernel
theorem dL_397 : decode code 397 = .ok (.iconst 0, 1) := by decide +kernel
theorem dL_398 : decode code 398 = .ok (.ireturn, 1) := by decide +kernel
theorem dL_399 : decode code 399 = .ok (.iload 5, 2) := by decide +kernel
theorem dL_401 : decode code 401 = .ok (.ifCond .ne 15, 3) := by decide +kernel
theorem dL_404 : decode code 404 = .ok (.aload_n 3, 1) := by decide +kernel
theorem dL_405 : decode code 405 = .ok (.iconst 0, 1) := by decide +kernel
theorem dL_406 : decode code 406 = .ok (.laload, 1) := by decide +kernel
theorem dL_407 : decode code 407 = .ok (.iload 6, 2) := by decide +kernel
theorem dL_409 : decode code 409 = .ok (.i2l, 1) := by decide +kernel
theorem dL_410 : decode code 410 = .ok (.lcmp, 1) := by decide +kernel
theorem dL_411 : decode code 411 = .ok (.ifCond .eq 5, 3) := by decide +kernel
theorem dL_414 : decode code 414 = .ok (.iconst 0, 1) := by decide +kernel
theorem dL_415 : decode code 415 = .ok (.ireturn, 1) := by decide +kernel
theorem dL_416 : decode code 416 = .ok (.goto 717, 3) := by decide +kernel
theorem dL_419 : decode code 419 = .ok (.aload_n 1, 1) := by decide +kernel
theorem dL_420 : decode code 420 = .ok (.aload_n 0, 1) := by decide +kernel
theorem dL_421 : decode code 421 = .ok (.iload 4, 2) := by decide +kernel
theorem dL_423 : decode code 423 = .ok (.iconst 1, 1) := by decide +kernel
theorem dL_424 : decode code 424 = .ok (.iadd, 1) := by decide +kernel
theorem dL_425 : decode code 425 = .ok (.iaload, 1) := by decide +kernel
theorem dL_426 : decode code 426 = .ok (.aload_n 0, 1) := by decide +kernel
theorem dL_427 : decode code 427 = .ok (.iload 4, 2) := by decide +kernel
theorem dL_429 : decode code 429 = .ok (.iconst 2, 1) := by decide +kernel
theorem dL_430 : decode code 430 = .ok (.iadd, 1) := by decide +kernel
theorem dL_431 : decode code 431 = .ok (.iaload, 1) := by decide +kernel
theorem dL_432 : decode code 432 = .ok (.aload_n 3, 1) := by decide +kernel
theorem dL_433 : decode code 433 = .ok (.invokestatic 108, 3) := by decide +kernel
theorem dL_436 : decode code 436 = .ok (.istore 5, 2) := by decide +kernel
theorem dL_438 : decode code 438 = .ok (.aload_n 2, 1) := by decide +kernel
theorem dL_439 : decode code 439 = .ok (.aload_n 0, 1) := by decide +kernel
theorem dL_440 : decode code 440 = .ok (.iload 4, 2) := by decide +kernel
theorem dL_442 : decode code 442 = .ok (.iconst 1, 1) := by decide +kernel
theorem dL_443 : decode code 443 = .ok (.iadd, 1) := by decide +kernel
theorem dL_444 : decode code 444 = .ok (.iaload, 1) := by decide +kernel
theorem dL_445 : decode code 445 = .ok (.aload_n 0, 1) := by decide +kernel
theorem dL_446 : decode code 446 = .ok (.iload 4, 2) := by decide +kernel
theorem dL_448 : decode code 448 = .ok (.iconst 2, 1) := by decide +kernel
theorem dL_449 : decode code 449 = .ok (.iadd, 1) := by decide +kernel
theorem dL_450 : decode code 450 = .ok (.iaload, 1) := by decide +kernel
theorem dL_451 : decode code 451 = .ok (.invokevirtual 111, 3) := by decide +kernel
theorem dL_454 : decode code 454 = .ok (.istore 6, 2) := by decide +kernel
theorem dL_456 : decode code 456 = .ok (.aload_n 2, 1) := by decide +kernel
theorem dL_457 : decode code 457 = .ok (.invokevirtual 89, 3) := by decide +kernel
theorem dL_460 : decode code 460 = .ok (.iload 5, 2) := by decide +kernel
theorem dL_462 : decode code 462 = .ok (.if_icmp .eq 5, 3) := by decide +kernel
theorem dL_465 : decode code 465 = .ok (.iconst 0, 1) := by decide +kernel
theorem dL_466 : decode code 466 = .ok (.ireturn, 1) := by decide +kernel
theorem dL_467 : decode code 467 = .ok (.iload 5, 2) := by decide +kernel
theorem dL_469 : decode code 469 = .ok (.ifCond .ne 15, 3) := by decide +kernel
theorem dL_472 : decode code 472 = .ok (.aload_n 3, 1) := by decide +kernel
theorem dL_473 : decode code 473 = .ok (.iconst 0, 1) := by decide +kernel
theorem dL_474 : decode code 474 = .ok (.laload, 1) := by decide +kernel
theorem dL_475 : decode code 475 = .ok (.iload 6, 2) := by decide +kernel
theorem dL_477 : decode code 477 = .ok (.i2l, 1) := by decide +kernel
theorem dL_478 : decode code 478 = .ok (.lcmp, 1) := by decide +kernel
theorem dL_479 : decode code 479 = .ok (.ifCond .eq 5, 3) := by decide +kernel
theorem dL_482 : decode code 482 = .ok (.iconst 0, 1) := by decide +kernel
theorem dL_483 : decode code 483 = .ok (.ireturn, 1) := by decide +kernel
theorem dL_484 : decode code 484 = .ok (.goto 649, 3) := by decide +kernel
theorem dL_487 : decode code 487 = .ok (.aload_n 1, 1) := by decide +kernel
theorem dL_488 : decode code 488 = .ok (.aload_n 0, 1) := by decide +kernel
theorem dL_489 : decode code 489 = .ok (.iload 4, 2) := by decide +kernel
theorem dL_491 : decode code 491 = .ok (.iconst 1, 1) := by decide +kernel
theorem dL_492 : decode code 492 = .ok (.iadd, 1) := by decide +kernel
theorem dL_493 : decode code 493 = .ok (.iaload, 1) := by decide +kernel
theorem dL_494 : decode code 494 = .ok (.aload_n 0, 1) := by decide +kernel
theorem dL_495 : decode code 495 = .ok (.iload 4, 2) := by decide +kernel
theorem dL_497 : decode code 497 = .ok (.iconst 2, 1) := by decide +kernel
theorem dL_498 : decode code 498 = .ok (.iadd, 1) := by decide +kernel
theorem dL_499 : decode code 499 = .ok (.iaload, 1) := by decide +kernel
theorem dL_500 : decode code 500 = .ok (.aload_n 3, 1) := by decide +kernel
theorem dL_501 : decode code 501 = .ok (.invokestatic 112, 3) := by decide +kernel
theorem dL_504 : decode code 504 = .ok (.istore 5, 2) := by decide +kernel
theorem dL_506 : decode code 506 = .ok (.aload_n 2, 1) := by decide +kernel
theorem dL_507 : decode code 507 = .ok (.aload_n 0, 1) := by decide +kernel
theorem dL_508 : decode code 508 = .ok (.iload 4, 2) := by decide +kernel
theorem dL_510 : decode code 510 = .ok (.iconst 1, 1) := by decide +kernel
theorem dL_511 : decode code 511 = .ok (.iadd, 1) := by decide +kernel
theorem dL_512 : decode code 512 = .ok (.iaload, 1) := by decide +kernel
theorem dL_513 : decode code 513 = .ok (.aload_n 0, 1) := by decide +kernel
theorem dL_514 : decode code 514 = .ok (.iload 4, 2) := by decide +kernel
theorem dL_516 : decode code 516 = .ok (.iconst 2, 1) := by decide +kernel
theorem dL_517 : decode code 517 = .ok (.iadd, 1) := by decide +kernel
theorem dL_518 : decode code 518 = .ok (.iaload, 1) := by decide +kernel
theorem dL_519 : decode code 519 = .ok (.invokevirtual 114, 3) := by decide +kernel
theorem dL_522 : decode code 522 = .ok (.lstore 6, 2) := by decide +kernel
theorem dL_524 : decode code 524 = .ok (.aload_n 2, 1) := by decide +kernel
theorem dL_525 : decode code 525 = .ok (.invokevirtual 89, 3) := by decide +kernel
theorem dL_528 : decode code 528 = .ok (.iload 5, 2) := by decide +kernel
theorem dL_530 : decode code 530 = .ok (.if_icmp .eq 5, 3) := by decide +kernel
theorem dL_533 : decode code 533 = .ok (.iconst 0, 1) := by decide +kernel
theorem dL_534 : decode code 534 = .ok (.ireturn, 1) := by decide +kernel
theorem dL_535 : decode code 535 = .ok (.iload 5, 2) := by decide +kernel
theorem dL_537 : decode code 537 = .ok (.ifCond .ne 14, 3) := by decide +kernel
theorem dL_540 : decode code 540 = .ok (.aload_n 3, 1) := by decide +kernel
theorem dL_541 : decode code 541 = .ok (.iconst 0, 1) := by decide +kernel
theorem dL_542 : decode code 542 = .ok (.laload, 1) := by decide +kernel
theorem dL_543 : decode code 543 = .ok (.lload 6, 2) := by decide +kernel
theorem dL_545 : decode code 545 = .ok (.lcmp, 1) := by decide +kernel
theorem dL_546 : decode code 546 = .ok (.ifCond .eq 5, 3) := by decide +kernel
theorem dL_549 : decode code 549 = .ok (.iconst 0, 1) := by decide +kernel
theorem dL_550 : decode code 550 = .ok (.ireturn, 1) := by decide +kernel
theorem dL_551 : decode code 551 = .ok (.goto 582, 3) := by decide +kernel
theorem dL_554 : decode code 554 = .ok (.aload_n 1, 1) := by decide +kernel
theorem dL_555 : decode code 555 = .ok (.aload_n 0, 1) := by decide +kernel
theorem dL_556 : decode code 556 = .ok (.iload 4, 2) := by decide +kernel
theorem dL_558 : decode code 558 = .ok (.iconst 1, 1) := by decide +kernel
theorem dL_559 : decode code 559 = .ok (.iadd, 1) := by decide +kernel
theorem dL_560 : decode code 560 = .ok (.iaload, 1) := by decide +kernel
theorem dL_561 : decode code 561 = .ok (.aload_n 0, 1) := by decide +kernel
theorem dL_562 : decode code 562 = .ok (.iload 4, 2) := by decide +kernel
theorem dL_564 : decode code 564 = .ok (.iconst 2, 1) := by decide +kernel
theorem dL_565 : decode code 565 = .ok (.iadd, 1) := by decide +kernel
theorem dL_566 : decode code 566 = .ok (.iaload, 1) := by decide +kernel
theorem dL_567 : decode code 567 = .ok (.aload_n 3, 1) := by decide +kernel
theorem dL_568 : decode code 568 = .ok (.invokestatic 115, 3) := by decide +kernel
theorem dL_571 : decode code 571 = .ok (.istore 5, 2) := by decide +kernel
theorem dL_573 : decode code 573 = .ok (.aload_n 2, 1) := by decide +kernel
theorem dL_574 : decode code 574 = .ok (.aload_n 0, 1) := by decide +kernel
theorem dL_575 : decode code 575 = .ok (.iload 4, 2) := by decide +kernel
theorem dL_577 : decode code 577 = .ok (.iconst 1, 1) := by decide +kernel
theorem dL_578 : decode code 578 = .ok (.iadd, 1) := by decide +kernel
theorem dL_579 : decode code 579 = .ok (.iaload, 1) := by decide +kernel
theorem dL_580 : decode code 580 = .ok (.aload_n 0, 1) := by decide +kernel
theorem dL_581 : decode code 581 = .ok (.iload 4, 2) := by decide +kernel
theorem dL_583 : decode code 583 = .ok (.iconst 2, 1) := by decide +kernel
theorem dL_584 : decode code 584 = .ok (.iadd, 1) := by decide +kernel
theorem dL_585 : decode code 585 = .ok (.iaload, 1) := by decide +kernel
theorem dL_586 : decode code 586 = .ok (.invokevirtual 117, 3) := by decide +kernel
theorem dL_589 : decode code 589 = .ok (.istore 6, 2) := by decide +kernel
theorem dL_591 : decode code 591 = .ok (.aload_n 2, 1) := by decide +kernel
theorem dL_592 : decode code 592 = .ok (.invokevirtual 89, 3) := by decide +kernel
theorem dL_595 : decode code 595 = .ok (.iload 5, 2) := by decide +kernel
theorem dL_597 : decode code 597 = .ok (.if_icmp .eq 5, 3) := by decide +kernel
theorem dL_600 : decode code 600 = .ok (.iconst 0, 1) := by decide +kernel
theorem dL_601 : decode code 601 = .ok (.ireturn, 1) := by decide +kernel
theorem dL_602 : decode code 602 = .ok (.iload 5, 2) := by decide +kernel
theorem dL_604 : decode code 604 = .ok (.ifCond .ne 15, 3) := by decide +kernel
theorem dL_607 : decode code 607 = .ok (.aload_n 3, 1) := by decide +kernel
theorem dL_608 : decode code 608 = .ok (.iconst 0, 1) := by decide +kernel
theorem dL_609 : decode code 609 = .ok (.laload, 1) := by decide +kernel
theorem dL_610 : decode code 610 = .ok (.iload 6, 2) := by decide +kernel
theorem dL_612 : decode code 612 = .ok (.i2l, 1) := by decide +kernel
theorem dL_613 : decode code 613 = .ok (.lcmp, 1) := by decide +kernel
theorem dL_614 : decode code 614 = .ok (.ifCond .eq 5, 3) := by decide +kernel
theorem dL_617 : decode code 617 = .ok (.iconst 0, 1) := by decide +kernel
theorem dL_618 : decode code 618 = .ok (.ireturn, 1) := by decide +kernel
theorem dL_619 : decode code 619 = .ok (.goto 514, 3) := by decide +kernel
theorem dL_622 : decode code 622 = .ok (.aload_n 1, 1) := by decide +kernel
theorem dL_623 : decode code 623 = .ok (.aload_n 0, 1) := by decide +kernel
theorem dL_624 : decode code 624 = .ok (.iload 4, 2) := by decide +kernel
theorem dL_626 : decode code 626 = .ok (.iconst 1, 1) := by decide +kernel
theorem dL_627 : decode code 627 = .ok (.iadd, 1) := by decide +kernel
theorem dL_628 : decode code 628 = .ok (.iaload, 1) := by decide +kernel
theorem dL_629 : decode code 629 = .ok (.aload_n 3, 1) := by decide +kernel
theorem dL_630 : decode code 630 = .ok (.invokestatic 118, 3) := by decide +kernel
theorem dL_633 : decode code 633 = .ok (.istore 5, 2) := by decide +kernel
theorem dL_635 : decode code 635 = .ok (.aload_n 2, 1) := by decide +kernel
theorem dL_636 : decode code 636 = .ok (.aload_n 0, 1) := by decide +kernel
theorem dL_637 : decode code 637 = .ok (.iload 4, 2) := by decide +kernel
theorem dL_639 : decode code 639 = .ok (.iconst 1, 1) := by decide +kernel
theorem dL_640 : decode code 640 = .ok (.iadd, 1) := by decide +kernel
theorem dL_641 : decode code 641 = .ok (.iaload, 1) := by decide +kernel
theorem dL_642 : decode code 642 = .ok (.invokevirtual 121, 3) := by decide +kernel
theorem dL_645 : decode code 645 = .ok (.istore 6, 2) := by decide +kernel
theorem dL_647 : decode code 647 = .ok (.aload_n 2, 1) := by decide +kernel
theorem dL_648 : decode code 648 = .ok (.invokevirtual 89, 3) := by decide +kernel
theorem dL_651 : decode code 651 = .ok (.iload 5, 2) := by decide +kernel
theorem dL_653 : decode code 653 = .ok (.if_icmp .eq 5, 3) := by decide +kernel
theorem dL_656 : decode code 656 = .ok (.iconst 0, 1) := by decide +kernel
theorem dL_657 : decode code 657 = .ok (.ireturn, 1) := by decide +kernel
theorem dL_658 : decode code 658 = .ok (.iload 5, 2) := by decide +kernel
theorem dL_660 : decode code 660 = .ok (.ifCond .ne 15, 3) := by decide +kernel
theorem dL_663 : decode code 663 = .ok (.aload_n 3, 1) := by decide +kernel
theorem dL_664 : decode code 664 = .ok (.iconst 0, 1) := by decide +kernel
theorem dL_665 : decode code 665 = .ok (.laload, 1) := by decide +kernel
theorem dL_666 : decode code 666 = .ok (.iload 6, 2) := by decide +kernel
theorem dL_668 : decode code 668 = .ok (.i2l, 1) := by decide +kernel
theorem dL_669 : decode code 669 = .ok (.lcmp, 1) := by decide +kernel
theorem dL_670 : decode code 670 = .ok (.ifCond .eq 5, 3) := by decide +kernel
theorem dL_673 : decode code 673 = .ok (.iconst 0, 1) := by decide +kernel
theorem dL_674 : decode code 674 = .ok (.ireturn, 1) := by decide +kernel
theorem dL_675 : decode code 675 = .ok (.goto 458, 3) := by decide +kernel
theorem dL_678 : decode code 678 = .ok (.aload_n 1, 1) := by decide +kernel
theorem dL_679 : decode code 679 = .ok (.aload_n 3, 1) := by decide +kernel
theorem dL_680 : decode code 680 = .ok (.invokestatic 122, 3) := by decide +kernel
theorem dL_683 : decode code 683 = .ok (.istore 5, 2) := by decide +kernel
theorem dL_685 : decode code 685 = .ok (.aload_n 2, 1) := by decide +kernel
theorem dL_686 : decode code 686 = .ok (.invokevirtual 124, 3) := by decide +kernel
theorem dL_689 : decode code 689 = .ok (.istore 6, 2) := by decide +kernel
theorem dL_691 : decode code 691 = .ok (.aload_n 2, 1) := by decide +kernel
theorem dL_692 : decode code 692 = .ok (.invokevirtual 89, 3) := by decide +kernel
theorem dL_695 : decode code 695 = .ok (.iload 5, 2) := by decide +kernel
theorem dL_697 : decode code 697 = .ok (.if_icmp .eq 5, 3) := by decide +kernel
theorem dL_700 : decode code 700 = .ok (.iconst 0, 1) := by decide +kernel
theorem dL_701 : decode code 701 = .ok (.ireturn, 1) := by decide +kernel
theorem dL_702 : decode code 702 = .ok (.iload 5, 2) := by decide +kernel
theorem dL_704 : decode code 704 = .ok (.ifCond .ne 22, 3) := by decide +kernel
theorem dL_707 : decode code 707 = .ok (.aload_n 3, 1) := by decide +kernel
theorem dL_708 : decode code 708 = .ok (.iconst 0, 1) := by decide +kernel
theorem dL_709 : decode code 709 = .ok (.laload, 1) := by decide +kernel
theorem dL_710 : decode code 710 = .ok (.iload 6, 2) := by decide +kernel
theorem dL_712 : decode code 712 = .ok (.ifCond .eq 7, 3) := by decide +kernel
theorem dL_715 : decode code 715 = .ok (.lconst 1, 1) := by decide +kernel
theorem dL_716 : decode code 716 = .ok (.goto 4, 3) := by decide +kernel
theorem dL_719 : decode code 719 = .ok (.lconst 0, 1) := by decide +kernel
theorem dL_720 : decode code 720 = .ok (.lcmp, 1) := by decide +kernel
theorem dL_721 : decode code 721 = .ok (.ifCond .eq 5, 3) := by decide +kernel
theorem dL_724 : decode code 724 = .ok (.iconst 0, 1) := by decide +kernel
theorem dL_725 : decode code 725 = .ok (.ireturn, 1) := by decide +kernel
theorem dL_726 : decode code 726 = .ok (.goto 407, 3) := by decide +kernel
theorem dL_729 : decode code 729 = .ok (.aload_n 1, 1) := by decide +kernel
theorem dL_730 : decode code 730 = .ok (.aload_n 0, 1) := by decide +kernel
theorem dL_731 : decode code 731 = .ok (.iload 4, 2) := by decide +kernel
theorem dL_733 : decode code 733 = .ok (.iconst 1, 1) := by decide +kernel
theorem dL_734 : decode code 734 = .ok (.iadd, 1) := by decide +kernel
theorem dL_735 : decode code 735 = .ok (.iaload, 1) := by decide +kernel
theorem dL_736 : decode code 736 = .ok (.ifCond .eq 7, 3) := by decide +kernel
theorem dL_739 : decode code 739 = .ok (.iconst 1, 1) := by decide +kernel
theorem dL_740 : decode code 740 = .ok (.goto 4, 3) := by decide +kernel
theorem dL_743 : decode code 743 = .ok (.iconst 0, 1) := by decide +kernel
theorem dL_744 : decode code 744 = .ok (.aload_n 3, 1) := by decide +kernel
theorem dL_745 : decode code 745 = .ok (.invokestatic 125, 3) := by decide +kernel
theorem dL_748 : decode code 748 = .ok (.istore 5, 2) := by decide +kernel
theorem dL_750 : decode code 750 = .ok (.aload_n 2, 1) := by decide +kernel
theorem dL_751 : decode code 751 = .ok (.aload_n 0, 1) := by decide +kernel
theorem dL_752 : decode code 752 = .ok (.iload 4, 2) := by decide +kernel
theorem dL_754 : decode code 754 = .ok (.iconst 1, 1) := by decide +kernel
theorem dL_755 : decode code 755 = .ok (.iadd, 1) := by decide +kernel
theorem dL_756 : decode code 756 = .ok (.iaload, 1) := by decide +kernel
theorem dL_757 : decode code 757 = .ok (.ifCond .eq 7, 3) := by decide +kernel
theorem dL_760 : decode code 760 = .ok (.iconst 1, 1) := by decide +kernel
theorem dL_761 : decode code 761 = .ok (.goto 4, 3) := by decide +kernel
theorem dL_764 : decode code 764 = .ok (.iconst 0, 1) := by decide +kernel
theorem dL_765 : decode code 765 = .ok (.invokevirtual 128, 3) := by decide +kernel
theorem dL_768 : decode code 768 = .ok (.istore 6, 2) := by decide +kernel
theorem dL_770 : decode code 770 = .ok (.aload_n 2, 1) := by decide +kernel
theorem dL_771 : decode code 771 = .ok (.invokevirtual 89, 3) := by decide +kernel
theorem dL_774 : decode code 774 = .ok (.iload 5, 2) := by decide +kernel
theorem dL_776 : decode code 776 = .ok (.if_icmp .eq 5, 3) := by decide +kernel
theorem dL_779 : decode code 779 = .ok (.iconst 0, 1) := by decide +kernel
theorem dL_780 : decode code 780 = .ok (.ireturn, 1) := by decide +kernel
theorem dL_781 : decode code 781 = .ok (.iload 5, 2) := by decide +kernel
theorem dL_783 : decode code 783 = .ok (.ifCond .ne 15, 3) := by decide +kernel
theorem dL_786 : decode code 786 = .ok (.aload_n 3, 1) := by decide +kernel
theorem dL_787 : decode code 787 = .ok (.iconst 0, 1) := by decide +kernel
theorem dL_788 : decode code 788 = .ok (.laload, 1) := by decide +kernel
theorem dL_789 : decode code 789 = .ok (.iload 6, 2) := by decide +kernel
theorem dL_791 : decode code 791 = .ok (.i2l, 1) := by decide +kernel
theorem dL_792 : decode code 792 = .ok (.lcmp, 1) := by decide +kernel
theorem dL_793 : decode code 793 = .ok (.ifCond .eq 5, 3) := by decide +kernel
theorem dL_796 : decode code 796 = .ok (.iconst 0, 1) := by decide +kernel
theorem dL_797 : decode code 797 = .ok (.ireturn, 1) := by decide +kernel
theorem dL_798 : decode code 798 = .ok (.goto 335, 3) := by decide +kernel
theorem dL_801 : decode code 801 = .ok (.aload_n 1, 1) := by decide +kernel
theorem dL_802 : decode code 802 = .ok (.aload_n 0, 1) := by decide +kernel
theorem dL_803 : decode code 803 = .ok (.iload 4, 2) := by decide +kernel
theorem dL_805 : decode code 805 = .ok (.iconst 1, 1) := by decide +kernel
theorem dL_806 : decode code 806 = .ok (.iadd, 1) := by decide +kernel
theorem dL_807 : decode code 807 = .ok (.iaload, 1) := by decide +kernel
theorem dL_808 : decode code 808 = .ok (.aload_n 3, 1) := by decide +kernel
theorem dL_809 : decode code 809 = .ok (.invokestatic 129, 3) := by decide +kernel
theorem dL_812 : decode code 812 = .ok (.istore 5, 2) := by decide +kernel
theorem dL_814 : decode code 814 = .ok (.aload_n 2, 1) := by decide +kernel
theorem dL_815 : decode code 815 = .ok (.aload_n 0, 1) := by decide +kernel
theorem dL_816 : decode code 816 = .ok (.iload 4, 2) := by decide +kernel
theorem dL_818 : decode code 818 = .ok (.iconst 1, 1) := by decide +kernel
theorem dL_819 : decode code 819 = .ok (.iadd, 1) := by decide +kernel
theorem dL_820 : decode code 820 = .ok (.iaload, 1) := by decide +kernel
theorem dL_821 : decode code 821 = .ok (.invokevirtual 131, 3) := by decide +kernel
theorem dL_824 : decode code 824 = .ok (.istore 6, 2) := by decide +kernel
theorem dL_826 : decode code 826 = .ok (.aload_n 2, 1) := by decide +kernel
theorem dL_827 : decode code 827 = .ok (.invokevirtual 89, 3) := by decide +kernel
theorem dL_830 : decode code 830 = .ok (.iload 5, 2) := by decide +kernel
theorem dL_832 : decode code 832 = .ok (.if_icmp .eq 5, 3) := by decide +kernel
theorem dL_835 : decode code 835 = .ok (.iconst 0, 1) := by decide +kernel
theorem dL_836 : decode code 836 = .ok (.ireturn, 1) := by decide +kernel
theorem dL_837 : decode code 837 = .ok (.iload 5, 2) := by decide +kernel
theorem dL_839 : decode code 839 = .ok (.ifCond .ne 15, 3) := by decide +kernel
theorem dL_842 : decode code 842 = .ok (.aload_n 3, 1) := by decide +kernel
theorem dL_843 : decode code 843 = .ok (.iconst 0, 1) := by decide +kernel
theorem dL_844 : decode code 844 = .ok (.laload, 1) := by decide +kernel
theorem dL_845 : decode code 845 = .ok (.iload 6, 2) := by decide +kernel
theorem dL_847 : decode code 847 = .ok (.i2l, 1) := by decide +kernel
theorem dL_848 : decode code 848 = .ok (.lcmp, 1) := by decide +kernel
theorem dL_849 : decode code 849 = .ok (.ifCond .eq 5, 3) := by decide +kernel
theorem dL_852 : decode code 852 = .ok (.iconst 0, 1) := by decide +kernel
theorem dL_853 : decode code 853 = .ok (.ireturn, 1) := by decide +kernel
theorem dL_854 : decode code 854 = .ok (.goto 279, 3) := by decide +kernel
theorem dL_857 : decode code 857 = .ok (.aload_n 1, 1) := by decide +kernel
theorem dL_858 : decode code 858 = .ok (.aload_n 0, 1) := by decide +kernel
theorem dL_859 : decode code 859 = .ok (.iload 4, 2) := by decide +kernel
theorem dL_861 : decode code 861 = .ok (.iconst 1, 1) := by decide +kernel
theorem dL_862 : decode code 862 = .ok (.iadd, 1) := by decide +kernel
theorem dL_863 : decode code 863 = .ok (.iaload, 1) := by decide +kernel
theorem dL_864 : decode code 864 = .ok (.aload_n 0, 1) := by decide +kernel
theorem dL_865 : decode code 865 = .ok (.iload 4, 2) := by decide +kernel
theorem dL_867 : decode code 867 = .ok (.iconst 2, 1) := by decide +kernel
theorem dL_868 : decode code 868 = .ok (.iadd, 1) := by decide +kernel
theorem dL_869 : decode code 869 = .ok (.iaload, 1) := by decide +kernel
theorem dL_870 : decode code 870 = .ok (.aload_n 0, 1) := by decide +kernel
theorem dL_871 : decode code 871 = .ok (.iload 4, 2) := by decide +kernel
theorem dL_873 : decode code 873 = .ok (.iconst 3, 1) := by decide +kernel
theorem dL_874 : decode code 874 = .ok (.iadd, 1) := by decide +kernel
theorem dL_875 : decode code 875 = .ok (.iaload, 1) := by decide +kernel
theorem dL_876 : decode code 876 = .ok (.aload_n 3, 1) := by decide +kernel
theorem dL_877 : decode code 877 = .ok (.invokestatic 132, 3) := by decide +kernel
theorem dL_880 : decode code 880 = .ok (.istore 5, 2) := by decide +kernel
theorem dL_882 : decode code 882 = .ok (.aload_n 2, 1) := by decide +kernel
theorem dL_883 : decode code 883 = .ok (.aload_n 0, 1) := by decide +kernel
theorem dL_884 : decode code 884 = .ok (.iload 4, 2) := by decide +kernel
theorem dL_886 : decode code 886 = .ok (.iconst 1, 1) := by decide +kernel
theorem dL_887 : decode code 887 = .ok (.iadd, 1) := by decide +kernel
theorem dL_888 : decode code 888 = .ok (.iaload, 1) := by decide +kernel
theorem dL_889 : decode code 889 = .ok (.aload_n 0, 1) := by decide +kernel
theorem dL_890 : decode code 890 = .ok (.iload 4, 2) := by decide +kernel
theorem dL_892 : decode code 892 = .ok (.iconst 2, 1) := by decide +kernel
theorem dL_893 : decode code 893 = .ok (.iadd, 1) := by decide +kernel
theorem dL_894 : decode code 894 = .ok (.iaload, 1) := by decide +kernel
theorem dL_895 : decode code 895 = .ok (.aload_n 0, 1) := by decide +kernel
theorem dL_896 : decode code 896 = .ok (.iload 4, 2) := by decide +kernel
theorem dL_898 : decode code 898 = .ok (.iconst 3, 1) := by decide +kernel
theorem dL_899 : decode code 899 = .ok (.iadd, 1) := by decide +kernel
theorem dL_900 : decode code 900 = .ok (.iaload, 1) := by decide +kernel
theorem dL_901 : decode code 901 = .ok (.invokevirtual 134, 3) := by decide +kernel
theorem dL_904 : decode code 904 = .ok (.istore 6, 2) := by decide +kernel
theorem dL_906 : decode code 906 = .ok (.aload_n 2, 1) := by decide +kernel
theorem dL_907 : decode code 907 = .ok (.invokevirtual 89, 3) := by decide +kernel
theorem dL_910 : decode code 910 = .ok (.iload 5, 2) := by decide +kernel
theorem dL_912 : decode code 912 = .ok (.if_icmp .eq 5, 3) := by decide +kernel
theorem dL_915 : decode code 915 = .ok (.iconst 0, 1) := by decide +kernel
theorem dL_916 : decode code 916 = .ok (.ireturn, 1) := by decide +kernel
theorem dL_917 : decode code 917 = .ok (.iload 5, 2) := by decide +kernel
theorem dL_919 : decode code 919 = .ok (.ifCond .ne 15, 3) := by decide +kernel
theorem dL_922 : decode code 922 = .ok (.aload_n 3, 1) := by decide +kernel
theorem dL_923 : decode code 923 = .ok (.iconst 0, 1) := by decide +kernel
theorem dL_924 : decode code 924 = .ok (.laload, 1) := by decide +kernel
theorem dL_925 : decode code 925 = .ok (.iload 6, 2) := by decide +kernel
theorem dL_927 : decode code 927 = .ok (.i2l, 1) := by decide +kernel
theorem dL_928 : decode code 928 = .ok (.lcmp, 1) := by decide +kernel
theorem dL_929 : decode code 929 = .ok (.ifCond .eq 5, 3) := by decide +kernel
theorem dL_932 : decode code 932 = .ok (.iconst 0, 1) := by decide +kernel
theorem dL_933 : decode code 933 = .ok (.ireturn, 1) := by decide +kernel
theorem dL_934 : decode code 934 = .ok (.goto 199, 3) := by decide +kernel
theorem dL_937 : decode code 937 = .ok (.aload_n 1, 1) := by decide +kernel
theorem dL_938 : decode code 938 = .ok (.aload_n 0, 1) := by decide +kernel
theorem dL_939 : decode code 939 = .ok (.iload 4, 2) := by decide +kernel
theorem dL_941 : decode code 941 = .ok (.iconst 1, 1) := by decide +kernel
theorem dL_942 : decode code 942 = .ok (.iadd, 1) := by decide +kernel
theorem dL_943 : decode code 943 = .ok (.iaload, 1) := by decide +kernel
theorem dL_944 : decode code 944 = .ok (.aload_n 0, 1) := by decide +kernel
theorem dL_945 : decode code 945 = .ok (.iload 4, 2) := by decide +kernel
theorem dL_947 : decode code 947 = .ok (.iconst 2, 1) := by decide +kernel
theorem dL_948 : decode code 948 = .ok (.iadd, 1) := by decide +kernel
theorem dL_949 : decode code 949 = .ok (.iaload, 1) := by decide +kernel
theorem dL_950 : decode code 950 = .ok (.aload_n 3, 1) := by decide +kernel
theorem dL_951 : decode code 951 = .ok (.invokestatic 135, 3) := by decide +kernel
theorem dL_954 : decode code 954 = .ok (.istore 5, 2) := by decide +kernel
theorem dL_956 : decode code 956 = .ok (.aload_n 2, 1) := by decide +kernel
theorem dL_957 : decode code 957 = .ok (.aload_n 0, 1) := by decide +kernel
theorem dL_958 : decode code 958 = .ok (.iload 4, 2) := by decide +kernel
theorem dL_960 : decode code 960 = .ok (.iconst 1, 1) := by decide +kernel
theorem dL_961 : decode code 961 = .ok (.iadd, 1) := by decide +kernel
theorem dL_962 : decode code 962 = .ok (.iaload, 1) := by decide +kernel
theorem dL_963 : decode code 963 = .ok (.aload_n 0, 1) := by decide +kernel
theorem dL_964 : decode code 964 = .ok (.iload 4, 2) := by decide +kernel
theorem dL_966 : decode code 966 = .ok (.iconst 2, 1) := by decide +kernel
theorem dL_967 : decode code 967 = .ok (.iadd, 1) := by decide +kernel
theorem dL_968 : decode code 968 = .ok (.iaload, 1) := by decide +kernel
theorem dL_969 : decode code 969 = .ok (.invokevirtual 137, 3) := by decide +kernel
theorem dL_972 : decode code 972 = .ok (.istore 6, 2) := by decide +kernel
theorem dL_974 : decode code 974 = .ok (.aload_n 2, 1) := by decide +kernel
theorem dL_975 : decode code 975 = .ok (.invokevirtual 89, 3) := by decide +kernel
theorem dL_978 : decode code 978 = .ok (.iload 5, 2) := by decide +kernel
theorem dL_980 : decode code 980 = .ok (.if_icmp .eq 5, 3) := by decide +kernel
theorem dL_983 : decode code 983 = .ok (.iconst 0, 1) := by decide +kernel
theorem dL_984 : decode code 984 = .ok (.ireturn, 1) := by decide +kernel
theorem dL_985 : decode code 985 = .ok (.iload 5, 2) := by decide +kernel
theorem dL_987 : decode code 987 = .ok (.ifCond .ne 15, 3) := by decide +kernel
theorem dL_990 : decode code 990 = .ok (.aload_n 3, 1) := by decide +kernel
theorem dL_991 : decode code 991 = .ok (.iconst 0, 1) := by decide +kernel
theorem dL_992 : decode code 992 = .ok (.laload, 1) := by decide +kernel
theorem dL_993 : decode code 993 = .ok (.iload 6, 2) := by decide +kernel
theorem dL_995 : decode code 995 = .ok (.i2l, 1) := by decide +kernel
theorem dL_996 : decode code 996 = .ok (.lcmp, 1) := by decide +kernel
theorem dL_997 : decode code 997 = .ok (.ifCond .eq 5, 3) := by decide +kernel
theorem dL_1000 : decode code 1000 = .ok (.iconst 0, 1) := by decide +kernel
theorem dL_1001 : decode code 1001 = .ok (.ireturn, 1) := by decide +kernel
theorem dL_1002 : decode code 1002 = .ok (.goto 131, 3) := by decide +kernel
theorem dL_1005 : decode code 1005 = .ok (.aload_n 1, 1) := by decide +kernel
theorem dL_1006 : decode code 1006 = .ok (.aload_n 0, 1) := by decide +kernel
theorem dL_1007 : decode code 1007 = .ok (.iload 4, 2) := by decide +kernel
theorem dL_1009 : decode code 1009 = .ok (.iconst 1, 1) := by decide +kernel
theorem dL_1010 : decode code 1010 = .ok (.iadd, 1) := by decide +kernel
theorem dL_1011 : decode code 1011 = .ok (.iaload, 1) := by decide +kernel
theorem dL_1012 : decode code 1012 = .ok (.invokestatic 138, 3) := by decide +kernel
theorem dL_1015 : decode code 1015 = .ok (.istore 5, 2) := by decide +kernel
theorem dL_1017 : decode code 1017 = .ok (.aload_n 2, 1) := by decide +kernel
theorem dL_1018 : decode code 1018 = .ok (.aload_n 0, 1) := by decide +kernel
theorem dL_1019 : decode code 1019 = .ok (.iload 4, 2) := by decide +kernel
theorem dL_1021 : decode code 1021 = .ok (.iconst 1, 1) := by decide +kernel
theorem dL_1022 : decode code 1022 = .ok (.iadd, 1) := by decide +kernel
theorem dL_1023 : decode code 1023 = .ok (.iaload, 1) := by decide +kernel
theorem dL_1024 : decode code 1024 = .ok (.invokevirtual 141, 3) := by decide +kernel
theorem dL_1027 : decode code 1027 = .ok (.aload_n 2, 1) := by decide +kernel
theorem dL_1028 : decode code 1028 = .ok (.invokevirtual 89, 3) := by decide +kernel
theorem dL_1031 : decode code 1031 = .ok (.iload 5, 2) := by decide +kernel
theorem dL_1033 : decode code 1033 = .ok (.if_icmp .eq 5, 3) := by decide +kernel
theorem dL_1036 : decode code 1036 = .ok (.iconst 0, 1) := by decide +kernel
theorem dL_1037 : decode code 1037 = .ok (.ireturn, 1) := by decide +kernel
theorem dL_1038 : decode code 1038 = .ok (.goto 95, 3) := by decide +kernel
theorem dL_1041 : decode code 1041 = .ok (.aload_n 1, 1) := by decide +kernel
theorem dL_1042 : decode code 1042 = .ok (.aload_n 0, 1) := by decide +kernel
theorem dL_1043 : decode code 1043 = .ok (.iload 4, 2) := by decide +kernel
theorem dL_1045 : decode code 1045 = .ok (.iconst 1, 1) := by decide +kernel
theorem dL_1046 : decode code 1046 = .ok (.iadd, 1) := by decide +kernel
theorem dL_1047 : decode code 1047 = .ok (.iaload, 1) := by decide +kernel
theorem dL_1048 : decode code 1048 = .ok (.aload_n 0, 1) := by decide +kernel
theorem dL_1049 : decode code 1049 = .ok (.iload 4, 2) := by decide +kernel
theorem dL_1051 : decode code 1051 = .ok (.iconst 2, 1) := by decide +kernel
theorem dL_1052 : decode code 1052 = .ok (.iadd, 1) := by decide +kernel
theorem dL_1053 : decode code 1053 = .ok (.iaload, 1) := by decide +kernel
theorem dL_1054 : decode code 1054 = .ok (.aload_n 0, 1) := by decide +kernel
theorem dL_1055 : decode code 1055 = .ok (.iload 4, 2) := by decide +kernel
theorem dL_1057 : decode code 1057 = .ok (.iconst 3, 1) := by decide +kernel
theorem dL_1058 : decode code 1058 = .ok (.iadd, 1) := by decide +kernel
theorem dL_1059 : decode code 1059 = .ok (.iaload, 1) := by decide +kernel
theorem dL_1060 : decode code 1060 = .ok (.i2l, 1) := by decide +kernel
theorem dL_1061 : decode code 1061 = .ok (.bipush 32, 2) := by decide +kernel
theorem dL_1063 : decode code 1063 = .ok (.lshl, 1) := by decide +kernel
theorem dL_1064 : decode code 1064 = .ok (.aload_n 0, 1) := by decide +kernel
theorem dL_1065 : decode code 1065 = .ok (.iload 4, 2) := by decide +kernel
theorem dL_1067 : decode code 1067 = .ok (.iconst 4, 1) := by decide +kernel
theorem dL_1068 : decode code 1068 = .ok (.iadd, 1) := by decide +kernel
theorem dL_1069 : decode code 1069 = .ok (.iaload, 1) := by decide +kernel
theorem dL_1070 : decode code 1070 = .ok (.i2l, 1) := by decide +kernel
theorem dL_1071 : decode code 1071 = .ok (.ldc2_w 142, 3) := by decide +kernel
theorem dL_1074 : decode code 1074 = .ok (.land, 1) := by decide +kernel
theorem dL_1075 : decode code 1075 = .ok (.lor, 1) := by decide +kernel
theorem dL_1076 : decode code 1076 = .ok (.invokestatic 144, 3) := by decide +kernel
theorem dL_1079 : decode code 1079 = .ok (.istore 5, 2) := by decide +kernel
theorem dL_1081 : decode code 1081 = .ok (.aload_n 2, 1) := by decide +kernel
theorem dL_1082 : decode code 1082 = .ok (.aload_n 0, 1) := by decide +kernel
theorem dL_1083 : decode code 1083 = .ok (.iload 4, 2) := by decide +kernel
theorem dL_1085 : decode code 1085 = .ok (.iconst 1, 1) := by decide +kernel
theorem dL_1086 : decode code 1086 = .ok (.iadd, 1) := by decide +kernel
theorem dL_1087 : decode code 1087 = .ok (.iaload, 1) := by decide +kernel
theorem dL_1088 : decode code 1088 = .ok (.aload_n 0, 1) := by decide +kernel
theorem dL_1089 : decode code 1089 = .ok (.iload 4, 2) := by decide +kernel
theorem dL_1091 : decode code 1091 = .ok (.iconst 2, 1) := by decide +kernel
theorem dL_1092 : decode code 1092 = .ok (.iadd, 1) := by decide +kernel
theorem dL_1093 : decode code 1093 = .ok (.iaload, 1) := by decide +kernel
theorem dL_1094 : decode code 1094 = .ok (.aload_n 0, 1) := by decide +kernel
theorem dL_1095 : decode code 1095 = .ok (.iload 4, 2) := by decide +kernel
theorem dL_1097 : decode code 1097 = .ok (.iconst 3, 1) := by decide +kernel
theorem dL_1098 : decode code 1098 = .ok (.iadd, 1) := by decide +kernel
theorem dL_1099 : decode code 1099 = .ok (.iaload, 1) := by decide +kernel
theorem dL_1100 : decode code 1100 = .ok (.i2l, 1) := by decide +kernel
theorem dL_1101 : decode code 1101 = .ok (.bipush 32, 2) := by decide +kernel
theorem dL_1103 : decode code 1103 = .ok (.lshl, 1) := by decide +kernel
theorem dL_1104 : decode code 1104 = .ok (.aload_n 0, 1) := by decide +kernel
theorem dL_1105 : decode code 1105 = .ok (.iload 4, 2) := by decide +kernel
theorem dL_1107 : decode code 1107 = .ok (.iconst 4, 1) := by decide +kernel
theorem dL_1108 : decode code 1108 = .ok (.iadd, 1) := by decide +kernel
theorem dL_1109 : decode code 1109 = .ok (.iaload, 1) := by decide +kernel
theorem dL_1110 : decode code 1110 = .ok (.i2l, 1) := by decide +kernel
theorem dL_1111 : decode code 1111 = .ok (.ldc2_w 142, 3) := by decide +kernel
theorem dL_1114 : decode code 1114 = .ok (.land, 1) := by decide +kernel
theorem dL_1115 : decode code 1115 = .ok (.lor, 1) := by decide +kernel
theorem dL_1116 : decode code 1116 = .ok (.invokevirtual 147, 3) := by decide +kernel
theorem dL_1119 : decode code 1119 = .ok (.aload_n 2, 1) := by decide +kernel
theorem dL_1120 : decode code 1120 = .ok (.invokevirtual 89, 3) := by decide +kernel
theorem dL_1123 : decode code 1123 = .ok (.iload 5, 2) := by decide +kernel
theorem dL_1125 : decode code 1125 = .ok (.if_icmp .eq 5, 3) := by decide +kernel
theorem dL_1128 : decode code 1128 = .ok (.iconst 0, 1) := by decide +kernel
theorem dL_1129 : decode code 1129 = .ok (.ireturn, 1) := by decide +kernel
theorem dL_1130 : decode code 1130 = .ok (.goto 3, 3) := by decide +kernel
theorem dL_1133 : decode code 1133 = .ok (.iinc 4 6, 3) := by decide +kernel
theorem dL_1136 : decode code 1136 = .ok (.goto (-1103), 3) := by decide +kernel
theorem dL_1139 : decode code 1139 = .ok (.iconst 1, 1) := by decide +kernel
theorem dL_1140 : decode code 1140 = .ok (.ireturn, 1) := by decide +kernel
theorem q_2_17 : (.methodLink RX10 76 yX0_feed : Cond) ∈ gT := gT_mem (List.mem_append_right _ (List.mem_append_right _ (List.mem_append_left _ (List.mem_of_getElem? (l := tables_1_2) (i := 17) rfl)))) rfl
theorem q_2_18 : (.instanceMethod yX0_feed : Cond) ∈ gT := gT_mem (List.mem_append_right _ (List.mem_append_right _ (List.mem_append_left _ (List.mem_of_getElem? (l := tables_1_2) (i := 18) rfl)))) rfl
theorem q_2_19 : (.selects RX0 yX0_feed yX0_feed : Cond) ∈ gT := gT_mem (List.mem_append_right _ (List.mem_append_right _ (List.mem_append_left _ (List.mem_of_getElem? (l := tables_1_2) (i := 19) rfl)))) rfl
theorem q_2_20 : (.code yX0_feed cX0_feed 6 none : Cond) ∈ gT := gT_mem (List.mem_append_right _ (List.mem_append_right _ (List.mem_append_left _ (List.mem_of_getElem? (l := tables_1_2) (i := 20) rfl)))) rfl
theorem q_6_218 : (.methodLink RX10 80 yX12_feed : Cond) ∈ gT := gT_mem (List.mem_append_right _ (List.mem_append_right _ (List.mem_append_right _ (List.mem_append_right _ (List.mem_append_right _ (List.mem_append_right _ (List.mem_append_left _ (List.mem_of_getElem? (l := tables_1_6) (i := 218) rfl)))))))) rfl
theorem q_6_219 : (.instanceMethod yX12_feed : Cond) ∈ gT := gT_mem (List.mem_append_right _ (List.mem_append_right _ (List.mem_append_right _ (List.mem_append_right _ (List.mem_append_right _ (List.mem_append_right _ (List.mem_append_left _ (List.mem_of_getElem? (l := tables_1_6) (i := 219) rfl)))))))) rfl
theorem q_6_220 : (.selects RX12 yX12_feed yX12_feed : Cond) ∈ gT := gT_mem (List.mem_append_right _ (List.mem_append_right _ (List.mem_append_right _ (List.mem_append_right _ (List.mem_append_right _ (List.mem_append_right _ (List.mem_append_left _ (List.mem_of_getElem? (l := tables_1_6) (i := 220) rfl)))))))) rfl
theorem q_6_221 : (.code yX12_feed cX12_feed 8 none : Cond) ∈ gT := gT_mem (List.mem_append_right _ (List.mem_append_right _ (List.mem_append_right _ (List.mem_append_right _ (List.mem_append_right _ (List.mem_append_right _ (List.mem_append_left _ (List.mem_of_getElem? (l := tables_1_6) (i := 221) rfl)))))))) rfl
theorem q_2_25 : (.methodLink RX10 81 yX0_end : Cond) ∈ gT := gT_mem (List.mem_append_right _ (List.mem_append_right _ (List.mem_append_left _ (List.mem_of_getElem? (l := tables_1_2) (i := 25) rfl)))) rfl
theorem q_2_26 : (.instanceMethod yX0_end : Cond) ∈ gT := gT_mem (List.mem_append_right _ (List.mem_append_right _ (List.mem_append_left _ (List.mem_of_getElem? (l := tables_1_2) (i := 26) rfl)))) rfl
theorem q_2_27 : (.selects RX0 yX0_end yX0_end : Cond) ∈ gT := gT_mem (List.mem_append_right _ (List.mem_append_right _ (List.mem_append_left _ (List.mem_of_getElem? (l := tables_1_2) (i := 27) rfl)))) rfl
theorem q_2_28 : (.code yX0_end cX0_end 2 (some .int) : Cond) ∈ gT := gT_mem (List.mem_append_right _ (List.mem_append_right _ (List.mem_append_left _ (List.mem_of_getElem? (l := tables_1_2) (i := 28) rfl)))) rfl
theorem q_6_222 : (.methodLink RX10 84 yX12_end : Cond) ∈ gT := gT_mem (List.mem_append_right _ (List.mem_append_right _ (List.mem_append_right _ (List.mem_append_right _ (List.mem_append_right _ (List.mem_append_right _ (List.mem_append_left _ (List.mem_of_getElem? (l := tables_1_6) (i := 222) rfl)))))))) rfl
theorem q_6_223 : (.instanceMethod yX12_end : Cond) ∈ gT := gT_mem (List.mem_append_right _ (List.mem_append_right _ (List.mem_append_right _ (List.mem_append_right _ (List.mem_append_right _ (List.mem_append_right _ (List.mem_append_left _ (List.mem_of_getElem? (l := tables_1_6) (i := 223) rfl)))))))) rfl
theorem q_6_224 : (.selects RX12 yX12_end yX12_end : Cond) ∈ gT := gT_mem (List.mem_append_right _ (List.mem_append_right _ (List.mem_append_right _ (List.mem_append_right _ (List.mem_append_right _ (List.mem_append_right _ (List.mem_append_left _ (List.mem_of_getElem? (l := tables_1_6) (i := 224) rfl)))))))) rfl
theorem q_6_225 : (.code yX12_end cX12_end 3 (some .int) : Cond) ∈ gT := gT_mem (List.mem_append_right _ (List.mem_append_right _ (List.mem_append_right _ (List.mem_append_right _ (List.mem_append_right _ (List.mem_append_right _ (List.mem_append_left _ (List.mem_of_getElem? (l := tables_1_6) (i := 225) rfl)))))))) rfl
theorem q_4_196 : (.codeWith yX10_format cX10_format 6 (some .int) [(0, 12, 15, 13)] : Cond) ∈ gT := gT_mem (List.mem_append_right _ (List.mem_append_right _ (List.mem_append_right _ (List.mem_append_right _ (List.mem_append_left _ (List.mem_of_getElem? (l := tables_1_4) (i := 196) rfl)))))) rfl
theorem q_4_194 : (.methodLink RX10 85 yX10_format : Cond) ∈ gT := gT_mem (List.mem_append_right _ (List.mem_append_right _ (List.mem_append_right _ (List.mem_append_right _ (List.mem_append_left _ (List.mem_of_getElem? (l := tables_1_4) (i := 194) rfl)))))) rfl
theorem q_4_195 : (.static yX10_format : Cond) ∈ gT := gT_mem (List.mem_append_right _ (List.mem_append_right _ (List.mem_append_right _ (List.mem_append_right _ (List.mem_append_left _ (List.mem_of_getElem? (l := tables_1_4) (i := 195) rfl)))))) rfl
theorem q_1_0 : (.initialized RX10 : Cond) ∈ gT := gT_mem (List.mem_append_right _ (List.mem_append_left _ (List.mem_of_getElem? (l := tables_1_1) (i := 0) rfl))) rfl
theorem q_6_226 : (.methodLink RX10 88 yX12_format : Cond) ∈ gT := gT_mem (List.mem_append_right _ (List.mem_append_right _ (List.mem_append_right _ (List.mem_append_right _ (List.mem_append_right _ (List.mem_append_right _ (List.mem_append_left _ (List.mem_of_getElem? (l := tables_1_6) (i := 226) rfl)))))))) rfl
theorem q_6_227 : (.instanceMethod yX12_format : Cond) ∈ gT := gT_mem (List.mem_append_right _ (List.mem_append_right _ (List.mem_append_right _ (List.mem_append_right _ (List.mem_append_right _ (List.mem_append_right _ (List.mem_append_left _ (List.mem_of_getElem? (l := tables_1_6) (i := 227) rfl)))))))) rfl
theorem q_6_228 : (.selects RX12 yX12_format yX12_format : Cond) ∈ gT := gT_mem (List.mem_append_right _ (List.mem_append_right _ (List.mem_append_right _ (List.mem_append_right _ (List.mem_append_right _ (List.mem_append_right _ (List.mem_append_left _ (List.mem_of_getElem? (l := tables_1_6) (i := 228) rfl)))))))) rfl
theorem q_6_229 : (.code yX12_format cX12_format 8 (some .int) : Cond) ∈ gT := gT_mem (List.mem_append_right _ (List.mem_append_right _ (List.mem_append_right _ (List.mem_append_right _ (List.mem_append_right _ (List.mem_append_right _ (List.mem_append_left _ (List.mem_of_getElem? (l := tables_1_6) (i := 229) rfl)))))))) rfl
theorem q_6_214 : (.methodLink RX10 89 yX12_thrown : Cond) ∈ gT := gT_mem (List.mem_append_right _ (List.mem_append_right _ (List.mem_append_right _ (List.mem_append_right _ (List.mem_append_right _ (List.mem_append_right _ (List.mem_append_left _ (List.mem_of_getElem? (l := tables_1_6) (i := 214) rfl)))))))) rfl
theorem q_6_215 : (.instanceMethod yX12_thrown : Cond) ∈ gT := gT_mem (List.mem_append_right _ (List.mem_append_right _ (List.mem_append_right _ (List.mem_append_right _ (List.mem_append_right _ (List.mem_append_right _ (List.mem_append_left _ (List.mem_of_getElem? (l := tables_1_6) (i := 215) rfl)))))))) rfl
theorem q_6_216 : (.selects RX12 yX12_thrown yX12_thrown : Cond) ∈ gT := gT_mem (List.mem_append_right _ (List.mem_append_right _ (List.mem_append_right _ (List.mem_append_right _ (List.mem_append_right _ (List.mem_append_right _ (List.mem_append_left _ (List.mem_of_getElem? (l := tables_1_6) (i := 216) rfl)))))))) rfl
theorem q_6_217 : (.code yX12_thrown cX12_thrown 1 (some .int) : Cond) ∈ gT := gT_mem (List.mem_append_right _ (List.mem_append_right _ (List.mem_append_right _ (List.mem_append_right _ (List.mem_append_right _ (List.mem_append_right _ (List.mem_append_left _ (List.mem_of_getElem? (l := tables_1_6) (i := 217) rfl)))))))) rfl
theorem q_2_39 : (.methodLink RX10 92 yX0_byteAt : Cond) ∈ gT := gT_mem (List.mem_append_right _ (List.mem_append_right _ (List.mem_append_left _ (List.mem_of_getElem? (l := tables_1_2) (i := 39) rfl)))) rfl
theorem q_2_40 : (.instanceMethod yX0_byteAt : Cond) ∈ gT := gT_mem (List.mem_append_right _ (List.mem_append_right _ (List.mem_append_left _ (List.mem_of_getElem? (l := tables_1_2) (i := 40) rfl)))) rfl
theorem q_2_41 : (.selects RX0 yX0_byteAt yX0_byteAt : Cond) ∈ gT := gT_mem (List.mem_append_right _ (List.mem_append_right _ (List.mem_append_left _ (List.mem_of_getElem? (l := tables_1_2) (i := 41) rfl)))) rfl
theorem q_2_42 : (.code yX0_byteAt cX0_byteAt 4 (some .int) : Cond) ∈ gT := gT_mem (List.mem_append_right _ (List.mem_append_right _ (List.mem_append_left _ (List.mem_of_getElem? (l := tables_1_2) (i := 42) rfl)))) rfl
theorem q_7_25 : (.methodLink RX10 95 yX12_byteAt : Cond) ∈ gT := gT_mem (List.mem_append_right _ (List.mem_append_right _ (List.mem_append_right _ (List.mem_append_right _ (List.mem_append_right _ (List.mem_append_right _ (List.mem_append_right _ (List.mem_of_getElem? (l := tables_1_7) (i := 25) rfl)))))))) rfl
theorem q_7_26 : (.instanceMethod yX12_byteAt : Cond) ∈ gT := gT_mem (List.mem_append_right _ (List.mem_append_right _ (List.mem_append_right _ (List.mem_append_right _ (List.mem_append_right _ (List.mem_append_right _ (List.mem_append_right _ (List.mem_of_getElem? (l := tables_1_7) (i := 26) rfl)))))))) rfl
theorem q_7_27 : (.selects RX12 yX12_byteAt yX12_byteAt : Cond) ∈ gT := gT_mem (List.mem_append_right _ (List.mem_append_right _ (List.mem_append_right _ (List.mem_append_right _ (List.mem_append_right _ (List.mem_append_right _ (List.mem_append_right _ (List.mem_of_getElem? (l := tables_1_7) (i := 27) rfl)))))))) rfl
theorem q_7_28 : (.code yX12_byteAt cX12_byteAt 2 (some .int) : Cond) ∈ gT := gT_mem (List.mem_append_right _ (List.mem_append_right _ (List.mem_append_right _ (List.mem_append_right _ (List.mem_append_right _ (List.mem_append_right _ (List.mem_append_right _ (List.mem_of_getElem? (l := tables_1_7) (i := 28) rfl)))))))) rfl
theorem q_2_60 : (.methodLink RX10 96 yX0_fault : Cond) ∈ gT := gT_mem (List.mem_append_right _ (List.mem_append_right _ (List.mem_append_left _ (List.mem_of_getElem? (l := tables_1_2) (i := 60) rfl)))) rfl
theorem q_2_61 : (.instanceMethod yX0_fault : Cond) ∈ gT := gT_mem (List.mem_append_right _ (List.mem_append_right _ (List.mem_append_left _ (List.mem_of_getElem? (l := tables_1_2) (i := 61) rfl)))) rfl
theorem q_2_62 : (.selects RX0 yX0_fault yX0_fault : Cond) ∈ gT := gT_mem (List.mem_append_right _ (List.mem_append_right _ (List.mem_append_left _ (List.mem_of_getElem? (l := tables_1_2) (i := 62) rfl)))) rfl
theorem q_2_63 : (.code yX0_fault cX0_fault 1 (some .int) : Cond) ∈ gT := gT_mem (List.mem_append_right _ (List.mem_append_right _ (List.mem_append_left _ (List.mem_of_getElem? (l := tables_1_2) (i := 63) rfl)))) rfl
theorem q_7_71 : (.methodLink RX10 99 yX12_fault : Cond) ∈ gT := gT_mem (List.mem_append_right _ (List.mem_append_right _ (List.mem_append_right _ (List.mem_append_right _ (List.mem_append_right _ (List.mem_append_right _ (List.mem_append_right _ (List.mem_of_getElem? (l := tables_1_7) (i := 71) rfl)))))))) rfl
theorem q_7_72 : (.instanceMethod yX12_fault : Cond) ∈ gT := gT_mem (List.mem_append_right _ (List.mem_append_right _ (List.mem_append_right _ (List.mem_append_right _ (List.mem_append_right _ (List.mem_append_right _ (List.mem_append_right _ (List.mem_of_getElem? (l := tables_1_7) (i := 72) rfl)))))))) rfl
theorem q_7_73 : (.selects RX12 yX12_fault yX12_fault : Cond) ∈ gT := gT_mem (List.mem_append_right _ (List.mem_append_right _ (List.mem_append_right _ (List.mem_append_right _ (List.mem_append_right _ (List.mem_append_right _ (List.mem_append_right _ (List.mem_of_getElem? (l := tables_1_7) (i := 73) rfl)))))))) rfl
theorem q_7_74 : (.code yX12_fault cX12_fault 1 (some .int) : Cond) ∈ gT := gT_mem (List.mem_append_right _ (List.mem_append_right _ (List.mem_append_right _ (List.mem_append_right _ (List.mem_append_right _ (List.mem_append_right _ (List.mem_append_right _ (List.mem_of_getElem? (l := tables_1_7) (i := 74) rfl)))))))) rfl
theorem q_4_180 : (.methodLink RX10 100 yX0_many : Cond) ∈ gT := gT_mem (List.mem_append_right _ (List.mem_append_right _ (List.mem_append_right _ (List.mem_append_right _ (List.mem_append_left _ (List.mem_of_getElem? (l := tables_1_4) (i := 180) rfl)))))) rfl
theorem q_4_181 : (.instanceMethod yX0_many : Cond) ∈ gT := gT_mem (List.mem_append_right _ (List.mem_append_right _ (List.mem_append_right _ (List.mem_append_right _ (List.mem_append_left _ (List.mem_of_getElem? (l := tables_1_4) (i := 181) rfl)))))) rfl
theorem q_4_182 : (.selects RX0 yX0_many yX0_many : Cond) ∈ gT := gT_mem (List.mem_append_right _ (List.mem_append_right _ (List.mem_append_right _ (List.mem_append_right _ (List.mem_append_left _ (List.mem_of_getElem? (l := tables_1_4) (i := 182) rfl)))))) rfl
theorem q_4_183 : (.code yX0_many cX0_many 2 (some .int) : Cond) ∈ gT := gT_mem (List.mem_append_right _ (List.mem_append_right _ (List.mem_append_right _ (List.mem_append_right _ (List.mem_append_left _ (List.mem_of_getElem? (l := tables_1_4) (i := 183) rfl)))))) rfl
theorem q_7_75 : (.methodLink RX10 103 yX12_many : Cond) ∈ gT := gT_mem (List.mem_append_right _ (List.mem_append_right _ (List.mem_append_right _ (List.mem_append_right _ (List.mem_append_right _ (List.mem_append_right _ (List.mem_append_right _ (List.mem_of_getElem? (l := tables_1_7) (i := 75) rfl)))))))) rfl
theorem q_7_76 : (.instanceMethod yX12_many : Cond) ∈ gT := gT_mem (List.mem_append_right _ (List.mem_append_right _ (List.mem_append_right _ (List.mem_append_right _ (List.mem_append_right _ (List.mem_append_right _ (List.mem_append_right _ (List.mem_of_getElem? (l := tables_1_7) (i := 76) rfl)))))))) rfl
theorem q_7_77 : (.selects RX12 yX12_many yX12_many : Cond) ∈ gT := gT_mem (List.mem_append_right _ (List.mem_append_right _ (List.mem_append_right _ (List.mem_append_right _ (List.mem_append_right _ (List.mem_append_right _ (List.mem_append_right _ (List.mem_of_getElem? (l := tables_1_7) (i := 77) rfl)))))))) rfl
theorem q_7_78 : (.code yX12_many cX12_many 2 (some .int) : Cond) ∈ gT := gT_mem (List.mem_append_right _ (List.mem_append_right _ (List.mem_append_right _ (List.mem_append_right _ (List.mem_append_right _ (List.mem_append_right _ (List.mem_append_right _ (List.mem_of_getElem? (l := tables_1_7) (i := 78) rfl)))))))) rfl
theorem q_5_60 : (.codeWith yX10_items cX10_items 3 (some .int) [(0, 8, 11, 19)] : Cond) ∈ gT := gT_mem (List.mem_append_right _ (List.mem_append_right _ (List.mem_append_right _ (List.mem_append_right _ (List.mem_append_right _ (List.mem_append_left _ (List.mem_of_getElem? (l := tables_1_5) (i := 60) rfl))))))) rfl
theorem q_5_58 : (.methodLink RX10 104 yX10_items : Cond) ∈ gT := gT_mem (List.mem_append_right _ (List.mem_append_right _ (List.mem_append_right _ (List.mem_append_right _ (List.mem_append_right _ (List.mem_append_left _ (List.mem_of_getElem? (l := tables_1_5) (i := 58) rfl))))))) rfl
theorem q_5_59 : (.static yX10_items : Cond) ∈ gT := gT_mem (List.mem_append_right _ (List.mem_append_right _ (List.mem_append_right _ (List.mem_append_right _ (List.mem_append_right _ (List.mem_append_left _ (List.mem_of_getElem? (l := tables_1_5) (i := 59) rfl))))))) rfl
theorem q_7_79 : (.methodLink RX10 107 yX12_items : Cond) ∈ gT := gT_mem (List.mem_append_right _ (List.mem_append_right _ (List.mem_append_right _ (List.mem_append_right _ (List.mem_append_right _ (List.mem_append_right _ (List.mem_append_right _ (List.mem_of_getElem? (l := tables_1_7) (i := 79) rfl)))))))) rfl
theorem q_7_80 : (.instanceMethod yX12_items : Cond) ∈ gT := gT_mem (List.mem_append_right _ (List.mem_append_right _ (List.mem_append_right _ (List.mem_append_right _ (List.mem_append_right _ (List.mem_append_right _ (List.mem_append_right _ (List.mem_of_getElem? (l := tables_1_7) (i := 80) rfl)))))))) rfl
theorem q_7_81 : (.selects RX12 yX12_items yX12_items : Cond) ∈ gT := gT_mem (List.mem_append_right _ (List.mem_append_right _ (List.mem_append_right _ (List.mem_append_right _ (List.mem_append_right _ (List.mem_append_right _ (List.mem_append_right _ (List.mem_of_getElem? (l := tables_1_7) (i := 81) rfl)))))))) rfl
theorem q_7_82 : (.code yX12_items cX12_items 1 (some .int) : Cond) ∈ gT := gT_mem (List.mem_append_right _ (List.mem_append_right _ (List.mem_append_right _ (List.mem_append_right _ (List.mem_append_right _ (List.mem_append_right _ (List.mem_append_right _ (List.mem_of_getElem? (l := tables_1_7) (i := 82) rfl)))))))) rfl
theorem q_5_93 : (.codeWith yX10_letter cX10_letter 5 (some .int) [(0, 10, 13, 19), (0, 10, 17, 25)] : Cond) ∈ gT := gT_mem (List.mem_append_right _ (List.mem_append_right _ (List.mem_append_right _ (List.mem_append_right _ (List.mem_append_right _ (List.mem_append_left _ (List.mem_of_getElem? (l := tables_1_5) (i := 93) rfl))))))) rfl
theorem q_5_91 : (.methodLink RX10 108 yX10_letter : Cond) ∈ gT := gT_mem (List.mem_append_right _ (List.mem_append_right _ (List.mem_append_right _ (List.mem_append_right _ (List.mem_append_right _ (List.mem_append_left _ (List.mem_of_getElem? (l := tables_1_5) (i := 91) rfl))))))) rfl
theorem q_5_92 : (.static yX10_letter : Cond) ∈ gT := gT_mem (List.mem_append_right _ (List.mem_append_right _ (List.mem_append_right _ (List.mem_append_right _ (List.mem_append_right _ (List.mem_append_left _ (List.mem_of_getElem? (l := tables_1_5) (i := 92) rfl))))))) rfl
theorem q_7_112 : (.methodLink RX10 111 yX12_letter : Cond) ∈ gT := gT_mem (List.mem_append_right _ (List.mem_append_right _ (List.mem_append_right _ (List.mem_append_right _ (List.mem_append_right _ (List.mem_append_right _ (List.mem_append_right _ (List.mem_of_getElem? (l := tables_1_7) (i := 112) rfl)))))))) rfl
theorem q_7_113 : (.instanceMethod yX12_letter : Cond) ∈ gT := gT_mem (List.mem_append_right _ (List.mem_append_right _ (List.mem_append_right _ (List.mem_append_right _ (List.mem_append_right _ (List.mem_append_right _ (List.mem_append_right _ (List.mem_of_getElem? (l := tables_1_7) (i := 113) rfl)))))))) rfl
theorem q_7_114 : (.selects RX12 yX12_letter yX12_letter : Cond) ∈ gT := gT_mem (List.mem_append_right _ (List.mem_append_right _ (List.mem_append_right _ (List.mem_append_right _ (List.mem_append_right _ (List.mem_append_right _ (List.mem_append_right _ (List.mem_of_getElem? (l := tables_1_7) (i := 114) rfl)))))))) rfl
theorem q_7_115 : (.code yX12_letter cX12_letter 3 (some .int) : Cond) ∈ gT := gT_mem (List.mem_append_right _ (List.mem_append_right _ (List.mem_append_right _ (List.mem_append_right _ (List.mem_append_right _ (List.mem_append_right _ (List.mem_append_right _ (List.mem_of_getElem? (l := tables_1_7) (i := 115) rfl)))))))) rfl
theorem q_5_123 : (.codeWith yX10_about cX10_about 5 (some .int) [(0, 9, 12, 19), (0, 9, 16, 25), (0, 9, 20, 13)] : Cond) ∈ gT := gT_mem (List.mem_append_right _ (List.mem_append_right _ (List.mem_append_right _ (List.mem_append_right _ (List.mem_append_right _ (List.mem_append_left _ (List.mem_of_getElem? (l := tables_1_5) (i := 123) rfl))))))) rfl
theorem q_5_121 : (.methodLink RX10 112 yX10_about : Cond) ∈ gT := gT_mem (List.mem_append_right _ (List.mem_append_right _ (List.mem_append_right _ (List.mem_append_right _ (List.mem_append_right _ (List.mem_append_left _ (List.mem_of_getElem? (l := tables_1_5) (i := 121) rfl))))))) rfl
theorem q_5_122 : (.static yX10_about : Cond) ∈ gT := gT_mem (List.mem_append_right _ (List.mem_append_right _ (List.mem_append_right _ (List.mem_append_right _ (List.mem_append_right _ (List.mem_append_left _ (List.mem_of_getElem? (l := tables_1_5) (i := 122) rfl))))))) rfl
theorem q_7_120 : (.methodLink RX10 114 yX12_about : Cond) ∈ gT := gT_mem (List.mem_append_right _ (List.mem_append_right _ (List.mem_append_right _ (List.mem_append_right _ (List.mem_append_right _ (List.mem_append_right _ (List.mem_append_right _ (List.mem_of_getElem? (l := tables_1_7) (i := 120) rfl)))))))) rfl
theorem q_7_121 : (.instanceMethod yX12_about : Cond) ∈ gT := gT_mem (List.mem_append_right _ (List.mem_append_right _ (List.mem_append_right _ (List.mem_append_right _ (List.mem_append_right _ (List.mem_append_right _ (List.mem_append_right _ (List.mem_of_getElem? (l := tables_1_7) (i := 121) rfl)))))))) rfl
theorem q_7_122 : (.selects RX12 yX12_about yX12_about : Cond) ∈ gT := gT_mem (List.mem_append_right _ (List.mem_append_right _ (List.mem_append_right _ (List.mem_append_right _ (List.mem_append_right _ (List.mem_append_right _ (List.mem_append_right _ (List.mem_of_getElem? (l := tables_1_7) (i := 122) rfl)))))))) rfl
theorem q_7_123 : (.code yX12_about cX12_about 4 (some .long) : Cond) ∈ gT := gT_mem (List.mem_append_right _ (List.mem_append_right _ (List.mem_append_right _ (List.mem_append_right _ (List.mem_append_right _ (List.mem_append_right _ (List.mem_append_right _ (List.mem_of_getElem? (l := tables_1_7) (i := 123) rfl)))))))) rfl
theorem q_5_140 : (.codeWith yX10_content cX10_content 5 (some .int) [(0, 10, 13, 19), (0, 10, 17, 25)] : Cond) ∈ gT := gT_mem (List.mem_append_right _ (List.mem_append_right _ (List.mem_append_right _ (List.mem_append_right _ (List.mem_append_right _ (List.mem_append_left _ (List.mem_of_getElem? (l := tables_1_5) (i := 140) rfl))))))) rfl
theorem q_5_138 : (.methodLink RX10 115 yX10_content : Cond) ∈ gT := gT_mem (List.mem_append_right _ (List.mem_append_right _ (List.mem_append_right _ (List.mem_append_right _ (List.mem_append_right _ (List.mem_append_left _ (List.mem_of_getElem? (l := tables_1_5) (i := 138) rfl))))))) rfl
theorem q_5_139 : (.static yX10_content : Cond) ∈ gT := gT_mem (List.mem_append_right _ (List.mem_append_right _ (List.mem_append_right _ (List.mem_append_right _ (List.mem_append_right _ (List.mem_append_left _ (List.mem_of_getElem? (l := tables_1_5) (i := 139) rfl))))))) rfl
theorem q_7_124 : (.methodLink RX10 117 yX12_content : Cond) ∈ gT := gT_mem (List.mem_append_right _ (List.mem_append_right _ (List.mem_append_right _ (List.mem_append_right _ (List.mem_append_right _ (List.mem_append_right _ (List.mem_append_right _ (List.mem_of_getElem? (l := tables_1_7) (i := 124) rfl)))))))) rfl
theorem q_7_125 : (.instanceMethod yX12_content : Cond) ∈ gT := gT_mem (List.mem_append_right _ (List.mem_append_right _ (List.mem_append_right _ (List.mem_append_right _ (List.mem_append_right _ (List.mem_append_right _ (List.mem_append_right _ (List.mem_of_getElem? (l := tables_1_7) (i := 125) rfl)))))))) rfl
theorem q_7_126 : (.selects RX12 yX12_content yX12_content : Cond) ∈ gT := gT_mem (List.mem_append_right _ (List.mem_append_right _ (List.mem_append_right _ (List.mem_append_right _ (List.mem_append_right _ (List.mem_append_right _ (List.mem_append_right _ (List.mem_of_getElem? (l := tables_1_7) (i := 126) rfl)))))))) rfl
theorem q_7_127 : (.code yX12_content cX12_content 4 (some .int) : Cond) ∈ gT := gT_mem (List.mem_append_right _ (List.mem_append_right _ (List.mem_append_right _ (List.mem_append_right _ (List.mem_append_right _ (List.mem_append_right _ (List.mem_append_right _ (List.mem_of_getElem? (l := tables_1_7) (i := 127) rfl)))))))) rfl
theorem q_5_148 : (.codeWith yX10_enter cX10_enter 4 (some .int) [(0, 9, 12, 19), (0, 9, 15, 25), (0, 9, 18, 13)] : Cond) ∈ gT := gT_mem (List.mem_append_right _ (List.mem_append_right _ (List.mem_append_right _ (List.mem_append_right _ (List.mem_append_right _ (List.mem_append_left _ (List.mem_of_getElem? (l := tables_1_5) (i := 148) rfl))))))) rfl
theorem q_5_146 : (.methodLink RX10 118 yX10_enter : Cond) ∈ gT := gT_mem (List.mem_append_right _ (List.mem_append_right _ (List.mem_append_right _ (List.mem_append_right _ (List.mem_append_right _ (List.mem_append_left _ (List.mem_of_getElem? (l := tables_1_5) (i := 146) rfl))))))) rfl
theorem q_5_147 : (.static yX10_enter : Cond) ∈ gT := gT_mem (List.mem_append_right _ (List.mem_append_right _ (List.mem_append_right _ (List.mem_append_right _ (List.mem_append_right _ (List.mem_append_left _ (List.mem_of_getElem? (l := tables_1_5) (i := 147) rfl))))))) rfl
theorem q_7_132 : (.methodLink RX10 121 yX12_enter : Cond) ∈ gT := gT_mem (List.mem_append_right _ (List.mem_append_right _ (List.mem_append_right _ (List.mem_append_right _ (List.mem_append_right _ (List.mem_append_right _ (List.mem_append_right _ (List.mem_of_getElem? (l := tables_1_7) (i := 132) rfl)))))))) rfl
theorem q_7_133 : (.instanceMethod yX12_enter : Cond) ∈ gT := gT_mem (List.mem_append_right _ (List.mem_append_right _ (List.mem_append_right _ (List.mem_append_right _ (List.mem_append_right _ (List.mem_append_right _ (List.mem_append_right _ (List.mem_of_getElem? (l := tables_1_7) (i := 133) rfl)))))))) rfl
theorem q_7_134 : (.selects RX12 yX12_enter yX12_enter : Cond) ∈ gT := gT_mem (List.mem_append_right _ (List.mem_append_right _ (List.mem_append_right _ (List.mem_append_right _ (List.mem_append_right _ (List.mem_append_right _ (List.mem_append_right _ (List.mem_of_getElem? (l := tables_1_7) (i := 134) rfl)))))))) rfl
theorem q_7_135 : (.code yX12_enter cX12_enter 2 (some .int) : Cond) ∈ gT := gT_mem (List.mem_append_right _ (List.mem_append_right _ (List.mem_append_right _ (List.mem_append_right _ (List.mem_append_right _ (List.mem_append_right _ (List.mem_append_right _ (List.mem_of_getElem? (l := tables_1_7) (i := 135) rfl)))))))) rfl
theorem q_5_156 : (.codeWith yX10_up cX10_up 3 (some .int) [(0, 15, 18, 19)] : Cond) ∈ gT := gT_mem (List.mem_append_right _ (List.mem_append_right _ (List.mem_append_right _ (List.mem_append_right _ (List.mem_append_right _ (List.mem_append_left _ (List.mem_of_getElem? (l := tables_1_5) (i := 156) rfl))))))) rfl
theorem q_5_154 : (.methodLink RX10 122 yX10_up : Cond) ∈ gT := gT_mem (List.mem_append_right _ (List.mem_append_right _ (List.mem_append_right _ (List.mem_append_right _ (List.mem_append_right _ (List.mem_append_left _ (List.mem_of_getElem? (l := tables_1_5) (i := 154) rfl))))))) rfl
theorem q_5_155 : (.static yX10_up : Cond) ∈ gT := gT_mem (List.mem_append_right _ (List.mem_append_right _ (List.mem_append_right _ (List.mem_append_right _ (List.mem_append_right _ (List.mem_append_left _ (List.mem_of_getElem? (l := tables_1_5) (i := 155) rfl))))))) rfl
theorem q_7_136 : (.methodLink RX10 124 yX12_up : Cond) ∈ gT := gT_mem (List.mem_append_right _ (List.mem_append_right _ (List.mem_append_right _ (List.mem_append_right _ (List.mem_append_right _ (List.mem_append_right _ (List.mem_append_right _ (List.mem_of_getElem? (l := tables_1_7) (i := 136) rfl)))))))) rfl
theorem q_7_137 : (.instanceMethod yX12_up : Cond) ∈ gT := gT_mem (List.mem_append_right _ (List.mem_append_right _ (List.mem_append_right _ (List.mem_append_right _ (List.mem_append_right _ (List.mem_append_right _ (List.mem_append_right _ (List.mem_of_getElem? (l := tables_1_7) (i := 137) rfl)))))))) rfl
theorem q_7_138 : (.selects RX12 yX12_up yX12_up : Cond) ∈ gT := gT_mem (List.mem_append_right _ (List.mem_append_right _ (List.mem_append_right _ (List.mem_append_right _ (List.mem_append_right _ (List.mem_append_right _ (List.mem_append_right _ (List.mem_of_getElem? (l := tables_1_7) (i := 138) rfl)))))))) rfl
theorem q_7_139 : (.code yX12_up cX12_up 1 (some .boolean) : Cond) ∈ gT := gT_mem (List.mem_append_right _ (List.mem_append_right _ (List.mem_append_right _ (List.mem_append_right _ (List.mem_append_right _ (List.mem_append_right _ (List.mem_append_right _ (List.mem_of_getElem? (l := tables_1_7) (i := 139) rfl)))))))) rfl
theorem q_5_164 : (.codeWith yX10_make cX10_make 4 (some .int) [(0, 9, 12, 19), (0, 9, 15, 13), (0, 9, 18, 46)] : Cond) ∈ gT := gT_mem (List.mem_append_right _ (List.mem_append_right _ (List.mem_append_right _ (List.mem_append_right _ (List.mem_append_right _ (List.mem_append_left _ (List.mem_of_getElem? (l := tables_1_5) (i := 164) rfl))))))) rfl
theorem q_5_162 : (.methodLink RX10 125 yX10_make : Cond) ∈ gT := gT_mem (List.mem_append_right _ (List.mem_append_right _ (List.mem_append_right _ (List.mem_append_right _ (List.mem_append_right _ (List.mem_append_left _ (List.mem_of_getElem? (l := tables_1_5) (i := 162) rfl))))))) rfl
theorem q_5_163 : (.static yX10_make : Cond) ∈ gT := gT_mem (List.mem_append_right _ (List.mem_append_right _ (List.mem_append_right _ (List.mem_append_right _ (List.mem_append_right _ (List.mem_append_left _ (List.mem_of_getElem? (l := tables_1_5) (i := 163) rfl))))))) rfl
theorem q_7_140 : (.methodLink RX10 128 yX12_make : Cond) ∈ gT := gT_mem (List.mem_append_right _ (List.mem_append_right _ (List.mem_append_right _ (List.mem_append_right _ (List.mem_append_right _ (List.mem_append_right _ (List.mem_append_right _ (List.mem_of_getElem? (l := tables_1_7) (i := 140) rfl)))))))) rfl
theorem q_7_141 : (.instanceMethod yX12_make : Cond) ∈ gT := gT_mem (List.mem_append_right _ (List.mem_append_right _ (List.mem_append_right _ (List.mem_append_right _ (List.mem_append_right _ (List.mem_append_right _ (List.mem_append_right _ (List.mem_of_getElem? (l := tables_1_7) (i := 141) rfl)))))))) rfl
theorem q_7_142 : (.selects RX12 yX12_make yX12_make : Cond) ∈ gT := gT_mem (List.mem_append_right _ (List.mem_append_right _ (List.mem_append_right _ (List.mem_append_right _ (List.mem_append_right _ (List.mem_append_right _ (List.mem_append_right _ (List.mem_of_getElem? (l := tables_1_7) (i := 142) rfl)))))))) rfl
theorem q_7_143 : (.code yX12_make cX12_make 10 (some .int) : Cond) ∈ gT := gT_mem (List.mem_append_right _ (List.mem_append_right _ (List.mem_append_right _ (List.mem_append_right _ (List.mem_append_right _ (List.mem_append_right _ (List.mem_append_right _ (List.mem_of_getElem? (l := tables_1_7) (i := 143) rfl)))))))) rfl
theorem q_6_10 : (.codeWith yX10_write cX10_write 4 (some .int) [(0, 9, 12, 19), (0, 9, 15, 25), (0, 9, 18, 13), (0, 9, 21, 46)] : Cond) ∈ gT := gT_mem (List.mem_append_right _ (List.mem_append_right _ (List.mem_append_right _ (List.mem_append_right _ (List.mem_append_right _ (List.mem_append_right _ (List.mem_append_left _ (List.mem_of_getElem? (l := tables_1_6) (i := 10) rfl)))))))) rfl
theorem q_6_8 : (.methodLink RX10 129 yX10_write : Cond) ∈ gT := gT_mem (List.mem_append_right _ (List.mem_append_right _ (List.mem_append_right _ (List.mem_append_right _ (List.mem_append_right _ (List.mem_append_right _ (List.mem_append_left _ (List.mem_of_getElem? (l := tables_1_6) (i := 8) rfl)))))))) rfl
theorem q_6_9 : (.static yX10_write : Cond) ∈ gT := gT_mem (List.mem_append_right _ (List.mem_append_right _ (List.mem_append_right _ (List.mem_append_right _ (List.mem_append_right _ (List.mem_append_right _ (List.mem_append_left _ (List.mem_of_getElem? (l := tables_1_6) (i := 9) rfl)))))))) rfl
theorem q_7_160 : (.methodLink RX10 131 yX12_write : Cond) ∈ gT := gT_mem (List.mem_append_right _ (List.mem_append_right _ (List.mem_append_right _ (List.mem_append_right _ (List.mem_append_right _ (List.mem_append_right _ (List.mem_append_right _ (List.mem_of_getElem? (l := tables_1_7) (i := 160) rfl)))))))) rfl
theorem q_7_161 : (.instanceMethod yX12_write : Cond) ∈ gT := gT_mem (List.mem_append_right _ (List.mem_append_right _ (List.mem_append_right _ (List.mem_append_right _ (List.mem_append_right _ (List.mem_append_right _ (List.mem_append_right _ (List.mem_of_getElem? (l := tables_1_7) (i := 161) rfl)))))))) rfl
theorem q_7_162 : (.selects RX12 yX12_write yX12_write : Cond) ∈ gT := gT_mem (List.mem_append_right _ (List.mem_append_right _ (List.mem_append_right _ (List.mem_append_right _ (List.mem_append_right _ (List.mem_append_right _ (List.mem_append_right _ (List.mem_of_getElem? (l := tables_1_7) (i := 162) rfl)))))))) rfl
theorem q_7_163 : (.code yX12_write cX12_write 3 (some .int) : Cond) ∈ gT := gT_mem (List.mem_append_right _ (List.mem_append_right _ (List.mem_append_right _ (List.mem_append_right _ (List.mem_append_right _ (List.mem_append_right _ (List.mem_append_right _ (List.mem_of_getElem? (l := tables_1_7) (i := 163) rfl)))))))) rfl
theorem q_6_33 : (.codeWith yX10_grow cX10_grow 6 (some .int) [(0, 12, 15, 19), (0, 12, 19, 25), (0, 12, 23, 13), (0, 12, 27, 46)] : Cond) ∈ gT := gT_mem (List.mem_append_right _ (List.mem_append_right _ (List.mem_append_right _ (List.mem_append_right _ (List.mem_append_right _ (List.mem_append_right _ (List.mem_append_left _ (List.mem_of_getElem? (l := tables_1_6) (i := 33) rfl)))))))) rfl
theorem q_6_31 : (.methodLink RX10 132 yX10_grow : Cond) ∈ gT := gT_mem (List.mem_append_right _ (List.mem_append_right _ (List.mem_append_right _ (List.mem_append_right _ (List.mem_append_right _ (List.mem_append_right _ (List.mem_append_left _ (List.mem_of_getElem? (l := tables_1_6) (i := 31) rfl)))))))) rfl
theorem q_6_32 : (.static yX10_grow : Cond) ∈ gT := gT_mem (List.mem_append_right _ (List.mem_append_right _ (List.mem_append_right _ (List.mem_append_right _ (List.mem_append_right _ (List.mem_append_right _ (List.mem_append_left _ (List.mem_of_getElem? (l := tables_1_6) (i := 32) rfl)))))))) rfl
theorem q_7_172 : (.methodLink RX10 134 yX12_grow : Cond) ∈ gT := gT_mem (List.mem_append_right _ (List.mem_append_right _ (List.mem_append_right _ (List.mem_append_right _ (List.mem_append_right _ (List.mem_append_right _ (List.mem_append_right _ (List.mem_of_getElem? (l := tables_1_7) (i := 172) rfl)))))))) rfl
theorem q_7_173 : (.instanceMethod yX12_grow : Cond) ∈ gT := gT_mem (List.mem_append_right _ (List.mem_append_right _ (List.mem_append_right _ (List.mem_append_right _ (List.mem_append_right _ (List.mem_append_right _ (List.mem_append_right _ (List.mem_of_getElem? (l := tables_1_7) (i := 173) rfl)))))))) rfl
theorem q_7_174 : (.selects RX12 yX12_grow yX12_grow : Cond) ∈ gT := gT_mem (List.mem_append_right _ (List.mem_append_right _ (List.mem_append_right _ (List.mem_append_right _ (List.mem_append_right _ (List.mem_append_right _ (List.mem_append_right _ (List.mem_of_getElem? (l := tables_1_7) (i := 174) rfl)))))))) rfl
theorem q_7_175 : (.code yX12_grow cX12_grow 4 (some .int) : Cond) ∈ gT := gT_mem (List.mem_append_right _ (List.mem_append_right _ (List.mem_append_right _ (List.mem_append_right _ (List.mem_append_right _ (List.mem_append_right _ (List.mem_append_right _ (List.mem_of_getElem? (l := tables_1_7) (i := 175) rfl)))))))) rfl
theorem q_6_52 : (.codeWith yX10_cut cX10_cut 5 (some .int) [(0, 10, 13, 19), (0, 10, 17, 25), (0, 10, 21, 13)] : Cond) ∈ gT := gT_mem (List.mem_append_right _ (List.mem_append_right _ (List.mem_append_right _ (List.mem_append_right _ (List.mem_append_right _ (List.mem_append_right _ (List.mem_append_left _ (List.mem_of_getElem? (l := tables_1_6) (i := 52) rfl)))))))) rfl
theorem q_6_50 : (.methodLink RX10 135 yX10_cut : Cond) ∈ gT := gT_mem (List.mem_append_right _ (List.mem_append_right _ (List.mem_append_right _ (List.mem_append_right _ (List.mem_append_right _ (List.mem_append_right _ (List.mem_append_left _ (List.mem_of_getElem? (l := tables_1_6) (i := 50) rfl)))))))) rfl
theorem q_6_51 : (.static yX10_cut : Cond) ∈ gT := gT_mem (List.mem_append_right _ (List.mem_append_right _ (List.mem_append_right _ (List.mem_append_right _ (List.mem_append_right _ (List.mem_append_right _ (List.mem_append_left _ (List.mem_of_getElem? (l := tables_1_6) (i := 51) rfl)))))))) rfl
theorem q_7_177 : (.methodLink RX10 137 yX12_cut : Cond) ∈ gT := gT_mem (List.mem_append_right _ (List.mem_append_right _ (List.mem_append_right _ (List.mem_append_right _ (List.mem_append_right _ (List.mem_append_right _ (List.mem_append_right _ (List.mem_of_getElem? (l := tables_1_7) (i := 177) rfl)))))))) rfl
theorem q_7_178 : (.instanceMethod yX12_cut : Cond) ∈ gT := gT_mem (List.mem_append_right _ (List.mem_append_right _ (List.mem_append_right _ (List.mem_append_right _ (List.mem_append_right _ (List.mem_append_right _ (List.mem_append_right _ (List.mem_of_getElem? (l := tables_1_7) (i := 178) rfl)))))))) rfl
theorem q_7_179 : (.selects RX12 yX12_cut yX12_cut : Cond) ∈ gT := gT_mem (List.mem_append_right _ (List.mem_append_right _ (List.mem_append_right _ (List.mem_append_right _ (List.mem_append_right _ (List.mem_append_right _ (List.mem_append_right _ (List.mem_of_getElem? (l := tables_1_7) (i := 179) rfl)))))))) rfl
theorem q_7_180 : (.code yX12_cut cX12_cut 5 (some .int) : Cond) ∈ gT := gT_mem (List.mem_append_right _ (List.mem_append_right _ (List.mem_append_right _ (List.mem_append_right _ (List.mem_append_right _ (List.mem_append_right _ (List.mem_append_right _ (List.mem_of_getElem? (l := tables_1_7) (i := 180) rfl)))))))) rfl
theorem q_6_78 : (.codeWith yX10_remove cX10_remove 3 (some .int) [(0, 5, 8, 19), (0, 5, 11, 25), (0, 5, 14, 13)] : Cond) ∈ gT := gT_mem (List.mem_append_right _ (List.mem_append_right _ (List.mem_append_right _ (List.mem_append_right _ (List.mem_append_right _ (List.mem_append_right _ (List.mem_append_left _ (List.mem_of_getElem? (l := tables_1_6) (i := 78) rfl)))))))) rfl
theorem q_6_76 : (.methodLink RX10 138 yX10_remove : Cond) ∈ gT := gT_mem (List.mem_append_right _ (List.mem_append_right _ (List.mem_append_right _ (List.mem_append_right _ (List.mem_append_right _ (List.mem_append_right _ (List.mem_append_left _ (List.mem_of_getElem? (l := tables_1_6) (i := 76) rfl)))))))) rfl
theorem q_6_77 : (.static yX10_remove : Cond) ∈ gT := gT_mem (List.mem_append_right _ (List.mem_append_right _ (List.mem_append_right _ (List.mem_append_right _ (List.mem_append_right _ (List.mem_append_right _ (List.mem_append_left _ (List.mem_of_getElem? (l := tables_1_6) (i := 77) rfl)))))))) rfl
theorem q_7_185 : (.methodLink RX10 141 yX12_remove : Cond) ∈ gT := gT_mem (List.mem_append_right _ (List.mem_append_right _ (List.mem_append_right _ (List.mem_append_right _ (List.mem_append_right _ (List.mem_append_right _ (List.mem_append_right _ (List.mem_of_getElem? (l := tables_1_7) (i := 185) rfl)))))))) rfl
theorem q_7_186 : (.instanceMethod yX12_remove : Cond) ∈ gT := gT_mem (List.mem_append_right _ (List.mem_append_right _ (List.mem_append_right _ (List.mem_append_right _ (List.mem_append_right _ (List.mem_append_right _ (List.mem_append_right _ (List.mem_of_getElem? (l := tables_1_7) (i := 186) rfl)))))))) rfl
theorem q_7_187 : (.selects RX12 yX12_remove yX12_remove : Cond) ∈ gT := gT_mem (List.mem_append_right _ (List.mem_append_right _ (List.mem_append_right _ (List.mem_append_right _ (List.mem_append_right _ (List.mem_append_right _ (List.mem_append_right _ (List.mem_of_getElem? (l := tables_1_7) (i := 187) rfl)))))))) rfl
theorem q_7_188 : (.code yX12_remove cX12_remove 5 none : Cond) ∈ gT := gT_mem (List.mem_append_right _ (List.mem_append_right _ (List.mem_append_right _ (List.mem_append_right _ (List.mem_append_right _ (List.mem_append_right _ (List.mem_append_right _ (List.mem_of_getElem? (l := tables_1_7) (i := 188) rfl)))))))) rfl
theorem q_7_194 : (.constantLong RX10 142 (4294967295 : Int64) : Cond) ∈ gT := gT_mem (List.mem_append_right _ (List.mem_append_right _ (List.mem_append_right _ (List.mem_append_right _ (List.mem_append_right _ (List.mem_append_right _ (List.mem_append_right _ (List.mem_of_getElem? (l := tables_1_7) (i := 194) rfl)))))))) rfl
theorem q_6_95 : (.codeWith yX10_stamp cX10_stamp 6 (some .int) [(0, 7, 10, 19), (0, 7, 14, 25), (0, 7, 18, 13)] : Cond) ∈ gT := gT_mem (List.mem_append_right _ (List.mem_append_right _ (List.mem_append_right _ (List.mem_append_right _ (List.mem_append_right _ (List.mem_append_right _ (List.mem_append_left _ (List.mem_of_getElem? (l := tables_1_6) (i := 95) rfl)))))))) rfl
theorem q_6_93 : (.methodLink RX10 144 yX10_stamp : Cond) ∈ gT := gT_mem (List.mem_append_right _ (List.mem_append_right _ (List.mem_append_right _ (List.mem_append_right _ (List.mem_append_right _ (List.mem_append_right _ (List.mem_append_left _ (List.mem_of_getElem? (l := tables_1_6) (i := 93) rfl)))))))) rfl
theorem q_6_94 : (.static yX10_stamp : Cond) ∈ gT := gT_mem (List.mem_append_right _ (List.mem_append_right _ (List.mem_append_right _ (List.mem_append_right _ (List.mem_append_right _ (List.mem_append_right _ (List.mem_append_left _ (List.mem_of_getElem? (l := tables_1_6) (i := 94) rfl)))))))) rfl
theorem q_7_189 : (.methodLink RX10 147 yX12_stamp : Cond) ∈ gT := gT_mem (List.mem_append_right _ (List.mem_append_right _ (List.mem_append_right _ (List.mem_append_right _ (List.mem_append_right _ (List.mem_append_right _ (List.mem_append_right _ (List.mem_of_getElem? (l := tables_1_7) (i := 189) rfl)))))))) rfl
theorem q_7_190 : (.instanceMethod yX12_stamp : Cond) ∈ gT := gT_mem (List.mem_append_right _ (List.mem_append_right _ (List.mem_append_right _ (List.mem_append_right _ (List.mem_append_right _ (List.mem_append_right _ (List.mem_append_right _ (List.mem_of_getElem? (l := tables_1_7) (i := 190) rfl)))))))) rfl
theorem q_7_191 : (.selects RX12 yX12_stamp yX12_stamp : Cond) ∈ gT := gT_mem (List.mem_append_right _ (List.mem_append_right _ (List.mem_append_right _ (List.mem_append_right _ (List.mem_append_right _ (List.mem_append_right _ (List.mem_append_right _ (List.mem_of_getElem? (l := tables_1_7) (i := 191) rfl)))))))) rfl
theorem q_7_192 : (.code yX12_stamp cX12_stamp 5 none : Cond) ∈ gT := gT_mem (List.mem_append_right _ (List.mem_append_right _ (List.mem_append_right _ (List.mem_append_right _ (List.mem_append_right _ (List.mem_append_right _ (List.mem_append_right _ (List.mem_of_getElem? (l := tables_1_7) (i := 192) rfl)))))))) rfl
