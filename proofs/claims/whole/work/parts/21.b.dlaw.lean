/-! ===== the law: its instructions ===== -/
theorem d_La_law_0 : decode code 0 = .ok (.new 8, 3) := by decide +kernel
theorem d_La_law_3 : decode code 3 = .ok (.dup, 1) := by decide +kernel
theorem d_La_law_4 : decode code 4 = .ok (.aload_n 0, 1) := by decide +kernel
theorem d_La_law_5 : decode code 5 = .ok (.iconst 0, 1) := by decide +kernel
theorem d_La_law_6 : decode code 6 = .ok (.invokestatic 50, 3) := by decide +kernel
theorem d_La_law_9 : decode code 9 = .ok (.aload_n 0, 1) := by decide +kernel
theorem d_La_law_10 : decode code 10 = .ok (.iconst 1, 1) := by decide +kernel
theorem d_La_law_11 : decode code 11 = .ok (.invokestatic 50, 3) := by decide +kernel
theorem d_La_law_14 : decode code 14 = .ok (.invokespecial 56, 3) := by decide +kernel
theorem d_La_law_17 : decode code 17 = .ok (.astore_n 1, 1) := by decide +kernel
theorem d_La_law_18 : decode code 18 = .ok (.new 59, 3) := by decide +kernel
theorem d_La_law_21 : decode code 21 = .ok (.dup, 1) := by decide +kernel
theorem d_La_law_22 : decode code 22 = .ok (.aload_n 0, 1) := by decide +kernel
theorem d_La_law_23 : decode code 23 = .ok (.iconst 0, 1) := by decide +kernel
theorem d_La_law_24 : decode code 24 = .ok (.invokestatic 50, 3) := by decide +kernel
theorem d_La_law_27 : decode code 27 = .ok (.aload_n 0, 1) := by decide +kernel
theorem d_La_law_28 : decode code 28 = .ok (.iconst 1, 1) := by decide +kernel
theorem d_La_law_29 : decode code 29 = .ok (.invokestatic 50, 3) := by decide +kernel
theorem d_La_law_32 : decode code 32 = .ok (.invokespecial 61, 3) := by decide +kernel
theorem d_La_law_35 : decode code 35 = .ok (.astore_n 2, 1) := by decide +kernel
theorem d_La_law_36 : decode code 36 = .ok (.iconst 1, 1) := by decide +kernel
theorem d_La_law_37 : decode code 37 = .ok (.newarray .long, 2) := by decide +kernel
theorem d_La_law_39 : decode code 39 = .ok (.astore_n 3, 1) := by decide +kernel
theorem d_La_law_40 : decode code 40 = .ok (.iconst 2, 1) := by decide +kernel
theorem d_La_law_41 : decode code 41 = .ok (.istore 4, 2) := by decide +kernel
theorem d_La_law_43 : decode code 43 = .ok (.iload 4, 2) := by decide +kernel
theorem d_La_law_45 : decode code 45 = .ok (.aload_n 0, 1) := by decide +kernel
theorem d_La_law_46 : decode code 46 = .ok (.arraylength, 1) := by decide +kernel
theorem d_La_law_47 : decode code 47 = .ok (.iconst 4, 1) := by decide +kernel
theorem d_La_law_48 : decode code 48 = .ok (.isub, 1) := by decide +kernel
theorem d_La_law_49 : decode code 49 = .ok (.if_icmp .gt 771, 3) := by decide +kernel
theorem d_La_law_52 : decode code 52 = .ok (.aload_n 0, 1) := by decide +kernel
theorem d_La_law_53 : decode code 53 = .ok (.iload 4, 2) := by decide +kernel
theorem d_La_law_55 : decode code 55 = .ok (.iaload, 1) := by decide +kernel
theorem d_La_law_56 : decode code 56 = .ok (.bipush 15, 2) := by decide +kernel
theorem d_La_law_58 : decode code 58 = .ok (.iand, 1) := by decide +kernel
theorem d_La_law_59 : decode code 59 = .ok (.tableswitch 755 0 12 #[65, 109, 153, 233, 313, 388, 401, 457, 525, 593, 661, 674, 730], 65) := by decide +kernel
theorem d_La_law_124 : decode code 124 = .ok (.aload_n 1, 1) := by decide +kernel
theorem d_La_law_125 : decode code 125 = .ok (.aload_n 3, 1) := by decide +kernel
theorem d_La_law_126 : decode code 126 = .ok (.invokestatic 62, 3) := by decide +kernel
theorem d_La_law_129 : decode code 129 = .ok (.istore 5, 2) := by decide +kernel
theorem d_La_law_131 : decode code 131 = .ok (.aload_n 2, 1) := by decide +kernel
theorem d_La_law_132 : decode code 132 = .ok (.invokevirtual 65, 3) := by decide +kernel
theorem d_La_law_135 : decode code 135 = .ok (.istore 6, 2) := by decide +kernel
theorem d_La_law_137 : decode code 137 = .ok (.aload_n 2, 1) := by decide +kernel
theorem d_La_law_138 : decode code 138 = .ok (.invokevirtual 66, 3) := by decide +kernel
theorem d_La_law_141 : decode code 141 = .ok (.iload 5, 2) := by decide +kernel
theorem d_La_law_143 : decode code 143 = .ok (.if_icmp .eq 5, 3) := by decide +kernel
theorem d_La_law_146 : decode code 146 = .ok (.iconst 0, 1) := by decide +kernel
theorem d_La_law_147 : decode code 147 = .ok (.ireturn, 1) := by decide +kernel
theorem d_La_law_148 : decode code 148 = .ok (.iload 5, 2) := by decide +kernel
theorem d_La_law_150 : decode code 150 = .ok (.ifCond .ne 15, 3) := by decide +kernel
theorem d_La_law_153 : decode code 153 = .ok (.aload_n 3, 1) := by decide +kernel
theorem d_La_law_154 : decode code 154 = .ok (.iconst 0, 1) := by decide +kernel
theorem d_La_law_155 : decode code 155 = .ok (.laload, 1) := by decide +kernel
theorem d_La_law_156 : decode code 156 = .ok (.iload 6, 2) := by decide +kernel
theorem d_La_law_158 : decode code 158 = .ok (.i2l, 1) := by decide +kernel
theorem d_La_law_159 : decode code 159 = .ok (.lcmp, 1) := by decide +kernel
theorem d_La_law_160 : decode code 160 = .ok (.ifCond .eq 5, 3) := by decide +kernel
theorem d_La_law_163 : decode code 163 = .ok (.iconst 0, 1) := by decide +kernel
theorem d_La_law_164 : decode code 164 = .ok (.ireturn, 1) := by decide +kernel
theorem d_La_law_165 : decode code 165 = .ok (.goto 649, 3) := by decide +kernel
theorem d_La_law_168 : decode code 168 = .ok (.aload_n 1, 1) := by decide +kernel
theorem d_La_law_169 : decode code 169 = .ok (.aload_n 3, 1) := by decide +kernel
theorem d_La_law_170 : decode code 170 = .ok (.invokestatic 69, 3) := by decide +kernel
theorem d_La_law_173 : decode code 173 = .ok (.istore 5, 2) := by decide +kernel
theorem d_La_law_175 : decode code 175 = .ok (.aload_n 2, 1) := by decide +kernel
theorem d_La_law_176 : decode code 176 = .ok (.invokevirtual 71, 3) := by decide +kernel
theorem d_La_law_179 : decode code 179 = .ok (.istore 6, 2) := by decide +kernel
theorem d_La_law_181 : decode code 181 = .ok (.aload_n 2, 1) := by decide +kernel
theorem d_La_law_182 : decode code 182 = .ok (.invokevirtual 66, 3) := by decide +kernel
theorem d_La_law_185 : decode code 185 = .ok (.iload 5, 2) := by decide +kernel
theorem d_La_law_187 : decode code 187 = .ok (.if_icmp .eq 5, 3) := by decide +kernel
theorem d_La_law_190 : decode code 190 = .ok (.iconst 0, 1) := by decide +kernel
theorem d_La_law_191 : decode code 191 = .ok (.ireturn, 1) := by decide +kernel
theorem d_La_law_192 : decode code 192 = .ok (.iload 5, 2) := by decide +kernel
theorem d_La_law_194 : decode code 194 = .ok (.ifCond .ne 15, 3) := by decide +kernel
theorem d_La_law_197 : decode code 197 = .ok (.aload_n 3, 1) := by decide +kernel
theorem d_La_law_198 : decode code 198 = .ok (.iconst 0, 1) := by decide +kernel
theorem d_La_law_199 : decode code 199 = .ok (.laload, 1) := by decide +kernel
theorem d_La_law_200 : decode code 200 = .ok (.iload 6, 2) := by decide +kernel
theorem d_La_law_202 : decode code 202 = .ok (.i2l, 1) := by decide +kernel
theorem d_La_law_203 : decode code 203 = .ok (.lcmp, 1) := by decide +kernel
theorem d_La_law_204 : decode code 204 = .ok (.ifCond .eq 5, 3) := by decide +kernel
theorem d_La_law_207 : decode code 207 = .ok (.iconst 0, 1) := by decide +kernel
theorem d_La_law_208 : decode code 208 = .ok (.ireturn, 1) := by decide +kernel
theorem d_La_law_209 : decode code 209 = .ok (.goto 605, 3) := by decide +kernel
theorem d_La_law_212 : decode code 212 = .ok (.aload_n 1, 1) := by decide +kernel
theorem d_La_law_213 : decode code 213 = .ok (.aload_n 0, 1) := by decide +kernel
theorem d_La_law_214 : decode code 214 = .ok (.iload 4, 2) := by decide +kernel
theorem d_La_law_216 : decode code 216 = .ok (.iconst 1, 1) := by decide +kernel
theorem d_La_law_217 : decode code 217 = .ok (.iadd, 1) := by decide +kernel
theorem d_La_law_218 : decode code 218 = .ok (.iaload, 1) := by decide +kernel
theorem d_La_law_219 : decode code 219 = .ok (.aload_n 0, 1) := by decide +kernel
theorem d_La_law_220 : decode code 220 = .ok (.iload 4, 2) := by decide +kernel
theorem d_La_law_222 : decode code 222 = .ok (.iconst 2, 1) := by decide +kernel
theorem d_La_law_223 : decode code 223 = .ok (.iadd, 1) := by decide +kernel
theorem d_La_law_224 : decode code 224 = .ok (.iaload, 1) := by decide +kernel
theorem d_La_law_225 : decode code 225 = .ok (.aload_n 0, 1) := by decide +kernel
theorem d_La_law_226 : decode code 226 = .ok (.iload 4, 2) := by decide +kernel
theorem d_La_law_228 : decode code 228 = .ok (.iconst 3, 1) := by decide +kernel
theorem d_La_law_229 : decode code 229 = .ok (.iadd, 1) := by decide +kernel
theorem d_La_law_230 : decode code 230 = .ok (.iaload, 1) := by decide +kernel
theorem d_La_law_231 : decode code 231 = .ok (.aload_n 3, 1) := by decide +kernel
theorem d_La_law_232 : decode code 232 = .ok (.invokestatic 72, 3) := by decide +kernel
theorem d_La_law_235 : decode code 235 = .ok (.istore 5, 2) := by decide +kernel
theorem d_La_law_237 : decode code 237 = .ok (.aload_n 2, 1) := by decide +kernel
theorem d_La_law_238 : decode code 238 = .ok (.aload_n 0, 1) := by decide +kernel
theorem d_La_law_239 : decode code 239 = .ok (.iload 4, 2) := by decide +kernel
theorem d_La_law_241 : decode code 241 = .ok (.iconst 1, 1) := by decide +kernel
theorem d_La_law_242 : decode code 242 = .ok (.iadd, 1) := by decide +kernel
theorem d_La_law_243 : decode code 243 = .ok (.iaload, 1) := by decide +kernel
theorem d_La_law_244 : decode code 244 = .ok (.aload_n 0, 1) := by decide +kernel
theorem d_La_law_245 : decode code 245 = .ok (.iload 4, 2) := by decide +kernel
theorem d_La_law_247 : decode code 247 = .ok (.iconst 2, 1) := by decide +kernel
theorem d_La_law_248 : decode code 248 = .ok (.iadd, 1) := by decide +kernel
theorem d_La_law_249 : decode code 249 = .ok (.iaload, 1) := by decide +kernel
theorem d_La_law_250 : decode code 250 = .ok (.aload_n 0, 1) := by decide +kernel
theorem d_La_law_251 : decode code 251 = .ok (.iload 4, 2) := by decide +kernel
theorem d_La_law_253 : decode code 253 = .ok (.iconst 3, 1) := by decide +kernel
theorem d_La_law_254 : decode code 254 = .ok (.iadd, 1) := by decide +kernel
theorem d_La_law_255 : decode code 255 = .ok (.iaload, 1) := by decide +kernel
theorem d_La_law_256 : decode code 256 = .ok (.invokevirtual 75, 3) := by decide +kernel
theorem d_La_law_259 : decode code 259 = .ok (.istore 6, 2) := by decide +kernel
theorem d_La_law_261 : decode code 261 = .ok (.aload_n 2, 1) := by decide +kernel
theorem d_La_law_262 : decode code 262 = .ok (.invokevirtual 66, 3) := by decide +kernel
theorem d_La_law_265 : decode code 265 = .ok (.iload 5, 2) := by decide +kernel
theorem d_La_law_267 : decode code 267 = .ok (.if_icmp .eq 5, 3) := by decide +kernel
theorem d_La_law_270 : decode code 270 = .ok (.iconst 0, 1) := by decide +kernel
theorem d_La_law_271 : decode code 271 = .ok (.ireturn, 1) := by decide +kernel
theorem d_La_law_272 : decode code 272 = .ok (.iload 5, 2) := by decide +kernel
theorem d_La_law_274 : decode code 274 = .ok (.ifCond .ne 15, 3) := by decide +kernel
theorem d_La_law_277 : decode code 277 = .ok (.aload_n 3, 1) := by decide +kernel
theorem d_La_law_278 : decode code 278 = .ok (.iconst 0, 1) := by decide +kernel
theorem d_La_law_279 : decode code 279 = .ok (.laload, 1) := by decide +kernel
theorem d_La_law_280 : decode code 280 = .ok (.iload 6, 2) := by decide +kernel
theorem d_La_law_282 : decode code 282 = .ok (.i2l, 1) := by decide +kernel
theorem d_La_law_283 : decode code 283 = .ok (.lcmp, 1) := by decide +kernel
theorem d_La_law_284 : decode code 284 = .ok (.ifCond .eq 5, 3) := by decide +kernel
theorem d_La_law_287 : decode code 287 = .ok (.iconst 0, 1) := by decide +kernel
theorem d_La_law_288 : decode code 288 = .ok (.ireturn, 1) := by decide +kernel
theorem d_La_law_289 : decode code 289 = .ok (.goto 525, 3) := by decide +kernel
theorem d_La_law_292 : decode code 292 = .ok (.aload_n 1, 1) := by decide +kernel
theorem d_La_law_293 : decode code 293 = .ok (.aload_n 0, 1) := by decide +kernel
theorem d_La_law_294 : decode code 294 = .ok (.iload 4, 2) := by decide +kernel
theorem d_La_law_296 : decode code 296 = .ok (.iconst 1, 1) := by decide +kernel
theorem d_La_law_297 : decode code 297 = .ok (.iadd, 1) := by decide +kernel
theorem d_La_law_298 : decode code 298 = .ok (.iaload, 1) := by decide +kernel
theorem d_La_law_299 : decode code 299 = .ok (.aload_n 0, 1) := by decide +kernel
theorem d_La_law_300 : decode code 300 = .ok (.iload 4, 2) := by decide +kernel
theorem d_La_law_302 : decode code 302 = .ok (.iconst 2, 1) := by decide +kernel
theorem d_La_law_303 : decode code 303 = .ok (.iadd, 1) := by decide +kernel
theorem d_La_law_304 : decode code 304 = .ok (.iaload, 1) := by decide +kernel
theorem d_La_law_305 : decode code 305 = .ok (.aload_n 0, 1) := by decide +kernel
theorem d_La_law_306 : decode code 306 = .ok (.iload 4, 2) := by decide +kernel
theorem d_La_law_308 : decode code 308 = .ok (.iconst 3, 1) := by decide +kernel
theorem d_La_law_309 : decode code 309 = .ok (.iadd, 1) := by decide +kernel
theorem d_La_law_310 : decode code 310 = .ok (.iaload, 1) := by decide +kernel
theorem d_La_law_311 : decode code 311 = .ok (.aload_n 3, 1) := by decide +kernel
theorem d_La_law_312 : decode code 312 = .ok (.invokestatic 76, 3) := by decide +kernel
theorem d_La_law_315 : decode code 315 = .ok (.istore 5, 2) := by decide +kernel
theorem d_La_law_317 : decode code 317 = .ok (.aload_n 2, 1) := by decide +kernel
theorem d_La_law_318 : decode code 318 = .ok (.aload_n 0, 1) := by decide +kernel
theorem d_La_law_319 : decode code 319 = .ok (.iload 4, 2) := by decide +kernel
theorem d_La_law_321 : decode code 321 = .ok (.iconst 1, 1) := by decide +kernel
theorem d_La_law_322 : decode code 322 = .ok (.iadd, 1) := by decide +kernel
theorem d_La_law_323 : decode code 323 = .ok (.iaload, 1) := by decide +kernel
theorem d_La_law_324 : decode code 324 = .ok (.aload_n 0, 1) := by decide +kernel
theorem d_La_law_325 : decode code 325 = .ok (.iload 4, 2) := by decide +kernel
theorem d_La_law_327 : decode code 327 = .ok (.iconst 2, 1) := by decide +kernel
theorem d_La_law_328 : decode code 328 = .ok (.iadd, 1) := by decide +kernel
theorem d_La_law_329 : decode code 329 = .ok (.iaload, 1) := by decide +kernel
theorem d_La_law_330 : decode code 330 = .ok (.aload_n 0, 1) := by decide +kernel
theorem d_La_law_331 : decode code 331 = .ok (.iload 4, 2) := by decide +kernel
theorem d_La_law_333 : decode code 333 = .ok (.iconst 3, 1) := by decide +kernel
theorem d_La_law_334 : decode code 334 = .ok (.iadd, 1) := by decide +kernel
theorem d_La_law_335 : decode code 335 = .ok (.iaload, 1) := by decide +kernel
theorem d_La_law_336 : decode code 336 = .ok (.invokevirtual 78, 3) := by decide +kernel
theorem d_La_law_339 : decode code 339 = .ok (.istore 6, 2) := by decide +kernel
theorem d_La_law_341 : decode code 341 = .ok (.aload_n 2, 1) := by decide +kernel
theorem d_La_law_342 : decode code 342 = .ok (.invokevirtual 66, 3) := by decide +kernel
theorem d_La_law_345 : decode code 345 = .ok (.iload 5, 2) := by decide +kernel
theorem d_La_law_347 : decode code 347 = .ok (.if_icmp .eq 5, 3) := by decide +kernel
theorem d_La_law_350 : decode code 350 = .ok (.iconst 0, 1) := by decide +kernel
theorem d_La_law_351 : decode code 351 = .ok (.ireturn, 1) := by decide +kernel
theorem d_La_law_352 : decode code 352 = .ok (.iload 5, 2) := by decide +kernel
theorem d_La_law_354 : decode code 354 = .ok (.ifCond .ne 15, 3) := by decide +kernel
theorem d_La_law_357 : decode code 357 = .ok (.aload_n 3, 1) := by decide +kernel
theorem d_La_law_358 : decode code 358 = .ok (.iconst 0, 1) := by decide +kernel
theorem d_La_law_359 : decode code 359 = .ok (.laload, 1) := by decide +kernel
theorem d_La_law_360 : decode code 360 = .ok (.iload 6, 2) := by decide +kernel
theorem d_La_law_362 : decode code 362 = .ok (.i2l, 1) := by decide +kernel
theorem d_La_law_363 : decode code 363 = .ok (.lcmp, 1) := by decide +kernel
theorem d_La_law_364 : decode code 364 = .ok (.ifCond .eq 5, 3) := by decide +kernel
theorem d_La_law_367 : decode code 367 = .ok (.iconst 0, 1) := by decide +kernel
theorem d_La_law_368 : decode code 368 = .ok (.ireturn, 1) := by decide +kernel
theorem d_La_law_369 : decode code 369 = .ok (.goto 445, 3) := by decide +kernel
theorem d_La_law_372 : decode code 372 = .ok (.aload_n 1, 1) := by decide +kernel
theorem d_La_law_373 : decode code 373 = .ok (.aload_n 0, 1) := by decide +kernel
theorem d_La_law_374 : decode code 374 = .ok (.iload 4, 2) := by decide +kernel
theorem d_La_law_376 : decode code 376 = .ok (.iconst 1, 1) := by decide +kernel
theorem d_La_law_377 : decode code 377 = .ok (.iadd, 1) := by decide +kernel
theorem d_La_law_378 : decode code 378 = .ok (.iaload, 1) := by decide +kernel
theorem d_La_law_379 : decode code 379 = .ok (.aload_n 0, 1) := by decide +kernel
theorem d_La_law_380 : decode code 380 = .ok (.iload 4, 2) := by decide +kernel
theorem d_La_law_382 : decode code 382 = .ok (.iconst 2, 1) := by decide +kernel
theorem d_La_law_383 : decode code 383 = .ok (.iadd, 1) := by decide +kernel
theorem d_La_law_384 : decode code 384 = .ok (.iaload, 1) := by decide +kernel
theorem d_La_law_385 : decode code 385 = .ok (.aload_n 3, 1) := by decide +kernel
theorem d_La_law_386 : decode code 386 = .ok (.invokestatic 79, 3) := by decide +kernel
theorem d_La_law_389 : decode code 389 = .ok (.istore 5, 2) := by decide +kernel
theorem d_La_law_391 : decode code 391 = .ok (.aload_n 2, 1) := by decide +kernel
theorem d_La_law_392 : decode code 392 = .ok (.aload_n 0, 1) := by decide +kernel
theorem d_La_law_393 : decode code 393 = .ok (.iload 4, 2) := by decide +kernel
theorem d_La_law_395 : decode code 395 = .ok (.iconst 1, 1) := by decide +kernel
theorem d_La_law_396 : decode code 396 = .ok (.iadd, 1) := by decide +kernel
theorem d_La_law_397 : decode code 397 = .ok (.iaload, 1) := by decide +kernel
theorem d_La_law_398 : decode code 398 = .ok (.aload_n 0, 1) := by decide +kernel
theorem d_La_law_399 : decode code 399 = .ok (.iload 4, 2) := by decide +kernel
theorem d_La_law_401 : decode code 401 = .ok (.iconst 2, 1) := by decide +kernel
theorem d_La_law_402 : decode code 402 = .ok (.iadd, 1) := by decide +kernel
theorem d_La_law_403 : decode code 403 = .ok (.iaload, 1) := by decide +kernel
theorem d_La_law_404 : decode code 404 = .ok (.invokevirtual 82, 3) := by decide +kernel
theorem d_La_law_407 : decode code 407 = .ok (.istore 6, 2) := by decide +kernel
theorem d_La_law_409 : decode code 409 = .ok (.aload_n 2, 1) := by decide +kernel
theorem d_La_law_410 : decode code 410 = .ok (.invokevirtual 66, 3) := by decide +kernel
theorem d_La_law_413 : decode code 413 = .ok (.iload 5, 2) := by decide +kernel
theorem d_La_law_415 : decode code 415 = .ok (.if_icmp .eq 5, 3) := by decide +kernel
theorem d_La_law_418 : decode code 418 = .ok (.iconst 0, 1) := by decide +kernel
theorem d_La_law_419 : decode code 419 = .ok (.ireturn, 1) := by decide +kernel
theorem d_La_law_420 : decode code 420 = .ok (.iload 5, 2) := by decide +kernel
theorem d_La_law_422 : decode code 422 = .ok (.ifCond .ne 22, 3) := by decide +kernel
theorem d_La_law_425 : decode code 425 = .ok (.aload_n 3, 1) := by decide +kernel
theorem d_La_law_426 : decode code 426 = .ok (.iconst 0, 1) := by decide +kernel
theorem d_La_law_427 : decode code 427 = .ok (.laload, 1) := by decide +kernel
theorem d_La_law_428 : decode code 428 = .ok (.iload 6, 2) := by decide +kernel
theorem d_La_law_430 : decode code 430 = .ok (.ifCond .eq 7, 3) := by decide +kernel
theorem d_La_law_433 : decode code 433 = .ok (.lconst 1, 1) := by decide +kernel
theorem d_La_law_434 : decode code 434 = .ok (.goto 4, 3) := by decide +kernel
theorem d_La_law_437 : decode code 437 = .ok (.lconst 0, 1) := by decide +kernel
theorem d_La_law_438 : decode code 438 = .ok (.lcmp, 1) := by decide +kernel
theorem d_La_law_439 : decode code 439 = .ok (.ifCond .eq 5, 3) := by decide +kernel
theorem d_La_law_442 : decode code 442 = .ok (.iconst 0, 1) := by decide +kernel
theorem d_La_law_443 : decode code 443 = .ok (.ireturn, 1) := by decide +kernel
theorem d_La_law_444 : decode code 444 = .ok (.goto 370, 3) := by decide +kernel
theorem d_La_law_447 : decode code 447 = .ok (.aload_n 1, 1) := by decide +kernel
theorem d_La_law_448 : decode code 448 = .ok (.invokevirtual 83, 3) := by decide +kernel
theorem d_La_law_451 : decode code 451 = .ok (.aload_n 2, 1) := by decide +kernel
theorem d_La_law_452 : decode code 452 = .ok (.invokevirtual 86, 3) := by decide +kernel
theorem d_La_law_455 : decode code 455 = .ok (.if_icmp .eq 359, 3) := by decide +kernel
theorem d_La_law_458 : decode code 458 = .ok (.iconst 0, 1) := by decide +kernel
theorem d_La_law_459 : decode code 459 = .ok (.ireturn, 1) := by decide +kernel
theorem d_La_law_460 : decode code 460 = .ok (.aload_n 1, 1) := by decide +kernel
theorem d_La_law_461 : decode code 461 = .ok (.aload_n 0, 1) := by decide +kernel
theorem d_La_law_462 : decode code 462 = .ok (.iload 4, 2) := by decide +kernel
theorem d_La_law_464 : decode code 464 = .ok (.iconst 1, 1) := by decide +kernel
theorem d_La_law_465 : decode code 465 = .ok (.iadd, 1) := by decide +kernel
theorem d_La_law_466 : decode code 466 = .ok (.iaload, 1) := by decide +kernel
theorem d_La_law_467 : decode code 467 = .ok (.aload_n 3, 1) := by decide +kernel
theorem d_La_law_468 : decode code 468 = .ok (.invokestatic 87, 3) := by decide +kernel
theorem d_La_law_471 : decode code 471 = .ok (.istore 5, 2) := by decide +kernel
theorem d_La_law_473 : decode code 473 = .ok (.aload_n 2, 1) := by decide +kernel
theorem d_La_law_474 : decode code 474 = .ok (.aload_n 0, 1) := by decide +kernel
theorem d_La_law_475 : decode code 475 = .ok (.iload 4, 2) := by decide +kernel
theorem d_La_law_477 : decode code 477 = .ok (.iconst 1, 1) := by decide +kernel
theorem d_La_law_478 : decode code 478 = .ok (.iadd, 1) := by decide +kernel
theorem d_La_law_479 : decode code 479 = .ok (.iaload, 1) := by decide +kernel
theorem d_La_law_480 : decode code 480 = .ok (.invokevirtual 90, 3) := by decide +kernel
theorem d_La_law_483 : decode code 483 = .ok (.istore 6, 2) := by decide +kernel
theorem d_La_law_485 : decode code 485 = .ok (.aload_n 2, 1) := by decide +kernel
theorem d_La_law_486 : decode code 486 = .ok (.invokevirtual 66, 3) := by decide +kernel
theorem d_La_law_489 : decode code 489 = .ok (.iload 5, 2) := by decide +kernel
theorem d_La_law_491 : decode code 491 = .ok (.if_icmp .eq 5, 3) := by decide +kernel
theorem d_La_law_494 : decode code 494 = .ok (.iconst 0, 1) := by decide +kernel
theorem d_La_law_495 : decode code 495 = .ok (.ireturn, 1) := by decide +kernel
theorem d_La_law_496 : decode code 496 = .ok (.iload 5, 2) := by decide +kernel
theorem d_La_law_498 : decode code 498 = .ok (.ifCond .ne 15, 3) := by decide +kernel
theorem d_La_law_501 : decode code 501 = .ok (.aload_n 3, 1) := by decide +kernel
theorem d_La_law_502 : decode code 502 = .ok (.iconst 0, 1) := by decide +kernel
theorem d_La_law_503 : decode code 503 = .ok (.laload, 1) := by decide +kernel
theorem d_La_law_504 : decode code 504 = .ok (.iload 6, 2) := by decide +kernel
theorem d_La_law_506 : decode code 506 = .ok (.i2l, 1) := by decide +kernel
theorem d_La_law_507 : decode code 507 = .ok (.lcmp, 1) := by decide +kernel
theorem d_La_law_508 : decode code 508 = .ok (.ifCond .eq 5, 3) := by decide +kernel
theorem d_La_law_511 : decode code 511 = .ok (.iconst 0, 1) := by decide +kernel
theorem d_La_law_512 : decode code 512 = .ok (.ireturn, 1) := by decide +kernel
theorem d_La_law_513 : decode code 513 = .ok (.goto 301, 3) := by decide +kernel
theorem d_La_law_516 : decode code 516 = .ok (.aload_n 1, 1) := by decide +kernel
theorem d_La_law_517 : decode code 517 = .ok (.aload_n 0, 1) := by decide +kernel
theorem d_La_law_518 : decode code 518 = .ok (.iload 4, 2) := by decide +kernel
theorem d_La_law_520 : decode code 520 = .ok (.iconst 1, 1) := by decide +kernel
theorem d_La_law_521 : decode code 521 = .ok (.iadd, 1) := by decide +kernel
theorem d_La_law_522 : decode code 522 = .ok (.iaload, 1) := by decide +kernel
theorem d_La_law_523 : decode code 523 = .ok (.aload_n 0, 1) := by decide +kernel
theorem d_La_law_524 : decode code 524 = .ok (.iload 4, 2) := by decide +kernel
theorem d_La_law_526 : decode code 526 = .ok (.iconst 2, 1) := by decide +kernel
theorem d_La_law_527 : decode code 527 = .ok (.iadd, 1) := by decide +kernel
theorem d_La_law_528 : decode code 528 = .ok (.iaload, 1) := by decide +kernel
theorem d_La_law_529 : decode code 529 = .ok (.aload_n 3, 1) := by decide +kernel
theorem d_La_law_530 : decode code 530 = .ok (.invokestatic 91, 3) := by decide +kernel
theorem d_La_law_533 : decode code 533 = .ok (.istore 5, 2) := by decide +kernel
theorem d_La_law_535 : decode code 535 = .ok (.aload_n 2, 1) := by decide +kernel
theorem d_La_law_536 : decode code 536 = .ok (.aload_n 0, 1) := by decide +kernel
theorem d_La_law_537 : decode code 537 = .ok (.iload 4, 2) := by decide +kernel
theorem d_La_law_539 : decode code 539 = .ok (.iconst 1, 1) := by decide +kernel
theorem d_La_law_540 : decode code 540 = .ok (.iadd, 1) := by decide +kernel
theorem d_La_law_541 : decode code 541 = .ok (.iaload, 1) := by decide +kernel
theorem d_La_law_542 : decode code 542 = .ok (.aload_n 0, 1) := by decide +kernel
theorem d_La_law_543 : decode code 543 = .ok (.iload 4, 2) := by decide +kernel
theorem d_La_law_545 : decode code 545 = .ok (.iconst 2, 1) := by decide +kernel
theorem d_La_law_546 : decode code 546 = .ok (.iadd, 1) := by decide +kernel
theorem d_La_law_547 : decode code 547 = .ok (.iaload, 1) := by decide +kernel
theorem d_La_law_548 : decode code 548 = .ok (.invokevirtual 93, 3) := by decide +kernel
theorem d_La_law_551 : decode code 551 = .ok (.istore 6, 2) := by decide +kernel
theorem d_La_law_553 : decode code 553 = .ok (.aload_n 2, 1) := by decide +kernel
theorem d_La_law_554 : decode code 554 = .ok (.invokevirtual 66, 3) := by decide +kernel
theorem d_La_law_557 : decode code 557 = .ok (.iload 5, 2) := by decide +kernel
theorem d_La_law_559 : decode code 559 = .ok (.if_icmp .eq 5, 3) := by decide +kernel
theorem d_La_law_562 : decode code 562 = .ok (.iconst 0, 1) := by decide +kernel
theorem d_La_law_563 : decode code 563 = .ok (.ireturn, 1) := by decide +kernel
theorem d_La_law_564 : decode code 564 = .ok (.iload 5, 2) := by decide +kernel
theorem d_La_law_566 : decode code 566 = .ok (.ifCond .ne 15, 3) := by decide +kernel
theorem d_La_law_569 : decode code 569 = .ok (.aload_n 3, 1) := by decide +kernel
theorem d_La_law_570 : decode code 570 = .ok (.iconst 0, 1) := by decide +kernel
theorem d_La_law_571 : decode code 571 = .ok (.laload, 1) := by decide +kernel
theorem d_La_law_572 : decode code 572 = .ok (.iload 6, 2) := by decide +kernel
theorem d_La_law_574 : decode code 574 = .ok (.i2l, 1) := by decide +kernel
theorem d_La_law_575 : decode code 575 = .ok (.lcmp, 1) := by decide +kernel
theorem d_La_law_576 : decode code 576 = .ok (.ifCond .eq 5, 3) := by decide +kernel
theorem d_La_law_579 : decode code 579 = .ok (.iconst 0, 1) := by decide +kernel
theorem d_La_law_580 : decode code 580 = .ok (.ireturn, 1) := by decide +kernel
theorem d_La_law_581 : decode code 581 = .ok (.goto 233, 3) := by decide +kernel
theorem d_La_law_584 : decode code 584 = .ok (.aload_n 1, 1) := by decide +kernel
theorem d_La_law_585 : decode code 585 = .ok (.aload_n 0, 1) := by decide +kernel
theorem d_La_law_586 : decode code 586 = .ok (.iload 4, 2) := by decide +kernel
theorem d_La_law_588 : decode code 588 = .ok (.iconst 1, 1) := by decide +kernel
theorem d_La_law_589 : decode code 589 = .ok (.iadd, 1) := by decide +kernel
theorem d_La_law_590 : decode code 590 = .ok (.iaload, 1) := by decide +kernel
theorem d_La_law_591 : decode code 591 = .ok (.aload_n 0, 1) := by decide +kernel
theorem d_La_law_592 : decode code 592 = .ok (.iload 4, 2) := by decide +kernel
theorem d_La_law_594 : decode code 594 = .ok (.iconst 2, 1) := by decide +kernel
theorem d_La_law_595 : decode code 595 = .ok (.iadd, 1) := by decide +kernel
theorem d_La_law_596 : decode code 596 = .ok (.iaload, 1) := by decide +kernel
theorem d_La_law_597 : decode code 597 = .ok (.aload_n 3, 1) := by decide +kernel
theorem d_La_law_598 : decode code 598 = .ok (.invokestatic 94, 3) := by decide +kernel
theorem d_La_law_601 : decode code 601 = .ok (.istore 5, 2) := by decide +kernel
theorem d_La_law_603 : decode code 603 = .ok (.aload_n 2, 1) := by decide +kernel
theorem d_La_law_604 : decode code 604 = .ok (.aload_n 0, 1) := by decide +kernel
theorem d_La_law_605 : decode code 605 = .ok (.iload 4, 2) := by decide +kernel
theorem d_La_law_607 : decode code 607 = .ok (.iconst 1, 1) := by decide +kernel
theorem d_La_law_608 : decode code 608 = .ok (.iadd, 1) := by decide +kernel
theorem d_La_law_609 : decode code 609 = .ok (.iaload, 1) := by decide +kernel
theorem d_La_law_610 : decode code 610 = .ok (.aload_n 0, 1) := by decide +kernel
theorem d_La_law_611 : decode code 611 = .ok (.iload 4, 2) := by decide +kernel
theorem d_La_law_613 : decode code 613 = .ok (.iconst 2, 1) := by decide +kernel
theorem d_La_law_614 : decode code 614 = .ok (.iadd, 1) := by decide +kernel
theorem d_La_law_615 : decode code 615 = .ok (.iaload, 1) := by decide +kernel
theorem d_La_law_616 : decode code 616 = .ok (.invokevirtual 96, 3) := by decide +kernel
theorem d_La_law_619 : decode code 619 = .ok (.istore 6, 2) := by decide +kernel
theorem d_La_law_621 : decode code 621 = .ok (.aload_n 2, 1) := by decide +kernel
theorem d_La_law_622 : decode code 622 = .ok (.invokevirtual 66, 3) := by decide +kernel
theorem d_La_law_625 : decode code 625 = .ok (.iload 5, 2) := by decide +kernel
theorem d_La_law_627 : decode code 627 = .ok (.if_icmp .eq 5, 3) := by decide +kernel
theorem d_La_law_630 : decode code 630 = .ok (.iconst 0, 1) := by decide +kernel
theorem d_La_law_631 : decode code 631 = .ok (.ireturn, 1) := by decide +kernel
theorem d_La_law_632 : decode code 632 = .ok (.iload 5, 2) := by decide +kernel
theorem d_La_law_634 : decode code 634 = .ok (.ifCond .ne 15, 3) := by decide +kernel
theorem d_La_law_637 : decode code 637 = .ok (.aload_n 3, 1) := by decide +kernel
theorem d_La_law_638 : decode code 638 = .ok (.iconst 0, 1) := by decide +kernel
theorem d_La_law_639 : decode code 639 = .ok (.laload, 1) := by decide +kernel
theorem d_La_law_640 : decode code 640 = .ok (.iload 6, 2) := by decide +kernel
theorem d_La_law_642 : decode code 642 = .ok (.i2l, 1) := by decide +kernel
theorem d_La_law_643 : decode code 643 = .ok (.lcmp, 1) := by decide +kernel
theorem d_La_law_644 : decode code 644 = .ok (.ifCond .eq 5, 3) := by decide +kernel
theorem d_La_law_647 : decode code 647 = .ok (.iconst 0, 1) := by decide +kernel
theorem d_La_law_648 : decode code 648 = .ok (.ireturn, 1) := by decide +kernel
theorem d_La_law_649 : decode code 649 = .ok (.goto 165, 3) := by decide +kernel
theorem d_La_law_652 : decode code 652 = .ok (.aload_n 1, 1) := by decide +kernel
theorem d_La_law_653 : decode code 653 = .ok (.aload_n 0, 1) := by decide +kernel
theorem d_La_law_654 : decode code 654 = .ok (.iload 4, 2) := by decide +kernel
theorem d_La_law_656 : decode code 656 = .ok (.iconst 1, 1) := by decide +kernel
theorem d_La_law_657 : decode code 657 = .ok (.iadd, 1) := by decide +kernel
theorem d_La_law_658 : decode code 658 = .ok (.iaload, 1) := by decide +kernel
theorem d_La_law_659 : decode code 659 = .ok (.aload_n 0, 1) := by decide +kernel
theorem d_La_law_660 : decode code 660 = .ok (.iload 4, 2) := by decide +kernel
theorem d_La_law_662 : decode code 662 = .ok (.iconst 2, 1) := by decide +kernel
theorem d_La_law_663 : decode code 663 = .ok (.iadd, 1) := by decide +kernel
theorem d_La_law_664 : decode code 664 = .ok (.iaload, 1) := by decide +kernel
theorem d_La_law_665 : decode code 665 = .ok (.aload_n 3, 1) := by decide +kernel
theorem d_La_law_666 : decode code 666 = .ok (.invokestatic 97, 3) := by decide +kernel
theorem d_La_law_669 : decode code 669 = .ok (.istore 5, 2) := by decide +kernel
theorem d_La_law_671 : decode code 671 = .ok (.aload_n 2, 1) := by decide +kernel
theorem d_La_law_672 : decode code 672 = .ok (.aload_n 0, 1) := by decide +kernel
theorem d_La_law_673 : decode code 673 = .ok (.iload 4, 2) := by decide +kernel
theorem d_La_law_675 : decode code 675 = .ok (.iconst 1, 1) := by decide +kernel
theorem d_La_law_676 : decode code 676 = .ok (.iadd, 1) := by decide +kernel
theorem d_La_law_677 : decode code 677 = .ok (.iaload, 1) := by decide +kernel
theorem d_La_law_678 : decode code 678 = .ok (.aload_n 0, 1) := by decide +kernel
theorem d_La_law_679 : decode code 679 = .ok (.iload 4, 2) := by decide +kernel
theorem d_La_law_681 : decode code 681 = .ok (.iconst 2, 1) := by decide +kernel
theorem d_La_law_682 : decode code 682 = .ok (.iadd, 1) := by decide +kernel
theorem d_La_law_683 : decode code 683 = .ok (.iaload, 1) := by decide +kernel
theorem d_La_law_684 : decode code 684 = .ok (.invokevirtual 99, 3) := by decide +kernel
theorem d_La_law_687 : decode code 687 = .ok (.istore 6, 2) := by decide +kernel
theorem d_La_law_689 : decode code 689 = .ok (.aload_n 2, 1) := by decide +kernel
theorem d_La_law_690 : decode code 690 = .ok (.invokevirtual 66, 3) := by decide +kernel
theorem d_La_law_693 : decode code 693 = .ok (.iload 5, 2) := by decide +kernel
theorem d_La_law_695 : decode code 695 = .ok (.if_icmp .eq 5, 3) := by decide +kernel
theorem d_La_law_698 : decode code 698 = .ok (.iconst 0, 1) := by decide +kernel
theorem d_La_law_699 : decode code 699 = .ok (.ireturn, 1) := by decide +kernel
theorem d_La_law_700 : decode code 700 = .ok (.iload 5, 2) := by decide +kernel
theorem d_La_law_702 : decode code 702 = .ok (.ifCond .ne 15, 3) := by decide +kernel
theorem d_La_law_705 : decode code 705 = .ok (.aload_n 3, 1) := by decide +kernel
theorem d_La_law_706 : decode code 706 = .ok (.iconst 0, 1) := by decide +kernel
theorem d_La_law_707 : decode code 707 = .ok (.laload, 1) := by decide +kernel
theorem d_La_law_708 : decode code 708 = .ok (.iload 6, 2) := by decide +kernel
theorem d_La_law_710 : decode code 710 = .ok (.i2l, 1) := by decide +kernel
theorem d_La_law_711 : decode code 711 = .ok (.lcmp, 1) := by decide +kernel
theorem d_La_law_712 : decode code 712 = .ok (.ifCond .eq 5, 3) := by decide +kernel
theorem d_La_law_715 : decode code 715 = .ok (.iconst 0, 1) := by decide +kernel
theorem d_La_law_716 : decode code 716 = .ok (.ireturn, 1) := by decide +kernel
theorem d_La_law_717 : decode code 717 = .ok (.goto 97, 3) := by decide +kernel
theorem d_La_law_720 : decode code 720 = .ok (.aload_n 1, 1) := by decide +kernel
theorem d_La_law_721 : decode code 721 = .ok (.invokevirtual 100, 3) := by decide +kernel
theorem d_La_law_724 : decode code 724 = .ok (.aload_n 2, 1) := by decide +kernel
theorem d_La_law_725 : decode code 725 = .ok (.invokevirtual 103, 3) := by decide +kernel
theorem d_La_law_728 : decode code 728 = .ok (.if_icmp .eq 86, 3) := by decide +kernel
theorem d_La_law_731 : decode code 731 = .ok (.iconst 0, 1) := by decide +kernel
theorem d_La_law_732 : decode code 732 = .ok (.ireturn, 1) := by decide +kernel
theorem d_La_law_733 : decode code 733 = .ok (.aload_n 1, 1) := by decide +kernel
theorem d_La_law_734 : decode code 734 = .ok (.aload_n 0, 1) := by decide +kernel
theorem d_La_law_735 : decode code 735 = .ok (.iload 4, 2) := by decide +kernel
theorem d_La_law_737 : decode code 737 = .ok (.iconst 1, 1) := by decide +kernel
theorem d_La_law_738 : decode code 738 = .ok (.iadd, 1) := by decide +kernel
theorem d_La_law_739 : decode code 739 = .ok (.iaload, 1) := by decide +kernel
theorem d_La_law_740 : decode code 740 = .ok (.aload_n 3, 1) := by decide +kernel
theorem d_La_law_741 : decode code 741 = .ok (.invokestatic 104, 3) := by decide +kernel
theorem d_La_law_744 : decode code 744 = .ok (.istore 5, 2) := by decide +kernel
theorem d_La_law_746 : decode code 746 = .ok (.aload_n 2, 1) := by decide +kernel
theorem d_La_law_747 : decode code 747 = .ok (.aload_n 0, 1) := by decide +kernel
theorem d_La_law_748 : decode code 748 = .ok (.iload 4, 2) := by decide +kernel
theorem d_La_law_750 : decode code 750 = .ok (.iconst 1, 1) := by decide +kernel
theorem d_La_law_751 : decode code 751 = .ok (.iadd, 1) := by decide +kernel
theorem d_La_law_752 : decode code 752 = .ok (.iaload, 1) := by decide +kernel
theorem d_La_law_753 : decode code 753 = .ok (.invokevirtual 106, 3) := by decide +kernel
theorem d_La_law_756 : decode code 756 = .ok (.istore 6, 2) := by decide +kernel
theorem d_La_law_758 : decode code 758 = .ok (.aload_n 2, 1) := by decide +kernel
theorem d_La_law_759 : decode code 759 = .ok (.invokevirtual 66, 3) := by decide +kernel
theorem d_La_law_762 : decode code 762 = .ok (.iload 5, 2) := by decide +kernel
theorem d_La_law_764 : decode code 764 = .ok (.if_icmp .eq 5, 3) := by decide +kernel
theorem d_La_law_767 : decode code 767 = .ok (.iconst 0, 1) := by decide +kernel
theorem d_La_law_768 : decode code 768 = .ok (.ireturn, 1) := by decide +kernel
theorem d_La_law_769 : decode code 769 = .ok (.iload 5, 2) := by decide +kernel
theorem d_La_law_771 : decode code 771 = .ok (.ifCond .ne 15, 3) := by decide +kernel
theorem d_La_law_774 : decode code 774 = .ok (.aload_n 3, 1) := by decide +kernel
theorem d_La_law_775 : decode code 775 = .ok (.iconst 0, 1) := by decide +kernel
theorem d_La_law_776 : decode code 776 = .ok (.laload, 1) := by decide +kernel
theorem d_La_law_777 : decode code 777 = .ok (.iload 6, 2) := by decide +kernel
theorem d_La_law_779 : decode code 779 = .ok (.i2l, 1) := by decide +kernel
theorem d_La_law_780 : decode code 780 = .ok (.lcmp, 1) := by decide +kernel
theorem d_La_law_781 : decode code 781 = .ok (.ifCond .eq 5, 3) := by decide +kernel
theorem d_La_law_784 : decode code 784 = .ok (.iconst 0, 1) := by decide +kernel
theorem d_La_law_785 : decode code 785 = .ok (.ireturn, 1) := by decide +kernel
theorem d_La_law_786 : decode code 786 = .ok (.goto 28, 3) := by decide +kernel
theorem d_La_law_789 : decode code 789 = .ok (.aload_n 1, 1) := by decide +kernel
theorem d_La_law_790 : decode code 790 = .ok (.aload_n 0, 1) := by decide +kernel
theorem d_La_law_791 : decode code 791 = .ok (.iload 4, 2) := by decide +kernel
theorem d_La_law_793 : decode code 793 = .ok (.iconst 1, 1) := by decide +kernel
theorem d_La_law_794 : decode code 794 = .ok (.iadd, 1) := by decide +kernel
theorem d_La_law_795 : decode code 795 = .ok (.iaload, 1) := by decide +kernel
theorem d_La_law_796 : decode code 796 = .ok (.invokevirtual 107, 3) := by decide +kernel
theorem d_La_law_799 : decode code 799 = .ok (.aload_n 2, 1) := by decide +kernel
theorem d_La_law_800 : decode code 800 = .ok (.aload_n 0, 1) := by decide +kernel
theorem d_La_law_801 : decode code 801 = .ok (.iload 4, 2) := by decide +kernel
theorem d_La_law_803 : decode code 803 = .ok (.iconst 1, 1) := by decide +kernel
theorem d_La_law_804 : decode code 804 = .ok (.iadd, 1) := by decide +kernel
theorem d_La_law_805 : decode code 805 = .ok (.iaload, 1) := by decide +kernel
theorem d_La_law_806 : decode code 806 = .ok (.invokevirtual 110, 3) := by decide +kernel
theorem d_La_law_809 : decode code 809 = .ok (.if_icmp .eq 5, 3) := by decide +kernel
theorem d_La_law_812 : decode code 812 = .ok (.iconst 0, 1) := by decide +kernel
theorem d_La_law_813 : decode code 813 = .ok (.ireturn, 1) := by decide +kernel
theorem d_La_law_814 : decode code 814 = .ok (.iinc 4 4, 3) := by decide +kernel
theorem d_La_law_817 : decode code 817 = .ok (.goto (-774), 3) := by decide +kernel
theorem d_La_law_820 : decode code 820 = .ok (.iconst 1, 1) := by decide +kernel
theorem d_La_law_821 : decode code 821 = .ok (.ireturn, 1) := by decide +kernel
