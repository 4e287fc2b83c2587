theorem d_law_120 : decode m_law.2.1 120 = .ok (.aload_n 1, 1) := by decide +kernel
theorem d_law_121 : decode m_law.2.1 121 = .ok (.aload_n 0, 1) := by decide +kernel
theorem d_law_122 : decode m_law.2.1 122 = .ok (.iload 4, 2) := by decide +kernel
theorem d_law_124 : decode m_law.2.1 124 = .ok (.iconst 1, 1) := by decide +kernel
theorem d_law_125 : decode m_law.2.1 125 = .ok (.iadd, 1) := by decide +kernel
theorem d_law_126 : decode m_law.2.1 126 = .ok (.iaload, 1) := by decide +kernel
theorem d_law_127 : decode m_law.2.1 127 = .ok (.aload_n 0, 1) := by decide +kernel
theorem d_law_128 : decode m_law.2.1 128 = .ok (.iload 4, 2) := by decide +kernel
theorem d_law_130 : decode m_law.2.1 130 = .ok (.iconst 2, 1) := by decide +kernel
theorem d_law_131 : decode m_law.2.1 131 = .ok (.iadd, 1) := by decide +kernel
theorem d_law_132 : decode m_law.2.1 132 = .ok (.iaload, 1) := by decide +kernel
theorem d_law_133 : decode m_law.2.1 133 = .ok (.aload_n 0, 1) := by decide +kernel
theorem d_law_134 : decode m_law.2.1 134 = .ok (.iload 4, 2) := by decide +kernel
theorem d_law_136 : decode m_law.2.1 136 = .ok (.iconst 3, 1) := by decide +kernel
theorem d_law_137 : decode m_law.2.1 137 = .ok (.iadd, 1) := by decide +kernel
theorem d_law_138 : decode m_law.2.1 138 = .ok (.iaload, 1) := by decide +kernel
theorem d_law_139 : decode m_law.2.1 139 = .ok (.aload_n 0, 1) := by decide +kernel
theorem d_law_140 : decode m_law.2.1 140 = .ok (.iload 4, 2) := by decide +kernel
theorem d_law_142 : decode m_law.2.1 142 = .ok (.iconst 4, 1) := by decide +kernel
theorem d_law_143 : decode m_law.2.1 143 = .ok (.iadd, 1) := by decide +kernel
theorem d_law_144 : decode m_law.2.1 144 = .ok (.iaload, 1) := by decide +kernel
theorem d_law_145 : decode m_law.2.1 145 = .ok (.aload_n 0, 1) := by decide +kernel
theorem d_law_146 : decode m_law.2.1 146 = .ok (.iload 4, 2) := by decide +kernel
theorem d_law_148 : decode m_law.2.1 148 = .ok (.iconst 5, 1) := by decide +kernel
theorem d_law_149 : decode m_law.2.1 149 = .ok (.iadd, 1) := by decide +kernel
theorem d_law_150 : decode m_law.2.1 150 = .ok (.iaload, 1) := by decide +kernel
theorem d_law_151 : decode m_law.2.1 151 = .ok (.aload_n 3, 1) := by decide +kernel
theorem d_law_152 : decode m_law.2.1 152 = .ok (.invokestatic 71, 3) := by decide +kernel
theorem d_law_155 : decode m_law.2.1 155 = .ok (.istore 5, 2) := by decide +kernel
theorem d_law_157 : decode m_law.2.1 157 = .ok (.aload_n 2, 1) := by decide +kernel
theorem d_law_158 : decode m_law.2.1 158 = .ok (.aload_n 0, 1) := by decide +kernel
theorem d_law_159 : decode m_law.2.1 159 = .ok (.iload 4, 2) := by decide +kernel
theorem d_law_161 : decode m_law.2.1 161 = .ok (.iconst 1, 1) := by decide +kernel
theorem d_law_162 : decode m_law.2.1 162 = .ok (.iadd, 1) := by decide +kernel
theorem d_law_163 : decode m_law.2.1 163 = .ok (.iaload, 1) := by decide +kernel
theorem d_law_164 : decode m_law.2.1 164 = .ok (.aload_n 0, 1) := by decide +kernel
theorem d_law_165 : decode m_law.2.1 165 = .ok (.iload 4, 2) := by decide +kernel
theorem d_law_167 : decode m_law.2.1 167 = .ok (.iconst 2, 1) := by decide +kernel
theorem d_law_168 : decode m_law.2.1 168 = .ok (.iadd, 1) := by decide +kernel
theorem d_law_169 : decode m_law.2.1 169 = .ok (.iaload, 1) := by decide +kernel
theorem d_law_170 : decode m_law.2.1 170 = .ok (.aload_n 0, 1) := by decide +kernel
theorem d_law_171 : decode m_law.2.1 171 = .ok (.iload 4, 2) := by decide +kernel
theorem d_law_173 : decode m_law.2.1 173 = .ok (.iconst 3, 1) := by decide +kernel
theorem d_law_174 : decode m_law.2.1 174 = .ok (.iadd, 1) := by decide +kernel
theorem d_law_175 : decode m_law.2.1 175 = .ok (.iaload, 1) := by decide +kernel
theorem d_law_176 : decode m_law.2.1 176 = .ok (.aload_n 0, 1) := by decide +kernel
theorem d_law_177 : decode m_law.2.1 177 = .ok (.iload 4, 2) := by decide +kernel
theorem d_law_179 : decode m_law.2.1 179 = .ok (.iconst 4, 1) := by decide +kernel
theorem d_law_180 : decode m_law.2.1 180 = .ok (.iadd, 1) := by decide +kernel
theorem d_law_181 : decode m_law.2.1 181 = .ok (.iaload, 1) := by decide +kernel
theorem d_law_182 : decode m_law.2.1 182 = .ok (.aload_n 0, 1) := by decide +kernel
theorem d_law_183 : decode m_law.2.1 183 = .ok (.iload 4, 2) := by decide +kernel
theorem d_law_185 : decode m_law.2.1 185 = .ok (.iconst 5, 1) := by decide +kernel
theorem d_law_186 : decode m_law.2.1 186 = .ok (.iadd, 1) := by decide +kernel
theorem d_law_187 : decode m_law.2.1 187 = .ok (.iaload, 1) := by decide +kernel
theorem d_law_188 : decode m_law.2.1 188 = .ok (.invokevirtual 76, 3) := by decide +kernel
theorem d_law_191 : decode m_law.2.1 191 = .ok (.istore 6, 2) := by decide +kernel
theorem d_law_193 : decode m_law.2.1 193 = .ok (.aload_n 2, 1) := by decide +kernel
theorem d_law_194 : decode m_law.2.1 194 = .ok (.invokevirtual 77, 3) := by decide +kernel
theorem d_law_197 : decode m_law.2.1 197 = .ok (.iload 5, 2) := by decide +kernel
theorem d_law_199 : decode m_law.2.1 199 = .ok (.if_icmp .eq 5, 3) := by decide +kernel
theorem d_law_204 : decode m_law.2.1 204 = .ok (.iload 5, 2) := by decide +kernel
theorem d_law_206 : decode m_law.2.1 206 = .ok (.ifCond .ne 15, 3) := by decide +kernel
theorem d_law_209 : decode m_law.2.1 209 = .ok (.aload_n 3, 1) := by decide +kernel
theorem d_law_210 : decode m_law.2.1 210 = .ok (.iconst 0, 1) := by decide +kernel
theorem d_law_211 : decode m_law.2.1 211 = .ok (.laload, 1) := by decide +kernel
theorem d_law_212 : decode m_law.2.1 212 = .ok (.iload 6, 2) := by decide +kernel
theorem d_law_214 : decode m_law.2.1 214 = .ok (.i2l, 1) := by decide +kernel
theorem d_law_215 : decode m_law.2.1 215 = .ok (.lcmp, 1) := by decide +kernel
theorem d_law_216 : decode m_law.2.1 216 = .ok (.ifCond .eq 5, 3) := by decide +kernel
theorem d_law_221 : decode m_law.2.1 221 = .ok (.goto 748, 3) := by decide +kernel
theorem d_law_224 : decode m_law.2.1 224 = .ok (.aload_n 1, 1) := by decide +kernel
theorem d_law_225 : decode m_law.2.1 225 = .ok (.aload_n 0, 1) := by decide +kernel
theorem d_law_226 : decode m_law.2.1 226 = .ok (.iload 4, 2) := by decide +kernel
theorem d_law_228 : decode m_law.2.1 228 = .ok (.iconst 1, 1) := by decide +kernel
theorem d_law_229 : decode m_law.2.1 229 = .ok (.iadd, 1) := by decide +kernel
theorem d_law_230 : decode m_law.2.1 230 = .ok (.iaload, 1) := by decide +kernel
theorem d_law_231 : decode m_law.2.1 231 = .ok (.aload_n 3, 1) := by decide +kernel
theorem d_law_232 : decode m_law.2.1 232 = .ok (.invokestatic 80, 3) := by decide +kernel
theorem d_law_235 : decode m_law.2.1 235 = .ok (.istore 5, 2) := by decide +kernel
theorem d_law_237 : decode m_law.2.1 237 = .ok (.aload_n 2, 1) := by decide +kernel
theorem d_law_238 : decode m_law.2.1 238 = .ok (.aload_n 0, 1) := by decide +kernel
theorem d_law_239 : decode m_law.2.1 239 = .ok (.iload 4, 2) := by decide +kernel
theorem d_law_241 : decode m_law.2.1 241 = .ok (.iconst 1, 1) := by decide +kernel
theorem d_law_242 : decode m_law.2.1 242 = .ok (.iadd, 1) := by decide +kernel
theorem d_law_243 : decode m_law.2.1 243 = .ok (.iaload, 1) := by decide +kernel
theorem d_law_244 : decode m_law.2.1 244 = .ok (.invokevirtual 83, 3) := by decide +kernel
theorem d_law_247 : decode m_law.2.1 247 = .ok (.istore 6, 2) := by decide +kernel
theorem d_law_249 : decode m_law.2.1 249 = .ok (.aload_n 2, 1) := by decide +kernel
theorem d_law_250 : decode m_law.2.1 250 = .ok (.invokevirtual 77, 3) := by decide +kernel
theorem d_law_253 : decode m_law.2.1 253 = .ok (.iload 5, 2) := by decide +kernel
theorem d_law_255 : decode m_law.2.1 255 = .ok (.if_icmp .eq 5, 3) := by decide +kernel
theorem d_law_260 : decode m_law.2.1 260 = .ok (.iload 5, 2) := by decide +kernel
theorem d_law_262 : decode m_law.2.1 262 = .ok (.ifCond .ne 15, 3) := by decide +kernel
theorem d_law_265 : decode m_law.2.1 265 = .ok (.aload_n 3, 1) := by decide +kernel
theorem d_law_266 : decode m_law.2.1 266 = .ok (.iconst 0, 1) := by decide +kernel
theorem d_law_267 : decode m_law.2.1 267 = .ok (.laload, 1) := by decide +kernel
theorem d_law_268 : decode m_law.2.1 268 = .ok (.iload 6, 2) := by decide +kernel
theorem d_law_270 : decode m_law.2.1 270 = .ok (.i2l, 1) := by decide +kernel
theorem d_law_271 : decode m_law.2.1 271 = .ok (.lcmp, 1) := by decide +kernel
theorem d_law_272 : decode m_law.2.1 272 = .ok (.ifCond .eq 5, 3) := by decide +kernel
theorem d_law_277 : decode m_law.2.1 277 = .ok (.goto 692, 3) := by decide +kernel
theorem d_law_280 : decode m_law.2.1 280 = .ok (.aload_n 1, 1) := by decide +kernel
theorem d_law_281 : decode m_law.2.1 281 = .ok (.aload_n 3, 1) := by decide +kernel
theorem d_law_282 : decode m_law.2.1 282 = .ok (.invokestatic 84, 3) := by decide +kernel
theorem d_law_285 : decode m_law.2.1 285 = .ok (.istore 5, 2) := by decide +kernel
theorem d_law_287 : decode m_law.2.1 287 = .ok (.aload_n 2, 1) := by decide +kernel
theorem d_law_288 : decode m_law.2.1 288 = .ok (.invokevirtual 87, 3) := by decide +kernel
theorem d_law_291 : decode m_law.2.1 291 = .ok (.istore 6, 2) := by decide +kernel
theorem d_law_293 : decode m_law.2.1 293 = .ok (.aload_n 2, 1) := by decide +kernel
theorem d_law_294 : decode m_law.2.1 294 = .ok (.invokevirtual 77, 3) := by decide +kernel
theorem d_law_297 : decode m_law.2.1 297 = .ok (.iload 5, 2) := by decide +kernel
theorem d_law_299 : decode m_law.2.1 299 = .ok (.if_icmp .eq 5, 3) := by decide +kernel
theorem d_law_304 : decode m_law.2.1 304 = .ok (.iload 5, 2) := by decide +kernel
theorem d_law_306 : decode m_law.2.1 306 = .ok (.ifCond .ne 15, 3) := by decide +kernel
theorem d_law_309 : decode m_law.2.1 309 = .ok (.aload_n 3, 1) := by decide +kernel
theorem d_law_310 : decode m_law.2.1 310 = .ok (.iconst 0, 1) := by decide +kernel
theorem d_law_311 : decode m_law.2.1 311 = .ok (.laload, 1) := by decide +kernel
theorem d_law_312 : decode m_law.2.1 312 = .ok (.iload 6, 2) := by decide +kernel
theorem d_law_314 : decode m_law.2.1 314 = .ok (.i2l, 1) := by decide +kernel
theorem d_law_315 : decode m_law.2.1 315 = .ok (.lcmp, 1) := by decide +kernel
theorem d_law_316 : decode m_law.2.1 316 = .ok (.ifCond .eq 5, 3) := by decide +kernel
theorem d_law_321 : decode m_law.2.1 321 = .ok (.goto 648, 3) := by decide +kernel
theorem d_law_324 : decode m_law.2.1 324 = .ok (.aload_n 1, 1) := by decide +kernel
theorem d_law_325 : decode m_law.2.1 325 = .ok (.aload_n 3, 1) := by decide +kernel
theorem d_law_326 : decode m_law.2.1 326 = .ok (.invokestatic 88, 3) := by decide +kernel
theorem d_law_329 : decode m_law.2.1 329 = .ok (.istore 5, 2) := by decide +kernel
theorem d_law_331 : decode m_law.2.1 331 = .ok (.aload_n 2, 1) := by decide +kernel
theorem d_law_332 : decode m_law.2.1 332 = .ok (.invokevirtual 90, 3) := by decide +kernel
theorem d_law_335 : decode m_law.2.1 335 = .ok (.istore 6, 2) := by decide +kernel
theorem d_law_337 : decode m_law.2.1 337 = .ok (.aload_n 2, 1) := by decide +kernel
theorem d_law_338 : decode m_law.2.1 338 = .ok (.invokevirtual 77, 3) := by decide +kernel
theorem d_law_341 : decode m_law.2.1 341 = .ok (.iload 5, 2) := by decide +kernel
theorem d_law_343 : decode m_law.2.1 343 = .ok (.if_icmp .eq 5, 3) := by decide +kernel
theorem d_law_348 : decode m_law.2.1 348 = .ok (.iload 5, 2) := by decide +kernel
theorem d_law_350 : decode m_law.2.1 350 = .ok (.ifCond .ne 15, 3) := by decide +kernel
theorem d_law_353 : decode m_law.2.1 353 = .ok (.aload_n 3, 1) := by decide +kernel
theorem d_law_354 : decode m_law.2.1 354 = .ok (.iconst 0, 1) := by decide +kernel
theorem d_law_355 : decode m_law.2.1 355 = .ok (.laload, 1) := by decide +kernel
theorem d_law_356 : decode m_law.2.1 356 = .ok (.iload 6, 2) := by decide +kernel
theorem d_law_358 : decode m_law.2.1 358 = .ok (.i2l, 1) := by decide +kernel
theorem d_law_359 : decode m_law.2.1 359 = .ok (.lcmp, 1) := by decide +kernel
theorem d_law_360 : decode m_law.2.1 360 = .ok (.ifCond .eq 5, 3) := by decide +kernel
theorem d_law_365 : decode m_law.2.1 365 = .ok (.goto 604, 3) := by decide +kernel
theorem d_law_368 : decode m_law.2.1 368 = .ok (.aload_n 1, 1) := by decide +kernel
theorem d_law_369 : decode m_law.2.1 369 = .ok (.aload_n 0, 1) := by decide +kernel
theorem d_law_370 : decode m_law.2.1 370 = .ok (.iload 4, 2) := by decide +kernel
theorem d_law_372 : decode m_law.2.1 372 = .ok (.iconst 1, 1) := by decide +kernel
theorem d_law_373 : decode m_law.2.1 373 = .ok (.iadd, 1) := by decide +kernel
theorem d_law_374 : decode m_law.2.1 374 = .ok (.iaload, 1) := by decide +kernel
theorem d_law_375 : decode m_law.2.1 375 = .ok (.aload_n 3, 1) := by decide +kernel
theorem d_law_376 : decode m_law.2.1 376 = .ok (.invokestatic 91, 3) := by decide +kernel
theorem d_law_379 : decode m_law.2.1 379 = .ok (.istore 5, 2) := by decide +kernel
theorem d_law_381 : decode m_law.2.1 381 = .ok (.aload_n 2, 1) := by decide +kernel
theorem d_law_382 : decode m_law.2.1 382 = .ok (.aload_n 0, 1) := by decide +kernel
theorem d_law_383 : decode m_law.2.1 383 = .ok (.iload 4, 2) := by decide +kernel
theorem d_law_385 : decode m_law.2.1 385 = .ok (.iconst 1, 1) := by decide +kernel
theorem d_law_386 : decode m_law.2.1 386 = .ok (.iadd, 1) := by decide +kernel
theorem d_law_387 : decode m_law.2.1 387 = .ok (.iaload, 1) := by decide +kernel
theorem d_law_388 : decode m_law.2.1 388 = .ok (.invokevirtual 93, 3) := by decide +kernel
theorem d_law_391 : decode m_law.2.1 391 = .ok (.istore 6, 2) := by decide +kernel
theorem d_law_393 : decode m_law.2.1 393 = .ok (.aload_n 2, 1) := by decide +kernel
theorem d_law_394 : decode m_law.2.1 394 = .ok (.invokevirtual 77, 3) := by decide +kernel
theorem d_law_397 : decode m_law.2.1 397 = .ok (.iload 5, 2) := by decide +kernel
theorem d_law_399 : decode m_law.2.1 399 = .ok (.if_icmp .eq 5, 3) := by decide +kernel
theorem d_law_404 : decode m_law.2.1 404 = .ok (.iload 5, 2) := by decide +kernel
theorem d_law_406 : decode m_law.2.1 406 = .ok (.ifCond .ne 15, 3) := by decide +kernel
theorem d_law_409 : decode m_law.2.1 409 = .ok (.aload_n 3, 1) := by decide +kernel
theorem d_law_410 : decode m_law.2.1 410 = .ok (.iconst 0, 1) := by decide +kernel
theorem d_law_411 : decode m_law.2.1 411 = .ok (.laload, 1) := by decide +kernel
theorem d_law_412 : decode m_law.2.1 412 = .ok (.iload 6, 2) := by decide +kernel
theorem d_law_414 : decode m_law.2.1 414 = .ok (.i2l, 1) := by decide +kernel
theorem d_law_415 : decode m_law.2.1 415 = .ok (.lcmp, 1) := by decide +kernel
theorem d_law_416 : decode m_law.2.1 416 = .ok (.ifCond .eq 5, 3) := by decide +kernel
theorem d_law_421 : decode m_law.2.1 421 = .ok (.goto 548, 3) := by decide +kernel
theorem d_law_424 : decode m_law.2.1 424 = .ok (.aload_n 1, 1) := by decide +kernel
theorem d_law_425 : decode m_law.2.1 425 = .ok (.aload_n 0, 1) := by decide +kernel
theorem d_law_426 : decode m_law.2.1 426 = .ok (.iload 4, 2) := by decide +kernel
theorem d_law_428 : decode m_law.2.1 428 = .ok (.iconst 1, 1) := by decide +kernel
theorem d_law_429 : decode m_law.2.1 429 = .ok (.iadd, 1) := by decide +kernel
theorem d_law_430 : decode m_law.2.1 430 = .ok (.iaload, 1) := by decide +kernel
theorem d_law_431 : decode m_law.2.1 431 = .ok (.aload_n 3, 1) := by decide +kernel
theorem d_law_432 : decode m_law.2.1 432 = .ok (.invokestatic 94, 3) := by decide +kernel
theorem d_law_435 : decode m_law.2.1 435 = .ok (.istore 5, 2) := by decide +kernel
theorem d_law_437 : decode m_law.2.1 437 = .ok (.aload_n 2, 1) := by decide +kernel
theorem d_law_438 : decode m_law.2.1 438 = .ok (.aload_n 0, 1) := by decide +kernel
theorem d_law_439 : decode m_law.2.1 439 = .ok (.iload 4, 2) := by decide +kernel
theorem d_law_441 : decode m_law.2.1 441 = .ok (.iconst 1, 1) := by decide +kernel
theorem d_law_442 : decode m_law.2.1 442 = .ok (.iadd, 1) := by decide +kernel
theorem d_law_443 : decode m_law.2.1 443 = .ok (.iaload, 1) := by decide +kernel
theorem d_law_444 : decode m_law.2.1 444 = .ok (.invokevirtual 96, 3) := by decide +kernel
theorem d_law_447 : decode m_law.2.1 447 = .ok (.istore 6, 2) := by decide +kernel
theorem d_law_449 : decode m_law.2.1 449 = .ok (.aload_n 2, 1) := by decide +kernel
theorem d_law_450 : decode m_law.2.1 450 = .ok (.invokevirtual 77, 3) := by decide +kernel
theorem d_law_453 : decode m_law.2.1 453 = .ok (.iload 5, 2) := by decide +kernel
theorem d_law_455 : decode m_law.2.1 455 = .ok (.if_icmp .eq 5, 3) := by decide +kernel
theorem d_law_460 : decode m_law.2.1 460 = .ok (.iload 5, 2) := by decide +kernel
theorem d_law_462 : decode m_law.2.1 462 = .ok (.ifCond .ne 15, 3) := by decide +kernel
theorem d_law_465 : decode m_law.2.1 465 = .ok (.aload_n 3, 1) := by decide +kernel
theorem d_law_466 : decode m_law.2.1 466 = .ok (.iconst 0, 1) := by decide +kernel
theorem d_law_467 : decode m_law.2.1 467 = .ok (.laload, 1) := by decide +kernel
theorem d_law_468 : decode m_law.2.1 468 = .ok (.iload 6, 2) := by decide +kernel
theorem d_law_470 : decode m_law.2.1 470 = .ok (.i2l, 1) := by decide +kernel
theorem d_law_471 : decode m_law.2.1 471 = .ok (.lcmp, 1) := by decide +kernel
theorem d_law_472 : decode m_law.2.1 472 = .ok (.ifCond .eq 5, 3) := by decide +kernel
theorem d_law_477 : decode m_law.2.1 477 = .ok (.goto 492, 3) := by decide +kernel
theorem d_law_480 : decode m_law.2.1 480 = .ok (.aload_n 1, 1) := by decide +kernel
theorem d_law_481 : decode m_law.2.1 481 = .ok (.aload_n 0, 1) := by decide +kernel
theorem d_law_482 : decode m_law.2.1 482 = .ok (.iload 4, 2) := by decide +kernel
theorem d_law_484 : decode m_law.2.1 484 = .ok (.iconst 1, 1) := by decide +kernel
theorem d_law_485 : decode m_law.2.1 485 = .ok (.iadd, 1) := by decide +kernel
theorem d_law_486 : decode m_law.2.1 486 = .ok (.iaload, 1) := by decide +kernel
theorem d_law_487 : decode m_law.2.1 487 = .ok (.aload_n 3, 1) := by decide +kernel
theorem d_law_488 : decode m_law.2.1 488 = .ok (.invokestatic 97, 3) := by decide +kernel
theorem d_law_491 : decode m_law.2.1 491 = .ok (.istore 5, 2) := by decide +kernel
theorem d_law_493 : decode m_law.2.1 493 = .ok (.aload_n 2, 1) := by decide +kernel
theorem d_law_494 : decode m_law.2.1 494 = .ok (.aload_n 0, 1) := by decide +kernel
theorem d_law_495 : decode m_law.2.1 495 = .ok (.iload 4, 2) := by decide +kernel
theorem d_law_497 : decode m_law.2.1 497 = .ok (.iconst 1, 1) := by decide +kernel
theorem d_law_498 : decode m_law.2.1 498 = .ok (.iadd, 1) := by decide +kernel
theorem d_law_499 : decode m_law.2.1 499 = .ok (.iaload, 1) := by decide +kernel
theorem d_law_500 : decode m_law.2.1 500 = .ok (.invokevirtual 99, 3) := by decide +kernel
theorem d_law_503 : decode m_law.2.1 503 = .ok (.istore 6, 2) := by decide +kernel
theorem d_law_505 : decode m_law.2.1 505 = .ok (.aload_n 2, 1) := by decide +kernel
theorem d_law_506 : decode m_law.2.1 506 = .ok (.invokevirtual 77, 3) := by decide +kernel
theorem d_law_509 : decode m_law.2.1 509 = .ok (.iload 5, 2) := by decide +kernel
theorem d_law_511 : decode m_law.2.1 511 = .ok (.if_icmp .eq 5, 3) := by decide +kernel
theorem d_law_516 : decode m_law.2.1 516 = .ok (.iload 5, 2) := by decide +kernel
theorem d_law_518 : decode m_law.2.1 518 = .ok (.ifCond .ne 15, 3) := by decide +kernel
theorem d_law_521 : decode m_law.2.1 521 = .ok (.aload_n 3, 1) := by decide +kernel
theorem d_law_522 : decode m_law.2.1 522 = .ok (.iconst 0, 1) := by decide +kernel
theorem d_law_523 : decode m_law.2.1 523 = .ok (.laload, 1) := by decide +kernel
theorem d_law_524 : decode m_law.2.1 524 = .ok (.iload 6, 2) := by decide +kernel
theorem d_law_526 : decode m_law.2.1 526 = .ok (.i2l, 1) := by decide +kernel
theorem d_law_527 : decode m_law.2.1 527 = .ok (.lcmp, 1) := by decide +kernel
theorem d_law_528 : decode m_law.2.1 528 = .ok (.ifCond .eq 5, 3) := by decide +kernel
theorem d_law_533 : decode m_law.2.1 533 = .ok (.goto 436, 3) := by decide +kernel
theorem d_law_536 : decode m_law.2.1 536 = .ok (.aload_n 1, 1) := by decide +kernel
theorem d_law_537 : decode m_law.2.1 537 = .ok (.aload_n 0, 1) := by decide +kernel
theorem d_law_538 : decode m_law.2.1 538 = .ok (.iload 4, 2) := by decide +kernel
theorem d_law_540 : decode m_law.2.1 540 = .ok (.iconst 1, 1) := by decide +kernel
theorem d_law_541 : decode m_law.2.1 541 = .ok (.iadd, 1) := by decide +kernel
theorem d_law_542 : decode m_law.2.1 542 = .ok (.iaload, 1) := by decide +kernel
theorem d_law_543 : decode m_law.2.1 543 = .ok (.aload_n 0, 1) := by decide +kernel
theorem d_law_544 : decode m_law.2.1 544 = .ok (.iload 4, 2) := by decide +kernel
theorem d_law_546 : decode m_law.2.1 546 = .ok (.iconst 2, 1) := by decide +kernel
theorem d_law_547 : decode m_law.2.1 547 = .ok (.iadd, 1) := by decide +kernel
theorem d_law_548 : decode m_law.2.1 548 = .ok (.iaload, 1) := by decide +kernel
theorem d_law_549 : decode m_law.2.1 549 = .ok (.aload_n 3, 1) := by decide +kernel
theorem d_law_550 : decode m_law.2.1 550 = .ok (.invokestatic 100, 3) := by decide +kernel
theorem d_law_553 : decode m_law.2.1 553 = .ok (.istore 5, 2) := by decide +kernel
theorem d_law_555 : decode m_law.2.1 555 = .ok (.aload_n 2, 1) := by decide +kernel
theorem d_law_556 : decode m_law.2.1 556 = .ok (.aload_n 0, 1) := by decide +kernel
theorem d_law_557 : decode m_law.2.1 557 = .ok (.iload 4, 2) := by decide +kernel
theorem d_law_559 : decode m_law.2.1 559 = .ok (.iconst 1, 1) := by decide +kernel
theorem d_law_560 : decode m_law.2.1 560 = .ok (.iadd, 1) := by decide +kernel
theorem d_law_561 : decode m_law.2.1 561 = .ok (.iaload, 1) := by decide +kernel
theorem d_law_562 : decode m_law.2.1 562 = .ok (.aload_n 0, 1) := by decide +kernel
theorem d_law_563 : decode m_law.2.1 563 = .ok (.iload 4, 2) := by decide +kernel
theorem d_law_565 : decode m_law.2.1 565 = .ok (.iconst 2, 1) := by decide +kernel
theorem d_law_566 : decode m_law.2.1 566 = .ok (.iadd, 1) := by decide +kernel
theorem d_law_567 : decode m_law.2.1 567 = .ok (.iaload, 1) := by decide +kernel
theorem d_law_568 : decode m_law.2.1 568 = .ok (.invokevirtual 103, 3) := by decide +kernel
theorem d_law_571 : decode m_law.2.1 571 = .ok (.istore 6, 2) := by decide +kernel
theorem d_law_573 : decode m_law.2.1 573 = .ok (.aload_n 2, 1) := by decide +kernel
theorem d_law_574 : decode m_law.2.1 574 = .ok (.invokevirtual 77, 3) := by decide +kernel
theorem d_law_577 : decode m_law.2.1 577 = .ok (.iload 5, 2) := by decide +kernel
theorem d_law_579 : decode m_law.2.1 579 = .ok (.if_icmp .eq 5, 3) := by decide +kernel
theorem d_law_584 : decode m_law.2.1 584 = .ok (.iload 5, 2) := by decide +kernel
theorem d_law_586 : decode m_law.2.1 586 = .ok (.ifCond .ne 15, 3) := by decide +kernel
theorem d_law_589 : decode m_law.2.1 589 = .ok (.aload_n 3, 1) := by decide +kernel
theorem d_law_590 : decode m_law.2.1 590 = .ok (.iconst 0, 1) := by decide +kernel
theorem d_law_591 : decode m_law.2.1 591 = .ok (.laload, 1) := by decide +kernel
theorem d_law_592 : decode m_law.2.1 592 = .ok (.iload 6, 2) := by decide +kernel
theorem d_law_594 : decode m_law.2.1 594 = .ok (.i2l, 1) := by decide +kernel
theorem d_law_595 : decode m_law.2.1 595 = .ok (.lcmp, 1) := by decide +kernel
theorem d_law_596 : decode m_law.2.1 596 = .ok (.ifCond .eq 5, 3) := by decide +kernel
theorem d_law_601 : decode m_law.2.1 601 = .ok (.goto 368, 3) := by decide +kernel
theorem d_law_604 : decode m_law.2.1 604 = .ok (.aload_n 1, 1) := by decide +kernel
theorem d_law_605 : decode m_law.2.1 605 = .ok (.aload_n 0, 1) := by decide +kernel
theorem d_law_606 : decode m_law.2.1 606 = .ok (.iload 4, 2) := by decide +kernel
theorem d_law_608 : decode m_law.2.1 608 = .ok (.iconst 1, 1) := by decide +kernel
theorem d_law_609 : decode m_law.2.1 609 = .ok (.iadd, 1) := by decide +kernel
theorem d_law_610 : decode m_law.2.1 610 = .ok (.iaload, 1) := by decide +kernel
theorem d_law_611 : decode m_law.2.1 611 = .ok (.aload_n 0, 1) := by decide +kernel
theorem d_law_612 : decode m_law.2.1 612 = .ok (.iload 4, 2) := by decide +kernel
theorem d_law_614 : decode m_law.2.1 614 = .ok (.iconst 2, 1) := by decide +kernel
theorem d_law_615 : decode m_law.2.1 615 = .ok (.iadd, 1) := by decide +kernel
theorem d_law_616 : decode m_law.2.1 616 = .ok (.iaload, 1) := by decide +kernel
theorem d_law_617 : decode m_law.2.1 617 = .ok (.aload_n 3, 1) := by decide +kernel
theorem d_law_618 : decode m_law.2.1 618 = .ok (.invokestatic 104, 3) := by decide +kernel
theorem d_law_621 : decode m_law.2.1 621 = .ok (.istore 5, 2) := by decide +kernel
theorem d_law_623 : decode m_law.2.1 623 = .ok (.aload_n 2, 1) := by decide +kernel
theorem d_law_624 : decode m_law.2.1 624 = .ok (.aload_n 0, 1) := by decide +kernel
theorem d_law_625 : decode m_law.2.1 625 = .ok (.iload 4, 2) := by decide +kernel
theorem d_law_627 : decode m_law.2.1 627 = .ok (.iconst 1, 1) := by decide +kernel
theorem d_law_628 : decode m_law.2.1 628 = .ok (.iadd, 1) := by decide +kernel
theorem d_law_629 : decode m_law.2.1 629 = .ok (.iaload, 1) := by decide +kernel
theorem d_law_630 : decode m_law.2.1 630 = .ok (.aload_n 0, 1) := by decide +kernel
theorem d_law_631 : decode m_law.2.1 631 = .ok (.iload 4, 2) := by decide +kernel
theorem d_law_633 : decode m_law.2.1 633 = .ok (.iconst 2, 1) := by decide +kernel
theorem d_law_634 : decode m_law.2.1 634 = .ok (.iadd, 1) := by decide +kernel
theorem d_law_635 : decode m_law.2.1 635 = .ok (.iaload, 1) := by decide +kernel
theorem d_law_636 : decode m_law.2.1 636 = .ok (.invokevirtual 106, 3) := by decide +kernel
theorem d_law_639 : decode m_law.2.1 639 = .ok (.istore 6, 2) := by decide +kernel
theorem d_law_641 : decode m_law.2.1 641 = .ok (.aload_n 2, 1) := by decide +kernel
theorem d_law_642 : decode m_law.2.1 642 = .ok (.invokevirtual 77, 3) := by decide +kernel
theorem d_law_645 : decode m_law.2.1 645 = .ok (.iload 5, 2) := by decide +kernel
theorem d_law_647 : decode m_law.2.1 647 = .ok (.if_icmp .eq 5, 3) := by decide +kernel
theorem d_law_652 : decode m_law.2.1 652 = .ok (.iload 5, 2) := by decide +kernel
theorem d_law_654 : decode m_law.2.1 654 = .ok (.ifCond .ne 15, 3) := by decide +kernel
theorem d_law_657 : decode m_law.2.1 657 = .ok (.aload_n 3, 1) := by decide +kernel
theorem d_law_658 : decode m_law.2.1 658 = .ok (.iconst 0, 1) := by decide +kernel
theorem d_law_659 : decode m_law.2.1 659 = .ok (.laload, 1) := by decide +kernel
theorem d_law_660 : decode m_law.2.1 660 = .ok (.iload 6, 2) := by decide +kernel
theorem d_law_662 : decode m_law.2.1 662 = .ok (.i2l, 1) := by decide +kernel
theorem d_law_663 : decode m_law.2.1 663 = .ok (.lcmp, 1) := by decide +kernel
theorem d_law_664 : decode m_law.2.1 664 = .ok (.ifCond .eq 5, 3) := by decide +kernel
theorem d_law_669 : decode m_law.2.1 669 = .ok (.goto 300, 3) := by decide +kernel
theorem d_law_672 : decode m_law.2.1 672 = .ok (.aload_n 1, 1) := by decide +kernel
theorem d_law_673 : decode m_law.2.1 673 = .ok (.aload_n 3, 1) := by decide +kernel
theorem d_law_674 : decode m_law.2.1 674 = .ok (.invokestatic 107, 3) := by decide +kernel
theorem d_law_677 : decode m_law.2.1 677 = .ok (.istore 5, 2) := by decide +kernel
theorem d_law_679 : decode m_law.2.1 679 = .ok (.aload_n 2, 1) := by decide +kernel
theorem d_law_680 : decode m_law.2.1 680 = .ok (.invokevirtual 109, 3) := by decide +kernel
theorem d_law_683 : decode m_law.2.1 683 = .ok (.istore 6, 2) := by decide +kernel
theorem d_law_685 : decode m_law.2.1 685 = .ok (.aload_n 2, 1) := by decide +kernel
theorem d_law_686 : decode m_law.2.1 686 = .ok (.invokevirtual 77, 3) := by decide +kernel
theorem d_law_689 : decode m_law.2.1 689 = .ok (.iload 5, 2) := by decide +kernel
theorem d_law_691 : decode m_law.2.1 691 = .ok (.if_icmp .eq 5, 3) := by decide +kernel
theorem d_law_696 : decode m_law.2.1 696 = .ok (.iload 5, 2) := by decide +kernel
theorem d_law_698 : decode m_law.2.1 698 = .ok (.ifCond .ne 15, 3) := by decide +kernel
theorem d_law_701 : decode m_law.2.1 701 = .ok (.aload_n 3, 1) := by decide +kernel
theorem d_law_702 : decode m_law.2.1 702 = .ok (.iconst 0, 1) := by decide +kernel
theorem d_law_703 : decode m_law.2.1 703 = .ok (.laload, 1) := by decide +kernel
theorem d_law_704 : decode m_law.2.1 704 = .ok (.iload 6, 2) := by decide +kernel
theorem d_law_706 : decode m_law.2.1 706 = .ok (.i2l, 1) := by decide +kernel
theorem d_law_707 : decode m_law.2.1 707 = .ok (.lcmp, 1) := by decide +kernel
theorem d_law_708 : decode m_law.2.1 708 = .ok (.ifCond .eq 5, 3) := by decide +kernel
theorem d_law_713 : decode m_law.2.1 713 = .ok (.goto 256, 3) := by decide +kernel
theorem d_law_716 : decode m_law.2.1 716 = .ok (.aload_n 1, 1) := by decide +kernel
theorem d_law_717 : decode m_law.2.1 717 = .ok (.aload_n 0, 1) := by decide +kernel
theorem d_law_718 : decode m_law.2.1 718 = .ok (.iload 4, 2) := by decide +kernel
theorem d_law_720 : decode m_law.2.1 720 = .ok (.iconst 1, 1) := by decide +kernel
theorem d_law_721 : decode m_law.2.1 721 = .ok (.iadd, 1) := by decide +kernel
theorem d_law_722 : decode m_law.2.1 722 = .ok (.iaload, 1) := by decide +kernel
theorem d_law_723 : decode m_law.2.1 723 = .ok (.aload_n 3, 1) := by decide +kernel
theorem d_law_724 : decode m_law.2.1 724 = .ok (.invokestatic 110, 3) := by decide +kernel
theorem d_law_727 : decode m_law.2.1 727 = .ok (.istore 5, 2) := by decide +kernel
theorem d_law_729 : decode m_law.2.1 729 = .ok (.aload_n 2, 1) := by decide +kernel
theorem d_law_730 : decode m_law.2.1 730 = .ok (.aload_n 0, 1) := by decide +kernel
theorem d_law_731 : decode m_law.2.1 731 = .ok (.iload 4, 2) := by decide +kernel
theorem d_law_733 : decode m_law.2.1 733 = .ok (.iconst 1, 1) := by decide +kernel
theorem d_law_734 : decode m_law.2.1 734 = .ok (.iadd, 1) := by decide +kernel
theorem d_law_735 : decode m_law.2.1 735 = .ok (.iaload, 1) := by decide +kernel
theorem d_law_736 : decode m_law.2.1 736 = .ok (.invokevirtual 112, 3) := by decide +kernel
theorem d_law_739 : decode m_law.2.1 739 = .ok (.istore 6, 2) := by decide +kernel
theorem d_law_741 : decode m_law.2.1 741 = .ok (.aload_n 2, 1) := by decide +kernel
theorem d_law_742 : decode m_law.2.1 742 = .ok (.invokevirtual 77, 3) := by decide +kernel
theorem d_law_745 : decode m_law.2.1 745 = .ok (.iload 5, 2) := by decide +kernel
theorem d_law_747 : decode m_law.2.1 747 = .ok (.if_icmp .eq 5, 3) := by decide +kernel
theorem d_law_752 : decode m_law.2.1 752 = .ok (.iload 5, 2) := by decide +kernel
theorem d_law_754 : decode m_law.2.1 754 = .ok (.ifCond .ne 15, 3) := by decide +kernel
theorem d_law_757 : decode m_law.2.1 757 = .ok (.aload_n 3, 1) := by decide +kernel
theorem d_law_758 : decode m_law.2.1 758 = .ok (.iconst 0, 1) := by decide +kernel
theorem d_law_759 : decode m_law.2.1 759 = .ok (.laload, 1) := by decide +kernel
theorem d_law_760 : decode m_law.2.1 760 = .ok (.iload 6, 2) := by decide +kernel
theorem d_law_762 : decode m_law.2.1 762 = .ok (.i2l, 1) := by decide +kernel
theorem d_law_763 : decode m_law.2.1 763 = .ok (.lcmp, 1) := by decide +kernel
theorem d_law_764 : decode m_law.2.1 764 = .ok (.ifCond .eq 5, 3) := by decide +kernel
theorem d_law_769 : decode m_law.2.1 769 = .ok (.goto 200, 3) := by decide +kernel
theorem d_law_772 : decode m_law.2.1 772 = .ok (.aload_n 1, 1) := by decide +kernel
theorem d_law_773 : decode m_law.2.1 773 = .ok (.aload_n 0, 1) := by decide +kernel
theorem d_law_774 : decode m_law.2.1 774 = .ok (.iload 4, 2) := by decide +kernel
theorem d_law_776 : decode m_law.2.1 776 = .ok (.iconst 1, 1) := by decide +kernel
theorem d_law_777 : decode m_law.2.1 777 = .ok (.iadd, 1) := by decide +kernel
theorem d_law_778 : decode m_law.2.1 778 = .ok (.iaload, 1) := by decide +kernel
theorem d_law_779 : decode m_law.2.1 779 = .ok (.aload_n 0, 1) := by decide +kernel
theorem d_law_780 : decode m_law.2.1 780 = .ok (.iload 4, 2) := by decide +kernel
theorem d_law_782 : decode m_law.2.1 782 = .ok (.iconst 2, 1) := by decide +kernel
theorem d_law_783 : decode m_law.2.1 783 = .ok (.iadd, 1) := by decide +kernel
theorem d_law_784 : decode m_law.2.1 784 = .ok (.iaload, 1) := by decide +kernel
theorem d_law_785 : decode m_law.2.1 785 = .ok (.invokestatic 113, 3) := by decide +kernel
theorem d_law_788 : decode m_law.2.1 788 = .ok (.istore 5, 2) := by decide +kernel
theorem d_law_790 : decode m_law.2.1 790 = .ok (.aload_n 2, 1) := by decide +kernel
theorem d_law_791 : decode m_law.2.1 791 = .ok (.aload_n 0, 1) := by decide +kernel
theorem d_law_792 : decode m_law.2.1 792 = .ok (.iload 4, 2) := by decide +kernel
theorem d_law_794 : decode m_law.2.1 794 = .ok (.iconst 1, 1) := by decide +kernel
theorem d_law_795 : decode m_law.2.1 795 = .ok (.iadd, 1) := by decide +kernel
theorem d_law_796 : decode m_law.2.1 796 = .ok (.iaload, 1) := by decide +kernel
theorem d_law_797 : decode m_law.2.1 797 = .ok (.aload_n 0, 1) := by decide +kernel
theorem d_law_798 : decode m_law.2.1 798 = .ok (.iload 4, 2) := by decide +kernel
theorem d_law_800 : decode m_law.2.1 800 = .ok (.iconst 2, 1) := by decide +kernel
theorem d_law_801 : decode m_law.2.1 801 = .ok (.iadd, 1) := by decide +kernel
theorem d_law_802 : decode m_law.2.1 802 = .ok (.iaload, 1) := by decide +kernel
theorem d_law_803 : decode m_law.2.1 803 = .ok (.invokevirtual 116, 3) := by decide +kernel
theorem d_law_806 : decode m_law.2.1 806 = .ok (.aload_n 2, 1) := by decide +kernel
theorem d_law_807 : decode m_law.2.1 807 = .ok (.invokevirtual 77, 3) := by decide +kernel
theorem d_law_810 : decode m_law.2.1 810 = .ok (.iload 5, 2) := by decide +kernel
theorem d_law_812 : decode m_law.2.1 812 = .ok (.if_icmp .eq 5, 3) := by decide +kernel
theorem d_law_817 : decode m_law.2.1 817 = .ok (.goto 152, 3) := by decide +kernel
theorem d_law_820 : decode m_law.2.1 820 = .ok (.aload_n 1, 1) := by decide +kernel
theorem d_law_821 : decode m_law.2.1 821 = .ok (.invokestatic 117, 3) := by decide +kernel
theorem d_law_824 : decode m_law.2.1 824 = .ok (.istore 5, 2) := by decide +kernel
theorem d_law_826 : decode m_law.2.1 826 = .ok (.aload_n 2, 1) := by decide +kernel
theorem d_law_827 : decode m_law.2.1 827 = .ok (.invokevirtual 120, 3) := by decide +kernel
theorem d_law_830 : decode m_law.2.1 830 = .ok (.aload_n 2, 1) := by decide +kernel
theorem d_law_831 : decode m_law.2.1 831 = .ok (.invokevirtual 77, 3) := by decide +kernel
theorem d_law_834 : decode m_law.2.1 834 = .ok (.iload 5, 2) := by decide +kernel
theorem d_law_836 : decode m_law.2.1 836 = .ok (.if_icmp .eq 5, 3) := by decide +kernel
theorem d_law_841 : decode m_law.2.1 841 = .ok (.goto 128, 3) := by decide +kernel
theorem d_law_844 : decode m_law.2.1 844 = .ok (.aload_n 1, 1) := by decide +kernel
theorem d_law_845 : decode m_law.2.1 845 = .ok (.aload_n 3, 1) := by decide +kernel
theorem d_law_846 : decode m_law.2.1 846 = .ok (.invokestatic 121, 3) := by decide +kernel
theorem d_law_849 : decode m_law.2.1 849 = .ok (.istore 5, 2) := by decide +kernel
theorem d_law_851 : decode m_law.2.1 851 = .ok (.aload_n 2, 1) := by decide +kernel
theorem d_law_852 : decode m_law.2.1 852 = .ok (.invokevirtual 123, 3) := by decide +kernel
theorem d_law_855 : decode m_law.2.1 855 = .ok (.istore 6, 2) := by decide +kernel
theorem d_law_857 : decode m_law.2.1 857 = .ok (.aload_n 2, 1) := by decide +kernel
theorem d_law_858 : decode m_law.2.1 858 = .ok (.invokevirtual 77, 3) := by decide +kernel
theorem d_law_861 : decode m_law.2.1 861 = .ok (.iload 5, 2) := by decide +kernel
theorem d_law_863 : decode m_law.2.1 863 = .ok (.if_icmp .eq 5, 3) := by decide +kernel
theorem d_law_868 : decode m_law.2.1 868 = .ok (.iload 5, 2) := by decide +kernel
theorem d_law_870 : decode m_law.2.1 870 = .ok (.ifCond .ne 15, 3) := by decide +kernel
theorem d_law_873 : decode m_law.2.1 873 = .ok (.aload_n 3, 1) := by decide +kernel
theorem d_law_874 : decode m_law.2.1 874 = .ok (.iconst 0, 1) := by decide +kernel
theorem d_law_875 : decode m_law.2.1 875 = .ok (.laload, 1) := by decide +kernel
theorem d_law_876 : decode m_law.2.1 876 = .ok (.iload 6, 2) := by decide +kernel
theorem d_law_878 : decode m_law.2.1 878 = .ok (.i2l, 1) := by decide +kernel
theorem d_law_879 : decode m_law.2.1 879 = .ok (.lcmp, 1) := by decide +kernel
theorem d_law_880 : decode m_law.2.1 880 = .ok (.ifCond .eq 5, 3) := by decide +kernel
theorem d_law_885 : decode m_law.2.1 885 = .ok (.goto 84, 3) := by decide +kernel
theorem d_law_888 : decode m_law.2.1 888 = .ok (.aload_n 1, 1) := by decide +kernel
theorem d_law_889 : decode m_law.2.1 889 = .ok (.aload_n 0, 1) := by decide +kernel
theorem d_law_890 : decode m_law.2.1 890 = .ok (.iload 4, 2) := by decide +kernel
theorem d_law_892 : decode m_law.2.1 892 = .ok (.iconst 1, 1) := by decide +kernel
theorem d_law_893 : decode m_law.2.1 893 = .ok (.iadd, 1) := by decide +kernel
theorem d_law_894 : decode m_law.2.1 894 = .ok (.iaload, 1) := by decide +kernel
theorem d_law_895 : decode m_law.2.1 895 = .ok (.aload_n 3, 1) := by decide +kernel
theorem d_law_896 : decode m_law.2.1 896 = .ok (.invokestatic 124, 3) := by decide +kernel
theorem d_law_899 : decode m_law.2.1 899 = .ok (.istore 5, 2) := by decide +kernel
theorem d_law_901 : decode m_law.2.1 901 = .ok (.aload_n 2, 1) := by decide +kernel
theorem d_law_902 : decode m_law.2.1 902 = .ok (.aload_n 0, 1) := by decide +kernel
theorem d_law_903 : decode m_law.2.1 903 = .ok (.iload 4, 2) := by decide +kernel
theorem d_law_905 : decode m_law.2.1 905 = .ok (.iconst 1, 1) := by decide +kernel
theorem d_law_906 : decode m_law.2.1 906 = .ok (.iadd, 1) := by decide +kernel
theorem d_law_907 : decode m_law.2.1 907 = .ok (.iaload, 1) := by decide +kernel
theorem d_law_908 : decode m_law.2.1 908 = .ok (.invokevirtual 126, 3) := by decide +kernel
theorem d_law_911 : decode m_law.2.1 911 = .ok (.istore 6, 2) := by decide +kernel
theorem d_law_913 : decode m_law.2.1 913 = .ok (.aload_n 2, 1) := by decide +kernel
theorem d_law_914 : decode m_law.2.1 914 = .ok (.invokevirtual 77, 3) := by decide +kernel
theorem d_law_917 : decode m_law.2.1 917 = .ok (.iload 5, 2) := by decide +kernel
theorem d_law_919 : decode m_law.2.1 919 = .ok (.if_icmp .eq 5, 3) := by decide +kernel
theorem d_law_924 : decode m_law.2.1 924 = .ok (.iload 5, 2) := by decide +kernel
theorem d_law_926 : decode m_law.2.1 926 = .ok (.ifCond .ne 15, 3) := by decide +kernel
theorem d_law_929 : decode m_law.2.1 929 = .ok (.aload_n 3, 1) := by decide +kernel
theorem d_law_930 : decode m_law.2.1 930 = .ok (.iconst 0, 1) := by decide +kernel
theorem d_law_931 : decode m_law.2.1 931 = .ok (.laload, 1) := by decide +kernel
theorem d_law_932 : decode m_law.2.1 932 = .ok (.iload 6, 2) := by decide +kernel
theorem d_law_934 : decode m_law.2.1 934 = .ok (.i2l, 1) := by decide +kernel
theorem d_law_935 : decode m_law.2.1 935 = .ok (.lcmp, 1) := by decide +kernel
theorem d_law_936 : decode m_law.2.1 936 = .ok (.ifCond .eq 5, 3) := by decide +kernel
theorem d_law_941 : decode m_law.2.1 941 = .ok (.goto 28, 3) := by decide +kernel
theorem d_law_944 : decode m_law.2.1 944 = .ok (.aload_n 1, 1) := by decide +kernel
theorem d_law_945 : decode m_law.2.1 945 = .ok (.aload_n 0, 1) := by decide +kernel
theorem d_law_946 : decode m_law.2.1 946 = .ok (.iload 4, 2) := by decide +kernel
theorem d_law_948 : decode m_law.2.1 948 = .ok (.iconst 1, 1) := by decide +kernel
theorem d_law_949 : decode m_law.2.1 949 = .ok (.iadd, 1) := by decide +kernel
theorem d_law_950 : decode m_law.2.1 950 = .ok (.iaload, 1) := by decide +kernel
theorem d_law_951 : decode m_law.2.1 951 = .ok (.invokevirtual 127, 3) := by decide +kernel
theorem d_law_954 : decode m_law.2.1 954 = .ok (.aload_n 2, 1) := by decide +kernel
theorem d_law_955 : decode m_law.2.1 955 = .ok (.aload_n 0, 1) := by decide +kernel
theorem d_law_956 : decode m_law.2.1 956 = .ok (.iload 4, 2) := by decide +kernel
theorem d_law_958 : decode m_law.2.1 958 = .ok (.iconst 1, 1) := by decide +kernel
theorem d_law_959 : decode m_law.2.1 959 = .ok (.iadd, 1) := by decide +kernel
theorem d_law_960 : decode m_law.2.1 960 = .ok (.iaload, 1) := by decide +kernel
theorem d_law_961 : decode m_law.2.1 961 = .ok (.invokevirtual 130, 3) := by decide +kernel
theorem d_law_964 : decode m_law.2.1 964 = .ok (.if_icmp .eq 5, 3) := by decide +kernel
theorem cd_L_feed : q_cd m_L_feed := ⟨by decide +kernel, List.mem_of_getElem? (i := 0) (by decide +kernel), Or.inr (List.mem_of_getElem? (i := 668) (by decide +kernel))⟩
theorem cS_L_71 : q_CS "ProofHallLaw" 71 m_L_feed 7 := ⟨⟨cd_L_feed, by decide, by decide, by decide, by decide +kernel⟩, Or.inl (List.mem_of_getElem? (i := 666) (by decide +kernel)), List.mem_of_getElem? (i := 667) (by decide +kernel)⟩
theorem cd_M_feed : q_cd m_M_feed := ⟨by decide +kernel, List.mem_of_getElem? (i := 17) (by decide +kernel), Or.inl ⟨rfl, List.mem_of_getElem? (i := 1740) (by decide +kernel)⟩⟩
theorem cV_L_76 : q_CV "ProofHallLaw" 76 12 m_M_feed 5 := ⟨⟨cd_M_feed, by decide, by decide, by decide, by decide +kernel⟩, Or.inl (List.mem_of_getElem? (i := 1737) (by decide +kernel)), List.mem_of_getElem? (i := 1738) (by decide +kernel), _, _, _, rfl, List.mem_append_right _ (List.mem_of_getElem? (i := 1739) (by decide +kernel))⟩
theorem cd_M_thrown : q_cd m_M_thrown := ⟨by decide +kernel, List.mem_of_getElem? (i := 17) (by decide +kernel), Or.inl ⟨rfl, List.mem_of_getElem? (i := 1736) (by decide +kernel)⟩⟩
theorem cV_L_77 : q_CV "ProofHallLaw" 77 12 m_M_thrown 0 := ⟨⟨cd_M_thrown, by decide, by decide, by decide, by decide +kernel⟩, Or.inl (List.mem_of_getElem? (i := 1733) (by decide +kernel)), List.mem_of_getElem? (i := 1734) (by decide +kernel), _, _, _, rfl, List.mem_append_right _ (List.mem_of_getElem? (i := 1735) (by decide +kernel))⟩
theorem cd_L_end : q_cd m_L_end := ⟨by decide +kernel, List.mem_of_getElem? (i := 0) (by decide +kernel), Or.inr (List.mem_of_getElem? (i := 745) (by decide +kernel))⟩
theorem cS_L_80 : q_CS "ProofHallLaw" 80 m_L_end 3 := ⟨⟨cd_L_end, by decide, by decide, by decide, by decide +kernel⟩, Or.inl (List.mem_of_getElem? (i := 743) (by decide +kernel)), List.mem_of_getElem? (i := 744) (by decide +kernel)⟩
theorem cd_M_end : q_cd m_M_end := ⟨by decide +kernel, List.mem_of_getElem? (i := 17) (by decide +kernel), Or.inl ⟨rfl, List.mem_of_getElem? (i := 1752) (by decide +kernel)⟩⟩
theorem cV_L_83 : q_CV "ProofHallLaw" 83 12 m_M_end 1 := ⟨⟨cd_M_end, by decide, by decide, by decide, by decide +kernel⟩, Or.inl (List.mem_of_getElem? (i := 1749) (by decide +kernel)), List.mem_of_getElem? (i := 1750) (by decide +kernel), _, _, _, rfl, List.mem_append_right _ (List.mem_of_getElem? (i := 1751) (by decide +kernel))⟩
theorem cd_L_build : q_cd m_L_build := ⟨by decide +kernel, List.mem_of_getElem? (i := 0) (by decide +kernel), Or.inr (List.mem_of_getElem? (i := 768) (by decide +kernel))⟩
theorem cS_L_84 : q_CS "ProofHallLaw" 84 m_L_build 2 := ⟨⟨cd_L_build, by decide, by decide, by decide, by decide +kernel⟩, Or.inl (List.mem_of_getElem? (i := 766) (by decide +kernel)), List.mem_of_getElem? (i := 767) (by decide +kernel)⟩
theorem cd_M_build : q_cd m_M_build := ⟨by decide +kernel, List.mem_of_getElem? (i := 17) (by decide +kernel), Or.inr (List.mem_of_getElem? (i := 1756) (by decide +kernel))⟩
theorem cV_L_87 : q_CV "ProofHallLaw" 87 12 m_M_build 0 := ⟨⟨cd_M_build, by decide, by decide, by decide, by decide +kernel⟩, Or.inl (List.mem_of_getElem? (i := 1753) (by decide +kernel)), List.mem_of_getElem? (i := 1754) (by decide +kernel), _, _, _, rfl, List.mem_append_right _ (List.mem_of_getElem? (i := 1755) (by decide +kernel))⟩
theorem cd_L_fails : q_cd m_L_fails := ⟨by decide +kernel, List.mem_of_getElem? (i := 0) (by decide +kernel), Or.inr (List.mem_of_getElem? (i := 1166) (by decide +kernel))⟩
theorem cS_L_88 : q_CS "ProofHallLaw" 88 m_L_fails 2 := ⟨⟨cd_L_fails, by decide, by decide, by decide, by decide +kernel⟩, Or.inl (List.mem_of_getElem? (i := 1164) (by decide +kernel)), List.mem_of_getElem? (i := 1165) (by decide +kernel)⟩
theorem cd_M_fails : q_cd m_M_fails := ⟨by decide +kernel, List.mem_of_getElem? (i := 17) (by decide +kernel), Or.inl ⟨rfl, List.mem_of_getElem? (i := 1955) (by decide +kernel)⟩⟩
theorem cV_L_90 : q_CV "ProofHallLaw" 90 12 m_M_fails 0 := ⟨⟨cd_M_fails, by decide, by decide, by decide, by decide +kernel⟩, Or.inl (List.mem_of_getElem? (i := 1952) (by decide +kernel)), List.mem_of_getElem? (i := 1953) (by decide +kernel), _, _, _, rfl, List.mem_append_right _ (List.mem_of_getElem? (i := 1954) (by decide +kernel))⟩
theorem cd_L_failsAt : q_cd m_L_failsAt := ⟨by decide +kernel, List.mem_of_getElem? (i := 0) (by decide +kernel), Or.inr (List.mem_of_getElem? (i := 1381) (by decide +kernel))⟩
theorem cS_L_91 : q_CS "ProofHallLaw" 91 m_L_failsAt 3 := ⟨⟨cd_L_failsAt, by decide, by decide, by decide, by decide +kernel⟩, Or.inl (List.mem_of_getElem? (i := 1379) (by decide +kernel)), List.mem_of_getElem? (i := 1380) (by decide +kernel)⟩
theorem cd_M_failsAt : q_cd m_M_failsAt := ⟨by decide +kernel, List.mem_of_getElem? (i := 17) (by decide +kernel), Or.inl ⟨rfl, List.mem_of_getElem? (i := 1997) (by decide +kernel)⟩⟩
theorem cV_L_93 : q_CV "ProofHallLaw" 93 12 m_M_failsAt 1 := ⟨⟨cd_M_failsAt, by decide, by decide, by decide, by decide +kernel⟩, Or.inl (List.mem_of_getElem? (i := 1994) (by decide +kernel)), List.mem_of_getElem? (i := 1995) (by decide +kernel), _, _, _, rfl, List.mem_append_right _ (List.mem_of_getElem? (i := 1996) (by decide +kernel))⟩
theorem cd_L_least : q_cd m_L_least := ⟨by decide +kernel, List.mem_of_getElem? (i := 0) (by decide +kernel), Or.inr (List.mem_of_getElem? (i := 1404) (by decide +kernel))⟩
theorem cS_L_94 : q_CS "ProofHallLaw" 94 m_L_least 3 := ⟨⟨cd_L_least, by decide, by decide, by decide, by decide +kernel⟩, Or.inl (List.mem_of_getElem? (i := 1402) (by decide +kernel)), List.mem_of_getElem? (i := 1403) (by decide +kernel)⟩
theorem cd_M_least : q_cd m_M_least := ⟨by decide +kernel, List.mem_of_getElem? (i := 17) (by decide +kernel), Or.inl ⟨rfl, List.mem_of_getElem? (i := 2001) (by decide +kernel)⟩⟩
theorem cV_L_96 : q_CV "ProofHallLaw" 96 12 m_M_least 1 := ⟨⟨cd_M_least, by decide, by decide, by decide, by decide +kernel⟩, Or.inl (List.mem_of_getElem? (i := 1998) (by decide +kernel)), List.mem_of_getElem? (i := 1999) (by decide +kernel), _, _, _, rfl, List.mem_append_right _ (List.mem_of_getElem? (i := 2000) (by decide +kernel))⟩
theorem cd_L_greatest : q_cd m_L_greatest := ⟨by decide +kernel, List.mem_of_getElem? (i := 0) (by decide +kernel), Or.inr (List.mem_of_getElem? (i := 1429) (by decide +kernel))⟩
theorem cS_L_97 : q_CS "ProofHallLaw" 97 m_L_greatest 3 := ⟨⟨cd_L_greatest, by decide, by decide, by decide, by decide +kernel⟩, Or.inl (List.mem_of_getElem? (i := 1427) (by decide +kernel)), List.mem_of_getElem? (i := 1428) (by decide +kernel)⟩
theorem cd_M_greatest : q_cd m_M_greatest := ⟨by decide +kernel, List.mem_of_getElem? (i := 17) (by decide +kernel), Or.inl ⟨rfl, List.mem_of_getElem? (i := 2017) (by decide +kernel)⟩⟩
theorem cV_L_99 : q_CV "ProofHallLaw" 99 12 m_M_greatest 1 := ⟨⟨cd_M_greatest, by decide, by decide, by decide, by decide +kernel⟩, Or.inl (List.mem_of_getElem? (i := 2014) (by decide +kernel)), List.mem_of_getElem? (i := 2015) (by decide +kernel), _, _, _, rfl, List.mem_append_right _ (List.mem_of_getElem? (i := 2016) (by decide +kernel))⟩
theorem cd_L_differ : q_cd m_L_differ := ⟨by decide +kernel, List.mem_of_getElem? (i := 0) (by decide +kernel), Or.inr (List.mem_of_getElem? (i := 1436) (by decide +kernel))⟩
theorem cS_L_100 : q_CS "ProofHallLaw" 100 m_L_differ 4 := ⟨⟨cd_L_differ, by decide, by decide, by decide, by decide +kernel⟩, Or.inl (List.mem_of_getElem? (i := 1434) (by decide +kernel)), List.mem_of_getElem? (i := 1435) (by decide +kernel)⟩
theorem cd_M_differ : q_cd m_M_differ := ⟨by decide +kernel, List.mem_of_getElem? (i := 17) (by decide +kernel), Or.inl ⟨rfl, List.mem_of_getElem? (i := 2021) (by decide +kernel)⟩⟩
theorem cV_L_103 : q_CV "ProofHallLaw" 103 12 m_M_differ 2 := ⟨⟨cd_M_differ, by decide, by decide, by decide, by decide +kernel⟩, Or.inl (List.mem_of_getElem? (i := 2018) (by decide +kernel)), List.mem_of_getElem? (i := 2019) (by decide +kernel), _, _, _, rfl, List.mem_append_right _ (List.mem_of_getElem? (i := 2020) (by decide +kernel))⟩
theorem cd_L_can : q_cd m_L_can := ⟨by decide +kernel, List.mem_of_getElem? (i := 0) (by decide +kernel), Or.inr (List.mem_of_getElem? (i := 1448) (by decide +kernel))⟩
theorem cS_L_104 : q_CS "ProofHallLaw" 104 m_L_can 4 := ⟨⟨cd_L_can, by decide, by decide, by decide, by decide +kernel⟩, Or.inl (List.mem_of_getElem? (i := 1446) (by decide +kernel)), List.mem_of_getElem? (i := 1447) (by decide +kernel)⟩
theorem cd_M_can : q_cd m_M_can := ⟨by decide +kernel, List.mem_of_getElem? (i := 17) (by decide +kernel), Or.inl ⟨rfl, List.mem_of_getElem? (i := 2025) (by decide +kernel)⟩⟩
theorem cV_L_106 : q_CV "ProofHallLaw" 106 12 m_M_can 2 := ⟨⟨cd_M_can, by decide, by decide, by decide, by decide +kernel⟩, Or.inl (List.mem_of_getElem? (i := 2022) (by decide +kernel)), List.mem_of_getElem? (i := 2023) (by decide +kernel), _, _, _, rfl, List.mem_append_right _ (List.mem_of_getElem? (i := 2024) (by decide +kernel))⟩
theorem cd_L_ends : q_cd m_L_ends := ⟨by decide +kernel, List.mem_of_getElem? (i := 0) (by decide +kernel), Or.inr (List.mem_of_getElem? (i := 1459) (by decide +kernel))⟩
theorem cS_L_107 : q_CS "ProofHallLaw" 107 m_L_ends 2 := ⟨⟨cd_L_ends, by decide, by decide, by decide, by decide +kernel⟩, Or.inl (List.mem_of_getElem? (i := 1457) (by decide +kernel)), List.mem_of_getElem? (i := 1458) (by decide +kernel)⟩
theorem cd_M_ends : q_cd m_M_ends := ⟨by decide +kernel, List.mem_of_getElem? (i := 17) (by decide +kernel), Or.inl ⟨rfl, List.mem_of_getElem? (i := 2029) (by decide +kernel)⟩⟩
theorem cV_L_109 : q_CV "ProofHallLaw" 109 12 m_M_ends 0 := ⟨⟨cd_M_ends, by decide, by decide, by decide, by decide +kernel⟩, Or.inl (List.mem_of_getElem? (i := 2026) (by decide +kernel)), List.mem_of_getElem? (i := 2027) (by decide +kernel), _, _, _, rfl, List.mem_append_right _ (List.mem_of_getElem? (i := 2028) (by decide +kernel))⟩
theorem cd_L_witness : q_cd m_L_witness := ⟨by decide +kernel, List.mem_of_getElem? (i := 0) (by decide +kernel), Or.inr (List.mem_of_getElem? (i := 1474) (by decide +kernel))⟩
theorem cS_L_110 : q_CS "ProofHallLaw" 110 m_L_witness 3 := ⟨⟨cd_L_witness, by decide, by decide, by decide, by decide +kernel⟩, Or.inl (List.mem_of_getElem? (i := 1472) (by decide +kernel)), List.mem_of_getElem? (i := 1473) (by decide +kernel)⟩
theorem cd_M_witness : q_cd m_M_witness := ⟨by decide +kernel, List.mem_of_getElem? (i := 17) (by decide +kernel), Or.inl ⟨rfl, List.mem_of_getElem? (i := 2033) (by decide +kernel)⟩⟩
theorem cV_L_112 : q_CV "ProofHallLaw" 112 12 m_M_witness 1 := ⟨⟨cd_M_witness, by decide, by decide, by decide, by decide +kernel⟩, Or.inl (List.mem_of_getElem? (i := 2030) (by decide +kernel)), List.mem_of_getElem? (i := 2031) (by decide +kernel), _, _, _, rfl, List.mem_append_right _ (List.mem_of_getElem? (i := 2032) (by decide +kernel))⟩
theorem cd_L_set : q_cd m_L_set := ⟨by decide +kernel, List.mem_of_getElem? (i := 0) (by decide +kernel), Or.inr (List.mem_of_getElem? (i := 1481) (by decide +kernel))⟩
theorem cS_L_113 : q_CS "ProofHallLaw" 113 m_L_set 3 := ⟨⟨cd_L_set, by decide, by decide, by decide, by decide +kernel⟩, Or.inl (List.mem_of_getElem? (i := 1479) (by decide +kernel)), List.mem_of_getElem? (i := 1480) (by decide +kernel)⟩
theorem cd_M_set : q_cd m_M_set := ⟨by decide +kernel, List.mem_of_getElem? (i := 17) (by decide +kernel), Or.inl ⟨rfl, List.mem_of_getElem? (i := 2037) (by decide +kernel)⟩⟩
theorem cV_L_116 : q_CV "ProofHallLaw" 116 12 m_M_set 2 := ⟨⟨cd_M_set, by decide, by decide, by decide, by decide +kernel⟩, Or.inl (List.mem_of_getElem? (i := 2034) (by decide +kernel)), List.mem_of_getElem? (i := 2035) (by decide +kernel), _, _, _, rfl, List.mem_append_right _ (List.mem_of_getElem? (i := 2036) (by decide +kernel))⟩
theorem cd_L_take : q_cd m_L_take := ⟨by decide +kernel, List.mem_of_getElem? (i := 0) (by decide +kernel), Or.inr (List.mem_of_getElem? (i := 1489) (by decide +kernel))⟩
theorem cS_L_117 : q_CS "ProofHallLaw" 117 m_L_take 1 := ⟨⟨cd_L_take, by decide, by decide, by decide, by decide +kernel⟩, Or.inl (List.mem_of_getElem? (i := 1487) (by decide +kernel)), List.mem_of_getElem? (i := 1488) (by decide +kernel)⟩
theorem cd_M_take : q_cd m_M_take := ⟨by decide +kernel, List.mem_of_getElem? (i := 17) (by decide +kernel), Or.inl ⟨rfl, List.mem_of_getElem? (i := 2041) (by decide +kernel)⟩⟩
theorem cV_L_120 : q_CV "ProofHallLaw" 120 12 m_M_take 0 := ⟨⟨cd_M_take, by decide, by decide, by decide, by decide +kernel⟩, Or.inl (List.mem_of_getElem? (i := 2038) (by decide +kernel)), List.mem_of_getElem? (i := 2039) (by decide +kernel), _, _, _, rfl, List.mem_append_right _ (List.mem_of_getElem? (i := 2040) (by decide +kernel))⟩
theorem cd_L_run : q_cd m_L_run := ⟨by decide +kernel, List.mem_of_getElem? (i := 0) (by decide +kernel), Or.inr (List.mem_of_getElem? (i := 1497) (by decide +kernel))⟩
theorem cS_L_121 : q_CS "ProofHallLaw" 121 m_L_run 2 := ⟨⟨cd_L_run, by decide, by decide, by decide, by decide +kernel⟩, Or.inl (List.mem_of_getElem? (i := 1495) (by decide +kernel)), List.mem_of_getElem? (i := 1496) (by decide +kernel)⟩
theorem cd_M_run : q_cd m_M_run := ⟨by decide +kernel, List.mem_of_getElem? (i := 17) (by decide +kernel), Or.inl ⟨rfl, List.mem_of_getElem? (i := 2045) (by decide +kernel)⟩⟩
theorem cV_L_123 : q_CV "ProofHallLaw" 123 12 m_M_run 0 := ⟨⟨cd_M_run, by decide, by decide, by decide, by decide +kernel⟩, Or.inl (List.mem_of_getElem? (i := 2042) (by decide +kernel)), List.mem_of_getElem? (i := 2043) (by decide +kernel), _, _, _, rfl, List.mem_append_right _ (List.mem_of_getElem? (i := 2044) (by decide +kernel))⟩
theorem cd_L_value : q_cd m_L_value := ⟨by decide +kernel, List.mem_of_getElem? (i := 0) (by decide +kernel), Or.inr (List.mem_of_getElem? (i := 1505) (by decide +kernel))⟩
theorem cS_L_124 : q_CS "ProofHallLaw" 124 m_L_value 3 := ⟨⟨cd_L_value, by decide, by decide, by decide, by decide +kernel⟩, Or.inl (List.mem_of_getElem? (i := 1503) (by decide +kernel)), List.mem_of_getElem? (i := 1504) (by decide +kernel)⟩
theorem cd_M_value : q_cd m_M_value := ⟨by decide +kernel, List.mem_of_getElem? (i := 17) (by decide +kernel), Or.inl ⟨rfl, List.mem_of_getElem? (i := 2049) (by decide +kernel)⟩⟩
theorem cV_L_126 : q_CV "ProofHallLaw" 126 12 m_M_value 1 := ⟨⟨cd_M_value, by decide, by decide, by decide, by decide +kernel⟩, Or.inl (List.mem_of_getElem? (i := 2046) (by decide +kernel)), List.mem_of_getElem? (i := 2047) (by decide +kernel), _, _, _, rfl, List.mem_append_right _ (List.mem_of_getElem? (i := 2048) (by decide +kernel))⟩
theorem cd_H_count : q_cd m_H_count := ⟨by decide +kernel, List.mem_of_getElem? (i := 1) (by decide +kernel), Or.inl ⟨rfl, List.mem_of_getElem? (i := 653) (by decide +kernel)⟩⟩
theorem cV_L_127 : q_CV "ProofHallLaw" 127 0 m_H_count 1 := ⟨⟨cd_H_count, by decide, by decide, by decide, by decide +kernel⟩, Or.inl (List.mem_of_getElem? (i := 650) (by decide +kernel)), List.mem_of_getElem? (i := 651) (by decide +kernel), _, _, _, rfl, List.mem_append_right _ (List.mem_of_getElem? (i := 652) (by decide +kernel))⟩
theorem cd_M_count : q_cd m_M_count := ⟨by decide +kernel, List.mem_of_getElem? (i := 17) (by decide +kernel), Or.inl ⟨rfl, List.mem_of_getElem? (i := 2053) (by decide +kernel)⟩⟩
theorem cV_L_130 : q_CV "ProofHallLaw" 130 12 m_M_count 1 := ⟨⟨cd_M_count, by decide, by decide, by decide, by decide +kernel⟩, Or.inl (List.mem_of_getElem? (i := 2050) (by decide +kernel)), List.mem_of_getElem? (i := 2051) (by decide +kernel), _, _, _, rfl, List.mem_append_right _ (List.mem_of_getElem? (i := 2052) (by decide +kernel))⟩
/-! THE LAW: its beginning, its cases -/
section ScrJ
variable {ω : q_W} {μ : q_M} {d mc ms cs sl pc : Nat} {L : List (Nat × Value)} {st : List Value} {σ : q_H} {Q : q_R → q_H → Prop}
theorem q_scr {s : State} {H : Heap} (hr : q_rep ω σ H) (hs : q_sta ω s) : va_T .int (q_od ω 1000000) (q_sL ω) (fun j => .int (q_sx ω j)) (q_old ω) s H := by
  obtain ⟨cell, h1, h2, h3, h4, h5, h6, h7⟩ := hs.2.2.2.2.2.2.2.2.2
  exact ⟨cell, (hr.2.2.2 _ (Nat.not_lt.mp h7)).trans h1, h2, h3, h4, h5, h6, h7⟩
theorem j_scr {i : Int32} (j : Nat) (hd : decode μ.2.1 pc = .ok (.iaload, 1)) (hi : i = nI j) (hj : j < q_sL ω) (hn : q_sL ω ≤ 3072) (kk : J ω μ d mc ms cs sl (pc + 1) L (.int (q_sx ω j) :: st) σ Q) : J ω μ d mc ms cs sl pc L (.int i :: .ref 1000000 :: st) σ Q := by
  intro p l e R s m args below meth c H locs ls C hr hl hf
  obtain ⟨cell, h1, h2, h3, h4, h5, h6, h7⟩ := q_scr hr C.2.2.2.2.2.2.2.2.2.2.2.2.2
  have g0 : ¬ (i < 0 ∨ cell.slots.size ≤ i.toNatClampNeg) ∧ i.toNatClampNeg = j := by
    subst hi
    have e1 : (nI j).toNatClampNeg = j := nI_clamp (by omega)
    refine ⟨?_, e1⟩
    rw [e1]
    rintro (h | h)
    · exact nI_pos (by omega) h
    · omega
  exact W.iald (v := .int (q_sx ω j)) C.1 C.2.1 (by rw [q_ad_old (by decide)]; exact h1) h2 h3 g0.1 (by rw [g0.2]; exact h6 j hj) rfl rfl hd (kk p l e R s m args below meth c H locs ls C hr hl hf)
theorem j_scrL (hd : decode μ.2.1 pc = .ok (.arraylength, 1)) (kk : J ω μ d mc ms cs sl (pc + 1) L (.int (nI (q_sL ω)) :: st) σ Q) : J ω μ d mc ms cs sl pc L (.ref 1000000 :: st) σ Q := by
  intro p l e R s m args below meth c H locs ls C hr hl hf
  obtain ⟨cell, h1, h2, h3, h4, h5, h6, h7⟩ := q_scr hr C.2.2.2.2.2.2.2.2.2.2.2.2.2
  exact W.alen (n := nI (q_sL ω)) C.1 C.2.1 (by rw [q_ad_old (by decide)]; exact h1) h2 h5 rfl rfl hd (kk p l e R s m args below meth c H locs ls C hr hl hf)
theorem j_deep {d' : Nat} (h : d ≤ d') (kk : J ω μ d mc ms cs sl pc L st σ Q) : J ω μ d' mc ms cs sl pc L st σ Q := by
  intro p l e R s m args below meth c H locs ls C hr hl hf
  obtain ⟨c1, c2, c3, c4, c5, c6, c7, c8, c9, c10, ⟨c11, c12, c13⟩, c14⟩ := C
  exact kk p l e R s m args below meth c H locs ls ⟨c1, c2, c3, c4, c5, c6, c7, c8, c9, c10, ⟨Nat.le_trans h c11, Nat.le_trans (Nat.mul_le_mul_left 40 h) c12, c13⟩, c14⟩ hr hl hf
end ScrJ
/-- class and reference answer alike: first the wrapper's call, then the reference's -/
def q_okI (A : (q_R → q_H → Prop) → Prop) (B : q_H → (q_R → q_H → Prop) → Prop) (P : q_H → Prop) : Prop :=
  A (fun r τ => ∃ k : Int32, r = .inl (some (.int k)) ∧ q_E τ ∧ B τ (fun r2 τ2 => ∃ bv : Int32, r2 = .inl (some (.int bv)) ∧ q_E τ2 ∧ q_i τ2 94 0 = k ∧ (k = 0 → q_l τ2 132 0 = bv.toInt64) ∧ P τ2))
def q_okV (A : (q_R → q_H → Prop) → Prop) (B : q_H → (q_R → q_H → Prop) → Prop) (P : q_H → Prop) : Prop :=
  A (fun r τ => ∃ k : Int32, r = .inl (some (.int k)) ∧ q_E τ ∧ B τ (fun r2 τ2 => r2 = .inl none ∧ q_E τ2 ∧ q_i τ2 94 0 = k ∧ P τ2))
def q_okC (A : (q_R → q_H → Prop) → Prop) (B : q_H → (q_R → q_H → Prop) → Prop) (P : q_H → Prop) : Prop :=
  A (fun r τ => ∃ k : Int32, r = .inl (some (.int k)) ∧ q_E τ ∧ B τ (fun r2 τ2 => r2 = .inl (some (.int k)) ∧ q_E τ2 ∧ P τ2))
theorem q_cmp0 (x : Int64) : lg_cmp x x = 0 := by simp [lg_cmp]
set_option maxHeartbeats 1000000 in
theorem lw_feed {ω : q_W} {σ : q_H} {cs sl j : Nat} {Q : q_R → q_H → Prop} {P : q_H → Prop} (hE : q_E σ) (hi : j + 6 ≤ q_sL ω) (hL : q_sL ω ≤ 3072) (hc : cs + 1 ≤ 600002) (hs : sl + 6 ≤ 7302232)
    (ok : q_okI (fun Qx => J ω m_L_feed 2000 1 6 0 0 0 [(0, .ref 1), (1, .int (q_sx ω (j + 1))), (2, .int (q_sx ω (j + 2))), (3, .int (q_sx ω (j + 3))), (4, .int (q_sx ω (j + 4))), (5, .int (q_sx ω (j + 5))), (6, .ref 132)] [] σ Qx) (fun τ Qx => J ω m_M_feed 2000 0 0 0 0 0 [(0, .ref 94), (1, .int (q_sx ω (j + 1))), (2, .int (q_sx ω (j + 2))), (3, .int (q_sx ω (j + 3))), (4, .int (q_sx ω (j + 4))), (5, .int (q_sx ω (j + 5)))] [] τ Qx) P)
    (next : ∀ τ, q_E τ → P τ → J ω m_law 2048 600002 7302232 (cs + 1) (sl + 6) 969 [(4, .int (nI j)), (3, .ref 132), (2, .ref 94), (1, .ref 1), (0, .ref 1000000)] [] τ Q) : J ω m_law 2048 600002 7302232 cs sl 120 [(4, .int (nI j)), (3, .ref 132), (2, .ref 94), (1, .ref 1), (0, .ref 1000000)] [] σ Q := by
  refine j_aload_n d_law_120 3 rfl ?_
  refine j_aload_n d_law_121 4 rfl ?_
  refine j_iload d_law_122 0 rfl ?_
  refine j_iconst (v := 1) d_law_124 (by decide) ?_
  refine j_iadd d_law_125 ?_
  refine j_topE (v := nI (j + 1)) (nI_add j 1) ?_
  refine j_scr (j + 1) d_law_126 rfl (by omega) hL ?_
  refine j_aload_n d_law_127 4 rfl ?_
  refine j_iload d_law_128 0 rfl ?_
  refine j_iconst (v := 2) d_law_130 (by decide) ?_
  refine j_iadd d_law_131 ?_
  refine j_topE (v := nI (j + 2)) (nI_add j 2) ?_
  refine j_scr (j + 2) d_law_132 rfl (by omega) hL ?_
  refine j_aload_n d_law_133 4 rfl ?_
  refine j_iload d_law_134 0 rfl ?_
  refine j_iconst (v := 3) d_law_136 (by decide) ?_
  refine j_iadd d_law_137 ?_
  refine j_topE (v := nI (j + 3)) (nI_add j 3) ?_
  refine j_scr (j + 3) d_law_138 rfl (by omega) hL ?_
  refine j_aload_n d_law_139 4 rfl ?_
  refine j_iload d_law_140 0 rfl ?_
  refine j_iconst (v := 4) d_law_142 (by decide) ?_
  refine j_iadd d_law_143 ?_
  refine j_topE (v := nI (j + 4)) (nI_add j 4) ?_
  refine j_scr (j + 4) d_law_144 rfl (by omega) hL ?_
  refine j_aload_n d_law_145 4 rfl ?_
  refine j_iload d_law_146 0 rfl ?_
  refine j_iconst (v := 5) d_law_148 (by decide) ?_
  refine j_iadd d_law_149 ?_
  refine j_topE (v := nI (j + 5)) (nI_add j 5) ?_
  refine j_scr (j + 5) d_law_150 rfl (by omega) hL ?_
  refine j_aload_n d_law_151 1 rfl ?_
  refine j_callS m_L_feed [.ref 1, .int (q_sx ω (j + 1)), .int (q_sx ω (j + 2)), .int (q_sx ω (j + 3)), .int (q_sx ω (j + 4)), .int (q_sx ω (j + 5)), .ref 132] [] 2000 1 6 cS_L_71 d_law_152 rfl rfl (by decide) (by decide) (Nat.le_of_ble_eq_true rfl) (by omega) (by omega) ok (fun v τ h => ?_) (fun x τ h => ?_)
  rotate_left
  · obtain ⟨k, h1, -⟩ := h; cases h1
  obtain ⟨k, h1, hE1, h⟩ := h
  cases h1
  refine j_istore (L' := [(5, .int k), (4, .int (nI j)), (3, .ref 132), (2, .ref 94), (1, .ref 1), (0, .ref 1000000)]) d_law_155 (by decide) rfl ?_
  refine j_aload_n d_law_157 3 rfl ?_
  refine j_aload_n d_law_158 5 rfl ?_
  refine j_iload d_law_159 1 rfl ?_
  refine j_iconst (v := 1) d_law_161 (by decide) ?_
  refine j_iadd d_law_162 ?_
  refine j_topE (v := nI (j + 1)) (nI_add j 1) ?_
  refine j_scr (j + 1) d_law_163 rfl (by omega) hL ?_
  refine j_aload_n d_law_164 5 rfl ?_
  refine j_iload d_law_165 1 rfl ?_
  refine j_iconst (v := 2) d_law_167 (by decide) ?_
  refine j_iadd d_law_168 ?_
  refine j_topE (v := nI (j + 2)) (nI_add j 2) ?_
  refine j_scr (j + 2) d_law_169 rfl (by omega) hL ?_
  refine j_aload_n d_law_170 5 rfl ?_
  refine j_iload d_law_171 1 rfl ?_
  refine j_iconst (v := 3) d_law_173 (by decide) ?_
  refine j_iadd d_law_174 ?_
  refine j_topE (v := nI (j + 3)) (nI_add j 3) ?_
  refine j_scr (j + 3) d_law_175 rfl (by omega) hL ?_
  refine j_aload_n d_law_176 5 rfl ?_
  refine j_iload d_law_177 1 rfl ?_
  refine j_iconst (v := 4) d_law_179 (by decide) ?_
  refine j_iadd d_law_180 ?_
  refine j_topE (v := nI (j + 4)) (nI_add j 4) ?_
  refine j_scr (j + 4) d_law_181 rfl (by omega) hL ?_
  refine j_aload_n d_law_182 5 rfl ?_
  refine j_iload d_law_183 1 rfl ?_
  refine j_iconst (v := 5) d_law_185 (by decide) ?_
  refine j_iadd d_law_186 ?_
  refine j_topE (v := nI (j + 5)) (nI_add j 5) ?_
  refine j_scr (j + 5) d_law_187 rfl (by omega) hL ?_
  refine j_callV m_M_feed [.int (q_sx ω (j + 1)), .int (q_sx ω (j + 2)), .int (q_sx ω (j + 3)), .int (q_sx ω (j + 4)), .int (q_sx ω (j + 5))] [] 2000 0 0 cV_L_76 d_law_188 rfl rfl (tg_94 hE1) (q_okE hE1 (by decide)) (Nat.le_of_ble_eq_true rfl) (by decide) (Nat.le_of_ble_eq_true rfl) (by omega) (by omega) h (fun v τ2 h => ?_) (fun x τ2 h => ?_)
  rotate_left
  · obtain ⟨bv, h1, -⟩ := h; cases h1
  obtain ⟨bv, h1, hE2, hth, ho, hP⟩ := h
  cases h1
  refine j_istore (L' := [(6, .int bv), (5, .int k), (4, .int (nI j)), (3, .ref 132), (2, .ref 94), (1, .ref 1), (0, .ref 1000000)]) d_law_191 (by decide) rfl ?_
  refine j_aload_n d_law_193 4 rfl ?_
  refine j_callV m_M_thrown [] [] 0 0 0 cV_L_77 d_law_194 rfl rfl (tg_94 hE2) (q_okE hE2 (by decide)) (Nat.le_of_ble_eq_true rfl) (by decide) (Nat.le_of_ble_eq_true rfl) (by omega) (by omega) (c_M_thrown hE2 hth) (fun v τ3 h => ?_) (fun x τ3 h => absurd h.1 (by simp))
  obtain ⟨h1, hτ⟩ := h
  cases h1
  rw [hτ]
  refine j_iload d_law_197 1 rfl ?_
  refine j_icmp_eq 204 d_law_199 (by decide) (fun _ => ?_) (fun h => absurd rfl h)
  refine j_iload d_law_204 1 rfl ?_
  by_cases hk : k = 0
  · refine j_if_ne 221 d_law_206 (by decide) (fun h => absurd hk h) (fun _ => ?_)
    refine j_aload_n d_law_209 3 rfl ?_
    refine j_iconst (v := 0) d_law_210 (by decide) ?_
    refine j_lald 0 d_law_211 (tg_132 hE2) (q_okE hE2 (by decide)) rfl (by decide) (by decide) ?_
    refine j_iload d_law_212 0 rfl ?_
    refine j_i2l d_law_214 ?_
    refine j_lcmp d_law_215 ?_
    rw [ho hk, q_cmp0]
    refine j_if_eq 221 d_law_216 (by decide) (fun _ => ?_) (fun h => absurd rfl h)
    refine j_goto 969 d_law_221 (by decide) ?_
    refine j_pick [2, 3, 4, 5, 6] rfl ?_
    exact j_widen (by omega) (by omega) (next τ2 hE2 hP)
  · refine j_if_ne 221 d_law_206 (by decide) (fun _ => ?_) (fun h => absurd h hk)
    refine j_goto 969 d_law_221 (by decide) ?_
    refine j_pick [2, 3, 4, 5, 6] rfl ?_
    exact j_widen (by omega) (by omega) (next τ2 hE2 hP)
set_option maxHeartbeats 1000000 in
theorem lw_end {ω : q_W} {σ : q_H} {cs sl j : Nat} {Q : q_R → q_H → Prop} {P : q_H → Prop} (hE : q_E σ) (hi : j + 6 ≤ q_sL ω) (hL : q_sL ω ≤ 3072) (hc : cs + 1 ≤ 600002) (hs : sl + 6 ≤ 7302232)
    (ok : q_okI (fun Qx => J ω m_L_end 2000 1 6 0 0 0 [(0, .ref 1), (1, .int (q_sx ω (j + 1))), (2, .ref 132)] [] σ Qx) (fun τ Qx => J ω m_M_end 2000 0 0 0 0 0 [(0, .ref 94), (1, .int (q_sx ω (j + 1)))] [] τ Qx) P)
    (next : ∀ τ, q_E τ → P τ → J ω m_law 2048 600002 7302232 (cs + 1) (sl + 6) 969 [(4, .int (nI j)), (3, .ref 132), (2, .ref 94), (1, .ref 1), (0, .ref 1000000)] [] τ Q) : J ω m_law 2048 600002 7302232 cs sl 224 [(4, .int (nI j)), (3, .ref 132), (2, .ref 94), (1, .ref 1), (0, .ref 1000000)] [] σ Q := by
  refine j_aload_n d_law_224 3 rfl ?_
  refine j_aload_n d_law_225 4 rfl ?_
  refine j_iload d_law_226 0 rfl ?_
  refine j_iconst (v := 1) d_law_228 (by decide) ?_
  refine j_iadd d_law_229 ?_
  refine j_topE (v := nI (j + 1)) (nI_add j 1) ?_
  refine j_scr (j + 1) d_law_230 rfl (by omega) hL ?_
  refine j_aload_n d_law_231 1 rfl ?_
  refine j_callS m_L_end [.ref 1, .int (q_sx ω (j + 1)), .ref 132] [] 2000 1 6 cS_L_80 d_law_232 rfl rfl (by decide) (by decide) (Nat.le_of_ble_eq_true rfl) (by omega) (by omega) ok (fun v τ h => ?_) (fun x τ h => ?_)
  rotate_left
  · obtain ⟨k, h1, -⟩ := h; cases h1
  obtain ⟨k, h1, hE1, h⟩ := h
  cases h1
  refine j_istore (L' := [(5, .int k), (4, .int (nI j)), (3, .ref 132), (2, .ref 94), (1, .ref 1), (0, .ref 1000000)]) d_law_235 (by decide) rfl ?_
  refine j_aload_n d_law_237 3 rfl ?_
  refine j_aload_n d_law_238 5 rfl ?_
  refine j_iload d_law_239 1 rfl ?_
  refine j_iconst (v := 1) d_law_241 (by decide) ?_
  refine j_iadd d_law_242 ?_
  refine j_topE (v := nI (j + 1)) (nI_add j 1) ?_
  refine j_scr (j + 1) d_law_243 rfl (by omega) hL ?_
  refine j_callV m_M_end [.int (q_sx ω (j + 1))] [] 2000 0 0 cV_L_83 d_law_244 rfl rfl (tg_94 hE1) (q_okE hE1 (by decide)) (Nat.le_of_ble_eq_true rfl) (by decide) (Nat.le_of_ble_eq_true rfl) (by omega) (by omega) h (fun v τ2 h => ?_) (fun x τ2 h => ?_)
  rotate_left
  · obtain ⟨bv, h1, -⟩ := h; cases h1
  obtain ⟨bv, h1, hE2, hth, ho, hP⟩ := h
  cases h1
  refine j_istore (L' := [(6, .int bv), (5, .int k), (4, .int (nI j)), (3, .ref 132), (2, .ref 94), (1, .ref 1), (0, .ref 1000000)]) d_law_247 (by decide) rfl ?_
  refine j_aload_n d_law_249 4 rfl ?_
  refine j_callV m_M_thrown [] [] 0 0 0 cV_L_77 d_law_250 rfl rfl (tg_94 hE2) (q_okE hE2 (by decide)) (Nat.le_of_ble_eq_true rfl) (by decide) (Nat.le_of_ble_eq_true rfl) (by omega) (by omega) (c_M_thrown hE2 hth) (fun v τ3 h => ?_) (fun x τ3 h => absurd h.1 (by simp))
  obtain ⟨h1, hτ⟩ := h
  cases h1
  rw [hτ]
  refine j_iload d_law_253 1 rfl ?_
  refine j_icmp_eq 260 d_law_255 (by decide) (fun _ => ?_) (fun h => absurd rfl h)
  refine j_iload d_law_260 1 rfl ?_
  by_cases hk : k = 0
  · refine j_if_ne 277 d_law_262 (by decide) (fun h => absurd hk h) (fun _ => ?_)
    refine j_aload_n d_law_265 3 rfl ?_
    refine j_iconst (v := 0) d_law_266 (by decide) ?_
    refine j_lald 0 d_law_267 (tg_132 hE2) (q_okE hE2 (by decide)) rfl (by decide) (by decide) ?_
    refine j_iload d_law_268 0 rfl ?_
    refine j_i2l d_law_270 ?_
    refine j_lcmp d_law_271 ?_
    rw [ho hk, q_cmp0]
    refine j_if_eq 277 d_law_272 (by decide) (fun _ => ?_) (fun h => absurd rfl h)
    refine j_goto 969 d_law_277 (by decide) ?_
    refine j_pick [2, 3, 4, 5, 6] rfl ?_
    exact j_widen (by omega) (by omega) (next τ2 hE2 hP)
  · refine j_if_ne 277 d_law_262 (by decide) (fun _ => ?_) (fun h => absurd h hk)
    refine j_goto 969 d_law_277 (by decide) ?_
    refine j_pick [2, 3, 4, 5, 6] rfl ?_
    exact j_widen (by omega) (by omega) (next τ2 hE2 hP)
set_option maxHeartbeats 1000000 in
theorem lw_build {ω : q_W} {σ : q_H} {cs sl j : Nat} {Q : q_R → q_H → Prop} {P : q_H → Prop} (hE : q_E σ) (hi : j + 6 ≤ q_sL ω) (hL : q_sL ω ≤ 3072) (hc : cs + 1 ≤ 600002) (hs : sl + 6 ≤ 7302232)
    (ok : q_okI (fun Qx => J ω m_L_build 2000 1 6 0 0 0 [(0, .ref 1), (1, .ref 132)] [] σ Qx) (fun τ Qx => J ω m_M_build 2000 0 0 0 0 0 [(0, .ref 94)] [] τ Qx) P)
    (next : ∀ τ, q_E τ → P τ → J ω m_law 2048 600002 7302232 (cs + 1) (sl + 6) 969 [(4, .int (nI j)), (3, .ref 132), (2, .ref 94), (1, .ref 1), (0, .ref 1000000)] [] τ Q) : J ω m_law 2048 600002 7302232 cs sl 280 [(4, .int (nI j)), (3, .ref 132), (2, .ref 94), (1, .ref 1), (0, .ref 1000000)] [] σ Q := by
  refine j_aload_n d_law_280 3 rfl ?_
  refine j_aload_n d_law_281 1 rfl ?_
  refine j_callS m_L_build [.ref 1, .ref 132] [] 2000 1 6 cS_L_84 d_law_282 rfl rfl (by decide) (by decide) (Nat.le_of_ble_eq_true rfl) (by omega) (by omega) ok (fun v τ h => ?_) (fun x τ h => ?_)
  rotate_left
  · obtain ⟨k, h1, -⟩ := h; cases h1
  obtain ⟨k, h1, hE1, h⟩ := h
  cases h1
  refine j_istore (L' := [(5, .int k), (4, .int (nI j)), (3, .ref 132), (2, .ref 94), (1, .ref 1), (0, .ref 1000000)]) d_law_285 (by decide) rfl ?_
  refine j_aload_n d_law_287 3 rfl ?_
  refine j_callV m_M_build [] [] 2000 0 0 cV_L_87 d_law_288 rfl rfl (tg_94 hE1) (q_okE hE1 (by decide)) (Nat.le_of_ble_eq_true rfl) (by decide) (Nat.le_of_ble_eq_true rfl) (by omega) (by omega) h (fun v τ2 h => ?_) (fun x τ2 h => ?_)
  rotate_left
  · obtain ⟨bv, h1, -⟩ := h; cases h1
  obtain ⟨bv, h1, hE2, hth, ho, hP⟩ := h
  cases h1
  refine j_istore (L' := [(6, .int bv), (5, .int k), (4, .int (nI j)), (3, .ref 132), (2, .ref 94), (1, .ref 1), (0, .ref 1000000)]) d_law_291 (by decide) rfl ?_
  refine j_aload_n d_law_293 4 rfl ?_
  refine j_callV m_M_thrown [] [] 0 0 0 cV_L_77 d_law_294 rfl rfl (tg_94 hE2) (q_okE hE2 (by decide)) (Nat.le_of_ble_eq_true rfl) (by decide) (Nat.le_of_ble_eq_true rfl) (by omega) (by omega) (c_M_thrown hE2 hth) (fun v τ3 h => ?_) (fun x τ3 h => absurd h.1 (by simp))
  obtain ⟨h1, hτ⟩ := h
  cases h1
  rw [hτ]
  refine j_iload d_law_297 1 rfl ?_
  refine j_icmp_eq 304 d_law_299 (by decide) (fun _ => ?_) (fun h => absurd rfl h)
  refine j_iload d_law_304 1 rfl ?_
  by_cases hk : k = 0
  · refine j_if_ne 321 d_law_306 (by decide) (fun h => absurd hk h) (fun _ => ?_)
    refine j_aload_n d_law_309 3 rfl ?_
    refine j_iconst (v := 0) d_law_310 (by decide) ?_
    refine j_lald 0 d_law_311 (tg_132 hE2) (q_okE hE2 (by decide)) rfl (by decide) (by decide) ?_
    refine j_iload d_law_312 0 rfl ?_
    refine j_i2l d_law_314 ?_
    refine j_lcmp d_law_315 ?_
    rw [ho hk, q_cmp0]
    refine j_if_eq 321 d_law_316 (by decide) (fun _ => ?_) (fun h => absurd rfl h)
    refine j_goto 969 d_law_321 (by decide) ?_
    refine j_pick [2, 3, 4, 5, 6] rfl ?_
    exact j_widen (by omega) (by omega) (next τ2 hE2 hP)
  · refine j_if_ne 321 d_law_306 (by decide) (fun _ => ?_) (fun h => absurd h hk)
    refine j_goto 969 d_law_321 (by decide) ?_
    refine j_pick [2, 3, 4, 5, 6] rfl ?_
    exact j_widen (by omega) (by omega) (next τ2 hE2 hP)
set_option maxHeartbeats 1000000 in
theorem lw_fails {ω : q_W} {σ : q_H} {cs sl j : Nat} {Q : q_R → q_H → Prop} {P : q_H → Prop} (hE : q_E σ) (hi : j + 6 ≤ q_sL ω) (hL : q_sL ω ≤ 3072) (hc : cs + 1 ≤ 600002) (hs : sl + 6 ≤ 7302232)
    (ok : q_okI (fun Qx => J ω m_L_fails 2000 1 6 0 0 0 [(0, .ref 1), (1, .ref 132)] [] σ Qx) (fun τ Qx => J ω m_M_fails 2000 0 0 0 0 0 [(0, .ref 94)] [] τ Qx) P)
    (next : ∀ τ, q_E τ → P τ → J ω m_law 2048 600002 7302232 (cs + 1) (sl + 6) 969 [(4, .int (nI j)), (3, .ref 132), (2, .ref 94), (1, .ref 1), (0, .ref 1000000)] [] τ Q) : J ω m_law 2048 600002 7302232 cs sl 324 [(4, .int (nI j)), (3, .ref 132), (2, .ref 94), (1, .ref 1), (0, .ref 1000000)] [] σ Q := by
  refine j_aload_n d_law_324 3 rfl ?_
  refine j_aload_n d_law_325 1 rfl ?_
  refine j_callS m_L_fails [.ref 1, .ref 132] [] 2000 1 6 cS_L_88 d_law_326 rfl rfl (by decide) (by decide) (Nat.le_of_ble_eq_true rfl) (by omega) (by omega) ok (fun v τ h => ?_) (fun x τ h => ?_)
  rotate_left
  · obtain ⟨k, h1, -⟩ := h; cases h1
  obtain ⟨k, h1, hE1, h⟩ := h
  cases h1
  refine j_istore (L' := [(5, .int k), (4, .int (nI j)), (3, .ref 132), (2, .ref 94), (1, .ref 1), (0, .ref 1000000)]) d_law_329 (by decide) rfl ?_
  refine j_aload_n d_law_331 3 rfl ?_
  refine j_callV m_M_fails [] [] 2000 0 0 cV_L_90 d_law_332 rfl rfl (tg_94 hE1) (q_okE hE1 (by decide)) (Nat.le_of_ble_eq_true rfl) (by decide) (Nat.le_of_ble_eq_true rfl) (by omega) (by omega) h (fun v τ2 h => ?_) (fun x τ2 h => ?_)
  rotate_left
  · obtain ⟨bv, h1, -⟩ := h; cases h1
  obtain ⟨bv, h1, hE2, hth, ho, hP⟩ := h
  cases h1
  refine j_istore (L' := [(6, .int bv), (5, .int k), (4, .int (nI j)), (3, .ref 132), (2, .ref 94), (1, .ref 1), (0, .ref 1000000)]) d_law_335 (by decide) rfl ?_
  refine j_aload_n d_law_337 4 rfl ?_
  refine j_callV m_M_thrown [] [] 0 0 0 cV_L_77 d_law_338 rfl rfl (tg_94 hE2) (q_okE hE2 (by decide)) (Nat.le_of_ble_eq_true rfl) (by decide) (Nat.le_of_ble_eq_true rfl) (by omega) (by omega) (c_M_thrown hE2 hth) (fun v τ3 h => ?_) (fun x τ3 h => absurd h.1 (by simp))
  obtain ⟨h1, hτ⟩ := h
  cases h1
  rw [hτ]
  refine j_iload d_law_341 1 rfl ?_
  refine j_icmp_eq 348 d_law_343 (by decide) (fun _ => ?_) (fun h => absurd rfl h)
  refine j_iload d_law_348 1 rfl ?_
  by_cases hk : k = 0
  · refine j_if_ne 365 d_law_350 (by decide) (fun h => absurd hk h) (fun _ => ?_)
    refine j_aload_n d_law_353 3 rfl ?_
    refine j_iconst (v := 0) d_law_354 (by decide) ?_
    refine j_lald 0 d_law_355 (tg_132 hE2) (q_okE hE2 (by decide)) rfl (by decide) (by decide) ?_
    refine j_iload d_law_356 0 rfl ?_
    refine j_i2l d_law_358 ?_
    refine j_lcmp d_law_359 ?_
    rw [ho hk, q_cmp0]
    refine j_if_eq 365 d_law_360 (by decide) (fun _ => ?_) (fun h => absurd rfl h)
    refine j_goto 969 d_law_365 (by decide) ?_
    refine j_pick [2, 3, 4, 5, 6] rfl ?_
    exact j_widen (by omega) (by omega) (next τ2 hE2 hP)
  · refine j_if_ne 365 d_law_350 (by decide) (fun _ => ?_) (fun h => absurd h hk)
    refine j_goto 969 d_law_365 (by decide) ?_
    refine j_pick [2, 3, 4, 5, 6] rfl ?_
    exact j_widen (by omega) (by omega) (next τ2 hE2 hP)
set_option maxHeartbeats 1000000 in
theorem lw_failsAt {ω : q_W} {σ : q_H} {cs sl j : Nat} {Q : q_R → q_H → Prop} {P : q_H → Prop} (hE : q_E σ) (hi : j + 6 ≤ q_sL ω) (hL : q_sL ω ≤ 3072) (hc : cs + 1 ≤ 600002) (hs : sl + 6 ≤ 7302232)
    (ok : q_okI (fun Qx => J ω m_L_failsAt 2000 1 6 0 0 0 [(0, .ref 1), (1, .int (q_sx ω (j + 1))), (2, .ref 132)] [] σ Qx) (fun τ Qx => J ω m_M_failsAt 2000 0 0 0 0 0 [(0, .ref 94), (1, .int (q_sx ω (j + 1)))] [] τ Qx) P)
    (next : ∀ τ, q_E τ → P τ → J ω m_law 2048 600002 7302232 (cs + 1) (sl + 6) 969 [(4, .int (nI j)), (3, .ref 132), (2, .ref 94), (1, .ref 1), (0, .ref 1000000)] [] τ Q) : J ω m_law 2048 600002 7302232 cs sl 368 [(4, .int (nI j)), (3, .ref 132), (2, .ref 94), (1, .ref 1), (0, .ref 1000000)] [] σ Q := by
  refine j_aload_n d_law_368 3 rfl ?_
  refine j_aload_n d_law_369 4 rfl ?_
  refine j_iload d_law_370 0 rfl ?_
  refine j_iconst (v := 1) d_law_372 (by decide) ?_
  refine j_iadd d_law_373 ?_
  refine j_topE (v := nI (j + 1)) (nI_add j 1) ?_
  refine j_scr (j + 1) d_law_374 rfl (by omega) hL ?_
  refine j_aload_n d_law_375 1 rfl ?_
  refine j_callS m_L_failsAt [.ref 1, .int (q_sx ω (j + 1)), .ref 132] [] 2000 1 6 cS_L_91 d_law_376 rfl rfl (by decide) (by decide) (Nat.le_of_ble_eq_true rfl) (by omega) (by omega) ok (fun v τ h => ?_) (fun x τ h => ?_)
  rotate_left
  · obtain ⟨k, h1, -⟩ := h; cases h1
  obtain ⟨k, h1, hE1, h⟩ := h
  cases h1
  refine j_istore (L' := [(5, .int k), (4, .int (nI j)), (3, .ref 132), (2, .ref 94), (1, .ref 1), (0, .ref 1000000)]) d_law_379 (by decide) rfl ?_
  refine j_aload_n d_law_381 3 rfl ?_
  refine j_aload_n d_law_382 5 rfl ?_
  refine j_iload d_law_383 1 rfl ?_
  refine j_iconst (v := 1) d_law_385 (by decide) ?_
  refine j_iadd d_law_386 ?_
  refine j_topE (v := nI (j + 1)) (nI_add j 1) ?_
  refine j_scr (j + 1) d_law_387 rfl (by omega) hL ?_
  refine j_callV m_M_failsAt [.int (q_sx ω (j + 1))] [] 2000 0 0 cV_L_93 d_law_388 rfl rfl (tg_94 hE1) (q_okE hE1 (by decide)) (Nat.le_of_ble_eq_true rfl) (by decide) (Nat.le_of_ble_eq_true rfl) (by omega) (by omega) h (fun v τ2 h => ?_) (fun x τ2 h => ?_)
  rotate_left
  · obtain ⟨bv, h1, -⟩ := h; cases h1
  obtain ⟨bv, h1, hE2, hth, ho, hP⟩ := h
  cases h1
  refine j_istore (L' := [(6, .int bv), (5, .int k), (4, .int (nI j)), (3, .ref 132), (2, .ref 94), (1, .ref 1), (0, .ref 1000000)]) d_law_391 (by decide) rfl ?_
  refine j_aload_n d_law_393 4 rfl ?_
  refine j_callV m_M_thrown [] [] 0 0 0 cV_L_77 d_law_394 rfl rfl (tg_94 hE2) (q_okE hE2 (by decide)) (Nat.le_of_ble_eq_true rfl) (by decide) (Nat.le_of_ble_eq_true rfl) (by omega) (by omega) (c_M_thrown hE2 hth) (fun v τ3 h => ?_) (fun x τ3 h => absurd h.1 (by simp))
  obtain ⟨h1, hτ⟩ := h
  cases h1
  rw [hτ]
  refine j_iload d_law_397 1 rfl ?_
  refine j_icmp_eq 404 d_law_399 (by decide) (fun _ => ?_) (fun h => absurd rfl h)
  refine j_iload d_law_404 1 rfl ?_
  by_cases hk : k = 0
  · refine j_if_ne 421 d_law_406 (by decide) (fun h => absurd hk h) (fun _ => ?_)
    refine j_aload_n d_law_409 3 rfl ?_
    refine j_iconst (v := 0) d_law_410 (by decide) ?_
    refine j_lald 0 d_law_411 (tg_132 hE2) (q_okE hE2 (by decide)) rfl (by decide) (by decide) ?_
    refine j_iload d_law_412 0 rfl ?_
    refine j_i2l d_law_414 ?_
    refine j_lcmp d_law_415 ?_
    rw [ho hk, q_cmp0]
    refine j_if_eq 421 d_law_416 (by decide) (fun _ => ?_) (fun h => absurd rfl h)
    refine j_goto 969 d_law_421 (by decide) ?_
    refine j_pick [2, 3, 4, 5, 6] rfl ?_
    exact j_widen (by omega) (by omega) (next τ2 hE2 hP)
  · refine j_if_ne 421 d_law_406 (by decide) (fun _ => ?_) (fun h => absurd h hk)
    refine j_goto 969 d_law_421 (by decide) ?_
    refine j_pick [2, 3, 4, 5, 6] rfl ?_
    exact j_widen (by omega) (by omega) (next τ2 hE2 hP)
set_option maxHeartbeats 1000000 in
theorem lw_least {ω : q_W} {σ : q_H} {cs sl j : Nat} {Q : q_R → q_H → Prop} {P : q_H → Prop} (hE : q_E σ) (hi : j + 6 ≤ q_sL ω) (hL : q_sL ω ≤ 3072) (hc : cs + 1 ≤ 600002) (hs : sl + 6 ≤ 7302232)
    (ok : q_okI (fun Qx => J ω m_L_least 2000 1 6 0 0 0 [(0, .ref 1), (1, .int (q_sx ω (j + 1))), (2, .ref 132)] [] σ Qx) (fun τ Qx => J ω m_M_least 2000 0 0 0 0 0 [(0, .ref 94), (1, .int (q_sx ω (j + 1)))] [] τ Qx) P)
    (next : ∀ τ, q_E τ → P τ → J ω m_law 2048 600002 7302232 (cs + 1) (sl + 6) 969 [(4, .int (nI j)), (3, .ref 132), (2, .ref 94), (1, .ref 1), (0, .ref 1000000)] [] τ Q) : J ω m_law 2048 600002 7302232 cs sl 424 [(4, .int (nI j)), (3, .ref 132), (2, .ref 94), (1, .ref 1), (0, .ref 1000000)] [] σ Q := by
  refine j_aload_n d_law_424 3 rfl ?_
  refine j_aload_n d_law_425 4 rfl ?_
  refine j_iload d_law_426 0 rfl ?_
  refine j_iconst (v := 1) d_law_428 (by decide) ?_
  refine j_iadd d_law_429 ?_
  refine j_topE (v := nI (j + 1)) (nI_add j 1) ?_
  refine j_scr (j + 1) d_law_430 rfl (by omega) hL ?_
  refine j_aload_n d_law_431 1 rfl ?_
  refine j_callS m_L_least [.ref 1, .int (q_sx ω (j + 1)), .ref 132] [] 2000 1 6 cS_L_94 d_law_432 rfl rfl (by decide) (by decide) (Nat.le_of_ble_eq_true rfl) (by omega) (by omega) ok (fun v τ h => ?_) (fun x τ h => ?_)
  rotate_left
  · obtain ⟨k, h1, -⟩ := h; cases h1
  obtain ⟨k, h1, hE1, h⟩ := h
  cases h1
  refine j_istore (L' := [(5, .int k), (4, .int (nI j)), (3, .ref 132), (2, .ref 94), (1, .ref 1), (0, .ref 1000000)]) d_law_435 (by decide) rfl ?_
  refine j_aload_n d_law_437 3 rfl ?_
  refine j_aload_n d_law_438 5 rfl ?_
  refine j_iload d_law_439 1 rfl ?_
  refine j_iconst (v := 1) d_law_441 (by decide) ?_
  refine j_iadd d_law_442 ?_
  refine j_topE (v := nI (j + 1)) (nI_add j 1) ?_
  refine j_scr (j + 1) d_law_443 rfl (by omega) hL ?_
  refine j_callV m_M_least [.int (q_sx ω (j + 1))] [] 2000 0 0 cV_L_96 d_law_444 rfl rfl (tg_94 hE1) (q_okE hE1 (by decide)) (Nat.le_of_ble_eq_true rfl) (by decide) (Nat.le_of_ble_eq_true rfl) (by omega) (by omega) h (fun v τ2 h => ?_) (fun x τ2 h => ?_)
  rotate_left
  · obtain ⟨bv, h1, -⟩ := h; cases h1
  obtain ⟨bv, h1, hE2, hth, ho, hP⟩ := h
  cases h1
  refine j_istore (L' := [(6, .int bv), (5, .int k), (4, .int (nI j)), (3, .ref 132), (2, .ref 94), (1, .ref 1), (0, .ref 1000000)]) d_law_447 (by decide) rfl ?_
  refine j_aload_n d_law_449 4 rfl ?_
  refine j_callV m_M_thrown [] [] 0 0 0 cV_L_77 d_law_450 rfl rfl (tg_94 hE2) (q_okE hE2 (by decide)) (Nat.le_of_ble_eq_true rfl) (by decide) (Nat.le_of_ble_eq_true rfl) (by omega) (by omega) (c_M_thrown hE2 hth) (fun v τ3 h => ?_) (fun x τ3 h => absurd h.1 (by simp))
  obtain ⟨h1, hτ⟩ := h
  cases h1
  rw [hτ]
  refine j_iload d_law_453 1 rfl ?_
  refine j_icmp_eq 460 d_law_455 (by decide) (fun _ => ?_) (fun h => absurd rfl h)
  refine j_iload d_law_460 1 rfl ?_
  by_cases hk : k = 0
  · refine j_if_ne 477 d_law_462 (by decide) (fun h => absurd hk h) (fun _ => ?_)
    refine j_aload_n d_law_465 3 rfl ?_
    refine j_iconst (v := 0) d_law_466 (by decide) ?_
    refine j_lald 0 d_law_467 (tg_132 hE2) (q_okE hE2 (by decide)) rfl (by decide) (by decide) ?_
    refine j_iload d_law_468 0 rfl ?_
    refine j_i2l d_law_470 ?_
    refine j_lcmp d_law_471 ?_
    rw [ho hk, q_cmp0]
    refine j_if_eq 477 d_law_472 (by decide) (fun _ => ?_) (fun h => absurd rfl h)
    refine j_goto 969 d_law_477 (by decide) ?_
    refine j_pick [2, 3, 4, 5, 6] rfl ?_
    exact j_widen (by omega) (by omega) (next τ2 hE2 hP)
  · refine j_if_ne 477 d_law_462 (by decide) (fun _ => ?_) (fun h => absurd h hk)
    refine j_goto 969 d_law_477 (by decide) ?_
    refine j_pick [2, 3, 4, 5, 6] rfl ?_
    exact j_widen (by omega) (by omega) (next τ2 hE2 hP)
set_option maxHeartbeats 1000000 in
theorem lw_greatest {ω : q_W} {σ : q_H} {cs sl j : Nat} {Q : q_R → q_H → Prop} {P : q_H → Prop} (hE : q_E σ) (hi : j + 6 ≤ q_sL ω) (hL : q_sL ω ≤ 3072) (hc : cs + 1 ≤ 600002) (hs : sl + 6 ≤ 7302232)
    (ok : q_okI (fun Qx => J ω m_L_greatest 2000 1 6 0 0 0 [(0, .ref 1), (1, .int (q_sx ω (j + 1))), (2, .ref 132)] [] σ Qx) (fun τ Qx => J ω m_M_greatest 2000 0 0 0 0 0 [(0, .ref 94), (1, .int (q_sx ω (j + 1)))] [] τ Qx) P)
    (next : ∀ τ, q_E τ → P τ → J ω m_law 2048 600002 7302232 (cs + 1) (sl + 6) 969 [(4, .int (nI j)), (3, .ref 132), (2, .ref 94), (1, .ref 1), (0, .ref 1000000)] [] τ Q) : J ω m_law 2048 600002 7302232 cs sl 480 [(4, .int (nI j)), (3, .ref 132), (2, .ref 94), (1, .ref 1), (0, .ref 1000000)] [] σ Q := by
  refine j_aload_n d_law_480 3 rfl ?_
  refine j_aload_n d_law_481 4 rfl ?_
  refine j_iload d_law_482 0 rfl ?_
  refine j_iconst (v := 1) d_law_484 (by decide) ?_
  refine j_iadd d_law_485 ?_
  refine j_topE (v := nI (j + 1)) (nI_add j 1) ?_
  refine j_scr (j + 1) d_law_486 rfl (by omega) hL ?_
  refine j_aload_n d_law_487 1 rfl ?_
  refine j_callS m_L_greatest [.ref 1, .int (q_sx ω (j + 1)), .ref 132] [] 2000 1 6 cS_L_97 d_law_488 rfl rfl (by decide) (by decide) (Nat.le_of_ble_eq_true rfl) (by omega) (by omega) ok (fun v τ h => ?_) (fun x τ h => ?_)
  rotate_left
  · obtain ⟨k, h1, -⟩ := h; cases h1
  obtain ⟨k, h1, hE1, h⟩ := h
  cases h1
  refine j_istore (L' := [(5, .int k), (4, .int (nI j)), (3, .ref 132), (2, .ref 94), (1, .ref 1), (0, .ref 1000000)]) d_law_491 (by decide) rfl ?_
  refine j_aload_n d_law_493 3 rfl ?_
  refine j_aload_n d_law_494 5 rfl ?_
  refine j_iload d_law_495 1 rfl ?_
  refine j_iconst (v := 1) d_law_497 (by decide) ?_
  refine j_iadd d_law_498 ?_
  refine j_topE (v := nI (j + 1)) (nI_add j 1) ?_
  refine j_scr (j + 1) d_law_499 rfl (by omega) hL ?_
  refine j_callV m_M_greatest [.int (q_sx ω (j + 1))] [] 2000 0 0 cV_L_99 d_law_500 rfl rfl (tg_94 hE1) (q_okE hE1 (by decide)) (Nat.le_of_ble_eq_true rfl) (by decide) (Nat.le_of_ble_eq_true rfl) (by omega) (by omega) h (fun v τ2 h => ?_) (fun x τ2 h => ?_)
  rotate_left
  · obtain ⟨bv, h1, -⟩ := h; cases h1
  obtain ⟨bv, h1, hE2, hth, ho, hP⟩ := h
  cases h1
  refine j_istore (L' := [(6, .int bv), (5, .int k), (4, .int (nI j)), (3, .ref 132), (2, .ref 94), (1, .ref 1), (0, .ref 1000000)]) d_law_503 (by decide) rfl ?_
  refine j_aload_n d_law_505 4 rfl ?_
  refine j_callV m_M_thrown [] [] 0 0 0 cV_L_77 d_law_506 rfl rfl (tg_94 hE2) (q_okE hE2 (by decide)) (Nat.le_of_ble_eq_true rfl) (by decide) (Nat.le_of_ble_eq_true rfl) (by omega) (by omega) (c_M_thrown hE2 hth) (fun v τ3 h => ?_) (fun x τ3 h => absurd h.1 (by simp))
  obtain ⟨h1, hτ⟩ := h
  cases h1
  rw [hτ]
  refine j_iload d_law_509 1 rfl ?_
  refine j_icmp_eq 516 d_law_511 (by decide) (fun _ => ?_) (fun h => absurd rfl h)
  refine j_iload d_law_516 1 rfl ?_
  by_cases hk : k = 0
  · refine j_if_ne 533 d_law_518 (by decide) (fun h => absurd hk h) (fun _ => ?_)
    refine j_aload_n d_law_521 3 rfl ?_
    refine j_iconst (v := 0) d_law_522 (by decide) ?_
    refine j_lald 0 d_law_523 (tg_132 hE2) (q_okE hE2 (by decide)) rfl (by decide) (by decide) ?_
    refine j_iload d_law_524 0 rfl ?_
    refine j_i2l d_law_526 ?_
    refine j_lcmp d_law_527 ?_
    rw [ho hk, q_cmp0]
    refine j_if_eq 533 d_law_528 (by decide) (fun _ => ?_) (fun h => absurd rfl h)
    refine j_goto 969 d_law_533 (by decide) ?_
    refine j_pick [2, 3, 4, 5, 6] rfl ?_
    exact j_widen (by omega) (by omega) (next τ2 hE2 hP)
  · refine j_if_ne 533 d_law_518 (by decide) (fun _ => ?_) (fun h => absurd h hk)
    refine j_goto 969 d_law_533 (by decide) ?_
    refine j_pick [2, 3, 4, 5, 6] rfl ?_
    exact j_widen (by omega) (by omega) (next τ2 hE2 hP)
set_option maxHeartbeats 1000000 in
theorem lw_differ {ω : q_W} {σ : q_H} {cs sl j : Nat} {Q : q_R → q_H → Prop} {P : q_H → Prop} (hE : q_E σ) (hi : j + 6 ≤ q_sL ω) (hL : q_sL ω ≤ 3072) (hc : cs + 1 ≤ 600002) (hs : sl + 6 ≤ 7302232)
    (ok : q_okI (fun Qx => J ω m_L_differ 2000 1 6 0 0 0 [(0, .ref 1), (1, .int (q_sx ω (j + 1))), (2, .int (q_sx ω (j + 2))), (3, .ref 132)] [] σ Qx) (fun τ Qx => J ω m_M_differ 2000 0 0 0 0 0 [(0, .ref 94), (1, .int (q_sx ω (j + 1))), (2, .int (q_sx ω (j + 2)))] [] τ Qx) P)
    (next : ∀ τ, q_E τ → P τ → J ω m_law 2048 600002 7302232 (cs + 1) (sl + 6) 969 [(4, .int (nI j)), (3, .ref 132), (2, .ref 94), (1, .ref 1), (0, .ref 1000000)] [] τ Q) : J ω m_law 2048 600002 7302232 cs sl 536 [(4, .int (nI j)), (3, .ref 132), (2, .ref 94), (1, .ref 1), (0, .ref 1000000)] [] σ Q := by
  refine j_aload_n d_law_536 3 rfl ?_
  refine j_aload_n d_law_537 4 rfl ?_
  refine j_iload d_law_538 0 rfl ?_
  refine j_iconst (v := 1) d_law_540 (by decide) ?_
  refine j_iadd d_law_541 ?_
  refine j_topE (v := nI (j + 1)) (nI_add j 1) ?_
  refine j_scr (j + 1) d_law_542 rfl (by omega) hL ?_
  refine j_aload_n d_law_543 4 rfl ?_
  refine j_iload d_law_544 0 rfl ?_
  refine j_iconst (v := 2) d_law_546 (by decide) ?_
  refine j_iadd d_law_547 ?_
  refine j_topE (v := nI (j + 2)) (nI_add j 2) ?_
  refine j_scr (j + 2) d_law_548 rfl (by omega) hL ?_
  refine j_aload_n d_law_549 1 rfl ?_
  refine j_callS m_L_differ [.ref 1, .int (q_sx ω (j + 1)), .int (q_sx ω (j + 2)), .ref 132] [] 2000 1 6 cS_L_100 d_law_550 rfl rfl (by decide) (by decide) (Nat.le_of_ble_eq_true rfl) (by omega) (by omega) ok (fun v τ h => ?_) (fun x τ h => ?_)
  rotate_left
  · obtain ⟨k, h1, -⟩ := h; cases h1
  obtain ⟨k, h1, hE1, h⟩ := h
  cases h1
  refine j_istore (L' := [(5, .int k), (4, .int (nI j)), (3, .ref 132), (2, .ref 94), (1, .ref 1), (0, .ref 1000000)]) d_law_553 (by decide) rfl ?_
  refine j_aload_n d_law_555 3 rfl ?_
  refine j_aload_n d_law_556 5 rfl ?_
  refine j_iload d_law_557 1 rfl ?_
  refine j_iconst (v := 1) d_law_559 (by decide) ?_
  refine j_iadd d_law_560 ?_
  refine j_topE (v := nI (j + 1)) (nI_add j 1) ?_
  refine j_scr (j + 1) d_law_561 rfl (by omega) hL ?_
  refine j_aload_n d_law_562 5 rfl ?_
  refine j_iload d_law_563 1 rfl ?_
  refine j_iconst (v := 2) d_law_565 (by decide) ?_
  refine j_iadd d_law_566 ?_
  refine j_topE (v := nI (j + 2)) (nI_add j 2) ?_
  refine j_scr (j + 2) d_law_567 rfl (by omega) hL ?_
  refine j_callV m_M_differ [.int (q_sx ω (j + 1)), .int (q_sx ω (j + 2))] [] 2000 0 0 cV_L_103 d_law_568 rfl rfl (tg_94 hE1) (q_okE hE1 (by decide)) (Nat.le_of_ble_eq_true rfl) (by decide) (Nat.le_of_ble_eq_true rfl) (by omega) (by omega) h (fun v τ2 h => ?_) (fun x τ2 h => ?_)
  rotate_left
  · obtain ⟨bv, h1, -⟩ := h; cases h1
  obtain ⟨bv, h1, hE2, hth, ho, hP⟩ := h
  cases h1
  refine j_istore (L' := [(6, .int bv), (5, .int k), (4, .int (nI j)), (3, .ref 132), (2, .ref 94), (1, .ref 1), (0, .ref 1000000)]) d_law_571 (by decide) rfl ?_
  refine j_aload_n d_law_573 4 rfl ?_
  refine j_callV m_M_thrown [] [] 0 0 0 cV_L_77 d_law_574 rfl rfl (tg_94 hE2) (q_okE hE2 (by decide)) (Nat.le_of_ble_eq_true rfl) (by decide) (Nat.le_of_ble_eq_true rfl) (by omega) (by omega) (c_M_thrown hE2 hth) (fun v τ3 h => ?_) (fun x τ3 h => absurd h.1 (by simp))
  obtain ⟨h1, hτ⟩ := h
  cases h1
  rw [hτ]
  refine j_iload d_law_577 1 rfl ?_
  refine j_icmp_eq 584 d_law_579 (by decide) (fun _ => ?_) (fun h => absurd rfl h)
  refine j_iload d_law_584 1 rfl ?_
  by_cases hk : k = 0
  · refine j_if_ne 601 d_law_586 (by decide) (fun h => absurd hk h) (fun _ => ?_)
    refine j_aload_n d_law_589 3 rfl ?_
    refine j_iconst (v := 0) d_law_590 (by decide) ?_
    refine j_lald 0 d_law_591 (tg_132 hE2) (q_okE hE2 (by decide)) rfl (by decide) (by decide) ?_
    refine j_iload d_law_592 0 rfl ?_
    refine j_i2l d_law_594 ?_
    refine j_lcmp d_law_595 ?_
    rw [ho hk, q_cmp0]
    refine j_if_eq 601 d_law_596 (by decide) (fun _ => ?_) (fun h => absurd rfl h)
    refine j_goto 969 d_law_601 (by decide) ?_
    refine j_pick [2, 3, 4, 5, 6] rfl ?_
    exact j_widen (by omega) (by omega) (next τ2 hE2 hP)
  · refine j_if_ne 601 d_law_586 (by decide) (fun _ => ?_) (fun h => absurd h hk)
    refine j_goto 969 d_law_601 (by decide) ?_
    refine j_pick [2, 3, 4, 5, 6] rfl ?_
    exact j_widen (by omega) (by omega) (next τ2 hE2 hP)
set_option maxHeartbeats 1000000 in
theorem lw_can {ω : q_W} {σ : q_H} {cs sl j : Nat} {Q : q_R → q_H → Prop} {P : q_H → Prop} (hE : q_E σ) (hi : j + 6 ≤ q_sL ω) (hL : q_sL ω ≤ 3072) (hc : cs + 1 ≤ 600002) (hs : sl + 6 ≤ 7302232)
    (ok : q_okI (fun Qx => J ω m_L_can 2000 1 6 0 0 0 [(0, .ref 1), (1, .int (q_sx ω (j + 1))), (2, .int (q_sx ω (j + 2))), (3, .ref 132)] [] σ Qx) (fun τ Qx => J ω m_M_can 2000 0 0 0 0 0 [(0, .ref 94), (1, .int (q_sx ω (j + 1))), (2, .int (q_sx ω (j + 2)))] [] τ Qx) P)
    (next : ∀ τ, q_E τ → P τ → J ω m_law 2048 600002 7302232 (cs + 1) (sl + 6) 969 [(4, .int (nI j)), (3, .ref 132), (2, .ref 94), (1, .ref 1), (0, .ref 1000000)] [] τ Q) : J ω m_law 2048 600002 7302232 cs sl 604 [(4, .int (nI j)), (3, .ref 132), (2, .ref 94), (1, .ref 1), (0, .ref 1000000)] [] σ Q := by
  refine j_aload_n d_law_604 3 rfl ?_
  refine j_aload_n d_law_605 4 rfl ?_
  refine j_iload d_law_606 0 rfl ?_
  refine j_iconst (v := 1) d_law_608 (by decide) ?_
  refine j_iadd d_law_609 ?_
  refine j_topE (v := nI (j + 1)) (nI_add j 1) ?_
  refine j_scr (j + 1) d_law_610 rfl (by omega) hL ?_
  refine j_aload_n d_law_611 4 rfl ?_
  refine j_iload d_law_612 0 rfl ?_
  refine j_iconst (v := 2) d_law_614 (by decide) ?_
  refine j_iadd d_law_615 ?_
  refine j_topE (v := nI (j + 2)) (nI_add j 2) ?_
  refine j_scr (j + 2) d_law_616 rfl (by omega) hL ?_
  refine j_aload_n d_law_617 1 rfl ?_
  refine j_callS m_L_can [.ref 1, .int (q_sx ω (j + 1)), .int (q_sx ω (j + 2)), .ref 132] [] 2000 1 6 cS_L_104 d_law_618 rfl rfl (by decide) (by decide) (Nat.le_of_ble_eq_true rfl) (by omega) (by omega) ok (fun v τ h => ?_) (fun x τ h => ?_)
  rotate_left
  · obtain ⟨k, h1, -⟩ := h; cases h1
  obtain ⟨k, h1, hE1, h⟩ := h
  cases h1
  refine j_istore (L' := [(5, .int k), (4, .int (nI j)), (3, .ref 132), (2, .ref 94), (1, .ref 1), (0, .ref 1000000)]) d_law_621 (by decide) rfl ?_
  refine j_aload_n d_law_623 3 rfl ?_
  refine j_aload_n d_law_624 5 rfl ?_
  refine j_iload d_law_625 1 rfl ?_
  refine j_iconst (v := 1) d_law_627 (by decide) ?_
  refine j_iadd d_law_628 ?_
  refine j_topE (v := nI (j + 1)) (nI_add j 1) ?_
  refine j_scr (j + 1) d_law_629 rfl (by omega) hL ?_
  refine j_aload_n d_law_630 5 rfl ?_
  refine j_iload d_law_631 1 rfl ?_
  refine j_iconst (v := 2) d_law_633 (by decide) ?_
  refine j_iadd d_law_634 ?_
  refine j_topE (v := nI (j + 2)) (nI_add j 2) ?_
  refine j_scr (j + 2) d_law_635 rfl (by omega) hL ?_
  refine j_callV m_M_can [.int (q_sx ω (j + 1)), .int (q_sx ω (j + 2))] [] 2000 0 0 cV_L_106 d_law_636 rfl rfl (tg_94 hE1) (q_okE hE1 (by decide)) (Nat.le_of_ble_eq_true rfl) (by decide) (Nat.le_of_ble_eq_true rfl) (by omega) (by omega) h (fun v τ2 h => ?_) (fun x τ2 h => ?_)
  rotate_left
  · obtain ⟨bv, h1, -⟩ := h; cases h1
  obtain ⟨bv, h1, hE2, hth, ho, hP⟩ := h
  cases h1
  refine j_istore (L' := [(6, .int bv), (5, .int k), (4, .int (nI j)), (3, .ref 132), (2, .ref 94), (1, .ref 1), (0, .ref 1000000)]) d_law_639 (by decide) rfl ?_
  refine j_aload_n d_law_641 4 rfl ?_
  refine j_callV m_M_thrown [] [] 0 0 0 cV_L_77 d_law_642 rfl rfl (tg_94 hE2) (q_okE hE2 (by decide)) (Nat.le_of_ble_eq_true rfl) (by decide) (Nat.le_of_ble_eq_true rfl) (by omega) (by omega) (c_M_thrown hE2 hth) (fun v τ3 h => ?_) (fun x τ3 h => absurd h.1 (by simp))
  obtain ⟨h1, hτ⟩ := h
  cases h1
  rw [hτ]
  refine j_iload d_law_645 1 rfl ?_
  refine j_icmp_eq 652 d_law_647 (by decide) (fun _ => ?_) (fun h => absurd rfl h)
  refine j_iload d_law_652 1 rfl ?_
  by_cases hk : k = 0
  · refine j_if_ne 669 d_law_654 (by decide) (fun h => absurd hk h) (fun _ => ?_)
    refine j_aload_n d_law_657 3 rfl ?_
    refine j_iconst (v := 0) d_law_658 (by decide) ?_
    refine j_lald 0 d_law_659 (tg_132 hE2) (q_okE hE2 (by decide)) rfl (by decide) (by decide) ?_
    refine j_iload d_law_660 0 rfl ?_
    refine j_i2l d_law_662 ?_
    refine j_lcmp d_law_663 ?_
    rw [ho hk, q_cmp0]
    refine j_if_eq 669 d_law_664 (by decide) (fun _ => ?_) (fun h => absurd rfl h)
    refine j_goto 969 d_law_669 (by decide) ?_
    refine j_pick [2, 3, 4, 5, 6] rfl ?_
    exact j_widen (by omega) (by omega) (next τ2 hE2 hP)
  · refine j_if_ne 669 d_law_654 (by decide) (fun _ => ?_) (fun h => absurd h hk)
    refine j_goto 969 d_law_669 (by decide) ?_
    refine j_pick [2, 3, 4, 5, 6] rfl ?_
    exact j_widen (by omega) (by omega) (next τ2 hE2 hP)
set_option maxHeartbeats 1000000 in
theorem lw_ends {ω : q_W} {σ : q_H} {cs sl j : Nat} {Q : q_R → q_H → Prop} {P : q_H → Prop} (hE : q_E σ) (hi : j + 6 ≤ q_sL ω) (hL : q_sL ω ≤ 3072) (hc : cs + 1 ≤ 600002) (hs : sl + 6 ≤ 7302232)
    (ok : q_okI (fun Qx => J ω m_L_ends 2000 1 6 0 0 0 [(0, .ref 1), (1, .ref 132)] [] σ Qx) (fun τ Qx => J ω m_M_ends 2000 0 0 0 0 0 [(0, .ref 94)] [] τ Qx) P)
    (next : ∀ τ, q_E τ → P τ → J ω m_law 2048 600002 7302232 (cs + 1) (sl + 6) 969 [(4, .int (nI j)), (3, .ref 132), (2, .ref 94), (1, .ref 1), (0, .ref 1000000)] [] τ Q) : J ω m_law 2048 600002 7302232 cs sl 672 [(4, .int (nI j)), (3, .ref 132), (2, .ref 94), (1, .ref 1), (0, .ref 1000000)] [] σ Q := by
  refine j_aload_n d_law_672 3 rfl ?_
  refine j_aload_n d_law_673 1 rfl ?_
  refine j_callS m_L_ends [.ref 1, .ref 132] [] 2000 1 6 cS_L_107 d_law_674 rfl rfl (by decide) (by decide) (Nat.le_of_ble_eq_true rfl) (by omega) (by omega) ok (fun v τ h => ?_) (fun x τ h => ?_)
  rotate_left
  · obtain ⟨k, h1, -⟩ := h; cases h1
  obtain ⟨k, h1, hE1, h⟩ := h
  cases h1
  refine j_istore (L' := [(5, .int k), (4, .int (nI j)), (3, .ref 132), (2, .ref 94), (1, .ref 1), (0, .ref 1000000)]) d_law_677 (by decide) rfl ?_
  refine j_aload_n d_law_679 3 rfl ?_
  refine j_callV m_M_ends [] [] 2000 0 0 cV_L_109 d_law_680 rfl rfl (tg_94 hE1) (q_okE hE1 (by decide)) (Nat.le_of_ble_eq_true rfl) (by decide) (Nat.le_of_ble_eq_true rfl) (by omega) (by omega) h (fun v τ2 h => ?_) (fun x τ2 h => ?_)
  rotate_left
  · obtain ⟨bv, h1, -⟩ := h; cases h1
  obtain ⟨bv, h1, hE2, hth, ho, hP⟩ := h
  cases h1
  refine j_istore (L' := [(6, .int bv), (5, .int k), (4, .int (nI j)), (3, .ref 132), (2, .ref 94), (1, .ref 1), (0, .ref 1000000)]) d_law_683 (by decide) rfl ?_
  refine j_aload_n d_law_685 4 rfl ?_
  refine j_callV m_M_thrown [] [] 0 0 0 cV_L_77 d_law_686 rfl rfl (tg_94 hE2) (q_okE hE2 (by decide)) (Nat.le_of_ble_eq_true rfl) (by decide) (Nat.le_of_ble_eq_true rfl) (by omega) (by omega) (c_M_thrown hE2 hth) (fun v τ3 h => ?_) (fun x τ3 h => absurd h.1 (by simp))
  obtain ⟨h1, hτ⟩ := h
  cases h1
  rw [hτ]
  refine j_iload d_law_689 1 rfl ?_
  refine j_icmp_eq 696 d_law_691 (by decide) (fun _ => ?_) (fun h => absurd rfl h)
  refine j_iload d_law_696 1 rfl ?_
  by_cases hk : k = 0
  · refine j_if_ne 713 d_law_698 (by decide) (fun h => absurd hk h) (fun _ => ?_)
    refine j_aload_n d_law_701 3 rfl ?_
    refine j_iconst (v := 0) d_law_702 (by decide) ?_
    refine j_lald 0 d_law_703 (tg_132 hE2) (q_okE hE2 (by decide)) rfl (by decide) (by decide) ?_
    refine j_iload d_law_704 0 rfl ?_
    refine j_i2l d_law_706 ?_
    refine j_lcmp d_law_707 ?_
    rw [ho hk, q_cmp0]
    refine j_if_eq 713 d_law_708 (by decide) (fun _ => ?_) (fun h => absurd rfl h)
    refine j_goto 969 d_law_713 (by decide) ?_
    refine j_pick [2, 3, 4, 5, 6] rfl ?_
    exact j_widen (by omega) (by omega) (next τ2 hE2 hP)
  · refine j_if_ne 713 d_law_698 (by decide) (fun _ => ?_) (fun h => absurd h hk)
    refine j_goto 969 d_law_713 (by decide) ?_
    refine j_pick [2, 3, 4, 5, 6] rfl ?_
    exact j_widen (by omega) (by omega) (next τ2 hE2 hP)
set_option maxHeartbeats 1000000 in
theorem lw_witness {ω : q_W} {σ : q_H} {cs sl j : Nat} {Q : q_R → q_H → Prop} {P : q_H → Prop} (hE : q_E σ) (hi : j + 6 ≤ q_sL ω) (hL : q_sL ω ≤ 3072) (hc : cs + 1 ≤ 600002) (hs : sl + 6 ≤ 7302232)
    (ok : q_okI (fun Qx => J ω m_L_witness 2000 1 6 0 0 0 [(0, .ref 1), (1, .int (q_sx ω (j + 1))), (2, .ref 132)] [] σ Qx) (fun τ Qx => J ω m_M_witness 2000 0 0 0 0 0 [(0, .ref 94), (1, .int (q_sx ω (j + 1)))] [] τ Qx) P)
    (next : ∀ τ, q_E τ → P τ → J ω m_law 2048 600002 7302232 (cs + 1) (sl + 6) 969 [(4, .int (nI j)), (3, .ref 132), (2, .ref 94), (1, .ref 1), (0, .ref 1000000)] [] τ Q) : J ω m_law 2048 600002 7302232 cs sl 716 [(4, .int (nI j)), (3, .ref 132), (2, .ref 94), (1, .ref 1), (0, .ref 1000000)] [] σ Q := by
  refine j_aload_n d_law_716 3 rfl ?_
  refine j_aload_n d_law_717 4 rfl ?_
  refine j_iload d_law_718 0 rfl ?_
  refine j_iconst (v := 1) d_law_720 (by decide) ?_
  refine j_iadd d_law_721 ?_
  refine j_topE (v := nI (j + 1)) (nI_add j 1) ?_
  refine j_scr (j + 1) d_law_722 rfl (by omega) hL ?_
  refine j_aload_n d_law_723 1 rfl ?_
  refine j_callS m_L_witness [.ref 1, .int (q_sx ω (j + 1)), .ref 132] [] 2000 1 6 cS_L_110 d_law_724 rfl rfl (by decide) (by decide) (Nat.le_of_ble_eq_true rfl) (by omega) (by omega) ok (fun v τ h => ?_) (fun x τ h => ?_)
  rotate_left
  · obtain ⟨k, h1, -⟩ := h; cases h1
  obtain ⟨k, h1, hE1, h⟩ := h
  cases h1
  refine j_istore (L' := [(5, .int k), (4, .int (nI j)), (3, .ref 132), (2, .ref 94), (1, .ref 1), (0, .ref 1000000)]) d_law_727 (by decide) rfl ?_
  refine j_aload_n d_law_729 3 rfl ?_
  refine j_aload_n d_law_730 5 rfl ?_
  refine j_iload d_law_731 1 rfl ?_
  refine j_iconst (v := 1) d_law_733 (by decide) ?_
  refine j_iadd d_law_734 ?_
  refine j_topE (v := nI (j + 1)) (nI_add j 1) ?_
  refine j_scr (j + 1) d_law_735 rfl (by omega) hL ?_
  refine j_callV m_M_witness [.int (q_sx ω (j + 1))] [] 2000 0 0 cV_L_112 d_law_736 rfl rfl (tg_94 hE1) (q_okE hE1 (by decide)) (Nat.le_of_ble_eq_true rfl) (by decide) (Nat.le_of_ble_eq_true rfl) (by omega) (by omega) h (fun v τ2 h => ?_) (fun x τ2 h => ?_)
  rotate_left
  · obtain ⟨bv, h1, -⟩ := h; cases h1
  obtain ⟨bv, h1, hE2, hth, ho, hP⟩ := h
  cases h1
  refine j_istore (L' := [(6, .int bv), (5, .int k), (4, .int (nI j)), (3, .ref 132), (2, .ref 94), (1, .ref 1), (0, .ref 1000000)]) d_law_739 (by decide) rfl ?_
  refine j_aload_n d_law_741 4 rfl ?_
  refine j_callV m_M_thrown [] [] 0 0 0 cV_L_77 d_law_742 rfl rfl (tg_94 hE2) (q_okE hE2 (by decide)) (Nat.le_of_ble_eq_true rfl) (by decide) (Nat.le_of_ble_eq_true rfl) (by omega) (by omega) (c_M_thrown hE2 hth) (fun v τ3 h => ?_) (fun x τ3 h => absurd h.1 (by simp))
  obtain ⟨h1, hτ⟩ := h
  cases h1
  rw [hτ]
  refine j_iload d_law_745 1 rfl ?_
  refine j_icmp_eq 752 d_law_747 (by decide) (fun _ => ?_) (fun h => absurd rfl h)
  refine j_iload d_law_752 1 rfl ?_
  by_cases hk : k = 0
  · refine j_if_ne 769 d_law_754 (by decide) (fun h => absurd hk h) (fun _ => ?_)
    refine j_aload_n d_law_757 3 rfl ?_
    refine j_iconst (v := 0) d_law_758 (by decide) ?_
    refine j_lald 0 d_law_759 (tg_132 hE2) (q_okE hE2 (by decide)) rfl (by decide) (by decide) ?_
    refine j_iload d_law_760 0 rfl ?_
    refine j_i2l d_law_762 ?_
    refine j_lcmp d_law_763 ?_
    rw [ho hk, q_cmp0]
    refine j_if_eq 769 d_law_764 (by decide) (fun _ => ?_) (fun h => absurd rfl h)
    refine j_goto 969 d_law_769 (by decide) ?_
    refine j_pick [2, 3, 4, 5, 6] rfl ?_
    exact j_widen (by omega) (by omega) (next τ2 hE2 hP)
  · refine j_if_ne 769 d_law_754 (by decide) (fun _ => ?_) (fun h => absurd h hk)
    refine j_goto 969 d_law_769 (by decide) ?_
    refine j_pick [2, 3, 4, 5, 6] rfl ?_
    exact j_widen (by omega) (by omega) (next τ2 hE2 hP)
set_option maxHeartbeats 1000000 in
theorem lw_set {ω : q_W} {σ : q_H} {cs sl j : Nat} {Q : q_R → q_H → Prop} {P : q_H → Prop} (hE : q_E σ) (hi : j + 6 ≤ q_sL ω) (hL : q_sL ω ≤ 3072) (hc : cs + 1 ≤ 600002) (hs : sl + 6 ≤ 7302232)
    (ok : q_okV (fun Qx => J ω m_L_set 2000 1 6 0 0 0 [(0, .ref 1), (1, .int (q_sx ω (j + 1))), (2, .int (q_sx ω (j + 2)))] [] σ Qx) (fun τ Qx => J ω m_M_set 2000 0 0 0 0 0 [(0, .ref 94), (1, .int (q_sx ω (j + 1))), (2, .int (q_sx ω (j + 2)))] [] τ Qx) P)
    (next : ∀ τ, q_E τ → P τ → J ω m_law 2048 600002 7302232 (cs + 1) (sl + 6) 969 [(4, .int (nI j)), (3, .ref 132), (2, .ref 94), (1, .ref 1), (0, .ref 1000000)] [] τ Q) : J ω m_law 2048 600002 7302232 cs sl 772 [(4, .int (nI j)), (3, .ref 132), (2, .ref 94), (1, .ref 1), (0, .ref 1000000)] [] σ Q := by
  refine j_aload_n d_law_772 3 rfl ?_
  refine j_aload_n d_law_773 4 rfl ?_
  refine j_iload d_law_774 0 rfl ?_
  refine j_iconst (v := 1) d_law_776 (by decide) ?_
  refine j_iadd d_law_777 ?_
  refine j_topE (v := nI (j + 1)) (nI_add j 1) ?_
  refine j_scr (j + 1) d_law_778 rfl (by omega) hL ?_
  refine j_aload_n d_law_779 4 rfl ?_
  refine j_iload d_law_780 0 rfl ?_
  refine j_iconst (v := 2) d_law_782 (by decide) ?_
  refine j_iadd d_law_783 ?_
  refine j_topE (v := nI (j + 2)) (nI_add j 2) ?_
  refine j_scr (j + 2) d_law_784 rfl (by omega) hL ?_
  refine j_callS m_L_set [.ref 1, .int (q_sx ω (j + 1)), .int (q_sx ω (j + 2))] [] 2000 1 6 cS_L_113 d_law_785 rfl rfl (by decide) (by decide) (Nat.le_of_ble_eq_true rfl) (by omega) (by omega) ok (fun v τ h => ?_) (fun x τ h => ?_)
  rotate_left
  · obtain ⟨k, h1, -⟩ := h; cases h1
  obtain ⟨k, h1, hE1, h⟩ := h
  cases h1
  refine j_istore (L' := [(5, .int k), (4, .int (nI j)), (3, .ref 132), (2, .ref 94), (1, .ref 1), (0, .ref 1000000)]) d_law_788 (by decide) rfl ?_
  refine j_aload_n d_law_790 3 rfl ?_
  refine j_aload_n d_law_791 5 rfl ?_
  refine j_iload d_law_792 1 rfl ?_
  refine j_iconst (v := 1) d_law_794 (by decide) ?_
  refine j_iadd d_law_795 ?_
  refine j_topE (v := nI (j + 1)) (nI_add j 1) ?_
  refine j_scr (j + 1) d_law_796 rfl (by omega) hL ?_
  refine j_aload_n d_law_797 5 rfl ?_
  refine j_iload d_law_798 1 rfl ?_
  refine j_iconst (v := 2) d_law_800 (by decide) ?_
  refine j_iadd d_law_801 ?_
  refine j_topE (v := nI (j + 2)) (nI_add j 2) ?_
  refine j_scr (j + 2) d_law_802 rfl (by omega) hL ?_
  refine j_callV m_M_set [.int (q_sx ω (j + 1)), .int (q_sx ω (j + 2))] [] 2000 0 0 cV_L_116 d_law_803 rfl rfl (tg_94 hE1) (q_okE hE1 (by decide)) (Nat.le_of_ble_eq_true rfl) (by decide) (Nat.le_of_ble_eq_true rfl) (by omega) (by omega) h (fun v τ2 h => ?_) (fun x τ2 h => ?_)
  rotate_left
  · obtain ⟨h1, -⟩ := h; cases h1
  obtain ⟨h1, hE2, hth, hP⟩ := h
  cases h1
  refine j_aload_n d_law_806 3 rfl ?_
  refine j_callV m_M_thrown [] [] 0 0 0 cV_L_77 d_law_807 rfl rfl (tg_94 hE2) (q_okE hE2 (by decide)) (Nat.le_of_ble_eq_true rfl) (by decide) (Nat.le_of_ble_eq_true rfl) (by omega) (by omega) (c_M_thrown hE2 hth) (fun v τ3 h => ?_) (fun x τ3 h => absurd h.1 (by simp))
  obtain ⟨h1, hτ⟩ := h
  cases h1
  rw [hτ]
  refine j_iload d_law_810 0 rfl ?_
  refine j_icmp_eq 817 d_law_812 (by decide) (fun _ => ?_) (fun h => absurd rfl h)
  refine j_goto 969 d_law_817 (by decide) ?_
  refine j_pick [1, 2, 3, 4, 5] rfl ?_
  exact j_widen (by omega) (by omega) (next τ2 hE2 hP)
set_option maxHeartbeats 1000000 in
theorem lw_take {ω : q_W} {σ : q_H} {cs sl j : Nat} {Q : q_R → q_H → Prop} {P : q_H → Prop} (hE : q_E σ) (hi : j + 6 ≤ q_sL ω) (hL : q_sL ω ≤ 3072) (hc : cs + 1 ≤ 600002) (hs : sl + 6 ≤ 7302232)
    (ok : q_okV (fun Qx => J ω m_L_take 2000 1 6 0 0 0 [(0, .ref 1)] [] σ Qx) (fun τ Qx => J ω m_M_take 2000 0 0 0 0 0 [(0, .ref 94)] [] τ Qx) P)
    (next : ∀ τ, q_E τ → P τ → J ω m_law 2048 600002 7302232 (cs + 1) (sl + 6) 969 [(4, .int (nI j)), (3, .ref 132), (2, .ref 94), (1, .ref 1), (0, .ref 1000000)] [] τ Q) : J ω m_law 2048 600002 7302232 cs sl 820 [(4, .int (nI j)), (3, .ref 132), (2, .ref 94), (1, .ref 1), (0, .ref 1000000)] [] σ Q := by
  refine j_aload_n d_law_820 3 rfl ?_
  refine j_callS m_L_take [.ref 1] [] 2000 1 6 cS_L_117 d_law_821 rfl rfl (by decide) (by decide) (Nat.le_of_ble_eq_true rfl) (by omega) (by omega) ok (fun v τ h => ?_) (fun x τ h => ?_)
  rotate_left
  · obtain ⟨k, h1, -⟩ := h; cases h1
  obtain ⟨k, h1, hE1, h⟩ := h
  cases h1
  refine j_istore (L' := [(5, .int k), (4, .int (nI j)), (3, .ref 132), (2, .ref 94), (1, .ref 1), (0, .ref 1000000)]) d_law_824 (by decide) rfl ?_
  refine j_aload_n d_law_826 3 rfl ?_
  refine j_callV m_M_take [] [] 2000 0 0 cV_L_120 d_law_827 rfl rfl (tg_94 hE1) (q_okE hE1 (by decide)) (Nat.le_of_ble_eq_true rfl) (by decide) (Nat.le_of_ble_eq_true rfl) (by omega) (by omega) h (fun v τ2 h => ?_) (fun x τ2 h => ?_)
  rotate_left
  · obtain ⟨h1, -⟩ := h; cases h1
  obtain ⟨h1, hE2, hth, hP⟩ := h
  cases h1
  refine j_aload_n d_law_830 3 rfl ?_
  refine j_callV m_M_thrown [] [] 0 0 0 cV_L_77 d_law_831 rfl rfl (tg_94 hE2) (q_okE hE2 (by decide)) (Nat.le_of_ble_eq_true rfl) (by decide) (Nat.le_of_ble_eq_true rfl) (by omega) (by omega) (c_M_thrown hE2 hth) (fun v τ3 h => ?_) (fun x τ3 h => absurd h.1 (by simp))
  obtain ⟨h1, hτ⟩ := h
  cases h1
  rw [hτ]
  refine j_iload d_law_834 0 rfl ?_
  refine j_icmp_eq 841 d_law_836 (by decide) (fun _ => ?_) (fun h => absurd rfl h)
  refine j_goto 969 d_law_841 (by decide) ?_
  refine j_pick [1, 2, 3, 4, 5] rfl ?_
  exact j_widen (by omega) (by omega) (next τ2 hE2 hP)
set_option maxHeartbeats 1000000 in
theorem lw_run {ω : q_W} {σ : q_H} {cs sl j : Nat} {Q : q_R → q_H → Prop} {P : q_H → Prop} (hE : q_E σ) (hi : j + 6 ≤ q_sL ω) (hL : q_sL ω ≤ 3072) (hc : cs + 1 ≤ 600002) (hs : sl + 6 ≤ 7302232)
    (ok : q_okI (fun Qx => J ω m_L_run 2000 1 6 0 0 0 [(0, .ref 1), (1, .ref 132)] [] σ Qx) (fun τ Qx => J ω m_M_run 2000 0 0 0 0 0 [(0, .ref 94)] [] τ Qx) P)
    (next : ∀ τ, q_E τ → P τ → J ω m_law 2048 600002 7302232 (cs + 1) (sl + 6) 969 [(4, .int (nI j)), (3, .ref 132), (2, .ref 94), (1, .ref 1), (0, .ref 1000000)] [] τ Q) : J ω m_law 2048 600002 7302232 cs sl 844 [(4, .int (nI j)), (3, .ref 132), (2, .ref 94), (1, .ref 1), (0, .ref 1000000)] [] σ Q := by
  refine j_aload_n d_law_844 3 rfl ?_
  refine j_aload_n d_law_845 1 rfl ?_
  refine j_callS m_L_run [.ref 1, .ref 132] [] 2000 1 6 cS_L_121 d_law_846 rfl rfl (by decide) (by decide) (Nat.le_of_ble_eq_true rfl) (by omega) (by omega) ok (fun v τ h => ?_) (fun x τ h => ?_)
  rotate_left
  · obtain ⟨k, h1, -⟩ := h; cases h1
  obtain ⟨k, h1, hE1, h⟩ := h
  cases h1
  refine j_istore (L' := [(5, .int k), (4, .int (nI j)), (3, .ref 132), (2, .ref 94), (1, .ref 1), (0, .ref 1000000)]) d_law_849 (by decide) rfl ?_
  refine j_aload_n d_law_851 3 rfl ?_
  refine j_callV m_M_run [] [] 2000 0 0 cV_L_123 d_law_852 rfl rfl (tg_94 hE1) (q_okE hE1 (by decide)) (Nat.le_of_ble_eq_true rfl) (by decide) (Nat.le_of_ble_eq_true rfl) (by omega) (by omega) h (fun v τ2 h => ?_) (fun x τ2 h => ?_)
  rotate_left
  · obtain ⟨bv, h1, -⟩ := h; cases h1
  obtain ⟨bv, h1, hE2, hth, ho, hP⟩ := h
  cases h1
  refine j_istore (L' := [(6, .int bv), (5, .int k), (4, .int (nI j)), (3, .ref 132), (2, .ref 94), (1, .ref 1), (0, .ref 1000000)]) d_law_855 (by decide) rfl ?_
  refine j_aload_n d_law_857 4 rfl ?_
  refine j_callV m_M_thrown [] [] 0 0 0 cV_L_77 d_law_858 rfl rfl (tg_94 hE2) (q_okE hE2 (by decide)) (Nat.le_of_ble_eq_true rfl) (by decide) (Nat.le_of_ble_eq_true rfl) (by omega) (by omega) (c_M_thrown hE2 hth) (fun v τ3 h => ?_) (fun x τ3 h => absurd h.1 (by simp))
  obtain ⟨h1, hτ⟩ := h
  cases h1
  rw [hτ]
  refine j_iload d_law_861 1 rfl ?_
  refine j_icmp_eq 868 d_law_863 (by decide) (fun _ => ?_) (fun h => absurd rfl h)
  refine j_iload d_law_868 1 rfl ?_
  by_cases hk : k = 0
  · refine j_if_ne 885 d_law_870 (by decide) (fun h => absurd hk h) (fun _ => ?_)
    refine j_aload_n d_law_873 3 rfl ?_
    refine j_iconst (v := 0) d_law_874 (by decide) ?_
    refine j_lald 0 d_law_875 (tg_132 hE2) (q_okE hE2 (by decide)) rfl (by decide) (by decide) ?_
    refine j_iload d_law_876 0 rfl ?_
    refine j_i2l d_law_878 ?_
    refine j_lcmp d_law_879 ?_
    rw [ho hk, q_cmp0]
    refine j_if_eq 885 d_law_880 (by decide) (fun _ => ?_) (fun h => absurd rfl h)
    refine j_goto 969 d_law_885 (by decide) ?_
    refine j_pick [2, 3, 4, 5, 6] rfl ?_
    exact j_widen (by omega) (by omega) (next τ2 hE2 hP)
  · refine j_if_ne 885 d_law_870 (by decide) (fun _ => ?_) (fun h => absurd h hk)
    refine j_goto 969 d_law_885 (by decide) ?_
    refine j_pick [2, 3, 4, 5, 6] rfl ?_
    exact j_widen (by omega) (by omega) (next τ2 hE2 hP)
set_option maxHeartbeats 1000000 in
theorem lw_value {ω : q_W} {σ : q_H} {cs sl j : Nat} {Q : q_R → q_H → Prop} {P : q_H → Prop} (hE : q_E σ) (hi : j + 6 ≤ q_sL ω) (hL : q_sL ω ≤ 3072) (hc : cs + 1 ≤ 600002) (hs : sl + 6 ≤ 7302232)
    (ok : q_okI (fun Qx => J ω m_L_value 2000 1 6 0 0 0 [(0, .ref 1), (1, .int (q_sx ω (j + 1))), (2, .ref 132)] [] σ Qx) (fun τ Qx => J ω m_M_value 2000 0 0 0 0 0 [(0, .ref 94), (1, .int (q_sx ω (j + 1)))] [] τ Qx) P)
    (next : ∀ τ, q_E τ → P τ → J ω m_law 2048 600002 7302232 (cs + 1) (sl + 6) 969 [(4, .int (nI j)), (3, .ref 132), (2, .ref 94), (1, .ref 1), (0, .ref 1000000)] [] τ Q) : J ω m_law 2048 600002 7302232 cs sl 888 [(4, .int (nI j)), (3, .ref 132), (2, .ref 94), (1, .ref 1), (0, .ref 1000000)] [] σ Q := by
  refine j_aload_n d_law_888 3 rfl ?_
  refine j_aload_n d_law_889 4 rfl ?_
  refine j_iload d_law_890 0 rfl ?_
  refine j_iconst (v := 1) d_law_892 (by decide) ?_
  refine j_iadd d_law_893 ?_
  refine j_topE (v := nI (j + 1)) (nI_add j 1) ?_
  refine j_scr (j + 1) d_law_894 rfl (by omega) hL ?_
  refine j_aload_n d_law_895 1 rfl ?_
  refine j_callS m_L_value [.ref 1, .int (q_sx ω (j + 1)), .ref 132] [] 2000 1 6 cS_L_124 d_law_896 rfl rfl (by decide) (by decide) (Nat.le_of_ble_eq_true rfl) (by omega) (by omega) ok (fun v τ h => ?_) (fun x τ h => ?_)
  rotate_left
  · obtain ⟨k, h1, -⟩ := h; cases h1
  obtain ⟨k, h1, hE1, h⟩ := h
  cases h1
  refine j_istore (L' := [(5, .int k), (4, .int (nI j)), (3, .ref 132), (2, .ref 94), (1, .ref 1), (0, .ref 1000000)]) d_law_899 (by decide) rfl ?_
  refine j_aload_n d_law_901 3 rfl ?_
  refine j_aload_n d_law_902 5 rfl ?_
  refine j_iload d_law_903 1 rfl ?_
  refine j_iconst (v := 1) d_law_905 (by decide) ?_
  refine j_iadd d_law_906 ?_
  refine j_topE (v := nI (j + 1)) (nI_add j 1) ?_
  refine j_scr (j + 1) d_law_907 rfl (by omega) hL ?_
  refine j_callV m_M_value [.int (q_sx ω (j + 1))] [] 2000 0 0 cV_L_126 d_law_908 rfl rfl (tg_94 hE1) (q_okE hE1 (by decide)) (Nat.le_of_ble_eq_true rfl) (by decide) (Nat.le_of_ble_eq_true rfl) (by omega) (by omega) h (fun v τ2 h => ?_) (fun x τ2 h => ?_)
  rotate_left
  · obtain ⟨bv, h1, -⟩ := h; cases h1
  obtain ⟨bv, h1, hE2, hth, ho, hP⟩ := h
  cases h1
  refine j_istore (L' := [(6, .int bv), (5, .int k), (4, .int (nI j)), (3, .ref 132), (2, .ref 94), (1, .ref 1), (0, .ref 1000000)]) d_law_911 (by decide) rfl ?_
  refine j_aload_n d_law_913 4 rfl ?_
  refine j_callV m_M_thrown [] [] 0 0 0 cV_L_77 d_law_914 rfl rfl (tg_94 hE2) (q_okE hE2 (by decide)) (Nat.le_of_ble_eq_true rfl) (by decide) (Nat.le_of_ble_eq_true rfl) (by omega) (by omega) (c_M_thrown hE2 hth) (fun v τ3 h => ?_) (fun x τ3 h => absurd h.1 (by simp))
  obtain ⟨h1, hτ⟩ := h
  cases h1
  rw [hτ]
  refine j_iload d_law_917 1 rfl ?_
  refine j_icmp_eq 924 d_law_919 (by decide) (fun _ => ?_) (fun h => absurd rfl h)
  refine j_iload d_law_924 1 rfl ?_
  by_cases hk : k = 0
  · refine j_if_ne 941 d_law_926 (by decide) (fun h => absurd hk h) (fun _ => ?_)
    refine j_aload_n d_law_929 3 rfl ?_
    refine j_iconst (v := 0) d_law_930 (by decide) ?_
    refine j_lald 0 d_law_931 (tg_132 hE2) (q_okE hE2 (by decide)) rfl (by decide) (by decide) ?_
    refine j_iload d_law_932 0 rfl ?_
    refine j_i2l d_law_934 ?_
    refine j_lcmp d_law_935 ?_
    rw [ho hk, q_cmp0]
    refine j_if_eq 941 d_law_936 (by decide) (fun _ => ?_) (fun h => absurd rfl h)
    refine j_goto 969 d_law_941 (by decide) ?_
    refine j_pick [2, 3, 4, 5, 6] rfl ?_
    exact j_widen (by omega) (by omega) (next τ2 hE2 hP)
  · refine j_if_ne 941 d_law_926 (by decide) (fun _ => ?_) (fun h => absurd h hk)
    refine j_goto 969 d_law_941 (by decide) ?_
    refine j_pick [2, 3, 4, 5, 6] rfl ?_
    exact j_widen (by omega) (by omega) (next τ2 hE2 hP)
set_option maxHeartbeats 1000000 in
theorem lw_count {ω : q_W} {σ : q_H} {cs sl j : Nat} {Q : q_R → q_H → Prop} {P : q_H → Prop} (hE : q_E σ) (hi : j + 6 ≤ q_sL ω) (hL : q_sL ω ≤ 3072) (hc : cs + 1 ≤ 600002) (hs : sl + 6 ≤ 7302232)
    (ok : q_okC (fun Qx => J ω m_H_count 2000 0 0 0 0 0 [(0, .ref 1), (1, .int (q_sx ω (j + 1)))] [] σ Qx) (fun τ Qx => J ω m_M_count 2000 0 0 0 0 0 [(0, .ref 94), (1, .int (q_sx ω (j + 1)))] [] τ Qx) P)
    (next : ∀ τ, q_E τ → P τ → J ω m_law 2048 600002 7302232 (cs + 1) (sl + 6) 969 [(4, .int (nI j)), (3, .ref 132), (2, .ref 94), (1, .ref 1), (0, .ref 1000000)] [] τ Q) : J ω m_law 2048 600002 7302232 cs sl 944 [(4, .int (nI j)), (3, .ref 132), (2, .ref 94), (1, .ref 1), (0, .ref 1000000)] [] σ Q := by
  refine j_aload_n d_law_944 3 rfl ?_
  refine j_aload_n d_law_945 4 rfl ?_
  refine j_iload d_law_946 0 rfl ?_
  refine j_iconst (v := 1) d_law_948 (by decide) ?_
  refine j_iadd d_law_949 ?_
  refine j_topE (v := nI (j + 1)) (nI_add j 1) ?_
  refine j_scr (j + 1) d_law_950 rfl (by omega) hL ?_
  refine j_callV m_H_count [.int (q_sx ω (j + 1))] [] 2000 0 0 cV_L_127 d_law_951 rfl rfl (tg_1 hE) (q_okE hE (by decide)) (by decide) (by decide) (Nat.le_of_ble_eq_true rfl) (by omega) (by omega) ok (fun v τ h => ?_) (fun x τ h => ?_)
  rotate_left
  · obtain ⟨k, h1, -⟩ := h; cases h1
  obtain ⟨k, h1, hE1, h⟩ := h
  cases h1
  refine j_aload_n d_law_954 2 rfl ?_
  refine j_aload_n d_law_955 4 rfl ?_
  refine j_iload d_law_956 0 rfl ?_
  refine j_iconst (v := 1) d_law_958 (by decide) ?_
  refine j_iadd d_law_959 ?_
  refine j_topE (v := nI (j + 1)) (nI_add j 1) ?_
  refine j_scr (j + 1) d_law_960 rfl (by omega) hL ?_
  refine j_callV m_M_count [.int (q_sx ω (j + 1))] [.int k] 2000 0 0 cV_L_130 d_law_961 rfl rfl (tg_94 hE1) (q_okE hE1 (by decide)) (Nat.le_of_ble_eq_true rfl) (by decide) (Nat.le_of_ble_eq_true rfl) (by omega) (by omega) h (fun v τ2 h => ?_) (fun x τ2 h => ?_)
  rotate_left
  · obtain ⟨h1, -⟩ := h; cases h1
  obtain ⟨h1, hE2, hP⟩ := h
  cases h1
  refine j_icmp_eq 969 d_law_964 (by decide) (fun _ => ?_) (fun h => absurd rfl h)
  exact j_widen (by omega) (by omega) (next τ2 hE2 hP)
