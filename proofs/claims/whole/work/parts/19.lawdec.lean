/-! the law's own instructions -/
theorem dw_0 : decode code 0 = .ok (.new 8, 3) := by decide +kernel
theorem dw_3 : decode code 3 = .ok (.dup, 1) := by decide +kernel
theorem dw_4 : decode code 4 = .ok (.invokespecial 86, 3) := by decide +kernel
theorem dw_7 : decode code 7 = .ok (.astore_n 1, 1) := by decide +kernel
theorem dw_8 : decode code 8 = .ok (.new 87, 3) := by decide +kernel
theorem dw_11 : decode code 11 = .ok (.dup, 1) := by decide +kernel
theorem dw_12 : decode code 12 = .ok (.invokespecial 89, 3) := by decide +kernel
theorem dw_15 : decode code 15 = .ok (.astore_n 2, 1) := by decide +kernel
theorem dw_16 : decode code 16 = .ok (.iconst 1, 1) := by decide +kernel
theorem dw_17 : decode code 17 = .ok (.newarray .long, 2) := by decide +kernel
theorem dw_19 : decode code 19 = .ok (.astore_n 3, 1) := by decide +kernel
theorem dw_20 : decode code 20 = .ok (.iconst 0, 1) := by decide +kernel
theorem dw_21 : decode code 21 = .ok (.istore 4, 2) := by decide +kernel
theorem dw_23 : decode code 23 = .ok (.iload 4, 2) := by decide +kernel
theorem dw_25 : decode code 25 = .ok (.aload_n 0, 1) := by decide +kernel
theorem dw_26 : decode code 26 = .ok (.arraylength, 1) := by decide +kernel
theorem dw_27 : decode code 27 = .ok (.bipush 6, 2) := by decide +kernel
theorem dw_29 : decode code 29 = .ok (.isub, 1) := by decide +kernel
theorem dw_30 : decode code 30 = .ok (.if_icmp .gt 1482, 3) := by decide +kernel
theorem dw_33 : decode code 33 = .ok (.aload_n 0, 1) := by decide +kernel
theorem dw_34 : decode code 34 = .ok (.iload 4, 2) := by decide +kernel
theorem dw_36 : decode code 36 = .ok (.iaload, 1) := by decide +kernel
theorem dw_37 : decode code 37 = .ok (.bipush 31, 2) := by decide +kernel
theorem dw_39 : decode code 39 = .ok (.iand, 1) := by decide +kernel
theorem dw_40 : decode code 40 = .ok (.tableswitch 1466 0 23 #[112, 160, 252, 356, 436, 496, 564, 608, 621, 684, 752, 820, 876, 963, 1019, 1091, 1135, 1191, 1259, 1272, 1328, 1384, 1440, 1453], 112) := by decide +kernel
theorem dw_152 : decode code 152 = .ok (.aload_n 1, 1) := by decide +kernel
theorem dw_153 : decode code 153 = .ok (.aload_n 0, 1) := by decide +kernel
theorem dw_154 : decode code 154 = .ok (.iload 4, 2) := by decide +kernel
theorem dw_156 : decode code 156 = .ok (.iconst 1, 1) := by decide +kernel
theorem dw_157 : decode code 157 = .ok (.iadd, 1) := by decide +kernel
theorem dw_158 : decode code 158 = .ok (.iaload, 1) := by decide +kernel
theorem dw_159 : decode code 159 = .ok (.aload_n 0, 1) := by decide +kernel
theorem dw_160 : decode code 160 = .ok (.iload 4, 2) := by decide +kernel
theorem dw_162 : decode code 162 = .ok (.iconst 2, 1) := by decide +kernel
theorem dw_163 : decode code 163 = .ok (.iadd, 1) := by decide +kernel
theorem dw_164 : decode code 164 = .ok (.iaload, 1) := by decide +kernel
theorem dw_165 : decode code 165 = .ok (.invokestatic 90, 3) := by decide +kernel
theorem dw_168 : decode code 168 = .ok (.istore 5, 2) := by decide +kernel
theorem dw_170 : decode code 170 = .ok (.aload_n 2, 1) := by decide +kernel
theorem dw_171 : decode code 171 = .ok (.aload_n 0, 1) := by decide +kernel
theorem dw_172 : decode code 172 = .ok (.iload 4, 2) := by decide +kernel
theorem dw_174 : decode code 174 = .ok (.iconst 1, 1) := by decide +kernel
theorem dw_175 : decode code 175 = .ok (.iadd, 1) := by decide +kernel
theorem dw_176 : decode code 176 = .ok (.iaload, 1) := by decide +kernel
theorem dw_177 : decode code 177 = .ok (.aload_n 0, 1) := by decide +kernel
theorem dw_178 : decode code 178 = .ok (.iload 4, 2) := by decide +kernel
theorem dw_180 : decode code 180 = .ok (.iconst 2, 1) := by decide +kernel
theorem dw_181 : decode code 181 = .ok (.iadd, 1) := by decide +kernel
theorem dw_182 : decode code 182 = .ok (.iaload, 1) := by decide +kernel
theorem dw_183 : decode code 183 = .ok (.invokevirtual 95, 3) := by decide +kernel
theorem dw_186 : decode code 186 = .ok (.aload_n 2, 1) := by decide +kernel
theorem dw_187 : decode code 187 = .ok (.invokevirtual 96, 3) := by decide +kernel
theorem dw_190 : decode code 190 = .ok (.iload 5, 2) := by decide +kernel
theorem dw_192 : decode code 192 = .ok (.if_icmp .eq 5, 3) := by decide +kernel
theorem dw_195 : decode code 195 = .ok (.iconst 0, 1) := by decide +kernel
theorem dw_196 : decode code 196 = .ok (.ireturn, 1) := by decide +kernel
theorem dw_197 : decode code 197 = .ok (.goto 1309, 3) := by decide +kernel
theorem dw_200 : decode code 200 = .ok (.aload_n 1, 1) := by decide +kernel
theorem dw_201 : decode code 201 = .ok (.aload_n 0, 1) := by decide +kernel
theorem dw_202 : decode code 202 = .ok (.iload 4, 2) := by decide +kernel
theorem dw_204 : decode code 204 = .ok (.iconst 1, 1) := by decide +kernel
theorem dw_205 : decode code 205 = .ok (.iadd, 1) := by decide +kernel
theorem dw_206 : decode code 206 = .ok (.iaload, 1) := by decide +kernel
theorem dw_207 : decode code 207 = .ok (.aload_n 0, 1) := by decide +kernel
theorem dw_208 : decode code 208 = .ok (.iload 4, 2) := by decide +kernel
theorem dw_210 : decode code 210 = .ok (.iconst 2, 1) := by decide +kernel
theorem dw_211 : decode code 211 = .ok (.iadd, 1) := by decide +kernel
theorem dw_212 : decode code 212 = .ok (.iaload, 1) := by decide +kernel
theorem dw_213 : decode code 213 = .ok (.aload_n 0, 1) := by decide +kernel
theorem dw_214 : decode code 214 = .ok (.iload 4, 2) := by decide +kernel
theorem dw_216 : decode code 216 = .ok (.iconst 3, 1) := by decide +kernel
theorem dw_217 : decode code 217 = .ok (.iadd, 1) := by decide +kernel
theorem dw_218 : decode code 218 = .ok (.iaload, 1) := by decide +kernel
theorem dw_219 : decode code 219 = .ok (.aload_n 0, 1) := by decide +kernel
theorem dw_220 : decode code 220 = .ok (.iload 4, 2) := by decide +kernel
theorem dw_222 : decode code 222 = .ok (.iconst 4, 1) := by decide +kernel
theorem dw_223 : decode code 223 = .ok (.iadd, 1) := by decide +kernel
theorem dw_224 : decode code 224 = .ok (.iaload, 1) := by decide +kernel
theorem dw_225 : decode code 225 = .ok (.aload_n 3, 1) := by decide +kernel
theorem dw_226 : decode code 226 = .ok (.invokestatic 99, 3) := by decide +kernel
theorem dw_229 : decode code 229 = .ok (.istore 5, 2) := by decide +kernel
theorem dw_231 : decode code 231 = .ok (.aload_n 2, 1) := by decide +kernel
theorem dw_232 : decode code 232 = .ok (.aload_n 0, 1) := by decide +kernel
theorem dw_233 : decode code 233 = .ok (.iload 4, 2) := by decide +kernel
theorem dw_235 : decode code 235 = .ok (.iconst 1, 1) := by decide +kernel
theorem dw_236 : decode code 236 = .ok (.iadd, 1) := by decide +kernel
theorem dw_237 : decode code 237 = .ok (.iaload, 1) := by decide +kernel
theorem dw_238 : decode code 238 = .ok (.aload_n 0, 1) := by decide +kernel
theorem dw_239 : decode code 239 = .ok (.iload 4, 2) := by decide +kernel
theorem dw_241 : decode code 241 = .ok (.iconst 2, 1) := by decide +kernel
theorem dw_242 : decode code 242 = .ok (.iadd, 1) := by decide +kernel
theorem dw_243 : decode code 243 = .ok (.iaload, 1) := by decide +kernel
theorem dw_244 : decode code 244 = .ok (.aload_n 0, 1) := by decide +kernel
theorem dw_245 : decode code 245 = .ok (.iload 4, 2) := by decide +kernel
theorem dw_247 : decode code 247 = .ok (.iconst 3, 1) := by decide +kernel
theorem dw_248 : decode code 248 = .ok (.iadd, 1) := by decide +kernel
theorem dw_249 : decode code 249 = .ok (.iaload, 1) := by decide +kernel
theorem dw_250 : decode code 250 = .ok (.aload_n 0, 1) := by decide +kernel
theorem dw_251 : decode code 251 = .ok (.iload 4, 2) := by decide +kernel
theorem dw_253 : decode code 253 = .ok (.iconst 4, 1) := by decide +kernel
theorem dw_254 : decode code 254 = .ok (.iadd, 1) := by decide +kernel
theorem dw_255 : decode code 255 = .ok (.iaload, 1) := by decide +kernel
theorem dw_256 : decode code 256 = .ok (.invokevirtual 102, 3) := by decide +kernel
theorem dw_259 : decode code 259 = .ok (.istore 6, 2) := by decide +kernel
theorem dw_261 : decode code 261 = .ok (.aload_n 2, 1) := by decide +kernel
theorem dw_262 : decode code 262 = .ok (.invokevirtual 96, 3) := by decide +kernel
theorem dw_265 : decode code 265 = .ok (.iload 5, 2) := by decide +kernel
theorem dw_267 : decode code 267 = .ok (.if_icmp .eq 5, 3) := by decide +kernel
theorem dw_270 : decode code 270 = .ok (.iconst 0, 1) := by decide +kernel
theorem dw_271 : decode code 271 = .ok (.ireturn, 1) := by decide +kernel
theorem dw_272 : decode code 272 = .ok (.iload 5, 2) := by decide +kernel
theorem dw_274 : decode code 274 = .ok (.ifCond .ne 15, 3) := by decide +kernel
theorem dw_277 : decode code 277 = .ok (.aload_n 3, 1) := by decide +kernel
theorem dw_278 : decode code 278 = .ok (.iconst 0, 1) := by decide +kernel
theorem dw_279 : decode code 279 = .ok (.laload, 1) := by decide +kernel
theorem dw_280 : decode code 280 = .ok (.iload 6, 2) := by decide +kernel
theorem dw_282 : decode code 282 = .ok (.i2l, 1) := by decide +kernel
theorem dw_283 : decode code 283 = .ok (.lcmp, 1) := by decide +kernel
theorem dw_284 : decode code 284 = .ok (.ifCond .eq 5, 3) := by decide +kernel
theorem dw_287 : decode code 287 = .ok (.iconst 0, 1) := by decide +kernel
theorem dw_288 : decode code 288 = .ok (.ireturn, 1) := by decide +kernel
theorem dw_289 : decode code 289 = .ok (.goto 1217, 3) := by decide +kernel
theorem dw_292 : decode code 292 = .ok (.aload_n 1, 1) := by decide +kernel
theorem dw_293 : decode code 293 = .ok (.aload_n 0, 1) := by decide +kernel
theorem dw_294 : decode code 294 = .ok (.iload 4, 2) := by decide +kernel
theorem dw_296 : decode code 296 = .ok (.iconst 1, 1) := by decide +kernel
theorem dw_297 : decode code 297 = .ok (.iadd, 1) := by decide +kernel
theorem dw_298 : decode code 298 = .ok (.iaload, 1) := by decide +kernel
theorem dw_299 : decode code 299 = .ok (.aload_n 0, 1) := by decide +kernel
theorem dw_300 : decode code 300 = .ok (.iload 4, 2) := by decide +kernel
theorem dw_302 : decode code 302 = .ok (.iconst 2, 1) := by decide +kernel
theorem dw_303 : decode code 303 = .ok (.iadd, 1) := by decide +kernel
theorem dw_304 : decode code 304 = .ok (.iaload, 1) := by decide +kernel
theorem dw_305 : decode code 305 = .ok (.aload_n 0, 1) := by decide +kernel
theorem dw_306 : decode code 306 = .ok (.iload 4, 2) := by decide +kernel
theorem dw_308 : decode code 308 = .ok (.iconst 3, 1) := by decide +kernel
theorem dw_309 : decode code 309 = .ok (.iadd, 1) := by decide +kernel
theorem dw_310 : decode code 310 = .ok (.iaload, 1) := by decide +kernel
theorem dw_311 : decode code 311 = .ok (.aload_n 0, 1) := by decide +kernel
theorem dw_312 : decode code 312 = .ok (.iload 4, 2) := by decide +kernel
theorem dw_314 : decode code 314 = .ok (.iconst 4, 1) := by decide +kernel
theorem dw_315 : decode code 315 = .ok (.iadd, 1) := by decide +kernel
theorem dw_316 : decode code 316 = .ok (.iaload, 1) := by decide +kernel
theorem dw_317 : decode code 317 = .ok (.aload_n 0, 1) := by decide +kernel
theorem dw_318 : decode code 318 = .ok (.iload 4, 2) := by decide +kernel
theorem dw_320 : decode code 320 = .ok (.iconst 5, 1) := by decide +kernel
theorem dw_321 : decode code 321 = .ok (.iadd, 1) := by decide +kernel
theorem dw_322 : decode code 322 = .ok (.iaload, 1) := by decide +kernel
theorem dw_323 : decode code 323 = .ok (.aload_n 3, 1) := by decide +kernel
theorem dw_324 : decode code 324 = .ok (.invokestatic 103, 3) := by decide +kernel
theorem dw_327 : decode code 327 = .ok (.istore 5, 2) := by decide +kernel
theorem dw_329 : decode code 329 = .ok (.aload_n 2, 1) := by decide +kernel
theorem dw_330 : decode code 330 = .ok (.aload_n 0, 1) := by decide +kernel
theorem dw_331 : decode code 331 = .ok (.iload 4, 2) := by decide +kernel
theorem dw_333 : decode code 333 = .ok (.iconst 1, 1) := by decide +kernel
theorem dw_334 : decode code 334 = .ok (.iadd, 1) := by decide +kernel
theorem dw_335 : decode code 335 = .ok (.iaload, 1) := by decide +kernel
theorem dw_336 : decode code 336 = .ok (.aload_n 0, 1) := by decide +kernel
theorem dw_337 : decode code 337 = .ok (.iload 4, 2) := by decide +kernel
theorem dw_339 : decode code 339 = .ok (.iconst 2, 1) := by decide +kernel
theorem dw_340 : decode code 340 = .ok (.iadd, 1) := by decide +kernel
theorem dw_341 : decode code 341 = .ok (.iaload, 1) := by decide +kernel
theorem dw_342 : decode code 342 = .ok (.aload_n 0, 1) := by decide +kernel
theorem dw_343 : decode code 343 = .ok (.iload 4, 2) := by decide +kernel
theorem dw_345 : decode code 345 = .ok (.iconst 3, 1) := by decide +kernel
theorem dw_346 : decode code 346 = .ok (.iadd, 1) := by decide +kernel
theorem dw_347 : decode code 347 = .ok (.iaload, 1) := by decide +kernel
theorem dw_348 : decode code 348 = .ok (.aload_n 0, 1) := by decide +kernel
theorem dw_349 : decode code 349 = .ok (.iload 4, 2) := by decide +kernel
theorem dw_351 : decode code 351 = .ok (.iconst 4, 1) := by decide +kernel
theorem dw_352 : decode code 352 = .ok (.iadd, 1) := by decide +kernel
theorem dw_353 : decode code 353 = .ok (.iaload, 1) := by decide +kernel
theorem dw_354 : decode code 354 = .ok (.aload_n 0, 1) := by decide +kernel
theorem dw_355 : decode code 355 = .ok (.iload 4, 2) := by decide +kernel
theorem dw_357 : decode code 357 = .ok (.iconst 5, 1) := by decide +kernel
theorem dw_358 : decode code 358 = .ok (.iadd, 1) := by decide +kernel
theorem dw_359 : decode code 359 = .ok (.iaload, 1) := by decide +kernel
theorem dw_360 : decode code 360 = .ok (.invokevirtual 106, 3) := by decide +kernel
theorem dw_363 : decode code 363 = .ok (.istore 6, 2) := by decide +kernel
theorem dw_365 : decode code 365 = .ok (.aload_n 2, 1) := by decide +kernel
theorem dw_366 : decode code 366 = .ok (.invokevirtual 96, 3) := by decide +kernel
theorem dw_369 : decode code 369 = .ok (.iload 5, 2) := by decide +kernel
theorem dw_371 : decode code 371 = .ok (.if_icmp .eq 5, 3) := by decide +kernel
theorem dw_374 : decode code 374 = .ok (.iconst 0, 1) := by decide +kernel
theorem dw_375 : decode code 375 = .ok (.ireturn, 1) := by decide +kernel
theorem dw_376 : decode code 376 = .ok (.iload 5, 2) := by decide +kernel
theorem dw_378 : decode code 378 = .ok (.ifCond .ne 15, 3) := by decide +kernel
theorem dw_381 : decode code 381 = .ok (.aload_n 3, 1) := by decide +kernel
theorem dw_382 : decode code 382 = .ok (.iconst 0, 1) := by decide +kernel
theorem dw_383 : decode code 383 = .ok (.laload, 1) := by decide +kernel
theorem dw_384 : decode code 384 = .ok (.iload 6, 2) := by decide +kernel
theorem dw_386 : decode code 386 = .ok (.i2l, 1) := by decide +kernel
theorem dw_387 : decode code 387 = .ok (.lcmp, 1) := by decide +kernel
theorem dw_388 : decode code 388 = .ok (.ifCond .eq 5, 3) := by decide +kernel
theorem dw_391 : decode code 391 = .ok (.iconst 0, 1) := by decide +kernel
theorem dw_392 : decode code 392 = .ok (.ireturn, 1) := by decide +kernel
theorem dw_393 : decode code 393 = .ok (.goto 1113, 3) := by decide +kernel
theorem dw_396 : decode code 396 = .ok (.aload_n 1, 1) := by decide +kernel
theorem dw_397 : decode code 397 = .ok (.aload_n 0, 1) := by decide +kernel
theorem dw_398 : decode code 398 = .ok (.iload 4, 2) := by decide +kernel
theorem dw_400 : decode code 400 = .ok (.iconst 1, 1) := by decide +kernel
theorem dw_401 : decode code 401 = .ok (.iadd, 1) := by decide +kernel
theorem dw_402 : decode code 402 = .ok (.iaload, 1) := by decide +kernel
theorem dw_403 : decode code 403 = .ok (.aload_n 0, 1) := by decide +kernel
theorem dw_404 : decode code 404 = .ok (.iload 4, 2) := by decide +kernel
theorem dw_406 : decode code 406 = .ok (.iconst 2, 1) := by decide +kernel
theorem dw_407 : decode code 407 = .ok (.iadd, 1) := by decide +kernel
theorem dw_408 : decode code 408 = .ok (.iaload, 1) := by decide +kernel
theorem dw_409 : decode code 409 = .ok (.aload_n 0, 1) := by decide +kernel
theorem dw_410 : decode code 410 = .ok (.iload 4, 2) := by decide +kernel
theorem dw_412 : decode code 412 = .ok (.iconst 3, 1) := by decide +kernel
theorem dw_413 : decode code 413 = .ok (.iadd, 1) := by decide +kernel
theorem dw_414 : decode code 414 = .ok (.iaload, 1) := by decide +kernel
theorem dw_415 : decode code 415 = .ok (.aload_n 3, 1) := by decide +kernel
theorem dw_416 : decode code 416 = .ok (.invokestatic 107, 3) := by decide +kernel
theorem dw_419 : decode code 419 = .ok (.istore 5, 2) := by decide +kernel
theorem dw_421 : decode code 421 = .ok (.aload_n 2, 1) := by decide +kernel
theorem dw_422 : decode code 422 = .ok (.aload_n 0, 1) := by decide +kernel
theorem dw_423 : decode code 423 = .ok (.iload 4, 2) := by decide +kernel
theorem dw_425 : decode code 425 = .ok (.iconst 1, 1) := by decide +kernel
theorem dw_426 : decode code 426 = .ok (.iadd, 1) := by decide +kernel
theorem dw_427 : decode code 427 = .ok (.iaload, 1) := by decide +kernel
theorem dw_428 : decode code 428 = .ok (.aload_n 0, 1) := by decide +kernel
theorem dw_429 : decode code 429 = .ok (.iload 4, 2) := by decide +kernel
theorem dw_431 : decode code 431 = .ok (.iconst 2, 1) := by decide +kernel
theorem dw_432 : decode code 432 = .ok (.iadd, 1) := by decide +kernel
theorem dw_433 : decode code 433 = .ok (.iaload, 1) := by decide +kernel
theorem dw_434 : decode code 434 = .ok (.aload_n 0, 1) := by decide +kernel
theorem dw_435 : decode code 435 = .ok (.iload 4, 2) := by decide +kernel
theorem dw_437 : decode code 437 = .ok (.iconst 3, 1) := by decide +kernel
theorem dw_438 : decode code 438 = .ok (.iadd, 1) := by decide +kernel
theorem dw_439 : decode code 439 = .ok (.iaload, 1) := by decide +kernel
theorem dw_440 : decode code 440 = .ok (.invokevirtual 110, 3) := by decide +kernel
theorem dw_443 : decode code 443 = .ok (.istore 6, 2) := by decide +kernel
theorem dw_445 : decode code 445 = .ok (.aload_n 2, 1) := by decide +kernel
theorem dw_446 : decode code 446 = .ok (.invokevirtual 96, 3) := by decide +kernel
theorem dw_449 : decode code 449 = .ok (.iload 5, 2) := by decide +kernel
theorem dw_451 : decode code 451 = .ok (.if_icmp .eq 5, 3) := by decide +kernel
theorem dw_454 : decode code 454 = .ok (.iconst 0, 1) := by decide +kernel
theorem dw_455 : decode code 455 = .ok (.ireturn, 1) := by decide +kernel
theorem dw_456 : decode code 456 = .ok (.iload 5, 2) := by decide +kernel
theorem dw_458 : decode code 458 = .ok (.ifCond .ne 15, 3) := by decide +kernel
theorem dw_461 : decode code 461 = .ok (.aload_n 3, 1) := by decide +kernel
theorem dw_462 : decode code 462 = .ok (.iconst 0, 1) := by decide +kernel
theorem dw_463 : decode code 463 = .ok (.laload, 1) := by decide +kernel
theorem dw_464 : decode code 464 = .ok (.iload 6, 2) := by decide +kernel
theorem dw_466 : decode code 466 = .ok (.i2l, 1) := by decide +kernel
theorem dw_467 : decode code 467 = .ok (.lcmp, 1) := by decide +kernel
theorem dw_468 : decode code 468 = .ok (.ifCond .eq 5, 3) := by decide +kernel
theorem dw_471 : decode code 471 = .ok (.iconst 0, 1) := by decide +kernel
theorem dw_472 : decode code 472 = .ok (.ireturn, 1) := by decide +kernel
theorem dw_473 : decode code 473 = .ok (.goto 1033, 3) := by decide +kernel
theorem dw_476 : decode code 476 = .ok (.aload_n 1, 1) := by decide +kernel
theorem dw_477 : decode code 477 = .ok (.aload_n 0, 1) := by decide +kernel
theorem dw_478 : decode code 478 = .ok (.iload 4, 2) := by decide +kernel
theorem dw_480 : decode code 480 = .ok (.iconst 1, 1) := by decide +kernel
theorem dw_481 : decode code 481 = .ok (.iadd, 1) := by decide +kernel
theorem dw_482 : decode code 482 = .ok (.iaload, 1) := by decide +kernel
theorem dw_483 : decode code 483 = .ok (.aload_n 0, 1) := by decide +kernel
theorem dw_484 : decode code 484 = .ok (.iload 4, 2) := by decide +kernel
theorem dw_486 : decode code 486 = .ok (.iconst 2, 1) := by decide +kernel
theorem dw_487 : decode code 487 = .ok (.iadd, 1) := by decide +kernel
theorem dw_488 : decode code 488 = .ok (.iaload, 1) := by decide +kernel
theorem dw_489 : decode code 489 = .ok (.aload_n 0, 1) := by decide +kernel
theorem dw_490 : decode code 490 = .ok (.iload 4, 2) := by decide +kernel
theorem dw_492 : decode code 492 = .ok (.iconst 3, 1) := by decide +kernel
theorem dw_493 : decode code 493 = .ok (.iadd, 1) := by decide +kernel
theorem dw_494 : decode code 494 = .ok (.iaload, 1) := by decide +kernel
theorem dw_495 : decode code 495 = .ok (.invokestatic 111, 3) := by decide +kernel
theorem dw_498 : decode code 498 = .ok (.istore 5, 2) := by decide +kernel
theorem dw_500 : decode code 500 = .ok (.aload_n 2, 1) := by decide +kernel
theorem dw_501 : decode code 501 = .ok (.aload_n 0, 1) := by decide +kernel
theorem dw_502 : decode code 502 = .ok (.iload 4, 2) := by decide +kernel
theorem dw_504 : decode code 504 = .ok (.iconst 1, 1) := by decide +kernel
theorem dw_505 : decode code 505 = .ok (.iadd, 1) := by decide +kernel
theorem dw_506 : decode code 506 = .ok (.iaload, 1) := by decide +kernel
theorem dw_507 : decode code 507 = .ok (.aload_n 0, 1) := by decide +kernel
theorem dw_508 : decode code 508 = .ok (.iload 4, 2) := by decide +kernel
theorem dw_510 : decode code 510 = .ok (.iconst 2, 1) := by decide +kernel
theorem dw_511 : decode code 511 = .ok (.iadd, 1) := by decide +kernel
theorem dw_512 : decode code 512 = .ok (.iaload, 1) := by decide +kernel
theorem dw_513 : decode code 513 = .ok (.aload_n 0, 1) := by decide +kernel
theorem dw_514 : decode code 514 = .ok (.iload 4, 2) := by decide +kernel
theorem dw_516 : decode code 516 = .ok (.iconst 3, 1) := by decide +kernel
theorem dw_517 : decode code 517 = .ok (.iadd, 1) := by decide +kernel
theorem dw_518 : decode code 518 = .ok (.iaload, 1) := by decide +kernel
theorem dw_519 : decode code 519 = .ok (.invokevirtual 114, 3) := by decide +kernel
theorem dw_522 : decode code 522 = .ok (.aload_n 2, 1) := by decide +kernel
theorem dw_523 : decode code 523 = .ok (.invokevirtual 96, 3) := by decide +kernel
theorem dw_526 : decode code 526 = .ok (.iload 5, 2) := by decide +kernel
theorem dw_528 : decode code 528 = .ok (.if_icmp .eq 5, 3) := by decide +kernel
theorem dw_531 : decode code 531 = .ok (.iconst 0, 1) := by decide +kernel
theorem dw_532 : decode code 532 = .ok (.ireturn, 1) := by decide +kernel
theorem dw_533 : decode code 533 = .ok (.goto 973, 3) := by decide +kernel
theorem dw_536 : decode code 536 = .ok (.aload_n 1, 1) := by decide +kernel
theorem dw_537 : decode code 537 = .ok (.aload_n 0, 1) := by decide +kernel
theorem dw_538 : decode code 538 = .ok (.iload 4, 2) := by decide +kernel
theorem dw_540 : decode code 540 = .ok (.iconst 1, 1) := by decide +kernel
theorem dw_541 : decode code 541 = .ok (.iadd, 1) := by decide +kernel
theorem dw_542 : decode code 542 = .ok (.iaload, 1) := by decide +kernel
theorem dw_543 : decode code 543 = .ok (.aload_n 0, 1) := by decide +kernel
theorem dw_544 : decode code 544 = .ok (.iload 4, 2) := by decide +kernel
theorem dw_546 : decode code 546 = .ok (.iconst 2, 1) := by decide +kernel
theorem dw_547 : decode code 547 = .ok (.iadd, 1) := by decide +kernel
theorem dw_548 : decode code 548 = .ok (.iaload, 1) := by decide +kernel
theorem dw_549 : decode code 549 = .ok (.aload_n 3, 1) := by decide +kernel
theorem dw_550 : decode code 550 = .ok (.invokestatic 115, 3) := by decide +kernel
theorem dw_553 : decode code 553 = .ok (.istore 5, 2) := by decide +kernel
theorem dw_555 : decode code 555 = .ok (.aload_n 2, 1) := by decide +kernel
theorem dw_556 : decode code 556 = .ok (.aload_n 0, 1) := by decide +kernel
theorem dw_557 : decode code 557 = .ok (.iload 4, 2) := by decide +kernel
theorem dw_559 : decode code 559 = .ok (.iconst 1, 1) := by decide +kernel
theorem dw_560 : decode code 560 = .ok (.iadd, 1) := by decide +kernel
theorem dw_561 : decode code 561 = .ok (.iaload, 1) := by decide +kernel
theorem dw_562 : decode code 562 = .ok (.aload_n 0, 1) := by decide +kernel
theorem dw_563 : decode code 563 = .ok (.iload 4, 2) := by decide +kernel
theorem dw_565 : decode code 565 = .ok (.iconst 2, 1) := by decide +kernel
theorem dw_566 : decode code 566 = .ok (.iadd, 1) := by decide +kernel
theorem dw_567 : decode code 567 = .ok (.iaload, 1) := by decide +kernel
theorem dw_568 : decode code 568 = .ok (.invokevirtual 118, 3) := by decide +kernel
theorem dw_571 : decode code 571 = .ok (.istore 6, 2) := by decide +kernel
theorem dw_573 : decode code 573 = .ok (.aload_n 2, 1) := by decide +kernel
theorem dw_574 : decode code 574 = .ok (.invokevirtual 96, 3) := by decide +kernel
theorem dw_577 : decode code 577 = .ok (.iload 5, 2) := by decide +kernel
theorem dw_579 : decode code 579 = .ok (.if_icmp .eq 5, 3) := by decide +kernel
theorem dw_582 : decode code 582 = .ok (.iconst 0, 1) := by decide +kernel
theorem dw_583 : decode code 583 = .ok (.ireturn, 1) := by decide +kernel
theorem dw_584 : decode code 584 = .ok (.iload 5, 2) := by decide +kernel
theorem dw_586 : decode code 586 = .ok (.ifCond .ne 15, 3) := by decide +kernel
theorem dw_589 : decode code 589 = .ok (.aload_n 3, 1) := by decide +kernel
theorem dw_590 : decode code 590 = .ok (.iconst 0, 1) := by decide +kernel
theorem dw_591 : decode code 591 = .ok (.laload, 1) := by decide +kernel
theorem dw_592 : decode code 592 = .ok (.iload 6, 2) := by decide +kernel
theorem dw_594 : decode code 594 = .ok (.i2l, 1) := by decide +kernel
theorem dw_595 : decode code 595 = .ok (.lcmp, 1) := by decide +kernel
theorem dw_596 : decode code 596 = .ok (.ifCond .eq 5, 3) := by decide +kernel
theorem dw_599 : decode code 599 = .ok (.iconst 0, 1) := by decide +kernel
theorem dw_600 : decode code 600 = .ok (.ireturn, 1) := by decide +kernel
theorem dw_601 : decode code 601 = .ok (.goto 905, 3) := by decide +kernel
theorem dw_604 : decode code 604 = .ok (.aload_n 1, 1) := by decide +kernel
theorem dw_605 : decode code 605 = .ok (.aload_n 3, 1) := by decide +kernel
theorem dw_606 : decode code 606 = .ok (.invokestatic 119, 3) := by decide +kernel
theorem dw_609 : decode code 609 = .ok (.istore 5, 2) := by decide +kernel
theorem dw_611 : decode code 611 = .ok (.aload_n 2, 1) := by decide +kernel
theorem dw_612 : decode code 612 = .ok (.invokevirtual 122, 3) := by decide +kernel
theorem dw_615 : decode code 615 = .ok (.istore 6, 2) := by decide +kernel
theorem dw_617 : decode code 617 = .ok (.aload_n 2, 1) := by decide +kernel
theorem dw_618 : decode code 618 = .ok (.invokevirtual 96, 3) := by decide +kernel
theorem dw_621 : decode code 621 = .ok (.iload 5, 2) := by decide +kernel
theorem dw_623 : decode code 623 = .ok (.if_icmp .eq 5, 3) := by decide +kernel
theorem dw_626 : decode code 626 = .ok (.iconst 0, 1) := by decide +kernel
theorem dw_627 : decode code 627 = .ok (.ireturn, 1) := by decide +kernel
theorem dw_628 : decode code 628 = .ok (.iload 5, 2) := by decide +kernel
theorem dw_630 : decode code 630 = .ok (.ifCond .ne 15, 3) := by decide +kernel
theorem dw_633 : decode code 633 = .ok (.aload_n 3, 1) := by decide +kernel
theorem dw_634 : decode code 634 = .ok (.iconst 0, 1) := by decide +kernel
theorem dw_635 : decode code 635 = .ok (.laload, 1) := by decide +kernel
theorem dw_636 : decode code 636 = .ok (.iload 6, 2) := by decide +kernel
theorem dw_638 : decode code 638 = .ok (.i2l, 1) := by decide +kernel
theorem dw_639 : decode code 639 = .ok (.lcmp, 1) := by decide +kernel
theorem dw_640 : decode code 640 = .ok (.ifCond .eq 5, 3) := by decide +kernel
theorem dw_643 : decode code 643 = .ok (.iconst 0, 1) := by decide +kernel
theorem dw_644 : decode code 644 = .ok (.ireturn, 1) := by decide +kernel
theorem dw_645 : decode code 645 = .ok (.goto 861, 3) := by decide +kernel
theorem dw_648 : decode code 648 = .ok (.aload_n 1, 1) := by decide +kernel
theorem dw_649 : decode code 649 = .ok (.invokevirtual 123, 3) := by decide +kernel
theorem dw_652 : decode code 652 = .ok (.aload_n 2, 1) := by decide +kernel
theorem dw_653 : decode code 653 = .ok (.invokevirtual 126, 3) := by decide +kernel
theorem dw_656 : decode code 656 = .ok (.if_icmp .eq 850, 3) := by decide +kernel
theorem dw_659 : decode code 659 = .ok (.iconst 0, 1) := by decide +kernel
theorem dw_660 : decode code 660 = .ok (.ireturn, 1) := by decide +kernel
theorem dw_661 : decode code 661 = .ok (.aload_n 1, 1) := by decide +kernel
theorem dw_662 : decode code 662 = .ok (.aload_n 0, 1) := by decide +kernel
theorem dw_663 : decode code 663 = .ok (.iload 4, 2) := by decide +kernel
theorem dw_665 : decode code 665 = .ok (.iconst 1, 1) := by decide +kernel
theorem dw_666 : decode code 666 = .ok (.iadd, 1) := by decide +kernel
theorem dw_667 : decode code 667 = .ok (.iaload, 1) := by decide +kernel
theorem dw_668 : decode code 668 = .ok (.aload_n 3, 1) := by decide +kernel
theorem dw_669 : decode code 669 = .ok (.invokestatic 127, 3) := by decide +kernel
theorem dw_672 : decode code 672 = .ok (.istore 5, 2) := by decide +kernel
theorem dw_674 : decode code 674 = .ok (.aload_n 2, 1) := by decide +kernel
theorem dw_675 : decode code 675 = .ok (.aload_n 0, 1) := by decide +kernel
theorem dw_676 : decode code 676 = .ok (.iload 4, 2) := by decide +kernel
theorem dw_678 : decode code 678 = .ok (.iconst 1, 1) := by decide +kernel
theorem dw_679 : decode code 679 = .ok (.iadd, 1) := by decide +kernel
theorem dw_680 : decode code 680 = .ok (.iaload, 1) := by decide +kernel
theorem dw_681 : decode code 681 = .ok (.invokevirtual 130, 3) := by decide +kernel
theorem dw_684 : decode code 684 = .ok (.istore 6, 2) := by decide +kernel
theorem dw_686 : decode code 686 = .ok (.aload_n 2, 1) := by decide +kernel
theorem dw_687 : decode code 687 = .ok (.invokevirtual 96, 3) := by decide +kernel
theorem dw_690 : decode code 690 = .ok (.iload 5, 2) := by decide +kernel
theorem dw_692 : decode code 692 = .ok (.if_icmp .eq 5, 3) := by decide +kernel
theorem dw_695 : decode code 695 = .ok (.iconst 0, 1) := by decide +kernel
theorem dw_696 : decode code 696 = .ok (.ireturn, 1) := by decide +kernel
theorem dw_697 : decode code 697 = .ok (.iload 5, 2) := by decide +kernel
theorem dw_699 : decode code 699 = .ok (.ifCond .ne 22, 3) := by decide +kernel
theorem dw_702 : decode code 702 = .ok (.aload_n 3, 1) := by decide +kernel
theorem dw_703 : decode code 703 = .ok (.iconst 0, 1) := by decide +kernel
theorem dw_704 : decode code 704 = .ok (.laload, 1) := by decide +kernel
theorem dw_705 : decode code 705 = .ok (.iload 6, 2) := by decide +kernel
theorem dw_707 : decode code 707 = .ok (.ifCond .eq 7, 3) := by decide +kernel
theorem dw_710 : decode code 710 = .ok (.lconst 1, 1) := by decide +kernel
theorem dw_711 : decode code 711 = .ok (.goto 4, 3) := by decide +kernel
theorem dw_714 : decode code 714 = .ok (.lconst 0, 1) := by decide +kernel
theorem dw_715 : decode code 715 = .ok (.lcmp, 1) := by decide +kernel
theorem dw_716 : decode code 716 = .ok (.ifCond .eq 5, 3) := by decide +kernel
theorem dw_719 : decode code 719 = .ok (.iconst 0, 1) := by decide +kernel
theorem dw_720 : decode code 720 = .ok (.ireturn, 1) := by decide +kernel
theorem dw_721 : decode code 721 = .ok (.goto 785, 3) := by decide +kernel
theorem dw_724 : decode code 724 = .ok (.aload_n 1, 1) := by decide +kernel
theorem dw_725 : decode code 725 = .ok (.aload_n 0, 1) := by decide +kernel
theorem dw_726 : decode code 726 = .ok (.iload 4, 2) := by decide +kernel
theorem dw_728 : decode code 728 = .ok (.iconst 1, 1) := by decide +kernel
theorem dw_729 : decode code 729 = .ok (.iadd, 1) := by decide +kernel
theorem dw_730 : decode code 730 = .ok (.iaload, 1) := by decide +kernel
theorem dw_731 : decode code 731 = .ok (.aload_n 0, 1) := by decide +kernel
theorem dw_732 : decode code 732 = .ok (.iload 4, 2) := by decide +kernel
theorem dw_734 : decode code 734 = .ok (.iconst 2, 1) := by decide +kernel
theorem dw_735 : decode code 735 = .ok (.iadd, 1) := by decide +kernel
theorem dw_736 : decode code 736 = .ok (.iaload, 1) := by decide +kernel
theorem dw_737 : decode code 737 = .ok (.aload_n 3, 1) := by decide +kernel
theorem dw_738 : decode code 738 = .ok (.invokestatic 131, 3) := by decide +kernel
theorem dw_741 : decode code 741 = .ok (.istore 5, 2) := by decide +kernel
theorem dw_743 : decode code 743 = .ok (.aload_n 2, 1) := by decide +kernel
theorem dw_744 : decode code 744 = .ok (.aload_n 0, 1) := by decide +kernel
theorem dw_745 : decode code 745 = .ok (.iload 4, 2) := by decide +kernel
theorem dw_747 : decode code 747 = .ok (.iconst 1, 1) := by decide +kernel
theorem dw_748 : decode code 748 = .ok (.iadd, 1) := by decide +kernel
theorem dw_749 : decode code 749 = .ok (.iaload, 1) := by decide +kernel
theorem dw_750 : decode code 750 = .ok (.aload_n 0, 1) := by decide +kernel
theorem dw_751 : decode code 751 = .ok (.iload 4, 2) := by decide +kernel
theorem dw_753 : decode code 753 = .ok (.iconst 2, 1) := by decide +kernel
theorem dw_754 : decode code 754 = .ok (.iadd, 1) := by decide +kernel
theorem dw_755 : decode code 755 = .ok (.iaload, 1) := by decide +kernel
theorem dw_756 : decode code 756 = .ok (.invokevirtual 133, 3) := by decide +kernel
theorem dw_759 : decode code 759 = .ok (.istore 6, 2) := by decide +kernel
theorem dw_761 : decode code 761 = .ok (.aload_n 2, 1) := by decide +kernel
theorem dw_762 : decode code 762 = .ok (.invokevirtual 96, 3) := by decide +kernel
theorem dw_765 : decode code 765 = .ok (.iload 5, 2) := by decide +kernel
theorem dw_767 : decode code 767 = .ok (.if_icmp .eq 5, 3) := by decide +kernel
theorem dw_770 : decode code 770 = .ok (.iconst 0, 1) := by decide +kernel
theorem dw_771 : decode code 771 = .ok (.ireturn, 1) := by decide +kernel
theorem dw_772 : decode code 772 = .ok (.iload 5, 2) := by decide +kernel
theorem dw_774 : decode code 774 = .ok (.ifCond .ne 15, 3) := by decide +kernel
theorem dw_777 : decode code 777 = .ok (.aload_n 3, 1) := by decide +kernel
theorem dw_778 : decode code 778 = .ok (.iconst 0, 1) := by decide +kernel
theorem dw_779 : decode code 779 = .ok (.laload, 1) := by decide +kernel
theorem dw_780 : decode code 780 = .ok (.iload 6, 2) := by decide +kernel
theorem dw_782 : decode code 782 = .ok (.i2l, 1) := by decide +kernel
theorem dw_783 : decode code 783 = .ok (.lcmp, 1) := by decide +kernel
theorem dw_784 : decode code 784 = .ok (.ifCond .eq 5, 3) := by decide +kernel
theorem dw_787 : decode code 787 = .ok (.iconst 0, 1) := by decide +kernel
theorem dw_788 : decode code 788 = .ok (.ireturn, 1) := by decide +kernel
theorem dw_789 : decode code 789 = .ok (.goto 717, 3) := by decide +kernel
theorem dw_792 : decode code 792 = .ok (.aload_n 1, 1) := by decide +kernel
theorem dw_793 : decode code 793 = .ok (.aload_n 0, 1) := by decide +kernel
theorem dw_794 : decode code 794 = .ok (.iload 4, 2) := by decide +kernel
theorem dw_796 : decode code 796 = .ok (.iconst 1, 1) := by decide +kernel
theorem dw_797 : decode code 797 = .ok (.iadd, 1) := by decide +kernel
theorem dw_798 : decode code 798 = .ok (.iaload, 1) := by decide +kernel
theorem dw_799 : decode code 799 = .ok (.aload_n 0, 1) := by decide +kernel
theorem dw_800 : decode code 800 = .ok (.iload 4, 2) := by decide +kernel
theorem dw_802 : decode code 802 = .ok (.iconst 2, 1) := by decide +kernel
theorem dw_803 : decode code 803 = .ok (.iadd, 1) := by decide +kernel
theorem dw_804 : decode code 804 = .ok (.iaload, 1) := by decide +kernel
theorem dw_805 : decode code 805 = .ok (.aload_n 3, 1) := by decide +kernel
theorem dw_806 : decode code 806 = .ok (.invokestatic 134, 3) := by decide +kernel
theorem dw_809 : decode code 809 = .ok (.istore 5, 2) := by decide +kernel
theorem dw_811 : decode code 811 = .ok (.aload_n 2, 1) := by decide +kernel
theorem dw_812 : decode code 812 = .ok (.aload_n 0, 1) := by decide +kernel
theorem dw_813 : decode code 813 = .ok (.iload 4, 2) := by decide +kernel
theorem dw_815 : decode code 815 = .ok (.iconst 1, 1) := by decide +kernel
theorem dw_816 : decode code 816 = .ok (.iadd, 1) := by decide +kernel
theorem dw_817 : decode code 817 = .ok (.iaload, 1) := by decide +kernel
theorem dw_818 : decode code 818 = .ok (.aload_n 0, 1) := by decide +kernel
theorem dw_819 : decode code 819 = .ok (.iload 4, 2) := by decide +kernel
theorem dw_821 : decode code 821 = .ok (.iconst 2, 1) := by decide +kernel
theorem dw_822 : decode code 822 = .ok (.iadd, 1) := by decide +kernel
theorem dw_823 : decode code 823 = .ok (.iaload, 1) := by decide +kernel
theorem dw_824 : decode code 824 = .ok (.invokevirtual 136, 3) := by decide +kernel
theorem dw_827 : decode code 827 = .ok (.istore 6, 2) := by decide +kernel
theorem dw_829 : decode code 829 = .ok (.aload_n 2, 1) := by decide +kernel
theorem dw_830 : decode code 830 = .ok (.invokevirtual 96, 3) := by decide +kernel
theorem dw_833 : decode code 833 = .ok (.iload 5, 2) := by decide +kernel
theorem dw_835 : decode code 835 = .ok (.if_icmp .eq 5, 3) := by decide +kernel
theorem dw_838 : decode code 838 = .ok (.iconst 0, 1) := by decide +kernel
theorem dw_839 : decode code 839 = .ok (.ireturn, 1) := by decide +kernel
theorem dw_840 : decode code 840 = .ok (.iload 5, 2) := by decide +kernel
theorem dw_842 : decode code 842 = .ok (.ifCond .ne 15, 3) := by decide +kernel
theorem dw_845 : decode code 845 = .ok (.aload_n 3, 1) := by decide +kernel
theorem dw_846 : decode code 846 = .ok (.iconst 0, 1) := by decide +kernel
theorem dw_847 : decode code 847 = .ok (.laload, 1) := by decide +kernel
theorem dw_848 : decode code 848 = .ok (.iload 6, 2) := by decide +kernel
theorem dw_850 : decode code 850 = .ok (.i2l, 1) := by decide +kernel
theorem dw_851 : decode code 851 = .ok (.lcmp, 1) := by decide +kernel
theorem dw_852 : decode code 852 = .ok (.ifCond .eq 5, 3) := by decide +kernel
theorem dw_855 : decode code 855 = .ok (.iconst 0, 1) := by decide +kernel
theorem dw_856 : decode code 856 = .ok (.ireturn, 1) := by decide +kernel
theorem dw_857 : decode code 857 = .ok (.goto 649, 3) := by decide +kernel
theorem dw_860 : decode code 860 = .ok (.aload_n 1, 1) := by decide +kernel
theorem dw_861 : decode code 861 = .ok (.aload_n 0, 1) := by decide +kernel
theorem dw_862 : decode code 862 = .ok (.iload 4, 2) := by decide +kernel
theorem dw_864 : decode code 864 = .ok (.iconst 1, 1) := by decide +kernel
theorem dw_865 : decode code 865 = .ok (.iadd, 1) := by decide +kernel
theorem dw_866 : decode code 866 = .ok (.iaload, 1) := by decide +kernel
theorem dw_867 : decode code 867 = .ok (.aload_n 3, 1) := by decide +kernel
theorem dw_868 : decode code 868 = .ok (.invokestatic 137, 3) := by decide +kernel
theorem dw_871 : decode code 871 = .ok (.istore 5, 2) := by decide +kernel
theorem dw_873 : decode code 873 = .ok (.aload_n 2, 1) := by decide +kernel
theorem dw_874 : decode code 874 = .ok (.aload_n 0, 1) := by decide +kernel
theorem dw_875 : decode code 875 = .ok (.iload 4, 2) := by decide +kernel
theorem dw_877 : decode code 877 = .ok (.iconst 1, 1) := by decide +kernel
theorem dw_878 : decode code 878 = .ok (.iadd, 1) := by decide +kernel
theorem dw_879 : decode code 879 = .ok (.iaload, 1) := by decide +kernel
theorem dw_880 : decode code 880 = .ok (.invokevirtual 139, 3) := by decide +kernel
theorem dw_883 : decode code 883 = .ok (.istore 6, 2) := by decide +kernel
theorem dw_885 : decode code 885 = .ok (.aload_n 2, 1) := by decide +kernel
theorem dw_886 : decode code 886 = .ok (.invokevirtual 96, 3) := by decide +kernel
theorem dw_889 : decode code 889 = .ok (.iload 5, 2) := by decide +kernel
theorem dw_891 : decode code 891 = .ok (.if_icmp .eq 5, 3) := by decide +kernel
theorem dw_894 : decode code 894 = .ok (.iconst 0, 1) := by decide +kernel
theorem dw_895 : decode code 895 = .ok (.ireturn, 1) := by decide +kernel
theorem dw_896 : decode code 896 = .ok (.iload 5, 2) := by decide +kernel
theorem dw_898 : decode code 898 = .ok (.ifCond .ne 15, 3) := by decide +kernel
theorem dw_901 : decode code 901 = .ok (.aload_n 3, 1) := by decide +kernel
theorem dw_902 : decode code 902 = .ok (.iconst 0, 1) := by decide +kernel
theorem dw_903 : decode code 903 = .ok (.laload, 1) := by decide +kernel
theorem dw_904 : decode code 904 = .ok (.iload 6, 2) := by decide +kernel
theorem dw_906 : decode code 906 = .ok (.i2l, 1) := by decide +kernel
theorem dw_907 : decode code 907 = .ok (.lcmp, 1) := by decide +kernel
theorem dw_908 : decode code 908 = .ok (.ifCond .eq 5, 3) := by decide +kernel
theorem dw_911 : decode code 911 = .ok (.iconst 0, 1) := by decide +kernel
theorem dw_912 : decode code 912 = .ok (.ireturn, 1) := by decide +kernel
theorem dw_913 : decode code 913 = .ok (.goto 593, 3) := by decide +kernel
theorem dw_916 : decode code 916 = .ok (.aload_n 1, 1) := by decide +kernel
theorem dw_917 : decode code 917 = .ok (.aload_n 0, 1) := by decide +kernel
theorem dw_918 : decode code 918 = .ok (.iload 4, 2) := by decide +kernel
theorem dw_920 : decode code 920 = .ok (.iconst 1, 1) := by decide +kernel
theorem dw_921 : decode code 921 = .ok (.iadd, 1) := by decide +kernel
theorem dw_922 : decode code 922 = .ok (.iaload, 1) := by decide +kernel
theorem dw_923 : decode code 923 = .ok (.aload_n 0, 1) := by decide +kernel
theorem dw_924 : decode code 924 = .ok (.iload 4, 2) := by decide +kernel
theorem dw_926 : decode code 926 = .ok (.iconst 2, 1) := by decide +kernel
theorem dw_927 : decode code 927 = .ok (.iadd, 1) := by decide +kernel
theorem dw_928 : decode code 928 = .ok (.iaload, 1) := by decide +kernel
theorem dw_929 : decode code 929 = .ok (.aload_n 0, 1) := by decide +kernel
theorem dw_930 : decode code 930 = .ok (.iload 4, 2) := by decide +kernel
theorem dw_932 : decode code 932 = .ok (.iconst 3, 1) := by decide +kernel
theorem dw_933 : decode code 933 = .ok (.iadd, 1) := by decide +kernel
theorem dw_934 : decode code 934 = .ok (.iaload, 1) := by decide +kernel
theorem dw_935 : decode code 935 = .ok (.aload_n 3, 1) := by decide +kernel
theorem dw_936 : decode code 936 = .ok (.invokestatic 140, 3) := by decide +kernel
theorem dw_939 : decode code 939 = .ok (.istore 5, 2) := by decide +kernel
theorem dw_941 : decode code 941 = .ok (.aload_n 2, 1) := by decide +kernel
theorem dw_942 : decode code 942 = .ok (.aload_n 0, 1) := by decide +kernel
theorem dw_943 : decode code 943 = .ok (.iload 4, 2) := by decide +kernel
theorem dw_945 : decode code 945 = .ok (.iconst 1, 1) := by decide +kernel
theorem dw_946 : decode code 946 = .ok (.iadd, 1) := by decide +kernel
theorem dw_947 : decode code 947 = .ok (.iaload, 1) := by decide +kernel
theorem dw_948 : decode code 948 = .ok (.aload_n 0, 1) := by decide +kernel
theorem dw_949 : decode code 949 = .ok (.iload 4, 2) := by decide +kernel
theorem dw_951 : decode code 951 = .ok (.iconst 2, 1) := by decide +kernel
theorem dw_952 : decode code 952 = .ok (.iadd, 1) := by decide +kernel
theorem dw_953 : decode code 953 = .ok (.iaload, 1) := by decide +kernel
theorem dw_954 : decode code 954 = .ok (.aload_n 0, 1) := by decide +kernel
theorem dw_955 : decode code 955 = .ok (.iload 4, 2) := by decide +kernel
theorem dw_957 : decode code 957 = .ok (.iconst 3, 1) := by decide +kernel
theorem dw_958 : decode code 958 = .ok (.iadd, 1) := by decide +kernel
theorem dw_959 : decode code 959 = .ok (.iaload, 1) := by decide +kernel
theorem dw_960 : decode code 960 = .ok (.invokevirtual 142, 3) := by decide +kernel
theorem dw_963 : decode code 963 = .ok (.istore 6, 2) := by decide +kernel
theorem dw_965 : decode code 965 = .ok (.aload_n 2, 1) := by decide +kernel
theorem dw_966 : decode code 966 = .ok (.invokevirtual 96, 3) := by decide +kernel
theorem dw_969 : decode code 969 = .ok (.iload 5, 2) := by decide +kernel
theorem dw_971 : decode code 971 = .ok (.if_icmp .eq 5, 3) := by decide +kernel
theorem dw_974 : decode code 974 = .ok (.iconst 0, 1) := by decide +kernel
theorem dw_975 : decode code 975 = .ok (.ireturn, 1) := by decide +kernel
theorem dw_976 : decode code 976 = .ok (.iload 5, 2) := by decide +kernel
theorem dw_978 : decode code 978 = .ok (.ifCond .ne 22, 3) := by decide +kernel
theorem dw_981 : decode code 981 = .ok (.aload_n 3, 1) := by decide +kernel
theorem dw_982 : decode code 982 = .ok (.iconst 0, 1) := by decide +kernel
theorem dw_983 : decode code 983 = .ok (.laload, 1) := by decide +kernel
theorem dw_984 : decode code 984 = .ok (.iload 6, 2) := by decide +kernel
theorem dw_986 : decode code 986 = .ok (.ifCond .eq 7, 3) := by decide +kernel
theorem dw_989 : decode code 989 = .ok (.lconst 1, 1) := by decide +kernel
theorem dw_990 : decode code 990 = .ok (.goto 4, 3) := by decide +kernel
theorem dw_993 : decode code 993 = .ok (.lconst 0, 1) := by decide +kernel
theorem dw_994 : decode code 994 = .ok (.lcmp, 1) := by decide +kernel
theorem dw_995 : decode code 995 = .ok (.ifCond .eq 5, 3) := by decide +kernel
theorem dw_998 : decode code 998 = .ok (.iconst 0, 1) := by decide +kernel
theorem dw_999 : decode code 999 = .ok (.ireturn, 1) := by decide +kernel
theorem dw_1000 : decode code 1000 = .ok (.goto 506, 3) := by decide +kernel
theorem dw_1003 : decode code 1003 = .ok (.aload_n 1, 1) := by decide +kernel
theorem dw_1004 : decode code 1004 = .ok (.aload_n 0, 1) := by decide +kernel
theorem dw_1005 : decode code 1005 = .ok (.iload 4, 2) := by decide +kernel
theorem dw_1007 : decode code 1007 = .ok (.iconst 1, 1) := by decide +kernel
theorem dw_1008 : decode code 1008 = .ok (.iadd, 1) := by decide +kernel
theorem dw_1009 : decode code 1009 = .ok (.iaload, 1) := by decide +kernel
theorem dw_1010 : decode code 1010 = .ok (.aload_n 3, 1) := by decide +kernel
theorem dw_1011 : decode code 1011 = .ok (.invokestatic 143, 3) := by decide +kernel
theorem dw_1014 : decode code 1014 = .ok (.istore 5, 2) := by decide +kernel
theorem dw_1016 : decode code 1016 = .ok (.aload_n 2, 1) := by decide +kernel
theorem dw_1017 : decode code 1017 = .ok (.aload_n 0, 1) := by decide +kernel
theorem dw_1018 : decode code 1018 = .ok (.iload 4, 2) := by decide +kernel
theorem dw_1020 : decode code 1020 = .ok (.iconst 1, 1) := by decide +kernel
theorem dw_1021 : decode code 1021 = .ok (.iadd, 1) := by decide +kernel
theorem dw_1022 : decode code 1022 = .ok (.iaload, 1) := by decide +kernel
theorem dw_1023 : decode code 1023 = .ok (.invokevirtual 145, 3) := by decide +kernel
theorem dw_1026 : decode code 1026 = .ok (.istore 6, 2) := by decide +kernel
theorem dw_1028 : decode code 1028 = .ok (.aload_n 2, 1) := by decide +kernel
theorem dw_1029 : decode code 1029 = .ok (.invokevirtual 96, 3) := by decide +kernel
theorem dw_1032 : decode code 1032 = .ok (.iload 5, 2) := by decide +kernel
theorem dw_1034 : decode code 1034 = .ok (.if_icmp .eq 5, 3) := by decide +kernel
theorem dw_1037 : decode code 1037 = .ok (.iconst 0, 1) := by decide +kernel
theorem dw_1038 : decode code 1038 = .ok (.ireturn, 1) := by decide +kernel
theorem dw_1039 : decode code 1039 = .ok (.iload 5, 2) := by decide +kernel
theorem dw_1041 : decode code 1041 = .ok (.ifCond .ne 15, 3) := by decide +kernel
theorem dw_1044 : decode code 1044 = .ok (.aload_n 3, 1) := by decide +kernel
theorem dw_1045 : decode code 1045 = .ok (.iconst 0, 1) := by decide +kernel
theorem dw_1046 : decode code 1046 = .ok (.laload, 1) := by decide +kernel
theorem dw_1047 : decode code 1047 = .ok (.iload 6, 2) := by decide +kernel
theorem dw_1049 : decode code 1049 = .ok (.i2l, 1) := by decide +kernel
theorem dw_1050 : decode code 1050 = .ok (.lcmp, 1) := by decide +kernel
theorem dw_1051 : decode code 1051 = .ok (.ifCond .eq 5, 3) := by decide +kernel
theorem dw_1054 : decode code 1054 = .ok (.iconst 0, 1) := by decide +kernel
theorem dw_1055 : decode code 1055 = .ok (.ireturn, 1) := by decide +kernel
theorem dw_1056 : decode code 1056 = .ok (.goto 450, 3) := by decide +kernel
theorem dw_1059 : decode code 1059 = .ok (.aload_n 1, 1) := by decide +kernel
theorem dw_1060 : decode code 1060 = .ok (.aload_n 0, 1) := by decide +kernel
theorem dw_1061 : decode code 1061 = .ok (.iload 4, 2) := by decide +kernel
theorem dw_1063 : decode code 1063 = .ok (.iconst 1, 1) := by decide +kernel
theorem dw_1064 : decode code 1064 = .ok (.iadd, 1) := by decide +kernel
theorem dw_1065 : decode code 1065 = .ok (.iaload, 1) := by decide +kernel
theorem dw_1066 : decode code 1066 = .ok (.ifCond .eq 7, 3) := by decide +kernel
theorem dw_1069 : decode code 1069 = .ok (.iconst 1, 1) := by decide +kernel
theorem dw_1070 : decode code 1070 = .ok (.goto 4, 3) := by decide +kernel
theorem dw_1073 : decode code 1073 = .ok (.iconst 0, 1) := by decide +kernel
theorem dw_1074 : decode code 1074 = .ok (.aload_n 3, 1) := by decide +kernel
theorem dw_1075 : decode code 1075 = .ok (.invokestatic 146, 3) := by decide +kernel
theorem dw_1078 : decode code 1078 = .ok (.istore 5, 2) := by decide +kernel
theorem dw_1080 : decode code 1080 = .ok (.aload_n 2, 1) := by decide +kernel
theorem dw_1081 : decode code 1081 = .ok (.aload_n 0, 1) := by decide +kernel
theorem dw_1082 : decode code 1082 = .ok (.iload 4, 2) := by decide +kernel
theorem dw_1084 : decode code 1084 = .ok (.iconst 1, 1) := by decide +kernel
theorem dw_1085 : decode code 1085 = .ok (.iadd, 1) := by decide +kernel
theorem dw_1086 : decode code 1086 = .ok (.iaload, 1) := by decide +kernel
theorem dw_1087 : decode code 1087 = .ok (.ifCond .eq 7, 3) := by decide +kernel
theorem dw_1090 : decode code 1090 = .ok (.iconst 1, 1) := by decide +kernel
theorem dw_1091 : decode code 1091 = .ok (.goto 4, 3) := by decide +kernel
theorem dw_1094 : decode code 1094 = .ok (.iconst 0, 1) := by decide +kernel
theorem dw_1095 : decode code 1095 = .ok (.invokevirtual 149, 3) := by decide +kernel
theorem dw_1098 : decode code 1098 = .ok (.istore 6, 2) := by decide +kernel
theorem dw_1100 : decode code 1100 = .ok (.aload_n 2, 1) := by decide +kernel
theorem dw_1101 : decode code 1101 = .ok (.invokevirtual 96, 3) := by decide +kernel
theorem dw_1104 : decode code 1104 = .ok (.iload 5, 2) := by decide +kernel
theorem dw_1106 : decode code 1106 = .ok (.if_icmp .eq 5, 3) := by decide +kernel
theorem dw_1109 : decode code 1109 = .ok (.iconst 0, 1) := by decide +kernel
theorem dw_1110 : decode code 1110 = .ok (.ireturn, 1) := by decide +kernel
theorem dw_1111 : decode code 1111 = .ok (.iload 5, 2) := by decide +kernel
theorem dw_1113 : decode code 1113 = .ok (.ifCond .ne 15, 3) := by decide +kernel
theorem dw_1116 : decode code 1116 = .ok (.aload_n 3, 1) := by decide +kernel
theorem dw_1117 : decode code 1117 = .ok (.iconst 0, 1) := by decide +kernel
theorem dw_1118 : decode code 1118 = .ok (.laload, 1) := by decide +kernel
theorem dw_1119 : decode code 1119 = .ok (.iload 6, 2) := by decide +kernel
theorem dw_1121 : decode code 1121 = .ok (.i2l, 1) := by decide +kernel
theorem dw_1122 : decode code 1122 = .ok (.lcmp, 1) := by decide +kernel
theorem dw_1123 : decode code 1123 = .ok (.ifCond .eq 5, 3) := by decide +kernel
theorem dw_1126 : decode code 1126 = .ok (.iconst 0, 1) := by decide +kernel
theorem dw_1127 : decode code 1127 = .ok (.ireturn, 1) := by decide +kernel
theorem dw_1128 : decode code 1128 = .ok (.goto 378, 3) := by decide +kernel
theorem dw_1131 : decode code 1131 = .ok (.aload_n 1, 1) := by decide +kernel
theorem dw_1132 : decode code 1132 = .ok (.aload_n 3, 1) := by decide +kernel
theorem dw_1133 : decode code 1133 = .ok (.invokestatic 150, 3) := by decide +kernel
theorem dw_1136 : decode code 1136 = .ok (.istore 5, 2) := by decide +kernel
theorem dw_1138 : decode code 1138 = .ok (.aload_n 2, 1) := by decide +kernel
theorem dw_1139 : decode code 1139 = .ok (.invokevirtual 152, 3) := by decide +kernel
theorem dw_1142 : decode code 1142 = .ok (.istore 6, 2) := by decide +kernel
theorem dw_1144 : decode code 1144 = .ok (.aload_n 2, 1) := by decide +kernel
theorem dw_1145 : decode code 1145 = .ok (.invokevirtual 96, 3) := by decide +kernel
theorem dw_1148 : decode code 1148 = .ok (.iload 5, 2) := by decide +kernel
theorem dw_1150 : decode code 1150 = .ok (.if_icmp .eq 5, 3) := by decide +kernel
theorem dw_1153 : decode code 1153 = .ok (.iconst 0, 1) := by decide +kernel
theorem dw_1154 : decode code 1154 = .ok (.ireturn, 1) := by decide +kernel
theorem dw_1155 : decode code 1155 = .ok (.iload 5, 2) := by decide +kernel
theorem dw_1157 : decode code 1157 = .ok (.ifCond .ne 15, 3) := by decide +kernel
theorem dw_1160 : decode code 1160 = .ok (.aload_n 3, 1) := by decide +kernel
theorem dw_1161 : decode code 1161 = .ok (.iconst 0, 1) := by decide +kernel
theorem dw_1162 : decode code 1162 = .ok (.laload, 1) := by decide +kernel
theorem dw_1163 : decode code 1163 = .ok (.iload 6, 2) := by decide +kernel
theorem dw_1165 : decode code 1165 = .ok (.i2l, 1) := by decide +kernel
theorem dw_1166 : decode code 1166 = .ok (.lcmp, 1) := by decide +kernel
theorem dw_1167 : decode code 1167 = .ok (.ifCond .eq 5, 3) := by decide +kernel
theorem dw_1170 : decode code 1170 = .ok (.iconst 0, 1) := by decide +kernel
theorem dw_1171 : decode code 1171 = .ok (.ireturn, 1) := by decide +kernel
theorem dw_1172 : decode code 1172 = .ok (.goto 334, 3) := by decide +kernel
theorem dw_1175 : decode code 1175 = .ok (.aload_n 1, 1) := by decide +kernel
theorem dw_1176 : decode code 1176 = .ok (.aload_n 0, 1) := by decide +kernel
theorem dw_1177 : decode code 1177 = .ok (.iload 4, 2) := by decide +kernel
theorem dw_1179 : decode code 1179 = .ok (.iconst 1, 1) := by decide +kernel
theorem dw_1180 : decode code 1180 = .ok (.iadd, 1) := by decide +kernel
theorem dw_1181 : decode code 1181 = .ok (.iaload, 1) := by decide +kernel
theorem dw_1182 : decode code 1182 = .ok (.aload_n 3, 1) := by decide +kernel
theorem dw_1183 : decode code 1183 = .ok (.invokestatic 153, 3) := by decide +kernel
theorem dw_1186 : decode code 1186 = .ok (.istore 5, 2) := by decide +kernel
theorem dw_1188 : decode code 1188 = .ok (.aload_n 2, 1) := by decide +kernel
theorem dw_1189 : decode code 1189 = .ok (.aload_n 0, 1) := by decide +kernel
theorem dw_1190 : decode code 1190 = .ok (.iload 4, 2) := by decide +kernel
theorem dw_1192 : decode code 1192 = .ok (.iconst 1, 1) := by decide +kernel
theorem dw_1193 : decode code 1193 = .ok (.iadd, 1) := by decide +kernel
theorem dw_1194 : decode code 1194 = .ok (.iaload, 1) := by decide +kernel
theorem dw_1195 : decode code 1195 = .ok (.invokevirtual 155, 3) := by decide +kernel
theorem dw_1198 : decode code 1198 = .ok (.istore 6, 2) := by decide +kernel
theorem dw_1200 : decode code 1200 = .ok (.aload_n 2, 1) := by decide +kernel
theorem dw_1201 : decode code 1201 = .ok (.invokevirtual 96, 3) := by decide +kernel
theorem dw_1204 : decode code 1204 = .ok (.iload 5, 2) := by decide +kernel
theorem dw_1206 : decode code 1206 = .ok (.if_icmp .eq 5, 3) := by decide +kernel
theorem dw_1209 : decode code 1209 = .ok (.iconst 0, 1) := by decide +kernel
theorem dw_1210 : decode code 1210 = .ok (.ireturn, 1) := by decide +kernel
theorem dw_1211 : decode code 1211 = .ok (.iload 5, 2) := by decide +kernel
theorem dw_1213 : decode code 1213 = .ok (.ifCond .ne 15, 3) := by decide +kernel
theorem dw_1216 : decode code 1216 = .ok (.aload_n 3, 1) := by decide +kernel
theorem dw_1217 : decode code 1217 = .ok (.iconst 0, 1) := by decide +kernel
theorem dw_1218 : decode code 1218 = .ok (.laload, 1) := by decide +kernel
theorem dw_1219 : decode code 1219 = .ok (.iload 6, 2) := by decide +kernel
theorem dw_1221 : decode code 1221 = .ok (.i2l, 1) := by decide +kernel
theorem dw_1222 : decode code 1222 = .ok (.lcmp, 1) := by decide +kernel
theorem dw_1223 : decode code 1223 = .ok (.ifCond .eq 5, 3) := by decide +kernel
theorem dw_1226 : decode code 1226 = .ok (.iconst 0, 1) := by decide +kernel
theorem dw_1227 : decode code 1227 = .ok (.ireturn, 1) := by decide +kernel
theorem dw_1228 : decode code 1228 = .ok (.goto 278, 3) := by decide +kernel
theorem dw_1231 : decode code 1231 = .ok (.aload_n 1, 1) := by decide +kernel
theorem dw_1232 : decode code 1232 = .ok (.aload_n 0, 1) := by decide +kernel
theorem dw_1233 : decode code 1233 = .ok (.iload 4, 2) := by decide +kernel
theorem dw_1235 : decode code 1235 = .ok (.iconst 1, 1) := by decide +kernel
theorem dw_1236 : decode code 1236 = .ok (.iadd, 1) := by decide +kernel
theorem dw_1237 : decode code 1237 = .ok (.iaload, 1) := by decide +kernel
theorem dw_1238 : decode code 1238 = .ok (.aload_n 0, 1) := by decide +kernel
theorem dw_1239 : decode code 1239 = .ok (.iload 4, 2) := by decide +kernel
theorem dw_1241 : decode code 1241 = .ok (.iconst 2, 1) := by decide +kernel
theorem dw_1242 : decode code 1242 = .ok (.iadd, 1) := by decide +kernel
theorem dw_1243 : decode code 1243 = .ok (.iaload, 1) := by decide +kernel
theorem dw_1244 : decode code 1244 = .ok (.aload_n 3, 1) := by decide +kernel
theorem dw_1245 : decode code 1245 = .ok (.invokestatic 156, 3) := by decide +kernel
theorem dw_1248 : decode code 1248 = .ok (.istore 5, 2) := by decide +kernel
theorem dw_1250 : decode code 1250 = .ok (.aload_n 2, 1) := by decide +kernel
theorem dw_1251 : decode code 1251 = .ok (.aload_n 0, 1) := by decide +kernel
theorem dw_1252 : decode code 1252 = .ok (.iload 4, 2) := by decide +kernel
theorem dw_1254 : decode code 1254 = .ok (.iconst 1, 1) := by decide +kernel
theorem dw_1255 : decode code 1255 = .ok (.iadd, 1) := by decide +kernel
theorem dw_1256 : decode code 1256 = .ok (.iaload, 1) := by decide +kernel
theorem dw_1257 : decode code 1257 = .ok (.aload_n 0, 1) := by decide +kernel
theorem dw_1258 : decode code 1258 = .ok (.iload 4, 2) := by decide +kernel
theorem dw_1260 : decode code 1260 = .ok (.iconst 2, 1) := by decide +kernel
theorem dw_1261 : decode code 1261 = .ok (.iadd, 1) := by decide +kernel
theorem dw_1262 : decode code 1262 = .ok (.iaload, 1) := by decide +kernel
theorem dw_1263 : decode code 1263 = .ok (.invokevirtual 158, 3) := by decide +kernel
theorem dw_1266 : decode code 1266 = .ok (.istore 6, 2) := by decide +kernel
theorem dw_1268 : decode code 1268 = .ok (.aload_n 2, 1) := by decide +kernel
theorem dw_1269 : decode code 1269 = .ok (.invokevirtual 96, 3) := by decide +kernel
theorem dw_1272 : decode code 1272 = .ok (.iload 5, 2) := by decide +kernel
theorem dw_1274 : decode code 1274 = .ok (.if_icmp .eq 5, 3) := by decide +kernel
theorem dw_1277 : decode code 1277 = .ok (.iconst 0, 1) := by decide +kernel
theorem dw_1278 : decode code 1278 = .ok (.ireturn, 1) := by decide +kernel
theorem dw_1279 : decode code 1279 = .ok (.iload 5, 2) := by decide +kernel
theorem dw_1281 : decode code 1281 = .ok (.ifCond .ne 15, 3) := by decide +kernel
theorem dw_1284 : decode code 1284 = .ok (.aload_n 3, 1) := by decide +kernel
theorem dw_1285 : decode code 1285 = .ok (.iconst 0, 1) := by decide +kernel
theorem dw_1286 : decode code 1286 = .ok (.laload, 1) := by decide +kernel
theorem dw_1287 : decode code 1287 = .ok (.iload 6, 2) := by decide +kernel
theorem dw_1289 : decode code 1289 = .ok (.i2l, 1) := by decide +kernel
theorem dw_1290 : decode code 1290 = .ok (.lcmp, 1) := by decide +kernel
theorem dw_1291 : decode code 1291 = .ok (.ifCond .eq 5, 3) := by decide +kernel
theorem dw_1294 : decode code 1294 = .ok (.iconst 0, 1) := by decide +kernel
theorem dw_1295 : decode code 1295 = .ok (.ireturn, 1) := by decide +kernel
theorem dw_1296 : decode code 1296 = .ok (.goto 210, 3) := by decide +kernel
theorem dw_1299 : decode code 1299 = .ok (.aload_n 1, 1) := by decide +kernel
theorem dw_1300 : decode code 1300 = .ok (.invokevirtual 159, 3) := by decide +kernel
theorem dw_1303 : decode code 1303 = .ok (.aload_n 2, 1) := by decide +kernel
theorem dw_1304 : decode code 1304 = .ok (.invokevirtual 162, 3) := by decide +kernel
theorem dw_1307 : decode code 1307 = .ok (.if_icmp .eq 199, 3) := by decide +kernel
theorem dw_1310 : decode code 1310 = .ok (.iconst 0, 1) := by decide +kernel
theorem dw_1311 : decode code 1311 = .ok (.ireturn, 1) := by decide +kernel
theorem dw_1312 : decode code 1312 = .ok (.aload_n 1, 1) := by decide +kernel
theorem dw_1313 : decode code 1313 = .ok (.aload_n 0, 1) := by decide +kernel
theorem dw_1314 : decode code 1314 = .ok (.iload 4, 2) := by decide +kernel
theorem dw_1316 : decode code 1316 = .ok (.iconst 1, 1) := by decide +kernel
theorem dw_1317 : decode code 1317 = .ok (.iadd, 1) := by decide +kernel
theorem dw_1318 : decode code 1318 = .ok (.iaload, 1) := by decide +kernel
theorem dw_1319 : decode code 1319 = .ok (.aload_n 3, 1) := by decide +kernel
theorem dw_1320 : decode code 1320 = .ok (.invokestatic 163, 3) := by decide +kernel
theorem dw_1323 : decode code 1323 = .ok (.istore 5, 2) := by decide +kernel
theorem dw_1325 : decode code 1325 = .ok (.aload_n 2, 1) := by decide +kernel
theorem dw_1326 : decode code 1326 = .ok (.aload_n 0, 1) := by decide +kernel
theorem dw_1327 : decode code 1327 = .ok (.iload 4, 2) := by decide +kernel
theorem dw_1329 : decode code 1329 = .ok (.iconst 1, 1) := by decide +kernel
theorem dw_1330 : decode code 1330 = .ok (.iadd, 1) := by decide +kernel
theorem dw_1331 : decode code 1331 = .ok (.iaload, 1) := by decide +kernel
theorem dw_1332 : decode code 1332 = .ok (.invokevirtual 165, 3) := by decide +kernel
theorem dw_1335 : decode code 1335 = .ok (.istore 6, 2) := by decide +kernel
theorem dw_1337 : decode code 1337 = .ok (.aload_n 2, 1) := by decide +kernel
theorem dw_1338 : decode code 1338 = .ok (.invokevirtual 96, 3) := by decide +kernel
theorem dw_1341 : decode code 1341 = .ok (.iload 5, 2) := by decide +kernel
theorem dw_1343 : decode code 1343 = .ok (.if_icmp .eq 5, 3) := by decide +kernel
theorem dw_1346 : decode code 1346 = .ok (.iconst 0, 1) := by decide +kernel
theorem dw_1347 : decode code 1347 = .ok (.ireturn, 1) := by decide +kernel
theorem dw_1348 : decode code 1348 = .ok (.iload 5, 2) := by decide +kernel
theorem dw_1350 : decode code 1350 = .ok (.ifCond .ne 15, 3) := by decide +kernel
theorem dw_1353 : decode code 1353 = .ok (.aload_n 3, 1) := by decide +kernel
theorem dw_1354 : decode code 1354 = .ok (.iconst 0, 1) := by decide +kernel
theorem dw_1355 : decode code 1355 = .ok (.laload, 1) := by decide +kernel
theorem dw_1356 : decode code 1356 = .ok (.iload 6, 2) := by decide +kernel
theorem dw_1358 : decode code 1358 = .ok (.i2l, 1) := by decide +kernel
theorem dw_1359 : decode code 1359 = .ok (.lcmp, 1) := by decide +kernel
theorem dw_1360 : decode code 1360 = .ok (.ifCond .eq 5, 3) := by decide +kernel
theorem dw_1363 : decode code 1363 = .ok (.iconst 0, 1) := by decide +kernel
theorem dw_1364 : decode code 1364 = .ok (.ireturn, 1) := by decide +kernel
theorem dw_1365 : decode code 1365 = .ok (.goto 141, 3) := by decide +kernel
theorem dw_1368 : decode code 1368 = .ok (.aload_n 1, 1) := by decide +kernel
theorem dw_1369 : decode code 1369 = .ok (.aload_n 0, 1) := by decide +kernel
theorem dw_1370 : decode code 1370 = .ok (.iload 4, 2) := by decide +kernel
theorem dw_1372 : decode code 1372 = .ok (.iconst 1, 1) := by decide +kernel
theorem dw_1373 : decode code 1373 = .ok (.iadd, 1) := by decide +kernel
theorem dw_1374 : decode code 1374 = .ok (.iaload, 1) := by decide +kernel
theorem dw_1375 : decode code 1375 = .ok (.aload_n 3, 1) := by decide +kernel
theorem dw_1376 : decode code 1376 = .ok (.invokestatic 166, 3) := by decide +kernel
theorem dw_1379 : decode code 1379 = .ok (.istore 5, 2) := by decide +kernel
theorem dw_1381 : decode code 1381 = .ok (.aload_n 2, 1) := by decide +kernel
theorem dw_1382 : decode code 1382 = .ok (.aload_n 0, 1) := by decide +kernel
theorem dw_1383 : decode code 1383 = .ok (.iload 4, 2) := by decide +kernel
theorem dw_1385 : decode code 1385 = .ok (.iconst 1, 1) := by decide +kernel
theorem dw_1386 : decode code 1386 = .ok (.iadd, 1) := by decide +kernel
theorem dw_1387 : decode code 1387 = .ok (.iaload, 1) := by decide +kernel
theorem dw_1388 : decode code 1388 = .ok (.invokevirtual 168, 3) := by decide +kernel
theorem dw_1391 : decode code 1391 = .ok (.istore 6, 2) := by decide +kernel
theorem dw_1393 : decode code 1393 = .ok (.aload_n 2, 1) := by decide +kernel
theorem dw_1394 : decode code 1394 = .ok (.invokevirtual 96, 3) := by decide +kernel
theorem dw_1397 : decode code 1397 = .ok (.iload 5, 2) := by decide +kernel
theorem dw_1399 : decode code 1399 = .ok (.if_icmp .eq 5, 3) := by decide +kernel
theorem dw_1402 : decode code 1402 = .ok (.iconst 0, 1) := by decide +kernel
theorem dw_1403 : decode code 1403 = .ok (.ireturn, 1) := by decide +kernel
theorem dw_1404 : decode code 1404 = .ok (.iload 5, 2) := by decide +kernel
theorem dw_1406 : decode code 1406 = .ok (.ifCond .ne 15, 3) := by decide +kernel
theorem dw_1409 : decode code 1409 = .ok (.aload_n 3, 1) := by decide +kernel
theorem dw_1410 : decode code 1410 = .ok (.iconst 0, 1) := by decide +kernel
theorem dw_1411 : decode code 1411 = .ok (.laload, 1) := by decide +kernel
theorem dw_1412 : decode code 1412 = .ok (.iload 6, 2) := by decide +kernel
theorem dw_1414 : decode code 1414 = .ok (.i2l, 1) := by decide +kernel
theorem dw_1415 : decode code 1415 = .ok (.lcmp, 1) := by decide +kernel
theorem dw_1416 : decode code 1416 = .ok (.ifCond .eq 5, 3) := by decide +kernel
theorem dw_1419 : decode code 1419 = .ok (.iconst 0, 1) := by decide +kernel
theorem dw_1420 : decode code 1420 = .ok (.ireturn, 1) := by decide +kernel
theorem dw_1421 : decode code 1421 = .ok (.goto 85, 3) := by decide +kernel
theorem dw_1424 : decode code 1424 = .ok (.aload_n 1, 1) := by decide +kernel
theorem dw_1425 : decode code 1425 = .ok (.aload_n 0, 1) := by decide +kernel
theorem dw_1426 : decode code 1426 = .ok (.iload 4, 2) := by decide +kernel
theorem dw_1428 : decode code 1428 = .ok (.iconst 1, 1) := by decide +kernel
theorem dw_1429 : decode code 1429 = .ok (.iadd, 1) := by decide +kernel
theorem dw_1430 : decode code 1430 = .ok (.iaload, 1) := by decide +kernel
theorem dw_1431 : decode code 1431 = .ok (.aload_n 3, 1) := by decide +kernel
theorem dw_1432 : decode code 1432 = .ok (.invokestatic 169, 3) := by decide +kernel
theorem dw_1435 : decode code 1435 = .ok (.istore 5, 2) := by decide +kernel
theorem dw_1437 : decode code 1437 = .ok (.aload_n 2, 1) := by decide +kernel
theorem dw_1438 : decode code 1438 = .ok (.aload_n 0, 1) := by decide +kernel
theorem dw_1439 : decode code 1439 = .ok (.iload 4, 2) := by decide +kernel
theorem dw_1441 : decode code 1441 = .ok (.iconst 1, 1) := by decide +kernel
theorem dw_1442 : decode code 1442 = .ok (.iadd, 1) := by decide +kernel
theorem dw_1443 : decode code 1443 = .ok (.iaload, 1) := by decide +kernel
theorem dw_1444 : decode code 1444 = .ok (.invokevirtual 171, 3) := by decide +kernel
theorem dw_1447 : decode code 1447 = .ok (.istore 6, 2) := by decide +kernel
theorem dw_1449 : decode code 1449 = .ok (.aload_n 2, 1) := by decide +kernel
theorem dw_1450 : decode code 1450 = .ok (.invokevirtual 96, 3) := by decide +kernel
theorem dw_1453 : decode code 1453 = .ok (.iload 5, 2) := by decide +kernel
theorem dw_1455 : decode code 1455 = .ok (.if_icmp .eq 5, 3) := by decide +kernel
theorem dw_1458 : decode code 1458 = .ok (.iconst 0, 1) := by decide +kernel
theorem dw_1459 : decode code 1459 = .ok (.ireturn, 1) := by decide +kernel
theorem dw_1460 : decode code 1460 = .ok (.iload 5, 2) := by decide +kernel
theorem dw_1462 : decode code 1462 = .ok (.ifCond .ne 15, 3) := by decide +kernel
theorem dw_1465 : decode code 1465 = .ok (.aload_n 3, 1) := by decide +kernel
theorem dw_1466 : decode code 1466 = .ok (.iconst 0, 1) := by decide +kernel
theorem dw_1467 : decode code 1467 = .ok (.laload, 1) := by decide +kernel
theorem dw_1468 : decode code 1468 = .ok (.iload 6, 2) := by decide +kernel
theorem dw_1470 : decode code 1470 = .ok (.i2l, 1) := by decide +kernel
theorem dw_1471 : decode code 1471 = .ok (.lcmp, 1) := by decide +kernel
theorem dw_1472 : decode code 1472 = .ok (.ifCond .eq 5, 3) := by decide +kernel
theorem dw_1475 : decode code 1475 = .ok (.iconst 0, 1) := by decide +kernel
theorem dw_1476 : decode code 1476 = .ok (.ireturn, 1) := by decide +kernel
theorem dw_1477 : decode code 1477 = .ok (.goto 29, 3) := by decide +kernel
theorem dw_1480 : decode code 1480 = .ok (.aload_n 1, 1) := by decide +kernel
theorem dw_1481 : decode code 1481 = .ok (.invokevirtual 172, 3) := by decide +kernel
theorem dw_1484 : decode code 1484 = .ok (.aload_n 2, 1) := by decide +kernel
theorem dw_1485 : decode code 1485 = .ok (.invokevirtual 175, 3) := by decide +kernel
theorem dw_1488 : decode code 1488 = .ok (.if_icmp .eq 18, 3) := by decide +kernel
theorem dw_1491 : decode code 1491 = .ok (.iconst 0, 1) := by decide +kernel
theorem dw_1492 : decode code 1492 = .ok (.ireturn, 1) := by decide +kernel
theorem dw_1493 : decode code 1493 = .ok (.aload_n 1, 1) := by decide +kernel
theorem dw_1494 : decode code 1494 = .ok (.invokevirtual 176, 3) := by decide +kernel
theorem dw_1497 : decode code 1497 = .ok (.aload_n 2, 1) := by decide +kernel
theorem dw_1498 : decode code 1498 = .ok (.invokevirtual 179, 3) := by decide +kernel
theorem dw_1501 : decode code 1501 = .ok (.if_icmp .eq 5, 3) := by decide +kernel
theorem dw_1504 : decode code 1504 = .ok (.iconst 0, 1) := by decide +kernel
theorem dw_1505 : decode code 1505 = .ok (.ireturn, 1) := by decide +kernel
theorem dw_1506 : decode code 1506 = .ok (.iinc 4 6, 3) := by decide +kernel
theorem dw_1509 : decode code 1509 = .ok (.goto (-1486), 3) := by decide +kernel
theorem dw_1512 : decode code 1512 = .ok (.iconst 1, 1) := by decide +kernel
theorem dw_1513 : decode code 1513 = .ok (.ireturn, 1) := by decide +kernel
