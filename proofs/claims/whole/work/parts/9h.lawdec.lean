theorem dW_0 : decode code 0 = .ok (.new 7, 3) := by decide +kernel
theorem dW_3 : decode code 3 = .ok (.dup, 1) := by decide +kernel
theorem dW_4 : decode code 4 = .ok (.invokespecial 9, 3) := by decide +kernel
theorem dW_7 : decode code 7 = .ok (.astore_n 1, 1) := by decide +kernel
theorem dW_8 : decode code 8 = .ok (.new 10, 3) := by decide +kernel
theorem dW_11 : decode code 11 = .ok (.dup, 1) := by decide +kernel
theorem dW_12 : decode code 12 = .ok (.invokespecial 12, 3) := by decide +kernel
theorem dW_15 : decode code 15 = .ok (.astore_n 2, 1) := by decide +kernel
theorem dW_16 : decode code 16 = .ok (.iconst 0, 1) := by decide +kernel
theorem dW_17 : decode code 17 = .ok (.istore_n 3, 1) := by decide +kernel
theorem dW_18 : decode code 18 = .ok (.iload_n 3, 1) := by decide +kernel
theorem dW_19 : decode code 19 = .ok (.aload_n 0, 1) := by decide +kernel
theorem dW_20 : decode code 20 = .ok (.arraylength, 1) := by decide +kernel
theorem dW_21 : decode code 21 = .ok (.iconst 4, 1) := by decide +kernel
theorem dW_22 : decode code 22 = .ok (.isub, 1) := by decide +kernel
theorem dW_23 : decode code 23 = .ok (.if_icmp .gt 1036, 3) := by decide +kernel
theorem dW_26 : decode code 26 = .ok (.aload_n 0, 1) := by decide +kernel
theorem dW_27 : decode code 27 = .ok (.iload_n 3, 1) := by decide +kernel
theorem dW_28 : decode code 28 = .ok (.iaload, 1) := by decide +kernel
theorem dW_29 : decode code 29 = .ok (.bipush 63, 2) := by decide +kernel
theorem dW_31 : decode code 31 = .ok (.iand, 1) := by decide +kernel
theorem dW_32 : decode code 32 = .ok (.tableswitch 1021 0 34 #[156, 179, 192, 205, 228, 261, 284, 317, 350, 373, 396, 429, 452, 475, 498, 521, 544, 557, 590, 613, 636, 679, 692, 725, 748, 771, 794, 837, 870, 893, 926, 939, 952, 975, 998], 156) := by decide +kernel
theorem dW_188 : decode code 188 = .ok (.aload_n 1, 1) := by decide +kernel
theorem dW_189 : decode code 189 = .ok (.aload_n 0, 1) := by decide +kernel
theorem dW_190 : decode code 190 = .ok (.iload_n 3, 1) := by decide +kernel
theorem dW_191 : decode code 191 = .ok (.iconst 1, 1) := by decide +kernel
theorem dW_192 : decode code 192 = .ok (.iadd, 1) := by decide +kernel
theorem dW_193 : decode code 193 = .ok (.iaload, 1) := by decide +kernel
theorem dW_194 : decode code 194 = .ok (.invokevirtual 13, 3) := by decide +kernel
theorem dW_197 : decode code 197 = .ok (.aload_n 2, 1) := by decide +kernel
theorem dW_198 : decode code 198 = .ok (.aload_n 0, 1) := by decide +kernel
theorem dW_199 : decode code 199 = .ok (.iload_n 3, 1) := by decide +kernel
theorem dW_200 : decode code 200 = .ok (.iconst 1, 1) := by decide +kernel
theorem dW_201 : decode code 201 = .ok (.iadd, 1) := by decide +kernel
theorem dW_202 : decode code 202 = .ok (.iaload, 1) := by decide +kernel
theorem dW_203 : decode code 203 = .ok (.invokevirtual 17, 3) := by decide +kernel
theorem dW_206 : decode code 206 = .ok (.if_icmp .eq 847, 3) := by decide +kernel
theorem dW_209 : decode code 209 = .ok (.iconst 0, 1) := by decide +kernel
theorem dW_210 : decode code 210 = .ok (.ireturn, 1) := by decide +kernel
theorem dW_211 : decode code 211 = .ok (.aload_n 1, 1) := by decide +kernel
theorem dW_212 : decode code 212 = .ok (.invokevirtual 18, 3) := by decide +kernel
theorem dW_215 : decode code 215 = .ok (.aload_n 2, 1) := by decide +kernel
theorem dW_216 : decode code 216 = .ok (.invokevirtual 22, 3) := by decide +kernel
theorem dW_219 : decode code 219 = .ok (.if_icmp .eq 834, 3) := by decide +kernel
theorem dW_222 : decode code 222 = .ok (.iconst 0, 1) := by decide +kernel
theorem dW_223 : decode code 223 = .ok (.ireturn, 1) := by decide +kernel
theorem dW_224 : decode code 224 = .ok (.aload_n 1, 1) := by decide +kernel
theorem dW_225 : decode code 225 = .ok (.invokevirtual 23, 3) := by decide +kernel
theorem dW_228 : decode code 228 = .ok (.aload_n 2, 1) := by decide +kernel
theorem dW_229 : decode code 229 = .ok (.invokevirtual 26, 3) := by decide +kernel
theorem dW_232 : decode code 232 = .ok (.if_icmp .eq 821, 3) := by decide +kernel
theorem dW_235 : decode code 235 = .ok (.iconst 0, 1) := by decide +kernel
theorem dW_236 : decode code 236 = .ok (.ireturn, 1) := by decide +kernel
theorem dW_237 : decode code 237 = .ok (.aload_n 1, 1) := by decide +kernel
theorem dW_238 : decode code 238 = .ok (.aload_n 0, 1) := by decide +kernel
theorem dW_239 : decode code 239 = .ok (.iload_n 3, 1) := by decide +kernel
theorem dW_240 : decode code 240 = .ok (.iconst 1, 1) := by decide +kernel
theorem dW_241 : decode code 241 = .ok (.iadd, 1) := by decide +kernel
theorem dW_242 : decode code 242 = .ok (.iaload, 1) := by decide +kernel
theorem dW_243 : decode code 243 = .ok (.invokevirtual 27, 3) := by decide +kernel
theorem dW_246 : decode code 246 = .ok (.aload_n 2, 1) := by decide +kernel
theorem dW_247 : decode code 247 = .ok (.aload_n 0, 1) := by decide +kernel
theorem dW_248 : decode code 248 = .ok (.iload_n 3, 1) := by decide +kernel
theorem dW_249 : decode code 249 = .ok (.iconst 1, 1) := by decide +kernel
theorem dW_250 : decode code 250 = .ok (.iadd, 1) := by decide +kernel
theorem dW_251 : decode code 251 = .ok (.iaload, 1) := by decide +kernel
theorem dW_252 : decode code 252 = .ok (.invokevirtual 30, 3) := by decide +kernel
theorem dW_255 : decode code 255 = .ok (.if_icmp .eq 798, 3) := by decide +kernel
theorem dW_258 : decode code 258 = .ok (.iconst 0, 1) := by decide +kernel
theorem dW_259 : decode code 259 = .ok (.ireturn, 1) := by decide +kernel
theorem dW_260 : decode code 260 = .ok (.aload_n 1, 1) := by decide +kernel
theorem dW_261 : decode code 261 = .ok (.aload_n 0, 1) := by decide +kernel
theorem dW_262 : decode code 262 = .ok (.iload_n 3, 1) := by decide +kernel
theorem dW_263 : decode code 263 = .ok (.iconst 1, 1) := by decide +kernel
theorem dW_264 : decode code 264 = .ok (.iadd, 1) := by decide +kernel
theorem dW_265 : decode code 265 = .ok (.iaload, 1) := by decide +kernel
theorem dW_266 : decode code 266 = .ok (.aload_n 0, 1) := by decide +kernel
theorem dW_267 : decode code 267 = .ok (.iload_n 3, 1) := by decide +kernel
theorem dW_268 : decode code 268 = .ok (.iconst 2, 1) := by decide +kernel
theorem dW_269 : decode code 269 = .ok (.iadd, 1) := by decide +kernel
theorem dW_270 : decode code 270 = .ok (.iaload, 1) := by decide +kernel
theorem dW_271 : decode code 271 = .ok (.invokevirtual 31, 3) := by decide +kernel
theorem dW_274 : decode code 274 = .ok (.aload_n 2, 1) := by decide +kernel
theorem dW_275 : decode code 275 = .ok (.aload_n 0, 1) := by decide +kernel
theorem dW_276 : decode code 276 = .ok (.iload_n 3, 1) := by decide +kernel
theorem dW_277 : decode code 277 = .ok (.iconst 1, 1) := by decide +kernel
theorem dW_278 : decode code 278 = .ok (.iadd, 1) := by decide +kernel
theorem dW_279 : decode code 279 = .ok (.iaload, 1) := by decide +kernel
theorem dW_280 : decode code 280 = .ok (.aload_n 0, 1) := by decide +kernel
theorem dW_281 : decode code 281 = .ok (.iload_n 3, 1) := by decide +kernel
theorem dW_282 : decode code 282 = .ok (.iconst 2, 1) := by decide +kernel
theorem dW_283 : decode code 283 = .ok (.iadd, 1) := by decide +kernel
theorem dW_284 : decode code 284 = .ok (.iaload, 1) := by decide +kernel
theorem dW_285 : decode code 285 = .ok (.invokevirtual 35, 3) := by decide +kernel
theorem dW_288 : decode code 288 = .ok (.if_icmp .eq 765, 3) := by decide +kernel
theorem dW_291 : decode code 291 = .ok (.iconst 0, 1) := by decide +kernel
theorem dW_292 : decode code 292 = .ok (.ireturn, 1) := by decide +kernel
theorem dW_293 : decode code 293 = .ok (.aload_n 1, 1) := by decide +kernel
theorem dW_294 : decode code 294 = .ok (.aload_n 0, 1) := by decide +kernel
theorem dW_295 : decode code 295 = .ok (.iload_n 3, 1) := by decide +kernel
theorem dW_296 : decode code 296 = .ok (.iconst 1, 1) := by decide +kernel
theorem dW_297 : decode code 297 = .ok (.iadd, 1) := by decide +kernel
theorem dW_298 : decode code 298 = .ok (.iaload, 1) := by decide +kernel
theorem dW_299 : decode code 299 = .ok (.invokevirtual 36, 3) := by decide +kernel
theorem dW_302 : decode code 302 = .ok (.aload_n 2, 1) := by decide +kernel
theorem dW_303 : decode code 303 = .ok (.aload_n 0, 1) := by decide +kernel
theorem dW_304 : decode code 304 = .ok (.iload_n 3, 1) := by decide +kernel
theorem dW_305 : decode code 305 = .ok (.iconst 1, 1) := by decide +kernel
theorem dW_306 : decode code 306 = .ok (.iadd, 1) := by decide +kernel
theorem dW_307 : decode code 307 = .ok (.iaload, 1) := by decide +kernel
theorem dW_308 : decode code 308 = .ok (.invokevirtual 39, 3) := by decide +kernel
theorem dW_311 : decode code 311 = .ok (.if_icmp .eq 742, 3) := by decide +kernel
theorem dW_314 : decode code 314 = .ok (.iconst 0, 1) := by decide +kernel
theorem dW_315 : decode code 315 = .ok (.ireturn, 1) := by decide +kernel
theorem dW_316 : decode code 316 = .ok (.aload_n 1, 1) := by decide +kernel
theorem dW_317 : decode code 317 = .ok (.aload_n 0, 1) := by decide +kernel
theorem dW_318 : decode code 318 = .ok (.iload_n 3, 1) := by decide +kernel
theorem dW_319 : decode code 319 = .ok (.iconst 1, 1) := by decide +kernel
theorem dW_320 : decode code 320 = .ok (.iadd, 1) := by decide +kernel
theorem dW_321 : decode code 321 = .ok (.iaload, 1) := by decide +kernel
theorem dW_322 : decode code 322 = .ok (.aload_n 0, 1) := by decide +kernel
theorem dW_323 : decode code 323 = .ok (.iload_n 3, 1) := by decide +kernel
theorem dW_324 : decode code 324 = .ok (.iconst 2, 1) := by decide +kernel
theorem dW_325 : decode code 325 = .ok (.iadd, 1) := by decide +kernel
theorem dW_326 : decode code 326 = .ok (.iaload, 1) := by decide +kernel
theorem dW_327 : decode code 327 = .ok (.invokevirtual 40, 3) := by decide +kernel
theorem dW_330 : decode code 330 = .ok (.aload_n 2, 1) := by decide +kernel
theorem dW_331 : decode code 331 = .ok (.aload_n 0, 1) := by decide +kernel
theorem dW_332 : decode code 332 = .ok (.iload_n 3, 1) := by decide +kernel
theorem dW_333 : decode code 333 = .ok (.iconst 1, 1) := by decide +kernel
theorem dW_334 : decode code 334 = .ok (.iadd, 1) := by decide +kernel
theorem dW_335 : decode code 335 = .ok (.iaload, 1) := by decide +kernel
theorem dW_336 : decode code 336 = .ok (.aload_n 0, 1) := by decide +kernel
theorem dW_337 : decode code 337 = .ok (.iload_n 3, 1) := by decide +kernel
theorem dW_338 : decode code 338 = .ok (.iconst 2, 1) := by decide +kernel
theorem dW_339 : decode code 339 = .ok (.iadd, 1) := by decide +kernel
theorem dW_340 : decode code 340 = .ok (.iaload, 1) := by decide +kernel
theorem dW_341 : decode code 341 = .ok (.invokevirtual 43, 3) := by decide +kernel
theorem dW_344 : decode code 344 = .ok (.if_icmp .eq 709, 3) := by decide +kernel
theorem dW_347 : decode code 347 = .ok (.iconst 0, 1) := by decide +kernel
theorem dW_348 : decode code 348 = .ok (.ireturn, 1) := by decide +kernel
theorem dW_349 : decode code 349 = .ok (.aload_n 1, 1) := by decide +kernel
theorem dW_350 : decode code 350 = .ok (.aload_n 0, 1) := by decide +kernel
theorem dW_351 : decode code 351 = .ok (.iload_n 3, 1) := by decide +kernel
theorem dW_352 : decode code 352 = .ok (.iconst 1, 1) := by decide +kernel
theorem dW_353 : decode code 353 = .ok (.iadd, 1) := by decide +kernel
theorem dW_354 : decode code 354 = .ok (.iaload, 1) := by decide +kernel
theorem dW_355 : decode code 355 = .ok (.aload_n 0, 1) := by decide +kernel
theorem dW_356 : decode code 356 = .ok (.iload_n 3, 1) := by decide +kernel
theorem dW_357 : decode code 357 = .ok (.iconst 2, 1) := by decide +kernel
theorem dW_358 : decode code 358 = .ok (.iadd, 1) := by decide +kernel
theorem dW_359 : decode code 359 = .ok (.iaload, 1) := by decide +kernel
theorem dW_360 : decode code 360 = .ok (.invokevirtual 44, 3) := by decide +kernel
theorem dW_363 : decode code 363 = .ok (.aload_n 2, 1) := by decide +kernel
theorem dW_364 : decode code 364 = .ok (.aload_n 0, 1) := by decide +kernel
theorem dW_365 : decode code 365 = .ok (.iload_n 3, 1) := by decide +kernel
theorem dW_366 : decode code 366 = .ok (.iconst 1, 1) := by decide +kernel
theorem dW_367 : decode code 367 = .ok (.iadd, 1) := by decide +kernel
theorem dW_368 : decode code 368 = .ok (.iaload, 1) := by decide +kernel
theorem dW_369 : decode code 369 = .ok (.aload_n 0, 1) := by decide +kernel
theorem dW_370 : decode code 370 = .ok (.iload_n 3, 1) := by decide +kernel
theorem dW_371 : decode code 371 = .ok (.iconst 2, 1) := by decide +kernel
theorem dW_372 : decode code 372 = .ok (.iadd, 1) := by decide +kernel
theorem dW_373 : decode code 373 = .ok (.iaload, 1) := by decide +kernel
theorem dW_374 : decode code 374 = .ok (.invokevirtual 47, 3) := by decide +kernel
theorem dW_377 : decode code 377 = .ok (.if_icmp .eq 676, 3) := by decide +kernel
theorem dW_380 : decode code 380 = .ok (.iconst 0, 1) := by decide +kernel
theorem dW_381 : decode code 381 = .ok (.ireturn, 1) := by decide +kernel
theorem dW_382 : decode code 382 = .ok (.aload_n 1, 1) := by decide +kernel
theorem dW_383 : decode code 383 = .ok (.aload_n 0, 1) := by decide +kernel
theorem dW_384 : decode code 384 = .ok (.iload_n 3, 1) := by decide +kernel
theorem dW_385 : decode code 385 = .ok (.iconst 1, 1) := by decide +kernel
theorem dW_386 : decode code 386 = .ok (.iadd, 1) := by decide +kernel
theorem dW_387 : decode code 387 = .ok (.iaload, 1) := by decide +kernel
theorem dW_388 : decode code 388 = .ok (.invokevirtual 48, 3) := by decide +kernel
theorem dW_391 : decode code 391 = .ok (.aload_n 2, 1) := by decide +kernel
theorem dW_392 : decode code 392 = .ok (.aload_n 0, 1) := by decide +kernel
theorem dW_393 : decode code 393 = .ok (.iload_n 3, 1) := by decide +kernel
theorem dW_394 : decode code 394 = .ok (.iconst 1, 1) := by decide +kernel
theorem dW_395 : decode code 395 = .ok (.iadd, 1) := by decide +kernel
theorem dW_396 : decode code 396 = .ok (.iaload, 1) := by decide +kernel
theorem dW_397 : decode code 397 = .ok (.invokevirtual 51, 3) := by decide +kernel
theorem dW_400 : decode code 400 = .ok (.if_icmp .eq 653, 3) := by decide +kernel
theorem dW_403 : decode code 403 = .ok (.iconst 0, 1) := by decide +kernel
theorem dW_404 : decode code 404 = .ok (.ireturn, 1) := by decide +kernel
theorem dW_405 : decode code 405 = .ok (.aload_n 1, 1) := by decide +kernel
theorem dW_406 : decode code 406 = .ok (.aload_n 0, 1) := by decide +kernel
theorem dW_407 : decode code 407 = .ok (.iload_n 3, 1) := by decide +kernel
theorem dW_408 : decode code 408 = .ok (.iconst 1, 1) := by decide +kernel
theorem dW_409 : decode code 409 = .ok (.iadd, 1) := by decide +kernel
theorem dW_410 : decode code 410 = .ok (.iaload, 1) := by decide +kernel
theorem dW_411 : decode code 411 = .ok (.invokevirtual 52, 3) := by decide +kernel
theorem dW_414 : decode code 414 = .ok (.aload_n 2, 1) := by decide +kernel
theorem dW_415 : decode code 415 = .ok (.aload_n 0, 1) := by decide +kernel
theorem dW_416 : decode code 416 = .ok (.iload_n 3, 1) := by decide +kernel
theorem dW_417 : decode code 417 = .ok (.iconst 1, 1) := by decide +kernel
theorem dW_418 : decode code 418 = .ok (.iadd, 1) := by decide +kernel
theorem dW_419 : decode code 419 = .ok (.iaload, 1) := by decide +kernel
theorem dW_420 : decode code 420 = .ok (.invokevirtual 55, 3) := by decide +kernel
theorem dW_423 : decode code 423 = .ok (.if_icmp .eq 630, 3) := by decide +kernel
theorem dW_426 : decode code 426 = .ok (.iconst 0, 1) := by decide +kernel
theorem dW_427 : decode code 427 = .ok (.ireturn, 1) := by decide +kernel
theorem dW_428 : decode code 428 = .ok (.aload_n 1, 1) := by decide +kernel
theorem dW_429 : decode code 429 = .ok (.aload_n 0, 1) := by decide +kernel
theorem dW_430 : decode code 430 = .ok (.iload_n 3, 1) := by decide +kernel
theorem dW_431 : decode code 431 = .ok (.iconst 1, 1) := by decide +kernel
theorem dW_432 : decode code 432 = .ok (.iadd, 1) := by decide +kernel
theorem dW_433 : decode code 433 = .ok (.iaload, 1) := by decide +kernel
theorem dW_434 : decode code 434 = .ok (.aload_n 0, 1) := by decide +kernel
theorem dW_435 : decode code 435 = .ok (.iload_n 3, 1) := by decide +kernel
theorem dW_436 : decode code 436 = .ok (.iconst 2, 1) := by decide +kernel
theorem dW_437 : decode code 437 = .ok (.iadd, 1) := by decide +kernel
theorem dW_438 : decode code 438 = .ok (.iaload, 1) := by decide +kernel
theorem dW_439 : decode code 439 = .ok (.invokevirtual 56, 3) := by decide +kernel
theorem dW_442 : decode code 442 = .ok (.aload_n 2, 1) := by decide +kernel
theorem dW_443 : decode code 443 = .ok (.aload_n 0, 1) := by decide +kernel
theorem dW_444 : decode code 444 = .ok (.iload_n 3, 1) := by decide +kernel
theorem dW_445 : decode code 445 = .ok (.iconst 1, 1) := by decide +kernel
theorem dW_446 : decode code 446 = .ok (.iadd, 1) := by decide +kernel
theorem dW_447 : decode code 447 = .ok (.iaload, 1) := by decide +kernel
theorem dW_448 : decode code 448 = .ok (.aload_n 0, 1) := by decide +kernel
theorem dW_449 : decode code 449 = .ok (.iload_n 3, 1) := by decide +kernel
theorem dW_450 : decode code 450 = .ok (.iconst 2, 1) := by decide +kernel
theorem dW_451 : decode code 451 = .ok (.iadd, 1) := by decide +kernel
theorem dW_452 : decode code 452 = .ok (.iaload, 1) := by decide +kernel
theorem dW_453 : decode code 453 = .ok (.invokevirtual 59, 3) := by decide +kernel
theorem dW_456 : decode code 456 = .ok (.if_icmp .eq 597, 3) := by decide +kernel
theorem dW_459 : decode code 459 = .ok (.iconst 0, 1) := by decide +kernel
theorem dW_460 : decode code 460 = .ok (.ireturn, 1) := by decide +kernel
theorem dW_461 : decode code 461 = .ok (.aload_n 1, 1) := by decide +kernel
theorem dW_462 : decode code 462 = .ok (.aload_n 0, 1) := by decide +kernel
theorem dW_463 : decode code 463 = .ok (.iload_n 3, 1) := by decide +kernel
theorem dW_464 : decode code 464 = .ok (.iconst 1, 1) := by decide +kernel
theorem dW_465 : decode code 465 = .ok (.iadd, 1) := by decide +kernel
theorem dW_466 : decode code 466 = .ok (.iaload, 1) := by decide +kernel
theorem dW_467 : decode code 467 = .ok (.invokevirtual 60, 3) := by decide +kernel
theorem dW_470 : decode code 470 = .ok (.aload_n 2, 1) := by decide +kernel
theorem dW_471 : decode code 471 = .ok (.aload_n 0, 1) := by decide +kernel
theorem dW_472 : decode code 472 = .ok (.iload_n 3, 1) := by decide +kernel
theorem dW_473 : decode code 473 = .ok (.iconst 1, 1) := by decide +kernel
theorem dW_474 : decode code 474 = .ok (.iadd, 1) := by decide +kernel
theorem dW_475 : decode code 475 = .ok (.iaload, 1) := by decide +kernel
theorem dW_476 : decode code 476 = .ok (.invokevirtual 63, 3) := by decide +kernel
theorem dW_479 : decode code 479 = .ok (.if_icmp .eq 574, 3) := by decide +kernel
theorem dW_482 : decode code 482 = .ok (.iconst 0, 1) := by decide +kernel
theorem dW_483 : decode code 483 = .ok (.ireturn, 1) := by decide +kernel
theorem dW_484 : decode code 484 = .ok (.aload_n 1, 1) := by decide +kernel
theorem dW_485 : decode code 485 = .ok (.aload_n 0, 1) := by decide +kernel
theorem dW_486 : decode code 486 = .ok (.iload_n 3, 1) := by decide +kernel
theorem dW_487 : decode code 487 = .ok (.iconst 1, 1) := by decide +kernel
theorem dW_488 : decode code 488 = .ok (.iadd, 1) := by decide +kernel
theorem dW_489 : decode code 489 = .ok (.iaload, 1) := by decide +kernel
theorem dW_490 : decode code 490 = .ok (.invokevirtual 64, 3) := by decide +kernel
theorem dW_493 : decode code 493 = .ok (.aload_n 2, 1) := by decide +kernel
theorem dW_494 : decode code 494 = .ok (.aload_n 0, 1) := by decide +kernel
theorem dW_495 : decode code 495 = .ok (.iload_n 3, 1) := by decide +kernel
theorem dW_496 : decode code 496 = .ok (.iconst 1, 1) := by decide +kernel
theorem dW_497 : decode code 497 = .ok (.iadd, 1) := by decide +kernel
theorem dW_498 : decode code 498 = .ok (.iaload, 1) := by decide +kernel
theorem dW_499 : decode code 499 = .ok (.invokevirtual 67, 3) := by decide +kernel
theorem dW_502 : decode code 502 = .ok (.if_icmp .eq 551, 3) := by decide +kernel
theorem dW_505 : decode code 505 = .ok (.iconst 0, 1) := by decide +kernel
theorem dW_506 : decode code 506 = .ok (.ireturn, 1) := by decide +kernel
theorem dW_507 : decode code 507 = .ok (.aload_n 1, 1) := by decide +kernel
theorem dW_508 : decode code 508 = .ok (.aload_n 0, 1) := by decide +kernel
theorem dW_509 : decode code 509 = .ok (.iload_n 3, 1) := by decide +kernel
theorem dW_510 : decode code 510 = .ok (.iconst 1, 1) := by decide +kernel
theorem dW_511 : decode code 511 = .ok (.iadd, 1) := by decide +kernel
theorem dW_512 : decode code 512 = .ok (.iaload, 1) := by decide +kernel
theorem dW_513 : decode code 513 = .ok (.invokevirtual 68, 3) := by decide +kernel
theorem dW_516 : decode code 516 = .ok (.aload_n 2, 1) := by decide +kernel
theorem dW_517 : decode code 517 = .ok (.aload_n 0, 1) := by decide +kernel
theorem dW_518 : decode code 518 = .ok (.iload_n 3, 1) := by decide +kernel
theorem dW_519 : decode code 519 = .ok (.iconst 1, 1) := by decide +kernel
theorem dW_520 : decode code 520 = .ok (.iadd, 1) := by decide +kernel
theorem dW_521 : decode code 521 = .ok (.iaload, 1) := by decide +kernel
theorem dW_522 : decode code 522 = .ok (.invokevirtual 71, 3) := by decide +kernel
theorem dW_525 : decode code 525 = .ok (.if_icmp .eq 528, 3) := by decide +kernel
theorem dW_528 : decode code 528 = .ok (.iconst 0, 1) := by decide +kernel
theorem dW_529 : decode code 529 = .ok (.ireturn, 1) := by decide +kernel
theorem dW_530 : decode code 530 = .ok (.aload_n 1, 1) := by decide +kernel
theorem dW_531 : decode code 531 = .ok (.aload_n 0, 1) := by decide +kernel
theorem dW_532 : decode code 532 = .ok (.iload_n 3, 1) := by decide +kernel
theorem dW_533 : decode code 533 = .ok (.iconst 1, 1) := by decide +kernel
theorem dW_534 : decode code 534 = .ok (.iadd, 1) := by decide +kernel
theorem dW_535 : decode code 535 = .ok (.iaload, 1) := by decide +kernel
theorem dW_536 : decode code 536 = .ok (.invokevirtual 72, 3) := by decide +kernel
theorem dW_539 : decode code 539 = .ok (.aload_n 2, 1) := by decide +kernel
theorem dW_540 : decode code 540 = .ok (.aload_n 0, 1) := by decide +kernel
theorem dW_541 : decode code 541 = .ok (.iload_n 3, 1) := by decide +kernel
theorem dW_542 : decode code 542 = .ok (.iconst 1, 1) := by decide +kernel
theorem dW_543 : decode code 543 = .ok (.iadd, 1) := by decide +kernel
theorem dW_544 : decode code 544 = .ok (.iaload, 1) := by decide +kernel
theorem dW_545 : decode code 545 = .ok (.invokevirtual 75, 3) := by decide +kernel
theorem dW_548 : decode code 548 = .ok (.if_icmp .eq 505, 3) := by decide +kernel
theorem dW_551 : decode code 551 = .ok (.iconst 0, 1) := by decide +kernel
theorem dW_552 : decode code 552 = .ok (.ireturn, 1) := by decide +kernel
theorem dW_553 : decode code 553 = .ok (.aload_n 1, 1) := by decide +kernel
theorem dW_554 : decode code 554 = .ok (.aload_n 0, 1) := by decide +kernel
theorem dW_555 : decode code 555 = .ok (.iload_n 3, 1) := by decide +kernel
theorem dW_556 : decode code 556 = .ok (.iconst 1, 1) := by decide +kernel
theorem dW_557 : decode code 557 = .ok (.iadd, 1) := by decide +kernel
theorem dW_558 : decode code 558 = .ok (.iaload, 1) := by decide +kernel
theorem dW_559 : decode code 559 = .ok (.invokevirtual 76, 3) := by decide +kernel
theorem dW_562 : decode code 562 = .ok (.aload_n 2, 1) := by decide +kernel
theorem dW_563 : decode code 563 = .ok (.aload_n 0, 1) := by decide +kernel
theorem dW_564 : decode code 564 = .ok (.iload_n 3, 1) := by decide +kernel
theorem dW_565 : decode code 565 = .ok (.iconst 1, 1) := by decide +kernel
theorem dW_566 : decode code 566 = .ok (.iadd, 1) := by decide +kernel
theorem dW_567 : decode code 567 = .ok (.iaload, 1) := by decide +kernel
theorem dW_568 : decode code 568 = .ok (.invokevirtual 79, 3) := by decide +kernel
theorem dW_571 : decode code 571 = .ok (.if_icmp .eq 482, 3) := by decide +kernel
theorem dW_574 : decode code 574 = .ok (.iconst 0, 1) := by decide +kernel
theorem dW_575 : decode code 575 = .ok (.ireturn, 1) := by decide +kernel
theorem dW_576 : decode code 576 = .ok (.aload_n 1, 1) := by decide +kernel
theorem dW_577 : decode code 577 = .ok (.invokevirtual 80, 3) := by decide +kernel
theorem dW_580 : decode code 580 = .ok (.aload_n 2, 1) := by decide +kernel
theorem dW_581 : decode code 581 = .ok (.invokevirtual 83, 3) := by decide +kernel
theorem dW_584 : decode code 584 = .ok (.if_icmp .eq 469, 3) := by decide +kernel
theorem dW_587 : decode code 587 = .ok (.iconst 0, 1) := by decide +kernel
theorem dW_588 : decode code 588 = .ok (.ireturn, 1) := by decide +kernel
theorem dW_589 : decode code 589 = .ok (.aload_n 1, 1) := by decide +kernel
theorem dW_590 : decode code 590 = .ok (.aload_n 0, 1) := by decide +kernel
theorem dW_591 : decode code 591 = .ok (.iload_n 3, 1) := by decide +kernel
theorem dW_592 : decode code 592 = .ok (.iconst 1, 1) := by decide +kernel
theorem dW_593 : decode code 593 = .ok (.iadd, 1) := by decide +kernel
theorem dW_594 : decode code 594 = .ok (.iaload, 1) := by decide +kernel
theorem dW_595 : decode code 595 = .ok (.aload_n 0, 1) := by decide +kernel
theorem dW_596 : decode code 596 = .ok (.iload_n 3, 1) := by decide +kernel
theorem dW_597 : decode code 597 = .ok (.iconst 2, 1) := by decide +kernel
theorem dW_598 : decode code 598 = .ok (.iadd, 1) := by decide +kernel
theorem dW_599 : decode code 599 = .ok (.iaload, 1) := by decide +kernel
theorem dW_600 : decode code 600 = .ok (.invokevirtual 84, 3) := by decide +kernel
theorem dW_603 : decode code 603 = .ok (.aload_n 2, 1) := by decide +kernel
theorem dW_604 : decode code 604 = .ok (.aload_n 0, 1) := by decide +kernel
theorem dW_605 : decode code 605 = .ok (.iload_n 3, 1) := by decide +kernel
theorem dW_606 : decode code 606 = .ok (.iconst 1, 1) := by decide +kernel
theorem dW_607 : decode code 607 = .ok (.iadd, 1) := by decide +kernel
theorem dW_608 : decode code 608 = .ok (.iaload, 1) := by decide +kernel
theorem dW_609 : decode code 609 = .ok (.aload_n 0, 1) := by decide +kernel
theorem dW_610 : decode code 610 = .ok (.iload_n 3, 1) := by decide +kernel
theorem dW_611 : decode code 611 = .ok (.iconst 2, 1) := by decide +kernel
theorem dW_612 : decode code 612 = .ok (.iadd, 1) := by decide +kernel
theorem dW_613 : decode code 613 = .ok (.iaload, 1) := by decide +kernel
theorem dW_614 : decode code 614 = .ok (.invokevirtual 87, 3) := by decide +kernel
theorem dW_617 : decode code 617 = .ok (.if_icmp .eq 436, 3) := by decide +kernel
theorem dW_620 : decode code 620 = .ok (.iconst 0, 1) := by decide +kernel
theorem dW_621 : decode code 621 = .ok (.ireturn, 1) := by decide +kernel
theorem dW_622 : decode code 622 = .ok (.aload_n 1, 1) := by decide +kernel
theorem dW_623 : decode code 623 = .ok (.aload_n 0, 1) := by decide +kernel
theorem dW_624 : decode code 624 = .ok (.iload_n 3, 1) := by decide +kernel
theorem dW_625 : decode code 625 = .ok (.iconst 1, 1) := by decide +kernel
theorem dW_626 : decode code 626 = .ok (.iadd, 1) := by decide +kernel
theorem dW_627 : decode code 627 = .ok (.iaload, 1) := by decide +kernel
theorem dW_628 : decode code 628 = .ok (.invokevirtual 88, 3) := by decide +kernel
theorem dW_631 : decode code 631 = .ok (.aload_n 2, 1) := by decide +kernel
theorem dW_632 : decode code 632 = .ok (.aload_n 0, 1) := by decide +kernel
theorem dW_633 : decode code 633 = .ok (.iload_n 3, 1) := by decide +kernel
theorem dW_634 : decode code 634 = .ok (.iconst 1, 1) := by decide +kernel
theorem dW_635 : decode code 635 = .ok (.iadd, 1) := by decide +kernel
theorem dW_636 : decode code 636 = .ok (.iaload, 1) := by decide +kernel
theorem dW_637 : decode code 637 = .ok (.invokevirtual 91, 3) := by decide +kernel
theorem dW_640 : decode code 640 = .ok (.if_icmp .eq 413, 3) := by decide +kernel
theorem dW_643 : decode code 643 = .ok (.iconst 0, 1) := by decide +kernel
theorem dW_644 : decode code 644 = .ok (.ireturn, 1) := by decide +kernel
theorem dW_645 : decode code 645 = .ok (.aload_n 1, 1) := by decide +kernel
theorem dW_646 : decode code 646 = .ok (.aload_n 0, 1) := by decide +kernel
theorem dW_647 : decode code 647 = .ok (.iload_n 3, 1) := by decide +kernel
theorem dW_648 : decode code 648 = .ok (.iconst 1, 1) := by decide +kernel
theorem dW_649 : decode code 649 = .ok (.iadd, 1) := by decide +kernel
theorem dW_650 : decode code 650 = .ok (.iaload, 1) := by decide +kernel
theorem dW_651 : decode code 651 = .ok (.invokevirtual 92, 3) := by decide +kernel
theorem dW_654 : decode code 654 = .ok (.aload_n 2, 1) := by decide +kernel
theorem dW_655 : decode code 655 = .ok (.aload_n 0, 1) := by decide +kernel
theorem dW_656 : decode code 656 = .ok (.iload_n 3, 1) := by decide +kernel
theorem dW_657 : decode code 657 = .ok (.iconst 1, 1) := by decide +kernel
theorem dW_658 : decode code 658 = .ok (.iadd, 1) := by decide +kernel
theorem dW_659 : decode code 659 = .ok (.iaload, 1) := by decide +kernel
theorem dW_660 : decode code 660 = .ok (.invokevirtual 95, 3) := by decide +kernel
theorem dW_663 : decode code 663 = .ok (.if_icmp .eq 390, 3) := by decide +kernel
theorem dW_666 : decode code 666 = .ok (.iconst 0, 1) := by decide +kernel
theorem dW_667 : decode code 667 = .ok (.ireturn, 1) := by decide +kernel
theorem dW_668 : decode code 668 = .ok (.aload_n 1, 1) := by decide +kernel
theorem dW_669 : decode code 669 = .ok (.aload_n 0, 1) := by decide +kernel
theorem dW_670 : decode code 670 = .ok (.iload_n 3, 1) := by decide +kernel
theorem dW_671 : decode code 671 = .ok (.iconst 1, 1) := by decide +kernel
theorem dW_672 : decode code 672 = .ok (.iadd, 1) := by decide +kernel
theorem dW_673 : decode code 673 = .ok (.iaload, 1) := by decide +kernel
theorem dW_674 : decode code 674 = .ok (.aload_n 0, 1) := by decide +kernel
theorem dW_675 : decode code 675 = .ok (.iload_n 3, 1) := by decide +kernel
theorem dW_676 : decode code 676 = .ok (.iconst 2, 1) := by decide +kernel
theorem dW_677 : decode code 677 = .ok (.iadd, 1) := by decide +kernel
theorem dW_678 : decode code 678 = .ok (.iaload, 1) := by decide +kernel
theorem dW_679 : decode code 679 = .ok (.aload_n 0, 1) := by decide +kernel
theorem dW_680 : decode code 680 = .ok (.iload_n 3, 1) := by decide +kernel
theorem dW_681 : decode code 681 = .ok (.iconst 3, 1) := by decide +kernel
theorem dW_682 : decode code 682 = .ok (.iadd, 1) := by decide +kernel
theorem dW_683 : decode code 683 = .ok (.iaload, 1) := by decide +kernel
theorem dW_684 : decode code 684 = .ok (.invokevirtual 96, 3) := by decide +kernel
theorem dW_687 : decode code 687 = .ok (.aload_n 2, 1) := by decide +kernel
theorem dW_688 : decode code 688 = .ok (.aload_n 0, 1) := by decide +kernel
theorem dW_689 : decode code 689 = .ok (.iload_n 3, 1) := by decide +kernel
theorem dW_690 : decode code 690 = .ok (.iconst 1, 1) := by decide +kernel
theorem dW_691 : decode code 691 = .ok (.iadd, 1) := by decide +kernel
theorem dW_692 : decode code 692 = .ok (.iaload, 1) := by decide +kernel
theorem dW_693 : decode code 693 = .ok (.aload_n 0, 1) := by decide +kernel
theorem dW_694 : decode code 694 = .ok (.iload_n 3, 1) := by decide +kernel
theorem dW_695 : decode code 695 = .ok (.iconst 2, 1) := by decide +kernel
theorem dW_696 : decode code 696 = .ok (.iadd, 1) := by decide +kernel
theorem dW_697 : decode code 697 = .ok (.iaload, 1) := by decide +kernel
theorem dW_698 : decode code 698 = .ok (.aload_n 0, 1) := by decide +kernel
theorem dW_699 : decode code 699 = .ok (.iload_n 3, 1) := by decide +kernel
theorem dW_700 : decode code 700 = .ok (.iconst 3, 1) := by decide +kernel
theorem dW_701 : decode code 701 = .ok (.iadd, 1) := by decide +kernel
theorem dW_702 : decode code 702 = .ok (.iaload, 1) := by decide +kernel
theorem dW_703 : decode code 703 = .ok (.invokevirtual 100, 3) := by decide +kernel
theorem dW_706 : decode code 706 = .ok (.if_icmp .eq 347, 3) := by decide +kernel
theorem dW_709 : decode code 709 = .ok (.iconst 0, 1) := by decide +kernel
theorem dW_710 : decode code 710 = .ok (.ireturn, 1) := by decide +kernel
theorem dW_711 : decode code 711 = .ok (.aload_n 1, 1) := by decide +kernel
theorem dW_712 : decode code 712 = .ok (.invokevirtual 101, 3) := by decide +kernel
theorem dW_715 : decode code 715 = .ok (.aload_n 2, 1) := by decide +kernel
theorem dW_716 : decode code 716 = .ok (.invokevirtual 104, 3) := by decide +kernel
theorem dW_719 : decode code 719 = .ok (.if_icmp .eq 334, 3) := by decide +kernel
theorem dW_722 : decode code 722 = .ok (.iconst 0, 1) := by decide +kernel
theorem dW_723 : decode code 723 = .ok (.ireturn, 1) := by decide +kernel
theorem dW_724 : decode code 724 = .ok (.aload_n 1, 1) := by decide +kernel
theorem dW_725 : decode code 725 = .ok (.aload_n 0, 1) := by decide +kernel
theorem dW_726 : decode code 726 = .ok (.iload_n 3, 1) := by decide +kernel
theorem dW_727 : decode code 727 = .ok (.iconst 1, 1) := by decide +kernel
theorem dW_728 : decode code 728 = .ok (.iadd, 1) := by decide +kernel
theorem dW_729 : decode code 729 = .ok (.iaload, 1) := by decide +kernel
theorem dW_730 : decode code 730 = .ok (.aload_n 0, 1) := by decide +kernel
theorem dW_731 : decode code 731 = .ok (.iload_n 3, 1) := by decide +kernel
theorem dW_732 : decode code 732 = .ok (.iconst 2, 1) := by decide +kernel
theorem dW_733 : decode code 733 = .ok (.iadd, 1) := by decide +kernel
theorem dW_734 : decode code 734 = .ok (.iaload, 1) := by decide +kernel
theorem dW_735 : decode code 735 = .ok (.invokevirtual 105, 3) := by decide +kernel
theorem dW_738 : decode code 738 = .ok (.aload_n 2, 1) := by decide +kernel
theorem dW_739 : decode code 739 = .ok (.aload_n 0, 1) := by decide +kernel
theorem dW_740 : decode code 740 = .ok (.iload_n 3, 1) := by decide +kernel
theorem dW_741 : decode code 741 = .ok (.iconst 1, 1) := by decide +kernel
theorem dW_742 : decode code 742 = .ok (.iadd, 1) := by decide +kernel
theorem dW_743 : decode code 743 = .ok (.iaload, 1) := by decide +kernel
theorem dW_744 : decode code 744 = .ok (.aload_n 0, 1) := by decide +kernel
theorem dW_745 : decode code 745 = .ok (.iload_n 3, 1) := by decide +kernel
theorem dW_746 : decode code 746 = .ok (.iconst 2, 1) := by decide +kernel
theorem dW_747 : decode code 747 = .ok (.iadd, 1) := by decide +kernel
theorem dW_748 : decode code 748 = .ok (.iaload, 1) := by decide +kernel
theorem dW_749 : decode code 749 = .ok (.invokevirtual 108, 3) := by decide +kernel
theorem dW_752 : decode code 752 = .ok (.if_icmp .eq 301, 3) := by decide +kernel
theorem dW_755 : decode code 755 = .ok (.iconst 0, 1) := by decide +kernel
theorem dW_756 : decode code 756 = .ok (.ireturn, 1) := by decide +kernel
theorem dW_757 : decode code 757 = .ok (.aload_n 1, 1) := by decide +kernel
theorem dW_758 : decode code 758 = .ok (.aload_n 0, 1) := by decide +kernel
theorem dW_759 : decode code 759 = .ok (.iload_n 3, 1) := by decide +kernel
theorem dW_760 : decode code 760 = .ok (.iconst 1, 1) := by decide +kernel
theorem dW_761 : decode code 761 = .ok (.iadd, 1) := by decide +kernel
theorem dW_762 : decode code 762 = .ok (.iaload, 1) := by decide +kernel
theorem dW_763 : decode code 763 = .ok (.invokevirtual 109, 3) := by decide +kernel
theorem dW_766 : decode code 766 = .ok (.aload_n 2, 1) := by decide +kernel
theorem dW_767 : decode code 767 = .ok (.aload_n 0, 1) := by decide +kernel
theorem dW_768 : decode code 768 = .ok (.iload_n 3, 1) := by decide +kernel
theorem dW_769 : decode code 769 = .ok (.iconst 1, 1) := by decide +kernel
theorem dW_770 : decode code 770 = .ok (.iadd, 1) := by decide +kernel
theorem dW_771 : decode code 771 = .ok (.iaload, 1) := by decide +kernel
theorem dW_772 : decode code 772 = .ok (.invokevirtual 112, 3) := by decide +kernel
theorem dW_775 : decode code 775 = .ok (.if_icmp .eq 278, 3) := by decide +kernel
theorem dW_778 : decode code 778 = .ok (.iconst 0, 1) := by decide +kernel
theorem dW_779 : decode code 779 = .ok (.ireturn, 1) := by decide +kernel
theorem dW_780 : decode code 780 = .ok (.aload_n 1, 1) := by decide +kernel
theorem dW_781 : decode code 781 = .ok (.aload_n 0, 1) := by decide +kernel
theorem dW_782 : decode code 782 = .ok (.iload_n 3, 1) := by decide +kernel
theorem dW_783 : decode code 783 = .ok (.iconst 1, 1) := by decide +kernel
theorem dW_784 : decode code 784 = .ok (.iadd, 1) := by decide +kernel
theorem dW_785 : decode code 785 = .ok (.iaload, 1) := by decide +kernel
theorem dW_786 : decode code 786 = .ok (.invokevirtual 113, 3) := by decide +kernel
theorem dW_789 : decode code 789 = .ok (.aload_n 2, 1) := by decide +kernel
theorem dW_790 : decode code 790 = .ok (.aload_n 0, 1) := by decide +kernel
theorem dW_791 : decode code 791 = .ok (.iload_n 3, 1) := by decide +kernel
theorem dW_792 : decode code 792 = .ok (.iconst 1, 1) := by decide +kernel
theorem dW_793 : decode code 793 = .ok (.iadd, 1) := by decide +kernel
theorem dW_794 : decode code 794 = .ok (.iaload, 1) := by decide +kernel
theorem dW_795 : decode code 795 = .ok (.invokevirtual 116, 3) := by decide +kernel
theorem dW_798 : decode code 798 = .ok (.if_icmp .eq 255, 3) := by decide +kernel
theorem dW_801 : decode code 801 = .ok (.iconst 0, 1) := by decide +kernel
theorem dW_802 : decode code 802 = .ok (.ireturn, 1) := by decide +kernel
theorem dW_803 : decode code 803 = .ok (.aload_n 1, 1) := by decide +kernel
theorem dW_804 : decode code 804 = .ok (.aload_n 0, 1) := by decide +kernel
theorem dW_805 : decode code 805 = .ok (.iload_n 3, 1) := by decide +kernel
theorem dW_806 : decode code 806 = .ok (.iconst 1, 1) := by decide +kernel
theorem dW_807 : decode code 807 = .ok (.iadd, 1) := by decide +kernel
theorem dW_808 : decode code 808 = .ok (.iaload, 1) := by decide +kernel
theorem dW_809 : decode code 809 = .ok (.invokevirtual 117, 3) := by decide +kernel
theorem dW_812 : decode code 812 = .ok (.aload_n 2, 1) := by decide +kernel
theorem dW_813 : decode code 813 = .ok (.aload_n 0, 1) := by decide +kernel
theorem dW_814 : decode code 814 = .ok (.iload_n 3, 1) := by decide +kernel
theorem dW_815 : decode code 815 = .ok (.iconst 1, 1) := by decide +kernel
theorem dW_816 : decode code 816 = .ok (.iadd, 1) := by decide +kernel
theorem dW_817 : decode code 817 = .ok (.iaload, 1) := by decide +kernel
theorem dW_818 : decode code 818 = .ok (.invokevirtual 120, 3) := by decide +kernel
theorem dW_821 : decode code 821 = .ok (.if_icmp .eq 232, 3) := by decide +kernel
theorem dW_824 : decode code 824 = .ok (.iconst 0, 1) := by decide +kernel
theorem dW_825 : decode code 825 = .ok (.ireturn, 1) := by decide +kernel
theorem dW_826 : decode code 826 = .ok (.aload_n 1, 1) := by decide +kernel
theorem dW_827 : decode code 827 = .ok (.aload_n 0, 1) := by decide +kernel
theorem dW_828 : decode code 828 = .ok (.iload_n 3, 1) := by decide +kernel
theorem dW_829 : decode code 829 = .ok (.iconst 1, 1) := by decide +kernel
theorem dW_830 : decode code 830 = .ok (.iadd, 1) := by decide +kernel
theorem dW_831 : decode code 831 = .ok (.iaload, 1) := by decide +kernel
theorem dW_832 : decode code 832 = .ok (.aload_n 0, 1) := by decide +kernel
theorem dW_833 : decode code 833 = .ok (.iload_n 3, 1) := by decide +kernel
theorem dW_834 : decode code 834 = .ok (.iconst 2, 1) := by decide +kernel
theorem dW_835 : decode code 835 = .ok (.iadd, 1) := by decide +kernel
theorem dW_836 : decode code 836 = .ok (.iaload, 1) := by decide +kernel
theorem dW_837 : decode code 837 = .ok (.aload_n 0, 1) := by decide +kernel
theorem dW_838 : decode code 838 = .ok (.iload_n 3, 1) := by decide +kernel
theorem dW_839 : decode code 839 = .ok (.iconst 3, 1) := by decide +kernel
theorem dW_840 : decode code 840 = .ok (.iadd, 1) := by decide +kernel
theorem dW_841 : decode code 841 = .ok (.iaload, 1) := by decide +kernel
theorem dW_842 : decode code 842 = .ok (.invokevirtual 121, 3) := by decide +kernel
theorem dW_845 : decode code 845 = .ok (.aload_n 2, 1) := by decide +kernel
theorem dW_846 : decode code 846 = .ok (.aload_n 0, 1) := by decide +kernel
theorem dW_847 : decode code 847 = .ok (.iload_n 3, 1) := by decide +kernel
theorem dW_848 : decode code 848 = .ok (.iconst 1, 1) := by decide +kernel
theorem dW_849 : decode code 849 = .ok (.iadd, 1) := by decide +kernel
theorem dW_850 : decode code 850 = .ok (.iaload, 1) := by decide +kernel
theorem dW_851 : decode code 851 = .ok (.aload_n 0, 1) := by decide +kernel
theorem dW_852 : decode code 852 = .ok (.iload_n 3, 1) := by decide +kernel
theorem dW_853 : decode code 853 = .ok (.iconst 2, 1) := by decide +kernel
theorem dW_854 : decode code 854 = .ok (.iadd, 1) := by decide +kernel
theorem dW_855 : decode code 855 = .ok (.iaload, 1) := by decide +kernel
theorem dW_856 : decode code 856 = .ok (.aload_n 0, 1) := by decide +kernel
theorem dW_857 : decode code 857 = .ok (.iload_n 3, 1) := by decide +kernel
theorem dW_858 : decode code 858 = .ok (.iconst 3, 1) := by decide +kernel
theorem dW_859 : decode code 859 = .ok (.iadd, 1) := by decide +kernel
theorem dW_860 : decode code 860 = .ok (.iaload, 1) := by decide +kernel
theorem dW_861 : decode code 861 = .ok (.invokevirtual 124, 3) := by decide +kernel
theorem dW_864 : decode code 864 = .ok (.if_icmp .eq 189, 3) := by decide +kernel
theorem dW_867 : decode code 867 = .ok (.iconst 0, 1) := by decide +kernel
theorem dW_868 : decode code 868 = .ok (.ireturn, 1) := by decide +kernel
theorem dW_869 : decode code 869 = .ok (.aload_n 1, 1) := by decide +kernel
theorem dW_870 : decode code 870 = .ok (.aload_n 0, 1) := by decide +kernel
theorem dW_871 : decode code 871 = .ok (.iload_n 3, 1) := by decide +kernel
theorem dW_872 : decode code 872 = .ok (.iconst 1, 1) := by decide +kernel
theorem dW_873 : decode code 873 = .ok (.iadd, 1) := by decide +kernel
theorem dW_874 : decode code 874 = .ok (.iaload, 1) := by decide +kernel
theorem dW_875 : decode code 875 = .ok (.aload_n 0, 1) := by decide +kernel
theorem dW_876 : decode code 876 = .ok (.iload_n 3, 1) := by decide +kernel
theorem dW_877 : decode code 877 = .ok (.iconst 2, 1) := by decide +kernel
theorem dW_878 : decode code 878 = .ok (.iadd, 1) := by decide +kernel
theorem dW_879 : decode code 879 = .ok (.iaload, 1) := by decide +kernel
theorem dW_880 : decode code 880 = .ok (.invokevirtual 125, 3) := by decide +kernel
theorem dW_883 : decode code 883 = .ok (.aload_n 2, 1) := by decide +kernel
theorem dW_884 : decode code 884 = .ok (.aload_n 0, 1) := by decide +kernel
theorem dW_885 : decode code 885 = .ok (.iload_n 3, 1) := by decide +kernel
theorem dW_886 : decode code 886 = .ok (.iconst 1, 1) := by decide +kernel
theorem dW_887 : decode code 887 = .ok (.iadd, 1) := by decide +kernel
theorem dW_888 : decode code 888 = .ok (.iaload, 1) := by decide +kernel
theorem dW_889 : decode code 889 = .ok (.aload_n 0, 1) := by decide +kernel
theorem dW_890 : decode code 890 = .ok (.iload_n 3, 1) := by decide +kernel
theorem dW_891 : decode code 891 = .ok (.iconst 2, 1) := by decide +kernel
theorem dW_892 : decode code 892 = .ok (.iadd, 1) := by decide +kernel
theorem dW_893 : decode code 893 = .ok (.iaload, 1) := by decide +kernel
theorem dW_894 : decode code 894 = .ok (.invokevirtual 128, 3) := by decide +kernel
theorem dW_897 : decode code 897 = .ok (.if_icmp .eq 156, 3) := by decide +kernel
theorem dW_900 : decode code 900 = .ok (.iconst 0, 1) := by decide +kernel
theorem dW_901 : decode code 901 = .ok (.ireturn, 1) := by decide +kernel
theorem dW_902 : decode code 902 = .ok (.aload_n 1, 1) := by decide +kernel
theorem dW_903 : decode code 903 = .ok (.aload_n 0, 1) := by decide +kernel
theorem dW_904 : decode code 904 = .ok (.iload_n 3, 1) := by decide +kernel
theorem dW_905 : decode code 905 = .ok (.iconst 1, 1) := by decide +kernel
theorem dW_906 : decode code 906 = .ok (.iadd, 1) := by decide +kernel
theorem dW_907 : decode code 907 = .ok (.iaload, 1) := by decide +kernel
theorem dW_908 : decode code 908 = .ok (.invokevirtual 129, 3) := by decide +kernel
theorem dW_911 : decode code 911 = .ok (.aload_n 2, 1) := by decide +kernel
theorem dW_912 : decode code 912 = .ok (.aload_n 0, 1) := by decide +kernel
theorem dW_913 : decode code 913 = .ok (.iload_n 3, 1) := by decide +kernel
theorem dW_914 : decode code 914 = .ok (.iconst 1, 1) := by decide +kernel
theorem dW_915 : decode code 915 = .ok (.iadd, 1) := by decide +kernel
theorem dW_916 : decode code 916 = .ok (.iaload, 1) := by decide +kernel
theorem dW_917 : decode code 917 = .ok (.invokevirtual 132, 3) := by decide +kernel
theorem dW_920 : decode code 920 = .ok (.if_icmp .eq 133, 3) := by decide +kernel
theorem dW_923 : decode code 923 = .ok (.iconst 0, 1) := by decide +kernel
theorem dW_924 : decode code 924 = .ok (.ireturn, 1) := by decide +kernel
theorem dW_925 : decode code 925 = .ok (.aload_n 1, 1) := by decide +kernel
theorem dW_926 : decode code 926 = .ok (.aload_n 0, 1) := by decide +kernel
theorem dW_927 : decode code 927 = .ok (.iload_n 3, 1) := by decide +kernel
theorem dW_928 : decode code 928 = .ok (.iconst 1, 1) := by decide +kernel
theorem dW_929 : decode code 929 = .ok (.iadd, 1) := by decide +kernel
theorem dW_930 : decode code 930 = .ok (.iaload, 1) := by decide +kernel
theorem dW_931 : decode code 931 = .ok (.aload_n 0, 1) := by decide +kernel
theorem dW_932 : decode code 932 = .ok (.iload_n 3, 1) := by decide +kernel
theorem dW_933 : decode code 933 = .ok (.iconst 2, 1) := by decide +kernel
theorem dW_934 : decode code 934 = .ok (.iadd, 1) := by decide +kernel
theorem dW_935 : decode code 935 = .ok (.iaload, 1) := by decide +kernel
theorem dW_936 : decode code 936 = .ok (.invokevirtual 133, 3) := by decide +kernel
theorem dW_939 : decode code 939 = .ok (.aload_n 2, 1) := by decide +kernel
theorem dW_940 : decode code 940 = .ok (.aload_n 0, 1) := by decide +kernel
theorem dW_941 : decode code 941 = .ok (.iload_n 3, 1) := by decide +kernel
theorem dW_942 : decode code 942 = .ok (.iconst 1, 1) := by decide +kernel
theorem dW_943 : decode code 943 = .ok (.iadd, 1) := by decide +kernel
theorem dW_944 : decode code 944 = .ok (.iaload, 1) := by decide +kernel
theorem dW_945 : decode code 945 = .ok (.aload_n 0, 1) := by decide +kernel
theorem dW_946 : decode code 946 = .ok (.iload_n 3, 1) := by decide +kernel
theorem dW_947 : decode code 947 = .ok (.iconst 2, 1) := by decide +kernel
theorem dW_948 : decode code 948 = .ok (.iadd, 1) := by decide +kernel
theorem dW_949 : decode code 949 = .ok (.iaload, 1) := by decide +kernel
theorem dW_950 : decode code 950 = .ok (.invokevirtual 136, 3) := by decide +kernel
theorem dW_953 : decode code 953 = .ok (.if_icmp .eq 100, 3) := by decide +kernel
theorem dW_956 : decode code 956 = .ok (.iconst 0, 1) := by decide +kernel
theorem dW_957 : decode code 957 = .ok (.ireturn, 1) := by decide +kernel
theorem dW_958 : decode code 958 = .ok (.aload_n 1, 1) := by decide +kernel
theorem dW_959 : decode code 959 = .ok (.invokevirtual 137, 3) := by decide +kernel
theorem dW_962 : decode code 962 = .ok (.aload_n 2, 1) := by decide +kernel
theorem dW_963 : decode code 963 = .ok (.invokevirtual 140, 3) := by decide +kernel
theorem dW_966 : decode code 966 = .ok (.if_icmp .eq 87, 3) := by decide +kernel
theorem dW_969 : decode code 969 = .ok (.iconst 0, 1) := by decide +kernel
theorem dW_970 : decode code 970 = .ok (.ireturn, 1) := by decide +kernel
theorem dW_971 : decode code 971 = .ok (.aload_n 1, 1) := by decide +kernel
theorem dW_972 : decode code 972 = .ok (.invokevirtual 141, 3) := by decide +kernel
theorem dW_975 : decode code 975 = .ok (.aload_n 2, 1) := by decide +kernel
theorem dW_976 : decode code 976 = .ok (.invokevirtual 144, 3) := by decide +kernel
theorem dW_979 : decode code 979 = .ok (.if_icmp .eq 74, 3) := by decide +kernel
theorem dW_982 : decode code 982 = .ok (.iconst 0, 1) := by decide +kernel
theorem dW_983 : decode code 983 = .ok (.ireturn, 1) := by decide +kernel
theorem dW_984 : decode code 984 = .ok (.aload_n 1, 1) := by decide +kernel
theorem dW_985 : decode code 985 = .ok (.aload_n 0, 1) := by decide +kernel
theorem dW_986 : decode code 986 = .ok (.iload_n 3, 1) := by decide +kernel
theorem dW_987 : decode code 987 = .ok (.iconst 1, 1) := by decide +kernel
theorem dW_988 : decode code 988 = .ok (.iadd, 1) := by decide +kernel
theorem dW_989 : decode code 989 = .ok (.iaload, 1) := by decide +kernel
theorem dW_990 : decode code 990 = .ok (.invokevirtual 145, 3) := by decide +kernel
theorem dW_993 : decode code 993 = .ok (.aload_n 2, 1) := by decide +kernel
theorem dW_994 : decode code 994 = .ok (.aload_n 0, 1) := by decide +kernel
theorem dW_995 : decode code 995 = .ok (.iload_n 3, 1) := by decide +kernel
theorem dW_996 : decode code 996 = .ok (.iconst 1, 1) := by decide +kernel
theorem dW_997 : decode code 997 = .ok (.iadd, 1) := by decide +kernel
theorem dW_998 : decode code 998 = .ok (.iaload, 1) := by decide +kernel
theorem dW_999 : decode code 999 = .ok (.invokevirtual 148, 3) := by decide +kernel
theorem dW_1002 : decode code 1002 = .ok (.if_icmp .eq 51, 3) := by decide +kernel
theorem dW_1005 : decode code 1005 = .ok (.iconst 0, 1) := by decide +kernel
theorem dW_1006 : decode code 1006 = .ok (.ireturn, 1) := by decide +kernel
theorem dW_1007 : decode code 1007 = .ok (.aload_n 1, 1) := by decide +kernel
theorem dW_1008 : decode code 1008 = .ok (.aload_n 0, 1) := by decide +kernel
theorem dW_1009 : decode code 1009 = .ok (.iload_n 3, 1) := by decide +kernel
theorem dW_1010 : decode code 1010 = .ok (.iconst 1, 1) := by decide +kernel
theorem dW_1011 : decode code 1011 = .ok (.iadd, 1) := by decide +kernel
theorem dW_1012 : decode code 1012 = .ok (.iaload, 1) := by decide +kernel
theorem dW_1013 : decode code 1013 = .ok (.invokevirtual 149, 3) := by decide +kernel
theorem dW_1016 : decode code 1016 = .ok (.aload_n 2, 1) := by decide +kernel
theorem dW_1017 : decode code 1017 = .ok (.aload_n 0, 1) := by decide +kernel
theorem dW_1018 : decode code 1018 = .ok (.iload_n 3, 1) := by decide +kernel
theorem dW_1019 : decode code 1019 = .ok (.iconst 1, 1) := by decide +kernel
theorem dW_1020 : decode code 1020 = .ok (.iadd, 1) := by decide +kernel
theorem dW_1021 : decode code 1021 = .ok (.iaload, 1) := by decide +kernel
theorem dW_1022 : decode code 1022 = .ok (.invokevirtual 152, 3) := by decide +kernel
theorem dW_1025 : decode code 1025 = .ok (.if_icmp .eq 28, 3) := by decide +kernel
theorem dW_1028 : decode code 1028 = .ok (.iconst 0, 1) := by decide +kernel
theorem dW_1029 : decode code 1029 = .ok (.ireturn, 1) := by decide +kernel
theorem dW_1030 : decode code 1030 = .ok (.aload_n 1, 1) := by decide +kernel
theorem dW_1031 : decode code 1031 = .ok (.aload_n 0, 1) := by decide +kernel
theorem dW_1032 : decode code 1032 = .ok (.iload_n 3, 1) := by decide +kernel
theorem dW_1033 : decode code 1033 = .ok (.iconst 1, 1) := by decide +kernel
theorem dW_1034 : decode code 1034 = .ok (.iadd, 1) := by decide +kernel
theorem dW_1035 : decode code 1035 = .ok (.iaload, 1) := by decide +kernel
theorem dW_1036 : decode code 1036 = .ok (.invokevirtual 153, 3) := by decide +kernel
theorem dW_1039 : decode code 1039 = .ok (.aload_n 2, 1) := by decide +kernel
theorem dW_1040 : decode code 1040 = .ok (.aload_n 0, 1) := by decide +kernel
theorem dW_1041 : decode code 1041 = .ok (.iload_n 3, 1) := by decide +kernel
theorem dW_1042 : decode code 1042 = .ok (.iconst 1, 1) := by decide +kernel
theorem dW_1043 : decode code 1043 = .ok (.iadd, 1) := by decide +kernel
theorem dW_1044 : decode code 1044 = .ok (.iaload, 1) := by decide +kernel
theorem dW_1045 : decode code 1045 = .ok (.invokevirtual 156, 3) := by decide +kernel
theorem dW_1048 : decode code 1048 = .ok (.if_icmp .eq 5, 3) := by decide +kernel
theorem dW_1051 : decode code 1051 = .ok (.iconst 0, 1) := by decide +kernel
theorem dW_1052 : decode code 1052 = .ok (.ireturn, 1) := by decide +kernel
theorem dW_1053 : decode code 1053 = .ok (.iinc 3 4, 3) := by decide +kernel
theorem dW_1056 : decode code 1056 = .ok (.goto (-1038), 3) := by decide +kernel
theorem dW_1059 : decode code 1059 = .ok (.iconst 1, 1) := by decide +kernel
theorem dW_1060 : decode code 1060 = .ok (.ireturn, 1) := by decide +kernel
