theorem dLaw_274 : decode code 274 = .ok (.aload_n 0, 1) := by decide +kernel
theorem dLaw_275 : decode code 275 = .ok (.iload 4, 2) := by decide +kernel
theorem dLaw_277 : decode code 277 = .ok (.iconst 1, 1) := by decide +kernel
theorem dLaw_278 : decode code 278 = .ok (.iadd, 1) := by decide +kernel
theorem dLaw_279 : decode code 279 = .ok (.iaload, 1) := by decide +kernel
theorem dLaw_280 : decode code 280 = .ok (.invokevirtual 65, 3) := by decide +kernel
theorem dLaw_283 : decode code 283 = .ok (.istore 6, 2) := by decide +kernel
theorem dLaw_285 : decode code 285 = .ok (.aload_n 2, 1) := by decide +kernel
theorem dLaw_286 : decode code 286 = .ok (.invokevirtual 53, 3) := by decide +kernel
theorem dLaw_289 : decode code 289 = .ok (.iload 5, 2) := by decide +kernel
theorem dLaw_291 : decode code 291 = .ok (.if_icmp .eq 5, 3) := by decide +kernel
theorem dLaw_294 : decode code 294 = .ok (.iconst 0, 1) := by decide +kernel
theorem dLaw_295 : decode code 295 = .ok (.ireturn, 1) := by decide +kernel
theorem dLaw_296 : decode code 296 = .ok (.iload 5, 2) := by decide +kernel
theorem dLaw_298 : decode code 298 = .ok (.ifCond .ne 15, 3) := by decide +kernel
theorem dLaw_301 : decode code 301 = .ok (.aload_n 3, 1) := by decide +kernel
theorem dLaw_302 : decode code 302 = .ok (.iconst 0, 1) := by decide +kernel
theorem dLaw_303 : decode code 303 = .ok (.laload, 1) := by decide +kernel
theorem dLaw_304 : decode code 304 = .ok (.iload 6, 2) := by decide +kernel
theorem dLaw_306 : decode code 306 = .ok (.i2l, 1) := by decide +kernel
theorem dLaw_307 : decode code 307 = .ok (.lcmp, 1) := by decide +kernel
theorem dLaw_308 : decode code 308 = .ok (.ifCond .eq 5, 3) := by decide +kernel
theorem dLaw_311 : decode code 311 = .ok (.iconst 0, 1) := by decide +kernel
theorem dLaw_312 : decode code 312 = .ok (.ireturn, 1) := by decide +kernel
theorem dLaw_313 : decode code 313 = .ok (.goto 461, 3) := by decide +kernel
theorem dLaw_316 : decode code 316 = .ok (.aload_n 1, 1) := by decide +kernel
theorem dLaw_317 : decode code 317 = .ok (.aload_n 0, 1) := by decide +kernel
theorem dLaw_318 : decode code 318 = .ok (.iload 4, 2) := by decide +kernel
theorem dLaw_320 : decode code 320 = .ok (.iconst 1, 1) := by decide +kernel
theorem dLaw_321 : decode code 321 = .ok (.iadd, 1) := by decide +kernel
theorem dLaw_322 : decode code 322 = .ok (.iaload, 1) := by decide +kernel
theorem dLaw_323 : decode code 323 = .ok (.invokevirtual 66, 3) := by decide +kernel
theorem dLaw_326 : decode code 326 = .ok (.aload_n 2, 1) := by decide +kernel
theorem dLaw_327 : decode code 327 = .ok (.aload_n 0, 1) := by decide +kernel
theorem dLaw_328 : decode code 328 = .ok (.iload 4, 2) := by decide +kernel
theorem dLaw_330 : decode code 330 = .ok (.iconst 1, 1) := by decide +kernel
theorem dLaw_331 : decode code 331 = .ok (.iadd, 1) := by decide +kernel
theorem dLaw_332 : decode code 332 = .ok (.iaload, 1) := by decide +kernel
theorem dLaw_333 : decode code 333 = .ok (.invokevirtual 69, 3) := by decide +kernel
theorem dLaw_336 : decode code 336 = .ok (.if_icmp .eq 438, 3) := by decide +kernel
theorem dLaw_339 : decode code 339 = .ok (.iconst 0, 1) := by decide +kernel
theorem dLaw_340 : decode code 340 = .ok (.ireturn, 1) := by decide +kernel
theorem dLaw_341 : decode code 341 = .ok (.aload_n 1, 1) := by decide +kernel
theorem dLaw_342 : decode code 342 = .ok (.aload_n 0, 1) := by decide +kernel
theorem dLaw_343 : decode code 343 = .ok (.iload 4, 2) := by decide +kernel
theorem dLaw_345 : decode code 345 = .ok (.iconst 1, 1) := by decide +kernel
theorem dLaw_346 : decode code 346 = .ok (.iadd, 1) := by decide +kernel
theorem dLaw_347 : decode code 347 = .ok (.iaload, 1) := by decide +kernel
theorem dLaw_348 : decode code 348 = .ok (.i2l, 1) := by decide +kernel
theorem dLaw_349 : decode code 349 = .ok (.bipush 32, 2) := by decide +kernel
theorem dLaw_351 : decode code 351 = .ok (.lshl, 1) := by decide +kernel
theorem dLaw_352 : decode code 352 = .ok (.aload_n 0, 1) := by decide +kernel
theorem dLaw_353 : decode code 353 = .ok (.iload 4, 2) := by decide +kernel
theorem dLaw_355 : decode code 355 = .ok (.iconst 2, 1) := by decide +kernel
theorem dLaw_356 : decode code 356 = .ok (.iadd, 1) := by decide +kernel
theorem dLaw_357 : decode code 357 = .ok (.iaload, 1) := by decide +kernel
theorem dLaw_358 : decode code 358 = .ok (.i2l, 1) := by decide +kernel
theorem dLaw_359 : decode code 359 = .ok (.ldc2_w 70, 3) := by decide +kernel
theorem dLaw_362 : decode code 362 = .ok (.land, 1) := by decide +kernel
theorem dLaw_363 : decode code 363 = .ok (.lor, 1) := by decide +kernel
theorem dLaw_364 : decode code 364 = .ok (.aload_n 0, 1) := by decide +kernel
theorem dLaw_365 : decode code 365 = .ok (.iload 4, 2) := by decide +kernel
theorem dLaw_367 : decode code 367 = .ok (.iconst 3, 1) := by decide +kernel
theorem dLaw_368 : decode code 368 = .ok (.iadd, 1) := by decide +kernel
theorem dLaw_369 : decode code 369 = .ok (.iaload, 1) := by decide +kernel
theorem dLaw_370 : decode code 370 = .ok (.aload_n 3, 1) := by decide +kernel
theorem dLaw_371 : decode code 371 = .ok (.invokestatic 72, 3) := by decide +kernel
theorem dLaw_374 : decode code 374 = .ok (.istore 5, 2) := by decide +kernel
theorem dLaw_376 : decode code 376 = .ok (.aload_n 2, 1) := by decide +kernel
theorem dLaw_377 : decode code 377 = .ok (.aload_n 0, 1) := by decide +kernel
theorem dLaw_378 : decode code 378 = .ok (.iload 4, 2) := by decide +kernel
theorem dLaw_380 : decode code 380 = .ok (.iconst 1, 1) := by decide +kernel
theorem dLaw_381 : decode code 381 = .ok (.iadd, 1) := by decide +kernel
theorem dLaw_382 : decode code 382 = .ok (.iaload, 1) := by decide +kernel
theorem dLaw_383 : decode code 383 = .ok (.i2l, 1) := by decide +kernel
theorem dLaw_384 : decode code 384 = .ok (.bipush 32, 2) := by decide +kernel
theorem dLaw_386 : decode code 386 = .ok (.lshl, 1) := by decide +kernel
theorem dLaw_387 : decode code 387 = .ok (.aload_n 0, 1) := by decide +kernel
theorem dLaw_388 : decode code 388 = .ok (.iload 4, 2) := by decide +kernel
theorem dLaw_390 : decode code 390 = .ok (.iconst 2, 1) := by decide +kernel
theorem dLaw_391 : decode code 391 = .ok (.iadd, 1) := by decide +kernel
theorem dLaw_392 : decode code 392 = .ok (.iaload, 1) := by decide +kernel
theorem dLaw_393 : decode code 393 = .ok (.i2l, 1) := by decide +kernel
theorem dLaw_394 : decode code 394 = .ok (.ldc2_w 70, 3) := by decide +kernel
theorem dLaw_397 : decode code 397 = .ok (.land, 1) := by decide +kernel
theorem dLaw_398 : decode code 398 = .ok (.lor, 1) := by decide +kernel
theorem dLaw_399 : decode code 399 = .ok (.aload_n 0, 1) := by decide +kernel
theorem dLaw_400 : decode code 400 = .ok (.iload 4, 2) := by decide +kernel
theorem dLaw_402 : decode code 402 = .ok (.iconst 3, 1) := by decide +kernel
theorem dLaw_403 : decode code 403 = .ok (.iadd, 1) := by decide +kernel
theorem dLaw_404 : decode code 404 = .ok (.iaload, 1) := by decide +kernel
theorem dLaw_405 : decode code 405 = .ok (.invokevirtual 75, 3) := by decide +kernel
theorem dLaw_408 : decode code 408 = .ok (.istore 6, 2) := by decide +kernel
theorem dLaw_410 : decode code 410 = .ok (.aload_n 2, 1) := by decide +kernel
theorem dLaw_411 : decode code 411 = .ok (.invokevirtual 53, 3) := by decide +kernel
theorem dLaw_414 : decode code 414 = .ok (.iload 5, 2) := by decide +kernel
theorem dLaw_416 : decode code 416 = .ok (.if_icmp .eq 5, 3) := by decide +kernel
theorem dLaw_419 : decode code 419 = .ok (.iconst 0, 1) := by decide +kernel
theorem dLaw_420 : decode code 420 = .ok (.ireturn, 1) := by decide +kernel
theorem dLaw_421 : decode code 421 = .ok (.iload 5, 2) := by decide +kernel
theorem dLaw_423 : decode code 423 = .ok (.ifCond .ne 15, 3) := by decide +kernel
theorem dLaw_426 : decode code 426 = .ok (.aload_n 3, 1) := by decide +kernel
theorem dLaw_427 : decode code 427 = .ok (.iconst 0, 1) := by decide +kernel
theorem dLaw_428 : decode code 428 = .ok (.laload, 1) := by decide +kernel
theorem dLaw_429 : decode code 429 = .ok (.iload 6, 2) := by decide +kernel
theorem dLaw_431 : decode code 431 = .ok (.i2l, 1) := by decide +kernel
theorem dLaw_432 : decode code 432 = .ok (.lcmp, 1) := by decide +kernel
theorem dLaw_433 : decode code 433 = .ok (.ifCond .eq 5, 3) := by decide +kernel
theorem dLaw_436 : decode code 436 = .ok (.iconst 0, 1) := by decide +kernel
theorem dLaw_437 : decode code 437 = .ok (.ireturn, 1) := by decide +kernel
theorem dLaw_438 : decode code 438 = .ok (.goto 336, 3) := by decide +kernel
theorem dLaw_441 : decode code 441 = .ok (.aload_n 1, 1) := by decide +kernel
theorem dLaw_442 : decode code 442 = .ok (.aload_n 0, 1) := by decide +kernel
theorem dLaw_443 : decode code 443 = .ok (.iload 4, 2) := by decide +kernel
theorem dLaw_445 : decode code 445 = .ok (.iconst 1, 1) := by decide +kernel
theorem dLaw_446 : decode code 446 = .ok (.iadd, 1) := by decide +kernel
theorem dLaw_447 : decode code 447 = .ok (.iaload, 1) := by decide +kernel
theorem dLaw_448 : decode code 448 = .ok (.i2l, 1) := by decide +kernel
theorem dLaw_449 : decode code 449 = .ok (.bipush 32, 2) := by decide +kernel
theorem dLaw_451 : decode code 451 = .ok (.lshl, 1) := by decide +kernel
theorem dLaw_452 : decode code 452 = .ok (.aload_n 0, 1) := by decide +kernel
theorem dLaw_453 : decode code 453 = .ok (.iload 4, 2) := by decide +kernel
theorem dLaw_455 : decode code 455 = .ok (.iconst 2, 1) := by decide +kernel
theorem dLaw_456 : decode code 456 = .ok (.iadd, 1) := by decide +kernel
theorem dLaw_457 : decode code 457 = .ok (.iaload, 1) := by decide +kernel
theorem dLaw_458 : decode code 458 = .ok (.i2l, 1) := by decide +kernel
theorem dLaw_459 : decode code 459 = .ok (.ldc2_w 70, 3) := by decide +kernel
theorem dLaw_462 : decode code 462 = .ok (.land, 1) := by decide +kernel
theorem dLaw_463 : decode code 463 = .ok (.lor, 1) := by decide +kernel
theorem dLaw_464 : decode code 464 = .ok (.aload_n 0, 1) := by decide +kernel
theorem dLaw_465 : decode code 465 = .ok (.iload 4, 2) := by decide +kernel
theorem dLaw_467 : decode code 467 = .ok (.iconst 3, 1) := by decide +kernel
theorem dLaw_468 : decode code 468 = .ok (.iadd, 1) := by decide +kernel
theorem dLaw_469 : decode code 469 = .ok (.iaload, 1) := by decide +kernel
theorem dLaw_470 : decode code 470 = .ok (.i2l, 1) := by decide +kernel
theorem dLaw_471 : decode code 471 = .ok (.bipush 32, 2) := by decide +kernel
theorem dLaw_473 : decode code 473 = .ok (.lshl, 1) := by decide +kernel
theorem dLaw_474 : decode code 474 = .ok (.aload_n 0, 1) := by decide +kernel
theorem dLaw_475 : decode code 475 = .ok (.iload 4, 2) := by decide +kernel
theorem dLaw_477 : decode code 477 = .ok (.iconst 4, 1) := by decide +kernel
