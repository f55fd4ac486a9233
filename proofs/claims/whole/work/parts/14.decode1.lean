theorem zd_La_law_279 : decode code 279 = .ok (.aload_n 0, 1) := by decide +kernel
theorem zd_La_law_280 : decode code 280 = .ok (.iload 4, 2) := by decide +kernel
theorem zd_La_law_282 : decode code 282 = .ok (.iconst 2, 1) := by decide +kernel
theorem zd_La_law_283 : decode code 283 = .ok (.iadd, 1) := by decide +kernel
theorem zd_La_law_284 : decode code 284 = .ok (.iaload, 1) := by decide +kernel
theorem zd_La_law_285 : decode code 285 = .ok (.ifCond .eq 7, 3) := by decide +kernel
theorem zd_La_law_288 : decode code 288 = .ok (.iconst 1, 1) := by decide +kernel
theorem zd_La_law_289 : decode code 289 = .ok (.goto 4, 3) := by decide +kernel
theorem zd_La_law_292 : decode code 292 = .ok (.iconst 0, 1) := by decide +kernel
theorem zd_La_law_293 : decode code 293 = .ok (.invokestatic 83, 3) := by decide +kernel
theorem zd_La_law_296 : decode code 296 = .ok (.istore 5, 2) := by decide +kernel
theorem zd_La_law_298 : decode code 298 = .ok (.aload_n 2, 1) := by decide +kernel
theorem zd_La_law_299 : decode code 299 = .ok (.aload_n 0, 1) := by decide +kernel
theorem zd_La_law_300 : decode code 300 = .ok (.iload 4, 2) := by decide +kernel
theorem zd_La_law_302 : decode code 302 = .ok (.iconst 1, 1) := by decide +kernel
theorem zd_La_law_303 : decode code 303 = .ok (.iadd, 1) := by decide +kernel
theorem zd_La_law_304 : decode code 304 = .ok (.iaload, 1) := by decide +kernel
theorem zd_La_law_305 : decode code 305 = .ok (.aload_n 0, 1) := by decide +kernel
theorem zd_La_law_306 : decode code 306 = .ok (.iload 4, 2) := by decide +kernel
theorem zd_La_law_308 : decode code 308 = .ok (.iconst 2, 1) := by decide +kernel
theorem zd_La_law_309 : decode code 309 = .ok (.iadd, 1) := by decide +kernel
theorem zd_La_law_310 : decode code 310 = .ok (.iaload, 1) := by decide +kernel
theorem zd_La_law_311 : decode code 311 = .ok (.ifCond .eq 7, 3) := by decide +kernel
theorem zd_La_law_314 : decode code 314 = .ok (.iconst 1, 1) := by decide +kernel
theorem zd_La_law_315 : decode code 315 = .ok (.goto 4, 3) := by decide +kernel
theorem zd_La_law_318 : decode code 318 = .ok (.iconst 0, 1) := by decide +kernel
theorem zd_La_law_319 : decode code 319 = .ok (.invokevirtual 86, 3) := by decide +kernel
theorem zd_La_law_322 : decode code 322 = .ok (.aload_n 2, 1) := by decide +kernel
theorem zd_La_law_323 : decode code 323 = .ok (.invokevirtual 71, 3) := by decide +kernel
theorem zd_La_law_326 : decode code 326 = .ok (.iload 5, 2) := by decide +kernel
theorem zd_La_law_328 : decode code 328 = .ok (.if_icmp .eq 5, 3) := by decide +kernel
theorem zd_La_law_331 : decode code 331 = .ok (.iconst 0, 1) := by decide +kernel
theorem zd_La_law_332 : decode code 332 = .ok (.ireturn, 1) := by decide +kernel
theorem zd_La_law_333 : decode code 333 = .ok (.goto 586, 3) := by decide +kernel
theorem zd_La_law_336 : decode code 336 = .ok (.aload_n 1, 1) := by decide +kernel
theorem zd_La_law_337 : decode code 337 = .ok (.aload_n 0, 1) := by decide +kernel
theorem zd_La_law_338 : decode code 338 = .ok (.iload 4, 2) := by decide +kernel
theorem zd_La_law_340 : decode code 340 = .ok (.iconst 1, 1) := by decide +kernel
theorem zd_La_law_341 : decode code 341 = .ok (.iadd, 1) := by decide +kernel
theorem zd_La_law_342 : decode code 342 = .ok (.iaload, 1) := by decide +kernel
theorem zd_La_law_343 : decode code 343 = .ok (.aload_n 0, 1) := by decide +kernel
theorem zd_La_law_344 : decode code 344 = .ok (.iload 4, 2) := by decide +kernel
theorem zd_La_law_346 : decode code 346 = .ok (.iconst 2, 1) := by decide +kernel
theorem zd_La_law_347 : decode code 347 = .ok (.iadd, 1) := by decide +kernel
theorem zd_La_law_348 : decode code 348 = .ok (.iaload, 1) := by decide +kernel
theorem zd_La_law_349 : decode code 349 = .ok (.ifCond .eq 7, 3) := by decide +kernel
theorem zd_La_law_352 : decode code 352 = .ok (.iconst 1, 1) := by decide +kernel
theorem zd_La_law_353 : decode code 353 = .ok (.goto 4, 3) := by decide +kernel
theorem zd_La_law_356 : decode code 356 = .ok (.iconst 0, 1) := by decide +kernel
theorem zd_La_law_357 : decode code 357 = .ok (.invokestatic 87, 3) := by decide +kernel
theorem zd_La_law_360 : decode code 360 = .ok (.istore 5, 2) := by decide +kernel
theorem zd_La_law_362 : decode code 362 = .ok (.aload_n 2, 1) := by decide +kernel
theorem zd_La_law_363 : decode code 363 = .ok (.aload_n 0, 1) := by decide +kernel
theorem zd_La_law_364 : decode code 364 = .ok (.iload 4, 2) := by decide +kernel
theorem zd_La_law_366 : decode code 366 = .ok (.iconst 1, 1) := by decide +kernel
theorem zd_La_law_367 : decode code 367 = .ok (.iadd, 1) := by decide +kernel
theorem zd_La_law_368 : decode code 368 = .ok (.iaload, 1) := by decide +kernel
theorem zd_La_law_369 : decode code 369 = .ok (.aload_n 0, 1) := by decide +kernel
theorem zd_La_law_370 : decode code 370 = .ok (.iload 4, 2) := by decide +kernel
theorem zd_La_law_372 : decode code 372 = .ok (.iconst 2, 1) := by decide +kernel
theorem zd_La_law_373 : decode code 373 = .ok (.iadd, 1) := by decide +kernel
theorem zd_La_law_374 : decode code 374 = .ok (.iaload, 1) := by decide +kernel
theorem zd_La_law_375 : decode code 375 = .ok (.ifCond .eq 7, 3) := by decide +kernel
theorem zd_La_law_378 : decode code 378 = .ok (.iconst 1, 1) := by decide +kernel
theorem zd_La_law_379 : decode code 379 = .ok (.goto 4, 3) := by decide +kernel
theorem zd_La_law_382 : decode code 382 = .ok (.iconst 0, 1) := by decide +kernel
theorem zd_La_law_383 : decode code 383 = .ok (.invokevirtual 89, 3) := by decide +kernel
theorem zd_La_law_386 : decode code 386 = .ok (.aload_n 2, 1) := by decide +kernel
theorem zd_La_law_387 : decode code 387 = .ok (.invokevirtual 71, 3) := by decide +kernel
theorem zd_La_law_390 : decode code 390 = .ok (.iload 5, 2) := by decide +kernel
theorem zd_La_law_392 : decode code 392 = .ok (.if_icmp .eq 5, 3) := by decide +kernel
theorem zd_La_law_395 : decode code 395 = .ok (.iconst 0, 1) := by decide +kernel
theorem zd_La_law_396 : decode code 396 = .ok (.ireturn, 1) := by decide +kernel
theorem zd_La_law_397 : decode code 397 = .ok (.goto 522, 3) := by decide +kernel
theorem zd_La_law_400 : decode code 400 = .ok (.aload_n 1, 1) := by decide +kernel
theorem zd_La_law_401 : decode code 401 = .ok (.aload_n 0, 1) := by decide +kernel
theorem zd_La_law_402 : decode code 402 = .ok (.iload 4, 2) := by decide +kernel
theorem zd_La_law_404 : decode code 404 = .ok (.iconst 1, 1) := by decide +kernel
theorem zd_La_law_405 : decode code 405 = .ok (.iadd, 1) := by decide +kernel
theorem zd_La_law_406 : decode code 406 = .ok (.iaload, 1) := by decide +kernel
theorem zd_La_law_407 : decode code 407 = .ok (.aload_n 0, 1) := by decide +kernel
theorem zd_La_law_408 : decode code 408 = .ok (.iload 4, 2) := by decide +kernel
theorem zd_La_law_410 : decode code 410 = .ok (.iconst 2, 1) := by decide +kernel
theorem zd_La_law_411 : decode code 411 = .ok (.iadd, 1) := by decide +kernel
theorem zd_La_law_412 : decode code 412 = .ok (.iaload, 1) := by decide +kernel
theorem zd_La_law_413 : decode code 413 = .ok (.ifCond .eq 7, 3) := by decide +kernel
theorem zd_La_law_416 : decode code 416 = .ok (.iconst 1, 1) := by decide +kernel
theorem zd_La_law_417 : decode code 417 = .ok (.goto 4, 3) := by decide +kernel
theorem zd_La_law_420 : decode code 420 = .ok (.iconst 0, 1) := by decide +kernel
theorem zd_La_law_421 : decode code 421 = .ok (.invokestatic 90, 3) := by decide +kernel
theorem zd_La_law_424 : decode code 424 = .ok (.istore 5, 2) := by decide +kernel
theorem zd_La_law_426 : decode code 426 = .ok (.aload_n 2, 1) := by decide +kernel
theorem zd_La_law_427 : decode code 427 = .ok (.aload_n 0, 1) := by decide +kernel
theorem zd_La_law_428 : decode code 428 = .ok (.iload 4, 2) := by decide +kernel
theorem zd_La_law_430 : decode code 430 = .ok (.iconst 1, 1) := by decide +kernel
theorem zd_La_law_431 : decode code 431 = .ok (.iadd, 1) := by decide +kernel
theorem zd_La_law_432 : decode code 432 = .ok (.iaload, 1) := by decide +kernel
theorem zd_La_law_433 : decode code 433 = .ok (.aload_n 0, 1) := by decide +kernel
theorem zd_La_law_434 : decode code 434 = .ok (.iload 4, 2) := by decide +kernel
theorem zd_La_law_436 : decode code 436 = .ok (.iconst 2, 1) := by decide +kernel
theorem zd_La_law_437 : decode code 437 = .ok (.iadd, 1) := by decide +kernel
theorem zd_La_law_438 : decode code 438 = .ok (.iaload, 1) := by decide +kernel
theorem zd_La_law_439 : decode code 439 = .ok (.ifCond .eq 7, 3) := by decide +kernel
theorem zd_La_law_442 : decode code 442 = .ok (.iconst 1, 1) := by decide +kernel
theorem zd_La_law_443 : decode code 443 = .ok (.goto 4, 3) := by decide +kernel
theorem zd_La_law_446 : decode code 446 = .ok (.iconst 0, 1) := by decide +kernel
theorem zd_La_law_447 : decode code 447 = .ok (.invokevirtual 92, 3) := by decide +kernel
theorem zd_La_law_450 : decode code 450 = .ok (.aload_n 2, 1) := by decide +kernel
theorem zd_La_law_451 : decode code 451 = .ok (.invokevirtual 71, 3) := by decide +kernel
theorem zd_La_law_454 : decode code 454 = .ok (.iload 5, 2) := by decide +kernel
theorem zd_La_law_456 : decode code 456 = .ok (.if_icmp .eq 5, 3) := by decide +kernel
theorem zd_La_law_459 : decode code 459 = .ok (.iconst 0, 1) := by decide +kernel
theorem zd_La_law_460 : decode code 460 = .ok (.ireturn, 1) := by decide +kernel
theorem zd_La_law_461 : decode code 461 = .ok (.goto 458, 3) := by decide +kernel
theorem zd_La_law_464 : decode code 464 = .ok (.aload_n 1, 1) := by decide +kernel
theorem zd_La_law_465 : decode code 465 = .ok (.aload_n 0, 1) := by decide +kernel
theorem zd_La_law_466 : decode code 466 = .ok (.iload 4, 2) := by decide +kernel
theorem zd_La_law_468 : decode code 468 = .ok (.iconst 1, 1) := by decide +kernel
theorem zd_La_law_469 : decode code 469 = .ok (.iadd, 1) := by decide +kernel
theorem zd_La_law_470 : decode code 470 = .ok (.iaload, 1) := by decide +kernel
theorem zd_La_law_471 : decode code 471 = .ok (.ifCond .eq 7, 3) := by decide +kernel
theorem zd_La_law_474 : decode code 474 = .ok (.iconst 1, 1) := by decide +kernel
theorem zd_La_law_475 : decode code 475 = .ok (.goto 4, 3) := by decide +kernel
theorem zd_La_law_478 : decode code 478 = .ok (.iconst 0, 1) := by decide +kernel
theorem zd_La_law_479 : decode code 479 = .ok (.invokevirtual 93, 3) := by decide +kernel
theorem zd_La_law_482 : decode code 482 = .ok (.aload_n 2, 1) := by decide +kernel
theorem zd_La_law_483 : decode code 483 = .ok (.aload_n 0, 1) := by decide +kernel
theorem zd_La_law_484 : decode code 484 = .ok (.iload 4, 2) := by decide +kernel
theorem zd_La_law_486 : decode code 486 = .ok (.iconst 1, 1) := by decide +kernel
theorem zd_La_law_487 : decode code 487 = .ok (.iadd, 1) := by decide +kernel
theorem zd_La_law_488 : decode code 488 = .ok (.iaload, 1) := by decide +kernel
theorem zd_La_law_489 : decode code 489 = .ok (.ifCond .eq 7, 3) := by decide +kernel
theorem zd_La_law_492 : decode code 492 = .ok (.iconst 1, 1) := by decide +kernel
theorem zd_La_law_493 : decode code 493 = .ok (.goto 4, 3) := by decide +kernel
theorem zd_La_law_496 : decode code 496 = .ok (.iconst 0, 1) := by decide +kernel
theorem zd_La_law_497 : decode code 497 = .ok (.invokevirtual 97, 3) := by decide +kernel
theorem zd_La_law_500 : decode code 500 = .ok (.goto 419, 3) := by decide +kernel
theorem zd_La_law_503 : decode code 503 = .ok (.aload_n 1, 1) := by decide +kernel
theorem zd_La_law_504 : decode code 504 = .ok (.aload_n 0, 1) := by decide +kernel
theorem zd_La_law_505 : decode code 505 = .ok (.iload 4, 2) := by decide +kernel
