/-! Own rows, by program: the law, case by case. -/
theorem d_Law_law_0 : decode M_Law_law.2.1 0 = .ok (.new 8, 3) := by decide +kernel
theorem d_Law_law_3 : decode M_Law_law.2.1 3 = .ok (.dup, 1) := by decide +kernel
theorem d_Law_law_4 : decode M_Law_law.2.1 4 = .ok (.invokespecial 15, 3) := by decide +kernel
theorem d_Law_law_7 : decode M_Law_law.2.1 7 = .ok (.astore_n 1, 1) := by decide +kernel
theorem d_Law_law_8 : decode M_Law_law.2.1 8 = .ok (.new 16, 3) := by decide +kernel
theorem d_Law_law_11 : decode M_Law_law.2.1 11 = .ok (.dup, 1) := by decide +kernel
theorem d_Law_law_12 : decode M_Law_law.2.1 12 = .ok (.invokespecial 18, 3) := by decide +kernel
theorem d_Law_law_15 : decode M_Law_law.2.1 15 = .ok (.astore_n 2, 1) := by decide +kernel
theorem d_Law_law_16 : decode M_Law_law.2.1 16 = .ok (.iconst 1, 1) := by decide +kernel
theorem d_Law_law_17 : decode M_Law_law.2.1 17 = .ok (.newarray .long, 2) := by decide +kernel
theorem d_Law_law_19 : decode M_Law_law.2.1 19 = .ok (.astore_n 3, 1) := by decide +kernel
theorem d_Law_law_20 : decode M_Law_law.2.1 20 = .ok (.iconst 0, 1) := by decide +kernel
theorem d_Law_law_21 : decode M_Law_law.2.1 21 = .ok (.istore 4, 2) := by decide +kernel
theorem d_Law_law_23 : decode M_Law_law.2.1 23 = .ok (.iload 4, 2) := by decide +kernel
theorem d_Law_law_25 : decode M_Law_law.2.1 25 = .ok (.aload_n 0, 1) := by decide +kernel
theorem d_Law_law_26 : decode M_Law_law.2.1 26 = .ok (.arraylength, 1) := by decide +kernel
theorem d_Law_law_27 : decode M_Law_law.2.1 27 = .ok (.bipush 6, 2) := by decide +kernel
theorem d_Law_law_29 : decode M_Law_law.2.1 29 = .ok (.isub, 1) := by decide +kernel
theorem d_Law_law_30 : decode M_Law_law.2.1 30 = .ok (.if_icmp .gt 2060, 3) := by decide +kernel
theorem d_Law_law_33 : decode M_Law_law.2.1 33 = .ok (.aload_n 0, 1) := by decide +kernel
theorem d_Law_law_34 : decode M_Law_law.2.1 34 = .ok (.iload 4, 2) := by decide +kernel
theorem d_Law_law_36 : decode M_Law_law.2.1 36 = .ok (.iaload, 1) := by decide +kernel
theorem d_Law_law_37 : decode M_Law_law.2.1 37 = .ok (.bipush 63, 2) := by decide +kernel
theorem d_Law_law_39 : decode M_Law_law.2.1 39 = .ok (.iand, 1) := by decide +kernel
theorem d_Law_law_40 : decode M_Law_law.2.1 40 = .ok (.tableswitch 2044 0 53 #[232, 305, 330, 343, 356, 393, 430, 483, 536, 589, 642, 707, 720, 733, 746, 771, 796, 821, 834, 847, 860, 897, 962, 987, 1012, 1037, 1062, 1087, 1100, 1113, 1126, 1163, 1200, 1213, 1226, 1239, 1293, 1306, 1415, 1440, 1465, 1575, 1657, 1722, 1799, 1812, 1837, 1862, 1899, 1912, 1925, 1950, 2006, 2031], 232) := by decide +kernel
theorem d_Law_law_272 : decode M_Law_law.2.1 272 = .ok (.aload_n 1, 1) := by decide +kernel
theorem d_Law_law_273 : decode M_Law_law.2.1 273 = .ok (.aload_n 0, 1) := by decide +kernel
theorem d_Law_law_274 : decode M_Law_law.2.1 274 = .ok (.iload 4, 2) := by decide +kernel
theorem d_Law_law_276 : decode M_Law_law.2.1 276 = .ok (.iconst 1, 1) := by decide +kernel
theorem d_Law_law_277 : decode M_Law_law.2.1 277 = .ok (.iadd, 1) := by decide +kernel
theorem d_Law_law_278 : decode M_Law_law.2.1 278 = .ok (.iaload, 1) := by decide +kernel
theorem d_Law_law_279 : decode M_Law_law.2.1 279 = .ok (.aload_n 0, 1) := by decide +kernel
theorem d_Law_law_280 : decode M_Law_law.2.1 280 = .ok (.iload 4, 2) := by decide +kernel
theorem d_Law_law_282 : decode M_Law_law.2.1 282 = .ok (.iconst 2, 1) := by decide +kernel
theorem d_Law_law_283 : decode M_Law_law.2.1 283 = .ok (.iadd, 1) := by decide +kernel
theorem d_Law_law_284 : decode M_Law_law.2.1 284 = .ok (.iaload, 1) := by decide +kernel
theorem d_Law_law_285 : decode M_Law_law.2.1 285 = .ok (.aload_n 0, 1) := by decide +kernel
theorem d_Law_law_286 : decode M_Law_law.2.1 286 = .ok (.iload 4, 2) := by decide +kernel
theorem d_Law_law_288 : decode M_Law_law.2.1 288 = .ok (.iconst 3, 1) := by decide +kernel
theorem d_Law_law_289 : decode M_Law_law.2.1 289 = .ok (.iadd, 1) := by decide +kernel
theorem d_Law_law_290 : decode M_Law_law.2.1 290 = .ok (.iaload, 1) := by decide +kernel
theorem d_Law_law_291 : decode M_Law_law.2.1 291 = .ok (.aload_n 0, 1) := by decide +kernel
theorem d_Law_law_292 : decode M_Law_law.2.1 292 = .ok (.iload 4, 2) := by decide +kernel
theorem d_Law_law_294 : decode M_Law_law.2.1 294 = .ok (.iconst 4, 1) := by decide +kernel
theorem d_Law_law_295 : decode M_Law_law.2.1 295 = .ok (.iadd, 1) := by decide +kernel
theorem d_Law_law_296 : decode M_Law_law.2.1 296 = .ok (.iaload, 1) := by decide +kernel
theorem d_Law_law_297 : decode M_Law_law.2.1 297 = .ok (.aload_n 0, 1) := by decide +kernel
theorem d_Law_law_298 : decode M_Law_law.2.1 298 = .ok (.iload 4, 2) := by decide +kernel
theorem d_Law_law_300 : decode M_Law_law.2.1 300 = .ok (.iconst 5, 1) := by decide +kernel
theorem d_Law_law_301 : decode M_Law_law.2.1 301 = .ok (.iadd, 1) := by decide +kernel
theorem d_Law_law_302 : decode M_Law_law.2.1 302 = .ok (.iaload, 1) := by decide +kernel
theorem d_Law_law_303 : decode M_Law_law.2.1 303 = .ok (.invokevirtual 19, 3) := by decide +kernel
theorem d_Law_law_306 : decode M_Law_law.2.1 306 = .ok (.aload_n 2, 1) := by decide +kernel
theorem d_Law_law_307 : decode M_Law_law.2.1 307 = .ok (.aload_n 0, 1) := by decide +kernel
theorem d_Law_law_308 : decode M_Law_law.2.1 308 = .ok (.iload 4, 2) := by decide +kernel
theorem d_Law_law_310 : decode M_Law_law.2.1 310 = .ok (.iconst 1, 1) := by decide +kernel
theorem d_Law_law_311 : decode M_Law_law.2.1 311 = .ok (.iadd, 1) := by decide +kernel
theorem d_Law_law_312 : decode M_Law_law.2.1 312 = .ok (.iaload, 1) := by decide +kernel
theorem d_Law_law_313 : decode M_Law_law.2.1 313 = .ok (.aload_n 0, 1) := by decide +kernel
theorem d_Law_law_314 : decode M_Law_law.2.1 314 = .ok (.iload 4, 2) := by decide +kernel
theorem d_Law_law_316 : decode M_Law_law.2.1 316 = .ok (.iconst 2, 1) := by decide +kernel
theorem d_Law_law_317 : decode M_Law_law.2.1 317 = .ok (.iadd, 1) := by decide +kernel
theorem d_Law_law_318 : decode M_Law_law.2.1 318 = .ok (.iaload, 1) := by decide +kernel
theorem d_Law_law_319 : decode M_Law_law.2.1 319 = .ok (.aload_n 0, 1) := by decide +kernel
theorem d_Law_law_320 : decode M_Law_law.2.1 320 = .ok (.iload 4, 2) := by decide +kernel
theorem d_Law_law_322 : decode M_Law_law.2.1 322 = .ok (.iconst 3, 1) := by decide +kernel
theorem d_Law_law_323 : decode M_Law_law.2.1 323 = .ok (.iadd, 1) := by decide +kernel
theorem d_Law_law_324 : decode M_Law_law.2.1 324 = .ok (.iaload, 1) := by decide +kernel
theorem d_Law_law_325 : decode M_Law_law.2.1 325 = .ok (.aload_n 0, 1) := by decide +kernel
theorem d_Law_law_326 : decode M_Law_law.2.1 326 = .ok (.iload 4, 2) := by decide +kernel
theorem d_Law_law_328 : decode M_Law_law.2.1 328 = .ok (.iconst 4, 1) := by decide +kernel
theorem d_Law_law_329 : decode M_Law_law.2.1 329 = .ok (.iadd, 1) := by decide +kernel
theorem d_Law_law_330 : decode M_Law_law.2.1 330 = .ok (.iaload, 1) := by decide +kernel
theorem d_Law_law_331 : decode M_Law_law.2.1 331 = .ok (.aload_n 0, 1) := by decide +kernel
theorem d_Law_law_332 : decode M_Law_law.2.1 332 = .ok (.iload 4, 2) := by decide +kernel
theorem d_Law_law_334 : decode M_Law_law.2.1 334 = .ok (.iconst 5, 1) := by decide +kernel
theorem d_Law_law_335 : decode M_Law_law.2.1 335 = .ok (.iadd, 1) := by decide +kernel
theorem d_Law_law_336 : decode M_Law_law.2.1 336 = .ok (.iaload, 1) := by decide +kernel
theorem d_Law_law_337 : decode M_Law_law.2.1 337 = .ok (.invokevirtual 23, 3) := by decide +kernel
theorem d_Law_law_340 : decode M_Law_law.2.1 340 = .ok (.if_icmp .eq 1744, 3) := by decide +kernel
theorem d_Law_law_343 : decode M_Law_law.2.1 343 = .ok (.iconst 0, 1) := by decide +kernel
theorem d_Law_law_344 : decode M_Law_law.2.1 344 = .ok (.ireturn, 1) := by decide +kernel
theorem d_Law_law_345 : decode M_Law_law.2.1 345 = .ok (.aload_n 1, 1) := by decide +kernel
theorem d_Law_law_346 : decode M_Law_law.2.1 346 = .ok (.aload_n 0, 1) := by decide +kernel
theorem d_Law_law_347 : decode M_Law_law.2.1 347 = .ok (.iload 4, 2) := by decide +kernel
theorem d_Law_law_349 : decode M_Law_law.2.1 349 = .ok (.iconst 1, 1) := by decide +kernel
theorem d_Law_law_350 : decode M_Law_law.2.1 350 = .ok (.iadd, 1) := by decide +kernel
theorem d_Law_law_351 : decode M_Law_law.2.1 351 = .ok (.iaload, 1) := by decide +kernel
theorem d_Law_law_352 : decode M_Law_law.2.1 352 = .ok (.invokevirtual 24, 3) := by decide +kernel
theorem d_Law_law_355 : decode M_Law_law.2.1 355 = .ok (.aload_n 2, 1) := by decide +kernel
theorem d_Law_law_356 : decode M_Law_law.2.1 356 = .ok (.aload_n 0, 1) := by decide +kernel
theorem d_Law_law_357 : decode M_Law_law.2.1 357 = .ok (.iload 4, 2) := by decide +kernel
theorem d_Law_law_359 : decode M_Law_law.2.1 359 = .ok (.iconst 1, 1) := by decide +kernel
theorem d_Law_law_360 : decode M_Law_law.2.1 360 = .ok (.iadd, 1) := by decide +kernel
theorem d_Law_law_361 : decode M_Law_law.2.1 361 = .ok (.iaload, 1) := by decide +kernel
theorem d_Law_law_362 : decode M_Law_law.2.1 362 = .ok (.invokevirtual 27, 3) := by decide +kernel
theorem d_Law_law_365 : decode M_Law_law.2.1 365 = .ok (.if_icmp .eq 1719, 3) := by decide +kernel
theorem d_Law_law_368 : decode M_Law_law.2.1 368 = .ok (.iconst 0, 1) := by decide +kernel
theorem d_Law_law_369 : decode M_Law_law.2.1 369 = .ok (.ireturn, 1) := by decide +kernel
theorem d_Law_law_370 : decode M_Law_law.2.1 370 = .ok (.aload_n 1, 1) := by decide +kernel
theorem d_Law_law_371 : decode M_Law_law.2.1 371 = .ok (.invokevirtual 28, 3) := by decide +kernel
theorem d_Law_law_374 : decode M_Law_law.2.1 374 = .ok (.aload_n 2, 1) := by decide +kernel
theorem d_Law_law_375 : decode M_Law_law.2.1 375 = .ok (.invokevirtual 32, 3) := by decide +kernel
theorem d_Law_law_378 : decode M_Law_law.2.1 378 = .ok (.if_icmp .eq 1706, 3) := by decide +kernel
theorem d_Law_law_381 : decode M_Law_law.2.1 381 = .ok (.iconst 0, 1) := by decide +kernel
theorem d_Law_law_382 : decode M_Law_law.2.1 382 = .ok (.ireturn, 1) := by decide +kernel
theorem d_Law_law_383 : decode M_Law_law.2.1 383 = .ok (.aload_n 1, 1) := by decide +kernel
theorem d_Law_law_384 : decode M_Law_law.2.1 384 = .ok (.invokevirtual 33, 3) := by decide +kernel
theorem d_Law_law_387 : decode M_Law_law.2.1 387 = .ok (.aload_n 2, 1) := by decide +kernel
theorem d_Law_law_388 : decode M_Law_law.2.1 388 = .ok (.invokevirtual 36, 3) := by decide +kernel
theorem d_Law_law_391 : decode M_Law_law.2.1 391 = .ok (.if_icmp .eq 1693, 3) := by decide +kernel
theorem d_Law_law_394 : decode M_Law_law.2.1 394 = .ok (.iconst 0, 1) := by decide +kernel
theorem d_Law_law_395 : decode M_Law_law.2.1 395 = .ok (.ireturn, 1) := by decide +kernel
theorem d_Law_law_396 : decode M_Law_law.2.1 396 = .ok (.aload_n 1, 1) := by decide +kernel
theorem d_Law_law_397 : decode M_Law_law.2.1 397 = .ok (.aload_n 0, 1) := by decide +kernel
theorem d_Law_law_398 : decode M_Law_law.2.1 398 = .ok (.iload 4, 2) := by decide +kernel
theorem d_Law_law_400 : decode M_Law_law.2.1 400 = .ok (.iconst 1, 1) := by decide +kernel
theorem d_Law_law_401 : decode M_Law_law.2.1 401 = .ok (.iadd, 1) := by decide +kernel
theorem d_Law_law_402 : decode M_Law_law.2.1 402 = .ok (.iaload, 1) := by decide +kernel
theorem d_Law_law_403 : decode M_Law_law.2.1 403 = .ok (.aload_n 0, 1) := by decide +kernel
theorem d_Law_law_404 : decode M_Law_law.2.1 404 = .ok (.iload 4, 2) := by decide +kernel
theorem d_Law_law_406 : decode M_Law_law.2.1 406 = .ok (.iconst 2, 1) := by decide +kernel
theorem d_Law_law_407 : decode M_Law_law.2.1 407 = .ok (.iadd, 1) := by decide +kernel
theorem d_Law_law_408 : decode M_Law_law.2.1 408 = .ok (.iaload, 1) := by decide +kernel
theorem d_Law_law_409 : decode M_Law_law.2.1 409 = .ok (.invokevirtual 37, 3) := by decide +kernel
theorem d_Law_law_412 : decode M_Law_law.2.1 412 = .ok (.aload_n 2, 1) := by decide +kernel
theorem d_Law_law_413 : decode M_Law_law.2.1 413 = .ok (.aload_n 0, 1) := by decide +kernel
theorem d_Law_law_414 : decode M_Law_law.2.1 414 = .ok (.iload 4, 2) := by decide +kernel
theorem d_Law_law_416 : decode M_Law_law.2.1 416 = .ok (.iconst 1, 1) := by decide +kernel
theorem d_Law_law_417 : decode M_Law_law.2.1 417 = .ok (.iadd, 1) := by decide +kernel
theorem d_Law_law_418 : decode M_Law_law.2.1 418 = .ok (.iaload, 1) := by decide +kernel
theorem d_Law_law_419 : decode M_Law_law.2.1 419 = .ok (.aload_n 0, 1) := by decide +kernel
theorem d_Law_law_420 : decode M_Law_law.2.1 420 = .ok (.iload 4, 2) := by decide +kernel
theorem d_Law_law_422 : decode M_Law_law.2.1 422 = .ok (.iconst 2, 1) := by decide +kernel
theorem d_Law_law_423 : decode M_Law_law.2.1 423 = .ok (.iadd, 1) := by decide +kernel
theorem d_Law_law_424 : decode M_Law_law.2.1 424 = .ok (.iaload, 1) := by decide +kernel
theorem d_Law_law_425 : decode M_Law_law.2.1 425 = .ok (.invokevirtual 41, 3) := by decide +kernel
theorem d_Law_law_428 : decode M_Law_law.2.1 428 = .ok (.if_icmp .eq 1656, 3) := by decide +kernel
theorem d_Law_law_431 : decode M_Law_law.2.1 431 = .ok (.iconst 0, 1) := by decide +kernel
theorem d_Law_law_432 : decode M_Law_law.2.1 432 = .ok (.ireturn, 1) := by decide +kernel
theorem d_Law_law_433 : decode M_Law_law.2.1 433 = .ok (.aload_n 1, 1) := by decide +kernel
theorem d_Law_law_434 : decode M_Law_law.2.1 434 = .ok (.aload_n 0, 1) := by decide +kernel
theorem d_Law_law_435 : decode M_Law_law.2.1 435 = .ok (.iload 4, 2) := by decide +kernel
theorem d_Law_law_437 : decode M_Law_law.2.1 437 = .ok (.iconst 1, 1) := by decide +kernel
theorem d_Law_law_438 : decode M_Law_law.2.1 438 = .ok (.iadd, 1) := by decide +kernel
theorem d_Law_law_439 : decode M_Law_law.2.1 439 = .ok (.iaload, 1) := by decide +kernel
theorem d_Law_law_440 : decode M_Law_law.2.1 440 = .ok (.aload_n 0, 1) := by decide +kernel
theorem d_Law_law_441 : decode M_Law_law.2.1 441 = .ok (.iload 4, 2) := by decide +kernel
theorem d_Law_law_443 : decode M_Law_law.2.1 443 = .ok (.iconst 2, 1) := by decide +kernel
theorem d_Law_law_444 : decode M_Law_law.2.1 444 = .ok (.iadd, 1) := by decide +kernel
theorem d_Law_law_445 : decode M_Law_law.2.1 445 = .ok (.iaload, 1) := by decide +kernel
theorem d_Law_law_446 : decode M_Law_law.2.1 446 = .ok (.invokevirtual 42, 3) := by decide +kernel
theorem d_Law_law_449 : decode M_Law_law.2.1 449 = .ok (.aload_n 2, 1) := by decide +kernel
theorem d_Law_law_450 : decode M_Law_law.2.1 450 = .ok (.aload_n 0, 1) := by decide +kernel
theorem d_Law_law_451 : decode M_Law_law.2.1 451 = .ok (.iload 4, 2) := by decide +kernel
theorem d_Law_law_453 : decode M_Law_law.2.1 453 = .ok (.iconst 1, 1) := by decide +kernel
theorem d_Law_law_454 : decode M_Law_law.2.1 454 = .ok (.iadd, 1) := by decide +kernel
theorem d_Law_law_455 : decode M_Law_law.2.1 455 = .ok (.iaload, 1) := by decide +kernel
theorem d_Law_law_456 : decode M_Law_law.2.1 456 = .ok (.aload_n 0, 1) := by decide +kernel
theorem d_Law_law_457 : decode M_Law_law.2.1 457 = .ok (.iload 4, 2) := by decide +kernel
theorem d_Law_law_459 : decode M_Law_law.2.1 459 = .ok (.iconst 2, 1) := by decide +kernel
theorem d_Law_law_460 : decode M_Law_law.2.1 460 = .ok (.iadd, 1) := by decide +kernel
theorem d_Law_law_461 : decode M_Law_law.2.1 461 = .ok (.iaload, 1) := by decide +kernel
theorem d_Law_law_462 : decode M_Law_law.2.1 462 = .ok (.invokevirtual 45, 3) := by decide +kernel
theorem d_Law_law_465 : decode M_Law_law.2.1 465 = .ok (.if_icmp .eq 1619, 3) := by decide +kernel
theorem d_Law_law_468 : decode M_Law_law.2.1 468 = .ok (.iconst 0, 1) := by decide +kernel
theorem d_Law_law_469 : decode M_Law_law.2.1 469 = .ok (.ireturn, 1) := by decide +kernel
theorem d_Law_law_470 : decode M_Law_law.2.1 470 = .ok (.aload_n 1, 1) := by decide +kernel
theorem d_Law_law_471 : decode M_Law_law.2.1 471 = .ok (.aload_n 0, 1) := by decide +kernel
theorem d_Law_law_472 : decode M_Law_law.2.1 472 = .ok (.iload 4, 2) := by decide +kernel
theorem d_Law_law_474 : decode M_Law_law.2.1 474 = .ok (.iconst 1, 1) := by decide +kernel
theorem d_Law_law_475 : decode M_Law_law.2.1 475 = .ok (.iadd, 1) := by decide +kernel
theorem d_Law_law_476 : decode M_Law_law.2.1 476 = .ok (.iaload, 1) := by decide +kernel
theorem d_Law_law_477 : decode M_Law_law.2.1 477 = .ok (.aload_n 0, 1) := by decide +kernel
theorem d_Law_law_478 : decode M_Law_law.2.1 478 = .ok (.iload 4, 2) := by decide +kernel
theorem d_Law_law_480 : decode M_Law_law.2.1 480 = .ok (.iconst 2, 1) := by decide +kernel
theorem d_Law_law_481 : decode M_Law_law.2.1 481 = .ok (.iadd, 1) := by decide +kernel
theorem d_Law_law_482 : decode M_Law_law.2.1 482 = .ok (.iaload, 1) := by decide +kernel
theorem d_Law_law_483 : decode M_Law_law.2.1 483 = .ok (.ifCond .eq 7, 3) := by decide +kernel
theorem d_Law_law_486 : decode M_Law_law.2.1 486 = .ok (.iconst 1, 1) := by decide +kernel
theorem d_Law_law_487 : decode M_Law_law.2.1 487 = .ok (.goto 4, 3) := by decide +kernel
theorem d_Law_law_490 : decode M_Law_law.2.1 490 = .ok (.iconst 0, 1) := by decide +kernel
theorem d_Law_law_491 : decode M_Law_law.2.1 491 = .ok (.invokevirtual 46, 3) := by decide +kernel
theorem d_Law_law_494 : decode M_Law_law.2.1 494 = .ok (.aload_n 2, 1) := by decide +kernel
theorem d_Law_law_495 : decode M_Law_law.2.1 495 = .ok (.aload_n 0, 1) := by decide +kernel
theorem d_Law_law_496 : decode M_Law_law.2.1 496 = .ok (.iload 4, 2) := by decide +kernel
theorem d_Law_law_498 : decode M_Law_law.2.1 498 = .ok (.iconst 1, 1) := by decide +kernel
theorem d_Law_law_499 : decode M_Law_law.2.1 499 = .ok (.iadd, 1) := by decide +kernel
theorem d_Law_law_500 : decode M_Law_law.2.1 500 = .ok (.iaload, 1) := by decide +kernel
theorem d_Law_law_501 : decode M_Law_law.2.1 501 = .ok (.aload_n 0, 1) := by decide +kernel
theorem d_Law_law_502 : decode M_Law_law.2.1 502 = .ok (.iload 4, 2) := by decide +kernel
theorem d_Law_law_504 : decode M_Law_law.2.1 504 = .ok (.iconst 2, 1) := by decide +kernel
theorem d_Law_law_505 : decode M_Law_law.2.1 505 = .ok (.iadd, 1) := by decide +kernel
theorem d_Law_law_506 : decode M_Law_law.2.1 506 = .ok (.iaload, 1) := by decide +kernel
theorem d_Law_law_507 : decode M_Law_law.2.1 507 = .ok (.ifCond .eq 7, 3) := by decide +kernel
theorem d_Law_law_510 : decode M_Law_law.2.1 510 = .ok (.iconst 1, 1) := by decide +kernel
theorem d_Law_law_511 : decode M_Law_law.2.1 511 = .ok (.goto 4, 3) := by decide +kernel
theorem d_Law_law_514 : decode M_Law_law.2.1 514 = .ok (.iconst 0, 1) := by decide +kernel
theorem d_Law_law_515 : decode M_Law_law.2.1 515 = .ok (.invokevirtual 50, 3) := by decide +kernel
theorem d_Law_law_518 : decode M_Law_law.2.1 518 = .ok (.if_icmp .eq 1566, 3) := by decide +kernel
theorem d_Law_law_521 : decode M_Law_law.2.1 521 = .ok (.iconst 0, 1) := by decide +kernel
theorem d_Law_law_522 : decode M_Law_law.2.1 522 = .ok (.ireturn, 1) := by decide +kernel
theorem d_Law_law_523 : decode M_Law_law.2.1 523 = .ok (.aload_n 1, 1) := by decide +kernel
theorem d_Law_law_524 : decode M_Law_law.2.1 524 = .ok (.aload_n 0, 1) := by decide +kernel
theorem d_Law_law_525 : decode M_Law_law.2.1 525 = .ok (.iload 4, 2) := by decide +kernel
theorem d_Law_law_527 : decode M_Law_law.2.1 527 = .ok (.iconst 1, 1) := by decide +kernel
theorem d_Law_law_528 : decode M_Law_law.2.1 528 = .ok (.iadd, 1) := by decide +kernel
theorem d_Law_law_529 : decode M_Law_law.2.1 529 = .ok (.iaload, 1) := by decide +kernel
theorem d_Law_law_530 : decode M_Law_law.2.1 530 = .ok (.aload_n 0, 1) := by decide +kernel
theorem d_Law_law_531 : decode M_Law_law.2.1 531 = .ok (.iload 4, 2) := by decide +kernel
theorem d_Law_law_533 : decode M_Law_law.2.1 533 = .ok (.iconst 2, 1) := by decide +kernel
theorem d_Law_law_534 : decode M_Law_law.2.1 534 = .ok (.iadd, 1) := by decide +kernel
theorem d_Law_law_535 : decode M_Law_law.2.1 535 = .ok (.iaload, 1) := by decide +kernel
theorem d_Law_law_536 : decode M_Law_law.2.1 536 = .ok (.ifCond .eq 7, 3) := by decide +kernel
theorem d_Law_law_539 : decode M_Law_law.2.1 539 = .ok (.iconst 1, 1) := by decide +kernel
theorem d_Law_law_540 : decode M_Law_law.2.1 540 = .ok (.goto 4, 3) := by decide +kernel
theorem d_Law_law_543 : decode M_Law_law.2.1 543 = .ok (.iconst 0, 1) := by decide +kernel
theorem d_Law_law_544 : decode M_Law_law.2.1 544 = .ok (.invokevirtual 51, 3) := by decide +kernel
theorem d_Law_law_547 : decode M_Law_law.2.1 547 = .ok (.aload_n 2, 1) := by decide +kernel
theorem d_Law_law_548 : decode M_Law_law.2.1 548 = .ok (.aload_n 0, 1) := by decide +kernel
theorem d_Law_law_549 : decode M_Law_law.2.1 549 = .ok (.iload 4, 2) := by decide +kernel
theorem d_Law_law_551 : decode M_Law_law.2.1 551 = .ok (.iconst 1, 1) := by decide +kernel
theorem d_Law_law_552 : decode M_Law_law.2.1 552 = .ok (.iadd, 1) := by decide +kernel
theorem d_Law_law_553 : decode M_Law_law.2.1 553 = .ok (.iaload, 1) := by decide +kernel
theorem d_Law_law_554 : decode M_Law_law.2.1 554 = .ok (.aload_n 0, 1) := by decide +kernel
theorem d_Law_law_555 : decode M_Law_law.2.1 555 = .ok (.iload 4, 2) := by decide +kernel
theorem d_Law_law_557 : decode M_Law_law.2.1 557 = .ok (.iconst 2, 1) := by decide +kernel
theorem d_Law_law_558 : decode M_Law_law.2.1 558 = .ok (.iadd, 1) := by decide +kernel
theorem d_Law_law_559 : decode M_Law_law.2.1 559 = .ok (.iaload, 1) := by decide +kernel
theorem d_Law_law_560 : decode M_Law_law.2.1 560 = .ok (.ifCond .eq 7, 3) := by decide +kernel
theorem d_Law_law_563 : decode M_Law_law.2.1 563 = .ok (.iconst 1, 1) := by decide +kernel
theorem d_Law_law_564 : decode M_Law_law.2.1 564 = .ok (.goto 4, 3) := by decide +kernel
theorem d_Law_law_567 : decode M_Law_law.2.1 567 = .ok (.iconst 0, 1) := by decide +kernel
theorem d_Law_law_568 : decode M_Law_law.2.1 568 = .ok (.invokevirtual 54, 3) := by decide +kernel
theorem d_Law_law_571 : decode M_Law_law.2.1 571 = .ok (.if_icmp .eq 1513, 3) := by decide +kernel
theorem d_Law_law_574 : decode M_Law_law.2.1 574 = .ok (.iconst 0, 1) := by decide +kernel
theorem d_Law_law_575 : decode M_Law_law.2.1 575 = .ok (.ireturn, 1) := by decide +kernel
theorem d_Law_law_576 : decode M_Law_law.2.1 576 = .ok (.aload_n 1, 1) := by decide +kernel
theorem d_Law_law_577 : decode M_Law_law.2.1 577 = .ok (.aload_n 0, 1) := by decide +kernel
theorem d_Law_law_578 : decode M_Law_law.2.1 578 = .ok (.iload 4, 2) := by decide +kernel
theorem d_Law_law_580 : decode M_Law_law.2.1 580 = .ok (.iconst 1, 1) := by decide +kernel
theorem d_Law_law_581 : decode M_Law_law.2.1 581 = .ok (.iadd, 1) := by decide +kernel
theorem d_Law_law_582 : decode M_Law_law.2.1 582 = .ok (.iaload, 1) := by decide +kernel
theorem d_Law_law_583 : decode M_Law_law.2.1 583 = .ok (.aload_n 0, 1) := by decide +kernel
theorem d_Law_law_584 : decode M_Law_law.2.1 584 = .ok (.iload 4, 2) := by decide +kernel
theorem d_Law_law_586 : decode M_Law_law.2.1 586 = .ok (.iconst 2, 1) := by decide +kernel
theorem d_Law_law_587 : decode M_Law_law.2.1 587 = .ok (.iadd, 1) := by decide +kernel
theorem d_Law_law_588 : decode M_Law_law.2.1 588 = .ok (.iaload, 1) := by decide +kernel
theorem d_Law_law_589 : decode M_Law_law.2.1 589 = .ok (.ifCond .eq 7, 3) := by decide +kernel
theorem d_Law_law_592 : decode M_Law_law.2.1 592 = .ok (.iconst 1, 1) := by decide +kernel
theorem d_Law_law_593 : decode M_Law_law.2.1 593 = .ok (.goto 4, 3) := by decide +kernel
theorem d_Law_law_596 : decode M_Law_law.2.1 596 = .ok (.iconst 0, 1) := by decide +kernel
theorem d_Law_law_597 : decode M_Law_law.2.1 597 = .ok (.invokevirtual 55, 3) := by decide +kernel
theorem d_Law_law_600 : decode M_Law_law.2.1 600 = .ok (.aload_n 2, 1) := by decide +kernel
theorem d_Law_law_601 : decode M_Law_law.2.1 601 = .ok (.aload_n 0, 1) := by decide +kernel
theorem d_Law_law_602 : decode M_Law_law.2.1 602 = .ok (.iload 4, 2) := by decide +kernel
theorem d_Law_law_604 : decode M_Law_law.2.1 604 = .ok (.iconst 1, 1) := by decide +kernel
theorem d_Law_law_605 : decode M_Law_law.2.1 605 = .ok (.iadd, 1) := by decide +kernel
theorem d_Law_law_606 : decode M_Law_law.2.1 606 = .ok (.iaload, 1) := by decide +kernel
theorem d_Law_law_607 : decode M_Law_law.2.1 607 = .ok (.aload_n 0, 1) := by decide +kernel
theorem d_Law_law_608 : decode M_Law_law.2.1 608 = .ok (.iload 4, 2) := by decide +kernel
theorem d_Law_law_610 : decode M_Law_law.2.1 610 = .ok (.iconst 2, 1) := by decide +kernel
theorem d_Law_law_611 : decode M_Law_law.2.1 611 = .ok (.iadd, 1) := by decide +kernel
theorem d_Law_law_612 : decode M_Law_law.2.1 612 = .ok (.iaload, 1) := by decide +kernel
theorem d_Law_law_613 : decode M_Law_law.2.1 613 = .ok (.ifCond .eq 7, 3) := by decide +kernel
theorem d_Law_law_616 : decode M_Law_law.2.1 616 = .ok (.iconst 1, 1) := by decide +kernel
theorem d_Law_law_617 : decode M_Law_law.2.1 617 = .ok (.goto 4, 3) := by decide +kernel
theorem d_Law_law_620 : decode M_Law_law.2.1 620 = .ok (.iconst 0, 1) := by decide +kernel
theorem d_Law_law_621 : decode M_Law_law.2.1 621 = .ok (.invokevirtual 58, 3) := by decide +kernel
theorem d_Law_law_624 : decode M_Law_law.2.1 624 = .ok (.if_icmp .eq 1460, 3) := by decide +kernel
theorem d_Law_law_627 : decode M_Law_law.2.1 627 = .ok (.iconst 0, 1) := by decide +kernel
theorem d_Law_law_628 : decode M_Law_law.2.1 628 = .ok (.ireturn, 1) := by decide +kernel
theorem d_Law_law_629 : decode M_Law_law.2.1 629 = .ok (.aload_n 1, 1) := by decide +kernel
theorem d_Law_law_630 : decode M_Law_law.2.1 630 = .ok (.aload_n 0, 1) := by decide +kernel
theorem d_Law_law_631 : decode M_Law_law.2.1 631 = .ok (.iload 4, 2) := by decide +kernel
theorem d_Law_law_633 : decode M_Law_law.2.1 633 = .ok (.iconst 1, 1) := by decide +kernel
theorem d_Law_law_634 : decode M_Law_law.2.1 634 = .ok (.iadd, 1) := by decide +kernel
theorem d_Law_law_635 : decode M_Law_law.2.1 635 = .ok (.iaload, 1) := by decide +kernel
theorem d_Law_law_636 : decode M_Law_law.2.1 636 = .ok (.aload_n 0, 1) := by decide +kernel
theorem d_Law_law_637 : decode M_Law_law.2.1 637 = .ok (.iload 4, 2) := by decide +kernel
theorem d_Law_law_639 : decode M_Law_law.2.1 639 = .ok (.iconst 2, 1) := by decide +kernel
theorem d_Law_law_640 : decode M_Law_law.2.1 640 = .ok (.iadd, 1) := by decide +kernel
theorem d_Law_law_641 : decode M_Law_law.2.1 641 = .ok (.iaload, 1) := by decide +kernel
theorem d_Law_law_642 : decode M_Law_law.2.1 642 = .ok (.ifCond .eq 7, 3) := by decide +kernel
theorem d_Law_law_645 : decode M_Law_law.2.1 645 = .ok (.iconst 1, 1) := by decide +kernel
theorem d_Law_law_646 : decode M_Law_law.2.1 646 = .ok (.goto 4, 3) := by decide +kernel
theorem d_Law_law_649 : decode M_Law_law.2.1 649 = .ok (.iconst 0, 1) := by decide +kernel
theorem d_Law_law_650 : decode M_Law_law.2.1 650 = .ok (.invokevirtual 59, 3) := by decide +kernel
theorem d_Law_law_653 : decode M_Law_law.2.1 653 = .ok (.aload_n 2, 1) := by decide +kernel
theorem d_Law_law_654 : decode M_Law_law.2.1 654 = .ok (.aload_n 0, 1) := by decide +kernel
theorem d_Law_law_655 : decode M_Law_law.2.1 655 = .ok (.iload 4, 2) := by decide +kernel
theorem d_Law_law_657 : decode M_Law_law.2.1 657 = .ok (.iconst 1, 1) := by decide +kernel
theorem d_Law_law_658 : decode M_Law_law.2.1 658 = .ok (.iadd, 1) := by decide +kernel
theorem d_Law_law_659 : decode M_Law_law.2.1 659 = .ok (.iaload, 1) := by decide +kernel
theorem d_Law_law_660 : decode M_Law_law.2.1 660 = .ok (.aload_n 0, 1) := by decide +kernel
theorem d_Law_law_661 : decode M_Law_law.2.1 661 = .ok (.iload 4, 2) := by decide +kernel
theorem d_Law_law_663 : decode M_Law_law.2.1 663 = .ok (.iconst 2, 1) := by decide +kernel
theorem d_Law_law_664 : decode M_Law_law.2.1 664 = .ok (.iadd, 1) := by decide +kernel
theorem d_Law_law_665 : decode M_Law_law.2.1 665 = .ok (.iaload, 1) := by decide +kernel
theorem d_Law_law_666 : decode M_Law_law.2.1 666 = .ok (.ifCond .eq 7, 3) := by decide +kernel
theorem d_Law_law_669 : decode M_Law_law.2.1 669 = .ok (.iconst 1, 1) := by decide +kernel
theorem d_Law_law_670 : decode M_Law_law.2.1 670 = .ok (.goto 4, 3) := by decide +kernel
theorem d_Law_law_673 : decode M_Law_law.2.1 673 = .ok (.iconst 0, 1) := by decide +kernel
theorem d_Law_law_674 : decode M_Law_law.2.1 674 = .ok (.invokevirtual 62, 3) := by decide +kernel
theorem d_Law_law_677 : decode M_Law_law.2.1 677 = .ok (.if_icmp .eq 1407, 3) := by decide +kernel
theorem d_Law_law_680 : decode M_Law_law.2.1 680 = .ok (.iconst 0, 1) := by decide +kernel
theorem d_Law_law_681 : decode M_Law_law.2.1 681 = .ok (.ireturn, 1) := by decide +kernel
theorem d_Law_law_682 : decode M_Law_law.2.1 682 = .ok (.aload_n 1, 1) := by decide +kernel
theorem d_Law_law_683 : decode M_Law_law.2.1 683 = .ok (.aload_n 0, 1) := by decide +kernel
theorem d_Law_law_684 : decode M_Law_law.2.1 684 = .ok (.iload 4, 2) := by decide +kernel
theorem d_Law_law_686 : decode M_Law_law.2.1 686 = .ok (.iconst 1, 1) := by decide +kernel
theorem d_Law_law_687 : decode M_Law_law.2.1 687 = .ok (.iadd, 1) := by decide +kernel
theorem d_Law_law_688 : decode M_Law_law.2.1 688 = .ok (.iaload, 1) := by decide +kernel
theorem d_Law_law_689 : decode M_Law_law.2.1 689 = .ok (.aload_n 0, 1) := by decide +kernel
theorem d_Law_law_690 : decode M_Law_law.2.1 690 = .ok (.iload 4, 2) := by decide +kernel
theorem d_Law_law_692 : decode M_Law_law.2.1 692 = .ok (.iconst 2, 1) := by decide +kernel
theorem d_Law_law_693 : decode M_Law_law.2.1 693 = .ok (.iadd, 1) := by decide +kernel
theorem d_Law_law_694 : decode M_Law_law.2.1 694 = .ok (.iaload, 1) := by decide +kernel
theorem d_Law_law_695 : decode M_Law_law.2.1 695 = .ok (.ifCond .eq 7, 3) := by decide +kernel
theorem d_Law_law_698 : decode M_Law_law.2.1 698 = .ok (.iconst 1, 1) := by decide +kernel
theorem d_Law_law_699 : decode M_Law_law.2.1 699 = .ok (.goto 4, 3) := by decide +kernel
theorem d_Law_law_702 : decode M_Law_law.2.1 702 = .ok (.iconst 0, 1) := by decide +kernel
theorem d_Law_law_703 : decode M_Law_law.2.1 703 = .ok (.aload_n 0, 1) := by decide +kernel
theorem d_Law_law_704 : decode M_Law_law.2.1 704 = .ok (.iload 4, 2) := by decide +kernel
theorem d_Law_law_706 : decode M_Law_law.2.1 706 = .ok (.iconst 3, 1) := by decide +kernel
theorem d_Law_law_707 : decode M_Law_law.2.1 707 = .ok (.iadd, 1) := by decide +kernel
theorem d_Law_law_708 : decode M_Law_law.2.1 708 = .ok (.iaload, 1) := by decide +kernel
theorem d_Law_law_709 : decode M_Law_law.2.1 709 = .ok (.invokevirtual 63, 3) := by decide +kernel
theorem d_Law_law_712 : decode M_Law_law.2.1 712 = .ok (.aload_n 2, 1) := by decide +kernel
theorem d_Law_law_713 : decode M_Law_law.2.1 713 = .ok (.aload_n 0, 1) := by decide +kernel
theorem d_Law_law_714 : decode M_Law_law.2.1 714 = .ok (.iload 4, 2) := by decide +kernel
theorem d_Law_law_716 : decode M_Law_law.2.1 716 = .ok (.iconst 1, 1) := by decide +kernel
theorem d_Law_law_717 : decode M_Law_law.2.1 717 = .ok (.iadd, 1) := by decide +kernel
theorem d_Law_law_718 : decode M_Law_law.2.1 718 = .ok (.iaload, 1) := by decide +kernel
theorem d_Law_law_719 : decode M_Law_law.2.1 719 = .ok (.aload_n 0, 1) := by decide +kernel
theorem d_Law_law_720 : decode M_Law_law.2.1 720 = .ok (.iload 4, 2) := by decide +kernel
theorem d_Law_law_722 : decode M_Law_law.2.1 722 = .ok (.iconst 2, 1) := by decide +kernel
theorem d_Law_law_723 : decode M_Law_law.2.1 723 = .ok (.iadd, 1) := by decide +kernel
theorem d_Law_law_724 : decode M_Law_law.2.1 724 = .ok (.iaload, 1) := by decide +kernel
theorem d_Law_law_725 : decode M_Law_law.2.1 725 = .ok (.ifCond .eq 7, 3) := by decide +kernel
theorem d_Law_law_728 : decode M_Law_law.2.1 728 = .ok (.iconst 1, 1) := by decide +kernel
theorem d_Law_law_729 : decode M_Law_law.2.1 729 = .ok (.goto 4, 3) := by decide +kernel
theorem d_Law_law_732 : decode M_Law_law.2.1 732 = .ok (.iconst 0, 1) := by decide +kernel
theorem d_Law_law_733 : decode M_Law_law.2.1 733 = .ok (.aload_n 0, 1) := by decide +kernel
theorem d_Law_law_734 : decode M_Law_law.2.1 734 = .ok (.iload 4, 2) := by decide +kernel
theorem d_Law_law_736 : decode M_Law_law.2.1 736 = .ok (.iconst 3, 1) := by decide +kernel
theorem d_Law_law_737 : decode M_Law_law.2.1 737 = .ok (.iadd, 1) := by decide +kernel
theorem d_Law_law_738 : decode M_Law_law.2.1 738 = .ok (.iaload, 1) := by decide +kernel
theorem d_Law_law_739 : decode M_Law_law.2.1 739 = .ok (.invokevirtual 67, 3) := by decide +kernel
theorem d_Law_law_742 : decode M_Law_law.2.1 742 = .ok (.if_icmp .eq 1342, 3) := by decide +kernel
theorem d_Law_law_745 : decode M_Law_law.2.1 745 = .ok (.iconst 0, 1) := by decide +kernel
theorem d_Law_law_746 : decode M_Law_law.2.1 746 = .ok (.ireturn, 1) := by decide +kernel
theorem d_Law_law_747 : decode M_Law_law.2.1 747 = .ok (.aload_n 1, 1) := by decide +kernel
theorem d_Law_law_748 : decode M_Law_law.2.1 748 = .ok (.invokevirtual 68, 3) := by decide +kernel
theorem d_Law_law_751 : decode M_Law_law.2.1 751 = .ok (.aload_n 2, 1) := by decide +kernel
theorem d_Law_law_752 : decode M_Law_law.2.1 752 = .ok (.invokevirtual 71, 3) := by decide +kernel
theorem d_Law_law_755 : decode M_Law_law.2.1 755 = .ok (.if_icmp .eq 1329, 3) := by decide +kernel
theorem d_Law_law_758 : decode M_Law_law.2.1 758 = .ok (.iconst 0, 1) := by decide +kernel
theorem d_Law_law_759 : decode M_Law_law.2.1 759 = .ok (.ireturn, 1) := by decide +kernel
theorem d_Law_law_760 : decode M_Law_law.2.1 760 = .ok (.aload_n 1, 1) := by decide +kernel
theorem d_Law_law_761 : decode M_Law_law.2.1 761 = .ok (.invokevirtual 72, 3) := by decide +kernel
theorem d_Law_law_764 : decode M_Law_law.2.1 764 = .ok (.aload_n 2, 1) := by decide +kernel
theorem d_Law_law_765 : decode M_Law_law.2.1 765 = .ok (.invokevirtual 75, 3) := by decide +kernel
theorem d_Law_law_768 : decode M_Law_law.2.1 768 = .ok (.if_icmp .eq 1316, 3) := by decide +kernel
theorem d_Law_law_771 : decode M_Law_law.2.1 771 = .ok (.iconst 0, 1) := by decide +kernel
theorem d_Law_law_772 : decode M_Law_law.2.1 772 = .ok (.ireturn, 1) := by decide +kernel
theorem d_Law_law_773 : decode M_Law_law.2.1 773 = .ok (.aload_n 1, 1) := by decide +kernel
theorem d_Law_law_774 : decode M_Law_law.2.1 774 = .ok (.invokevirtual 76, 3) := by decide +kernel
theorem d_Law_law_777 : decode M_Law_law.2.1 777 = .ok (.aload_n 2, 1) := by decide +kernel
theorem d_Law_law_778 : decode M_Law_law.2.1 778 = .ok (.invokevirtual 79, 3) := by decide +kernel
theorem d_Law_law_781 : decode M_Law_law.2.1 781 = .ok (.if_icmp .eq 1303, 3) := by decide +kernel
theorem d_Law_law_784 : decode M_Law_law.2.1 784 = .ok (.iconst 0, 1) := by decide +kernel
theorem d_Law_law_785 : decode M_Law_law.2.1 785 = .ok (.ireturn, 1) := by decide +kernel
theorem d_Law_law_786 : decode M_Law_law.2.1 786 = .ok (.aload_n 1, 1) := by decide +kernel
theorem d_Law_law_787 : decode M_Law_law.2.1 787 = .ok (.aload_n 0, 1) := by decide +kernel
theorem d_Law_law_788 : decode M_Law_law.2.1 788 = .ok (.iload 4, 2) := by decide +kernel
theorem d_Law_law_790 : decode M_Law_law.2.1 790 = .ok (.iconst 1, 1) := by decide +kernel
theorem d_Law_law_791 : decode M_Law_law.2.1 791 = .ok (.iadd, 1) := by decide +kernel
theorem d_Law_law_792 : decode M_Law_law.2.1 792 = .ok (.iaload, 1) := by decide +kernel
theorem d_Law_law_793 : decode M_Law_law.2.1 793 = .ok (.invokevirtual 80, 3) := by decide +kernel
theorem d_Law_law_796 : decode M_Law_law.2.1 796 = .ok (.aload_n 2, 1) := by decide +kernel
theorem d_Law_law_797 : decode M_Law_law.2.1 797 = .ok (.aload_n 0, 1) := by decide +kernel
theorem d_Law_law_798 : decode M_Law_law.2.1 798 = .ok (.iload 4, 2) := by decide +kernel
theorem d_Law_law_800 : decode M_Law_law.2.1 800 = .ok (.iconst 1, 1) := by decide +kernel
theorem d_Law_law_801 : decode M_Law_law.2.1 801 = .ok (.iadd, 1) := by decide +kernel
theorem d_Law_law_802 : decode M_Law_law.2.1 802 = .ok (.iaload, 1) := by decide +kernel
theorem d_Law_law_803 : decode M_Law_law.2.1 803 = .ok (.invokevirtual 83, 3) := by decide +kernel
theorem d_Law_law_806 : decode M_Law_law.2.1 806 = .ok (.if_icmp .eq 1278, 3) := by decide +kernel
theorem d_Law_law_809 : decode M_Law_law.2.1 809 = .ok (.iconst 0, 1) := by decide +kernel
theorem d_Law_law_810 : decode M_Law_law.2.1 810 = .ok (.ireturn, 1) := by decide +kernel
theorem d_Law_law_811 : decode M_Law_law.2.1 811 = .ok (.aload_n 1, 1) := by decide +kernel
theorem d_Law_law_812 : decode M_Law_law.2.1 812 = .ok (.aload_n 0, 1) := by decide +kernel
theorem d_Law_law_813 : decode M_Law_law.2.1 813 = .ok (.iload 4, 2) := by decide +kernel
theorem d_Law_law_815 : decode M_Law_law.2.1 815 = .ok (.iconst 1, 1) := by decide +kernel
theorem d_Law_law_816 : decode M_Law_law.2.1 816 = .ok (.iadd, 1) := by decide +kernel
theorem d_Law_law_817 : decode M_Law_law.2.1 817 = .ok (.iaload, 1) := by decide +kernel
theorem d_Law_law_818 : decode M_Law_law.2.1 818 = .ok (.invokevirtual 84, 3) := by decide +kernel
theorem d_Law_law_821 : decode M_Law_law.2.1 821 = .ok (.aload_n 2, 1) := by decide +kernel
theorem d_Law_law_822 : decode M_Law_law.2.1 822 = .ok (.aload_n 0, 1) := by decide +kernel
theorem d_Law_law_823 : decode M_Law_law.2.1 823 = .ok (.iload 4, 2) := by decide +kernel
theorem d_Law_law_825 : decode M_Law_law.2.1 825 = .ok (.iconst 1, 1) := by decide +kernel
theorem d_Law_law_826 : decode M_Law_law.2.1 826 = .ok (.iadd, 1) := by decide +kernel
theorem d_Law_law_827 : decode M_Law_law.2.1 827 = .ok (.iaload, 1) := by decide +kernel
theorem d_Law_law_828 : decode M_Law_law.2.1 828 = .ok (.invokevirtual 87, 3) := by decide +kernel
theorem d_Law_law_831 : decode M_Law_law.2.1 831 = .ok (.if_icmp .eq 1253, 3) := by decide +kernel
theorem d_Law_law_834 : decode M_Law_law.2.1 834 = .ok (.iconst 0, 1) := by decide +kernel
theorem d_Law_law_835 : decode M_Law_law.2.1 835 = .ok (.ireturn, 1) := by decide +kernel
theorem d_Law_law_836 : decode M_Law_law.2.1 836 = .ok (.aload_n 1, 1) := by decide +kernel
theorem d_Law_law_837 : decode M_Law_law.2.1 837 = .ok (.aload_n 0, 1) := by decide +kernel
theorem d_Law_law_838 : decode M_Law_law.2.1 838 = .ok (.iload 4, 2) := by decide +kernel
theorem d_Law_law_840 : decode M_Law_law.2.1 840 = .ok (.iconst 1, 1) := by decide +kernel
theorem d_Law_law_841 : decode M_Law_law.2.1 841 = .ok (.iadd, 1) := by decide +kernel
theorem d_Law_law_842 : decode M_Law_law.2.1 842 = .ok (.iaload, 1) := by decide +kernel
theorem d_Law_law_843 : decode M_Law_law.2.1 843 = .ok (.invokevirtual 88, 3) := by decide +kernel
theorem d_Law_law_846 : decode M_Law_law.2.1 846 = .ok (.aload_n 2, 1) := by decide +kernel
theorem d_Law_law_847 : decode M_Law_law.2.1 847 = .ok (.aload_n 0, 1) := by decide +kernel
theorem d_Law_law_848 : decode M_Law_law.2.1 848 = .ok (.iload 4, 2) := by decide +kernel
theorem d_Law_law_850 : decode M_Law_law.2.1 850 = .ok (.iconst 1, 1) := by decide +kernel
theorem d_Law_law_851 : decode M_Law_law.2.1 851 = .ok (.iadd, 1) := by decide +kernel
theorem d_Law_law_852 : decode M_Law_law.2.1 852 = .ok (.iaload, 1) := by decide +kernel
theorem d_Law_law_853 : decode M_Law_law.2.1 853 = .ok (.invokevirtual 91, 3) := by decide +kernel
theorem d_Law_law_856 : decode M_Law_law.2.1 856 = .ok (.if_icmp .eq 1228, 3) := by decide +kernel
theorem d_Law_law_859 : decode M_Law_law.2.1 859 = .ok (.iconst 0, 1) := by decide +kernel
theorem d_Law_law_860 : decode M_Law_law.2.1 860 = .ok (.ireturn, 1) := by decide +kernel
theorem d_Law_law_861 : decode M_Law_law.2.1 861 = .ok (.aload_n 1, 1) := by decide +kernel
theorem d_Law_law_862 : decode M_Law_law.2.1 862 = .ok (.invokevirtual 92, 3) := by decide +kernel
theorem d_Law_law_865 : decode M_Law_law.2.1 865 = .ok (.aload_n 2, 1) := by decide +kernel
theorem d_Law_law_866 : decode M_Law_law.2.1 866 = .ok (.invokevirtual 95, 3) := by decide +kernel
theorem d_Law_law_869 : decode M_Law_law.2.1 869 = .ok (.if_icmp .eq 1215, 3) := by decide +kernel
theorem d_Law_law_872 : decode M_Law_law.2.1 872 = .ok (.iconst 0, 1) := by decide +kernel
theorem d_Law_law_873 : decode M_Law_law.2.1 873 = .ok (.ireturn, 1) := by decide +kernel
theorem d_Law_law_874 : decode M_Law_law.2.1 874 = .ok (.aload_n 1, 1) := by decide +kernel
theorem d_Law_law_875 : decode M_Law_law.2.1 875 = .ok (.invokevirtual 96, 3) := by decide +kernel
theorem d_Law_law_878 : decode M_Law_law.2.1 878 = .ok (.aload_n 2, 1) := by decide +kernel
theorem d_Law_law_879 : decode M_Law_law.2.1 879 = .ok (.invokevirtual 99, 3) := by decide +kernel
theorem d_Law_law_882 : decode M_Law_law.2.1 882 = .ok (.if_icmp .eq 1202, 3) := by decide +kernel
theorem d_Law_law_885 : decode M_Law_law.2.1 885 = .ok (.iconst 0, 1) := by decide +kernel
theorem d_Law_law_886 : decode M_Law_law.2.1 886 = .ok (.ireturn, 1) := by decide +kernel
theorem d_Law_law_887 : decode M_Law_law.2.1 887 = .ok (.aload_n 1, 1) := by decide +kernel
theorem d_Law_law_888 : decode M_Law_law.2.1 888 = .ok (.invokevirtual 100, 3) := by decide +kernel
theorem d_Law_law_891 : decode M_Law_law.2.1 891 = .ok (.aload_n 2, 1) := by decide +kernel
theorem d_Law_law_892 : decode M_Law_law.2.1 892 = .ok (.invokevirtual 103, 3) := by decide +kernel
theorem d_Law_law_895 : decode M_Law_law.2.1 895 = .ok (.if_icmp .eq 1189, 3) := by decide +kernel
theorem d_Law_law_898 : decode M_Law_law.2.1 898 = .ok (.iconst 0, 1) := by decide +kernel
theorem d_Law_law_899 : decode M_Law_law.2.1 899 = .ok (.ireturn, 1) := by decide +kernel
theorem d_Law_law_900 : decode M_Law_law.2.1 900 = .ok (.aload_n 1, 1) := by decide +kernel
theorem d_Law_law_901 : decode M_Law_law.2.1 901 = .ok (.aload_n 0, 1) := by decide +kernel
theorem d_Law_law_902 : decode M_Law_law.2.1 902 = .ok (.iload 4, 2) := by decide +kernel
theorem d_Law_law_904 : decode M_Law_law.2.1 904 = .ok (.iconst 1, 1) := by decide +kernel
theorem d_Law_law_905 : decode M_Law_law.2.1 905 = .ok (.iadd, 1) := by decide +kernel
theorem d_Law_law_906 : decode M_Law_law.2.1 906 = .ok (.iaload, 1) := by decide +kernel
theorem d_Law_law_907 : decode M_Law_law.2.1 907 = .ok (.aload_n 0, 1) := by decide +kernel
theorem d_Law_law_908 : decode M_Law_law.2.1 908 = .ok (.iload 4, 2) := by decide +kernel
theorem d_Law_law_910 : decode M_Law_law.2.1 910 = .ok (.iconst 2, 1) := by decide +kernel
theorem d_Law_law_911 : decode M_Law_law.2.1 911 = .ok (.iadd, 1) := by decide +kernel
theorem d_Law_law_912 : decode M_Law_law.2.1 912 = .ok (.iaload, 1) := by decide +kernel
theorem d_Law_law_913 : decode M_Law_law.2.1 913 = .ok (.invokevirtual 104, 3) := by decide +kernel
theorem d_Law_law_916 : decode M_Law_law.2.1 916 = .ok (.aload_n 2, 1) := by decide +kernel
theorem d_Law_law_917 : decode M_Law_law.2.1 917 = .ok (.aload_n 0, 1) := by decide +kernel
theorem d_Law_law_918 : decode M_Law_law.2.1 918 = .ok (.iload 4, 2) := by decide +kernel
theorem d_Law_law_920 : decode M_Law_law.2.1 920 = .ok (.iconst 1, 1) := by decide +kernel
theorem d_Law_law_921 : decode M_Law_law.2.1 921 = .ok (.iadd, 1) := by decide +kernel
theorem d_Law_law_922 : decode M_Law_law.2.1 922 = .ok (.iaload, 1) := by decide +kernel
theorem d_Law_law_923 : decode M_Law_law.2.1 923 = .ok (.aload_n 0, 1) := by decide +kernel
theorem d_Law_law_924 : decode M_Law_law.2.1 924 = .ok (.iload 4, 2) := by decide +kernel
theorem d_Law_law_926 : decode M_Law_law.2.1 926 = .ok (.iconst 2, 1) := by decide +kernel
theorem d_Law_law_927 : decode M_Law_law.2.1 927 = .ok (.iadd, 1) := by decide +kernel
theorem d_Law_law_928 : decode M_Law_law.2.1 928 = .ok (.iaload, 1) := by decide +kernel
theorem d_Law_law_929 : decode M_Law_law.2.1 929 = .ok (.invokevirtual 107, 3) := by decide +kernel
theorem d_Law_law_932 : decode M_Law_law.2.1 932 = .ok (.if_icmp .eq 1152, 3) := by decide +kernel
theorem d_Law_law_935 : decode M_Law_law.2.1 935 = .ok (.iconst 0, 1) := by decide +kernel
theorem d_Law_law_936 : decode M_Law_law.2.1 936 = .ok (.ireturn, 1) := by decide +kernel
theorem d_Law_law_937 : decode M_Law_law.2.1 937 = .ok (.aload_n 1, 1) := by decide +kernel
theorem d_Law_law_938 : decode M_Law_law.2.1 938 = .ok (.aload_n 0, 1) := by decide +kernel
theorem d_Law_law_939 : decode M_Law_law.2.1 939 = .ok (.iload 4, 2) := by decide +kernel
theorem d_Law_law_941 : decode M_Law_law.2.1 941 = .ok (.iconst 1, 1) := by decide +kernel
theorem d_Law_law_942 : decode M_Law_law.2.1 942 = .ok (.iadd, 1) := by decide +kernel
theorem d_Law_law_943 : decode M_Law_law.2.1 943 = .ok (.iaload, 1) := by decide +kernel
theorem d_Law_law_944 : decode M_Law_law.2.1 944 = .ok (.aload_n 0, 1) := by decide +kernel
theorem d_Law_law_945 : decode M_Law_law.2.1 945 = .ok (.iload 4, 2) := by decide +kernel
theorem d_Law_law_947 : decode M_Law_law.2.1 947 = .ok (.iconst 2, 1) := by decide +kernel
theorem d_Law_law_948 : decode M_Law_law.2.1 948 = .ok (.iadd, 1) := by decide +kernel
theorem d_Law_law_949 : decode M_Law_law.2.1 949 = .ok (.iaload, 1) := by decide +kernel
theorem d_Law_law_950 : decode M_Law_law.2.1 950 = .ok (.ifCond .eq 7, 3) := by decide +kernel
theorem d_Law_law_953 : decode M_Law_law.2.1 953 = .ok (.iconst 1, 1) := by decide +kernel
theorem d_Law_law_954 : decode M_Law_law.2.1 954 = .ok (.goto 4, 3) := by decide +kernel
theorem d_Law_law_957 : decode M_Law_law.2.1 957 = .ok (.iconst 0, 1) := by decide +kernel
theorem d_Law_law_958 : decode M_Law_law.2.1 958 = .ok (.aload_n 0, 1) := by decide +kernel
theorem d_Law_law_959 : decode M_Law_law.2.1 959 = .ok (.iload 4, 2) := by decide +kernel
theorem d_Law_law_961 : decode M_Law_law.2.1 961 = .ok (.iconst 3, 1) := by decide +kernel
theorem d_Law_law_962 : decode M_Law_law.2.1 962 = .ok (.iadd, 1) := by decide +kernel
theorem d_Law_law_963 : decode M_Law_law.2.1 963 = .ok (.iaload, 1) := by decide +kernel
theorem d_Law_law_964 : decode M_Law_law.2.1 964 = .ok (.invokevirtual 108, 3) := by decide +kernel
theorem d_Law_law_967 : decode M_Law_law.2.1 967 = .ok (.aload_n 2, 1) := by decide +kernel
theorem d_Law_law_968 : decode M_Law_law.2.1 968 = .ok (.aload_n 0, 1) := by decide +kernel
theorem d_Law_law_969 : decode M_Law_law.2.1 969 = .ok (.iload 4, 2) := by decide +kernel
theorem d_Law_law_971 : decode M_Law_law.2.1 971 = .ok (.iconst 1, 1) := by decide +kernel
theorem d_Law_law_972 : decode M_Law_law.2.1 972 = .ok (.iadd, 1) := by decide +kernel
theorem d_Law_law_973 : decode M_Law_law.2.1 973 = .ok (.iaload, 1) := by decide +kernel
theorem d_Law_law_974 : decode M_Law_law.2.1 974 = .ok (.aload_n 0, 1) := by decide +kernel
theorem d_Law_law_975 : decode M_Law_law.2.1 975 = .ok (.iload 4, 2) := by decide +kernel
theorem d_Law_law_977 : decode M_Law_law.2.1 977 = .ok (.iconst 2, 1) := by decide +kernel
theorem d_Law_law_978 : decode M_Law_law.2.1 978 = .ok (.iadd, 1) := by decide +kernel
theorem d_Law_law_979 : decode M_Law_law.2.1 979 = .ok (.iaload, 1) := by decide +kernel
theorem d_Law_law_980 : decode M_Law_law.2.1 980 = .ok (.ifCond .eq 7, 3) := by decide +kernel
theorem d_Law_law_983 : decode M_Law_law.2.1 983 = .ok (.iconst 1, 1) := by decide +kernel
theorem d_Law_law_984 : decode M_Law_law.2.1 984 = .ok (.goto 4, 3) := by decide +kernel
theorem d_Law_law_987 : decode M_Law_law.2.1 987 = .ok (.iconst 0, 1) := by decide +kernel
theorem d_Law_law_988 : decode M_Law_law.2.1 988 = .ok (.aload_n 0, 1) := by decide +kernel
theorem d_Law_law_989 : decode M_Law_law.2.1 989 = .ok (.iload 4, 2) := by decide +kernel
theorem d_Law_law_991 : decode M_Law_law.2.1 991 = .ok (.iconst 3, 1) := by decide +kernel
theorem d_Law_law_992 : decode M_Law_law.2.1 992 = .ok (.iadd, 1) := by decide +kernel
theorem d_Law_law_993 : decode M_Law_law.2.1 993 = .ok (.iaload, 1) := by decide +kernel
theorem d_Law_law_994 : decode M_Law_law.2.1 994 = .ok (.invokevirtual 111, 3) := by decide +kernel
theorem d_Law_law_997 : decode M_Law_law.2.1 997 = .ok (.if_icmp .eq 1087, 3) := by decide +kernel
theorem d_Law_law_1000 : decode M_Law_law.2.1 1000 = .ok (.iconst 0, 1) := by decide +kernel
theorem d_Law_law_1001 : decode M_Law_law.2.1 1001 = .ok (.ireturn, 1) := by decide +kernel
theorem d_Law_law_1002 : decode M_Law_law.2.1 1002 = .ok (.aload_n 1, 1) := by decide +kernel
theorem d_Law_law_1003 : decode M_Law_law.2.1 1003 = .ok (.aload_n 0, 1) := by decide +kernel
theorem d_Law_law_1004 : decode M_Law_law.2.1 1004 = .ok (.iload 4, 2) := by decide +kernel
theorem d_Law_law_1006 : decode M_Law_law.2.1 1006 = .ok (.iconst 1, 1) := by decide +kernel
theorem d_Law_law_1007 : decode M_Law_law.2.1 1007 = .ok (.iadd, 1) := by decide +kernel
theorem d_Law_law_1008 : decode M_Law_law.2.1 1008 = .ok (.iaload, 1) := by decide +kernel
theorem d_Law_law_1009 : decode M_Law_law.2.1 1009 = .ok (.invokevirtual 112, 3) := by decide +kernel
theorem d_Law_law_1012 : decode M_Law_law.2.1 1012 = .ok (.aload_n 2, 1) := by decide +kernel
theorem d_Law_law_1013 : decode M_Law_law.2.1 1013 = .ok (.aload_n 0, 1) := by decide +kernel
theorem d_Law_law_1014 : decode M_Law_law.2.1 1014 = .ok (.iload 4, 2) := by decide +kernel
theorem d_Law_law_1016 : decode M_Law_law.2.1 1016 = .ok (.iconst 1, 1) := by decide +kernel
theorem d_Law_law_1017 : decode M_Law_law.2.1 1017 = .ok (.iadd, 1) := by decide +kernel
theorem d_Law_law_1018 : decode M_Law_law.2.1 1018 = .ok (.iaload, 1) := by decide +kernel
theorem d_Law_law_1019 : decode M_Law_law.2.1 1019 = .ok (.invokevirtual 115, 3) := by decide +kernel
theorem d_Law_law_1022 : decode M_Law_law.2.1 1022 = .ok (.if_icmp .eq 1062, 3) := by decide +kernel
theorem d_Law_law_1025 : decode M_Law_law.2.1 1025 = .ok (.iconst 0, 1) := by decide +kernel
theorem d_Law_law_1026 : decode M_Law_law.2.1 1026 = .ok (.ireturn, 1) := by decide +kernel
theorem d_Law_law_1027 : decode M_Law_law.2.1 1027 = .ok (.aload_n 1, 1) := by decide +kernel
theorem d_Law_law_1028 : decode M_Law_law.2.1 1028 = .ok (.aload_n 0, 1) := by decide +kernel
theorem d_Law_law_1029 : decode M_Law_law.2.1 1029 = .ok (.iload 4, 2) := by decide +kernel
theorem d_Law_law_1031 : decode M_Law_law.2.1 1031 = .ok (.iconst 1, 1) := by decide +kernel
theorem d_Law_law_1032 : decode M_Law_law.2.1 1032 = .ok (.iadd, 1) := by decide +kernel
theorem d_Law_law_1033 : decode M_Law_law.2.1 1033 = .ok (.iaload, 1) := by decide +kernel
theorem d_Law_law_1034 : decode M_Law_law.2.1 1034 = .ok (.invokevirtual 116, 3) := by decide +kernel
theorem d_Law_law_1037 : decode M_Law_law.2.1 1037 = .ok (.aload_n 2, 1) := by decide +kernel
theorem d_Law_law_1038 : decode M_Law_law.2.1 1038 = .ok (.aload_n 0, 1) := by decide +kernel
theorem d_Law_law_1039 : decode M_Law_law.2.1 1039 = .ok (.iload 4, 2) := by decide +kernel
theorem d_Law_law_1041 : decode M_Law_law.2.1 1041 = .ok (.iconst 1, 1) := by decide +kernel
theorem d_Law_law_1042 : decode M_Law_law.2.1 1042 = .ok (.iadd, 1) := by decide +kernel
theorem d_Law_law_1043 : decode M_Law_law.2.1 1043 = .ok (.iaload, 1) := by decide +kernel
theorem d_Law_law_1044 : decode M_Law_law.2.1 1044 = .ok (.invokevirtual 119, 3) := by decide +kernel
theorem d_Law_law_1047 : decode M_Law_law.2.1 1047 = .ok (.if_icmp .eq 1037, 3) := by decide +kernel
theorem d_Law_law_1050 : decode M_Law_law.2.1 1050 = .ok (.iconst 0, 1) := by decide +kernel
theorem d_Law_law_1051 : decode M_Law_law.2.1 1051 = .ok (.ireturn, 1) := by decide +kernel
theorem d_Law_law_1052 : decode M_Law_law.2.1 1052 = .ok (.aload_n 1, 1) := by decide +kernel
theorem d_Law_law_1053 : decode M_Law_law.2.1 1053 = .ok (.aload_n 0, 1) := by decide +kernel
theorem d_Law_law_1054 : decode M_Law_law.2.1 1054 = .ok (.iload 4, 2) := by decide +kernel
theorem d_Law_law_1056 : decode M_Law_law.2.1 1056 = .ok (.iconst 1, 1) := by decide +kernel
theorem d_Law_law_1057 : decode M_Law_law.2.1 1057 = .ok (.iadd, 1) := by decide +kernel
theorem d_Law_law_1058 : decode M_Law_law.2.1 1058 = .ok (.iaload, 1) := by decide +kernel
theorem d_Law_law_1059 : decode M_Law_law.2.1 1059 = .ok (.invokevirtual 120, 3) := by decide +kernel
theorem d_Law_law_1062 : decode M_Law_law.2.1 1062 = .ok (.aload_n 2, 1) := by decide +kernel
theorem d_Law_law_1063 : decode M_Law_law.2.1 1063 = .ok (.aload_n 0, 1) := by decide +kernel
theorem d_Law_law_1064 : decode M_Law_law.2.1 1064 = .ok (.iload 4, 2) := by decide +kernel
theorem d_Law_law_1066 : decode M_Law_law.2.1 1066 = .ok (.iconst 1, 1) := by decide +kernel
theorem d_Law_law_1067 : decode M_Law_law.2.1 1067 = .ok (.iadd, 1) := by decide +kernel
theorem d_Law_law_1068 : decode M_Law_law.2.1 1068 = .ok (.iaload, 1) := by decide +kernel
theorem d_Law_law_1069 : decode M_Law_law.2.1 1069 = .ok (.invokevirtual 123, 3) := by decide +kernel
theorem d_Law_law_1072 : decode M_Law_law.2.1 1072 = .ok (.if_icmp .eq 1012, 3) := by decide +kernel
theorem d_Law_law_1075 : decode M_Law_law.2.1 1075 = .ok (.iconst 0, 1) := by decide +kernel
theorem d_Law_law_1076 : decode M_Law_law.2.1 1076 = .ok (.ireturn, 1) := by decide +kernel
theorem d_Law_law_1077 : decode M_Law_law.2.1 1077 = .ok (.aload_n 1, 1) := by decide +kernel
theorem d_Law_law_1078 : decode M_Law_law.2.1 1078 = .ok (.aload_n 0, 1) := by decide +kernel
theorem d_Law_law_1079 : decode M_Law_law.2.1 1079 = .ok (.iload 4, 2) := by decide +kernel
theorem d_Law_law_1081 : decode M_Law_law.2.1 1081 = .ok (.iconst 1, 1) := by decide +kernel
theorem d_Law_law_1082 : decode M_Law_law.2.1 1082 = .ok (.iadd, 1) := by decide +kernel
theorem d_Law_law_1083 : decode M_Law_law.2.1 1083 = .ok (.iaload, 1) := by decide +kernel
theorem d_Law_law_1084 : decode M_Law_law.2.1 1084 = .ok (.invokevirtual 124, 3) := by decide +kernel
theorem d_Law_law_1087 : decode M_Law_law.2.1 1087 = .ok (.aload_n 2, 1) := by decide +kernel
theorem d_Law_law_1088 : decode M_Law_law.2.1 1088 = .ok (.aload_n 0, 1) := by decide +kernel
theorem d_Law_law_1089 : decode M_Law_law.2.1 1089 = .ok (.iload 4, 2) := by decide +kernel
theorem d_Law_law_1091 : decode M_Law_law.2.1 1091 = .ok (.iconst 1, 1) := by decide +kernel
theorem d_Law_law_1092 : decode M_Law_law.2.1 1092 = .ok (.iadd, 1) := by decide +kernel
theorem d_Law_law_1093 : decode M_Law_law.2.1 1093 = .ok (.iaload, 1) := by decide +kernel
theorem d_Law_law_1094 : decode M_Law_law.2.1 1094 = .ok (.invokevirtual 127, 3) := by decide +kernel
theorem d_Law_law_1097 : decode M_Law_law.2.1 1097 = .ok (.if_icmp .eq 987, 3) := by decide +kernel
theorem d_Law_law_1100 : decode M_Law_law.2.1 1100 = .ok (.iconst 0, 1) := by decide +kernel
theorem d_Law_law_1101 : decode M_Law_law.2.1 1101 = .ok (.ireturn, 1) := by decide +kernel
theorem d_Law_law_1102 : decode M_Law_law.2.1 1102 = .ok (.aload_n 1, 1) := by decide +kernel
theorem d_Law_law_1103 : decode M_Law_law.2.1 1103 = .ok (.aload_n 0, 1) := by decide +kernel
theorem d_Law_law_1104 : decode M_Law_law.2.1 1104 = .ok (.iload 4, 2) := by decide +kernel
theorem d_Law_law_1106 : decode M_Law_law.2.1 1106 = .ok (.iconst 1, 1) := by decide +kernel
theorem d_Law_law_1107 : decode M_Law_law.2.1 1107 = .ok (.iadd, 1) := by decide +kernel
theorem d_Law_law_1108 : decode M_Law_law.2.1 1108 = .ok (.iaload, 1) := by decide +kernel
theorem d_Law_law_1109 : decode M_Law_law.2.1 1109 = .ok (.invokevirtual 128, 3) := by decide +kernel
theorem d_Law_law_1112 : decode M_Law_law.2.1 1112 = .ok (.aload_n 2, 1) := by decide +kernel
theorem d_Law_law_1113 : decode M_Law_law.2.1 1113 = .ok (.aload_n 0, 1) := by decide +kernel
theorem d_Law_law_1114 : decode M_Law_law.2.1 1114 = .ok (.iload 4, 2) := by decide +kernel
theorem d_Law_law_1116 : decode M_Law_law.2.1 1116 = .ok (.iconst 1, 1) := by decide +kernel
theorem d_Law_law_1117 : decode M_Law_law.2.1 1117 = .ok (.iadd, 1) := by decide +kernel
theorem d_Law_law_1118 : decode M_Law_law.2.1 1118 = .ok (.iaload, 1) := by decide +kernel
theorem d_Law_law_1119 : decode M_Law_law.2.1 1119 = .ok (.invokevirtual 131, 3) := by decide +kernel
theorem d_Law_law_1122 : decode M_Law_law.2.1 1122 = .ok (.if_icmp .eq 962, 3) := by decide +kernel
theorem d_Law_law_1125 : decode M_Law_law.2.1 1125 = .ok (.iconst 0, 1) := by decide +kernel
theorem d_Law_law_1126 : decode M_Law_law.2.1 1126 = .ok (.ireturn, 1) := by decide +kernel
theorem d_Law_law_1127 : decode M_Law_law.2.1 1127 = .ok (.aload_n 1, 1) := by decide +kernel
theorem d_Law_law_1128 : decode M_Law_law.2.1 1128 = .ok (.invokevirtual 132, 3) := by decide +kernel
theorem d_Law_law_1131 : decode M_Law_law.2.1 1131 = .ok (.aload_n 2, 1) := by decide +kernel
theorem d_Law_law_1132 : decode M_Law_law.2.1 1132 = .ok (.invokevirtual 135, 3) := by decide +kernel
theorem d_Law_law_1135 : decode M_Law_law.2.1 1135 = .ok (.if_icmp .eq 949, 3) := by decide +kernel
theorem d_Law_law_1138 : decode M_Law_law.2.1 1138 = .ok (.iconst 0, 1) := by decide +kernel
theorem d_Law_law_1139 : decode M_Law_law.2.1 1139 = .ok (.ireturn, 1) := by decide +kernel
theorem d_Law_law_1140 : decode M_Law_law.2.1 1140 = .ok (.aload_n 1, 1) := by decide +kernel
theorem d_Law_law_1141 : decode M_Law_law.2.1 1141 = .ok (.invokevirtual 136, 3) := by decide +kernel
theorem d_Law_law_1144 : decode M_Law_law.2.1 1144 = .ok (.aload_n 2, 1) := by decide +kernel
theorem d_Law_law_1145 : decode M_Law_law.2.1 1145 = .ok (.invokevirtual 139, 3) := by decide +kernel
theorem d_Law_law_1148 : decode M_Law_law.2.1 1148 = .ok (.if_icmp .eq 936, 3) := by decide +kernel
theorem d_Law_law_1151 : decode M_Law_law.2.1 1151 = .ok (.iconst 0, 1) := by decide +kernel
theorem d_Law_law_1152 : decode M_Law_law.2.1 1152 = .ok (.ireturn, 1) := by decide +kernel
theorem d_Law_law_1153 : decode M_Law_law.2.1 1153 = .ok (.aload_n 1, 1) := by decide +kernel
theorem d_Law_law_1154 : decode M_Law_law.2.1 1154 = .ok (.invokevirtual 140, 3) := by decide +kernel
theorem d_Law_law_1157 : decode M_Law_law.2.1 1157 = .ok (.aload_n 2, 1) := by decide +kernel
theorem d_Law_law_1158 : decode M_Law_law.2.1 1158 = .ok (.invokevirtual 143, 3) := by decide +kernel
theorem d_Law_law_1161 : decode M_Law_law.2.1 1161 = .ok (.if_icmp .eq 923, 3) := by decide +kernel
theorem d_Law_law_1164 : decode M_Law_law.2.1 1164 = .ok (.iconst 0, 1) := by decide +kernel
theorem d_Law_law_1165 : decode M_Law_law.2.1 1165 = .ok (.ireturn, 1) := by decide +kernel
theorem d_Law_law_1166 : decode M_Law_law.2.1 1166 = .ok (.aload_n 1, 1) := by decide +kernel
theorem d_Law_law_1167 : decode M_Law_law.2.1 1167 = .ok (.aload_n 0, 1) := by decide +kernel
theorem d_Law_law_1168 : decode M_Law_law.2.1 1168 = .ok (.iload 4, 2) := by decide +kernel
theorem d_Law_law_1170 : decode M_Law_law.2.1 1170 = .ok (.iconst 1, 1) := by decide +kernel
theorem d_Law_law_1171 : decode M_Law_law.2.1 1171 = .ok (.iadd, 1) := by decide +kernel
theorem d_Law_law_1172 : decode M_Law_law.2.1 1172 = .ok (.iaload, 1) := by decide +kernel
theorem d_Law_law_1173 : decode M_Law_law.2.1 1173 = .ok (.aload_n 0, 1) := by decide +kernel
theorem d_Law_law_1174 : decode M_Law_law.2.1 1174 = .ok (.iload 4, 2) := by decide +kernel
theorem d_Law_law_1176 : decode M_Law_law.2.1 1176 = .ok (.iconst 2, 1) := by decide +kernel
theorem d_Law_law_1177 : decode M_Law_law.2.1 1177 = .ok (.iadd, 1) := by decide +kernel
theorem d_Law_law_1178 : decode M_Law_law.2.1 1178 = .ok (.iaload, 1) := by decide +kernel
theorem d_Law_law_1179 : decode M_Law_law.2.1 1179 = .ok (.invokevirtual 144, 3) := by decide +kernel
theorem d_Law_law_1182 : decode M_Law_law.2.1 1182 = .ok (.aload_n 2, 1) := by decide +kernel
theorem d_Law_law_1183 : decode M_Law_law.2.1 1183 = .ok (.aload_n 0, 1) := by decide +kernel
theorem d_Law_law_1184 : decode M_Law_law.2.1 1184 = .ok (.iload 4, 2) := by decide +kernel
theorem d_Law_law_1186 : decode M_Law_law.2.1 1186 = .ok (.iconst 1, 1) := by decide +kernel
theorem d_Law_law_1187 : decode M_Law_law.2.1 1187 = .ok (.iadd, 1) := by decide +kernel
theorem d_Law_law_1188 : decode M_Law_law.2.1 1188 = .ok (.iaload, 1) := by decide +kernel
theorem d_Law_law_1189 : decode M_Law_law.2.1 1189 = .ok (.aload_n 0, 1) := by decide +kernel
theorem d_Law_law_1190 : decode M_Law_law.2.1 1190 = .ok (.iload 4, 2) := by decide +kernel
theorem d_Law_law_1192 : decode M_Law_law.2.1 1192 = .ok (.iconst 2, 1) := by decide +kernel
theorem d_Law_law_1193 : decode M_Law_law.2.1 1193 = .ok (.iadd, 1) := by decide +kernel
theorem d_Law_law_1194 : decode M_Law_law.2.1 1194 = .ok (.iaload, 1) := by decide +kernel
theorem d_Law_law_1195 : decode M_Law_law.2.1 1195 = .ok (.invokevirtual 147, 3) := by decide +kernel
theorem d_Law_law_1198 : decode M_Law_law.2.1 1198 = .ok (.if_icmp .eq 886, 3) := by decide +kernel
theorem d_Law_law_1201 : decode M_Law_law.2.1 1201 = .ok (.iconst 0, 1) := by decide +kernel
theorem d_Law_law_1202 : decode M_Law_law.2.1 1202 = .ok (.ireturn, 1) := by decide +kernel
theorem d_Law_law_1203 : decode M_Law_law.2.1 1203 = .ok (.aload_n 1, 1) := by decide +kernel
theorem d_Law_law_1204 : decode M_Law_law.2.1 1204 = .ok (.aload_n 0, 1) := by decide +kernel
theorem d_Law_law_1205 : decode M_Law_law.2.1 1205 = .ok (.iload 4, 2) := by decide +kernel
theorem d_Law_law_1207 : decode M_Law_law.2.1 1207 = .ok (.iconst 1, 1) := by decide +kernel
theorem d_Law_law_1208 : decode M_Law_law.2.1 1208 = .ok (.iadd, 1) := by decide +kernel
theorem d_Law_law_1209 : decode M_Law_law.2.1 1209 = .ok (.iaload, 1) := by decide +kernel
theorem d_Law_law_1210 : decode M_Law_law.2.1 1210 = .ok (.aload_n 0, 1) := by decide +kernel
theorem d_Law_law_1211 : decode M_Law_law.2.1 1211 = .ok (.iload 4, 2) := by decide +kernel
theorem d_Law_law_1213 : decode M_Law_law.2.1 1213 = .ok (.iconst 2, 1) := by decide +kernel
theorem d_Law_law_1214 : decode M_Law_law.2.1 1214 = .ok (.iadd, 1) := by decide +kernel
theorem d_Law_law_1215 : decode M_Law_law.2.1 1215 = .ok (.iaload, 1) := by decide +kernel
theorem d_Law_law_1216 : decode M_Law_law.2.1 1216 = .ok (.invokevirtual 148, 3) := by decide +kernel
theorem d_Law_law_1219 : decode M_Law_law.2.1 1219 = .ok (.aload_n 2, 1) := by decide +kernel
theorem d_Law_law_1220 : decode M_Law_law.2.1 1220 = .ok (.aload_n 0, 1) := by decide +kernel
theorem d_Law_law_1221 : decode M_Law_law.2.1 1221 = .ok (.iload 4, 2) := by decide +kernel
theorem d_Law_law_1223 : decode M_Law_law.2.1 1223 = .ok (.iconst 1, 1) := by decide +kernel
theorem d_Law_law_1224 : decode M_Law_law.2.1 1224 = .ok (.iadd, 1) := by decide +kernel
theorem d_Law_law_1225 : decode M_Law_law.2.1 1225 = .ok (.iaload, 1) := by decide +kernel
theorem d_Law_law_1226 : decode M_Law_law.2.1 1226 = .ok (.aload_n 0, 1) := by decide +kernel
theorem d_Law_law_1227 : decode M_Law_law.2.1 1227 = .ok (.iload 4, 2) := by decide +kernel
theorem d_Law_law_1229 : decode M_Law_law.2.1 1229 = .ok (.iconst 2, 1) := by decide +kernel
theorem d_Law_law_1230 : decode M_Law_law.2.1 1230 = .ok (.iadd, 1) := by decide +kernel
theorem d_Law_law_1231 : decode M_Law_law.2.1 1231 = .ok (.iaload, 1) := by decide +kernel
theorem d_Law_law_1232 : decode M_Law_law.2.1 1232 = .ok (.invokevirtual 151, 3) := by decide +kernel
theorem d_Law_law_1235 : decode M_Law_law.2.1 1235 = .ok (.if_icmp .eq 849, 3) := by decide +kernel
theorem d_Law_law_1238 : decode M_Law_law.2.1 1238 = .ok (.iconst 0, 1) := by decide +kernel
theorem d_Law_law_1239 : decode M_Law_law.2.1 1239 = .ok (.ireturn, 1) := by decide +kernel
theorem d_Law_law_1240 : decode M_Law_law.2.1 1240 = .ok (.aload_n 1, 1) := by decide +kernel
theorem d_Law_law_1241 : decode M_Law_law.2.1 1241 = .ok (.invokevirtual 152, 3) := by decide +kernel
theorem d_Law_law_1244 : decode M_Law_law.2.1 1244 = .ok (.aload_n 2, 1) := by decide +kernel
theorem d_Law_law_1245 : decode M_Law_law.2.1 1245 = .ok (.invokevirtual 155, 3) := by decide +kernel
theorem d_Law_law_1248 : decode M_Law_law.2.1 1248 = .ok (.if_icmp .eq 836, 3) := by decide +kernel
theorem d_Law_law_1251 : decode M_Law_law.2.1 1251 = .ok (.iconst 0, 1) := by decide +kernel
theorem d_Law_law_1252 : decode M_Law_law.2.1 1252 = .ok (.ireturn, 1) := by decide +kernel
theorem d_Law_law_1253 : decode M_Law_law.2.1 1253 = .ok (.aload_n 1, 1) := by decide +kernel
theorem d_Law_law_1254 : decode M_Law_law.2.1 1254 = .ok (.invokevirtual 156, 3) := by decide +kernel
theorem d_Law_law_1257 : decode M_Law_law.2.1 1257 = .ok (.aload_n 2, 1) := by decide +kernel
theorem d_Law_law_1258 : decode M_Law_law.2.1 1258 = .ok (.invokevirtual 159, 3) := by decide +kernel
theorem d_Law_law_1261 : decode M_Law_law.2.1 1261 = .ok (.if_icmp .eq 823, 3) := by decide +kernel
theorem d_Law_law_1264 : decode M_Law_law.2.1 1264 = .ok (.iconst 0, 1) := by decide +kernel
theorem d_Law_law_1265 : decode M_Law_law.2.1 1265 = .ok (.ireturn, 1) := by decide +kernel
theorem d_Law_law_1266 : decode M_Law_law.2.1 1266 = .ok (.aload_n 1, 1) := by decide +kernel
theorem d_Law_law_1267 : decode M_Law_law.2.1 1267 = .ok (.invokevirtual 160, 3) := by decide +kernel
theorem d_Law_law_1270 : decode M_Law_law.2.1 1270 = .ok (.aload_n 2, 1) := by decide +kernel
theorem d_Law_law_1271 : decode M_Law_law.2.1 1271 = .ok (.invokevirtual 163, 3) := by decide +kernel
theorem d_Law_law_1274 : decode M_Law_law.2.1 1274 = .ok (.if_icmp .eq 810, 3) := by decide +kernel
theorem d_Law_law_1277 : decode M_Law_law.2.1 1277 = .ok (.iconst 0, 1) := by decide +kernel
theorem d_Law_law_1278 : decode M_Law_law.2.1 1278 = .ok (.ireturn, 1) := by decide +kernel
theorem d_Law_law_1279 : decode M_Law_law.2.1 1279 = .ok (.aload_n 1, 1) := by decide +kernel
theorem d_Law_law_1280 : decode M_Law_law.2.1 1280 = .ok (.aload_n 0, 1) := by decide +kernel
theorem d_Law_law_1281 : decode M_Law_law.2.1 1281 = .ok (.iload 4, 2) := by decide +kernel
theorem d_Law_law_1283 : decode M_Law_law.2.1 1283 = .ok (.iconst 1, 1) := by decide +kernel
theorem d_Law_law_1284 : decode M_Law_law.2.1 1284 = .ok (.iadd, 1) := by decide +kernel
theorem d_Law_law_1285 : decode M_Law_law.2.1 1285 = .ok (.iaload, 1) := by decide +kernel
theorem d_Law_law_1286 : decode M_Law_law.2.1 1286 = .ok (.aload_n 0, 1) := by decide +kernel
theorem d_Law_law_1287 : decode M_Law_law.2.1 1287 = .ok (.iload 4, 2) := by decide +kernel
theorem d_Law_law_1289 : decode M_Law_law.2.1 1289 = .ok (.iconst 2, 1) := by decide +kernel
theorem d_Law_law_1290 : decode M_Law_law.2.1 1290 = .ok (.iadd, 1) := by decide +kernel
theorem d_Law_law_1291 : decode M_Law_law.2.1 1291 = .ok (.iaload, 1) := by decide +kernel
theorem d_Law_law_1292 : decode M_Law_law.2.1 1292 = .ok (.ifCond .eq 7, 3) := by decide +kernel
theorem d_Law_law_1295 : decode M_Law_law.2.1 1295 = .ok (.iconst 1, 1) := by decide +kernel
theorem d_Law_law_1296 : decode M_Law_law.2.1 1296 = .ok (.goto 4, 3) := by decide +kernel
theorem d_Law_law_1299 : decode M_Law_law.2.1 1299 = .ok (.iconst 0, 1) := by decide +kernel
theorem d_Law_law_1300 : decode M_Law_law.2.1 1300 = .ok (.invokevirtual 164, 3) := by decide +kernel
theorem d_Law_law_1303 : decode M_Law_law.2.1 1303 = .ok (.aload_n 2, 1) := by decide +kernel
theorem d_Law_law_1304 : decode M_Law_law.2.1 1304 = .ok (.aload_n 0, 1) := by decide +kernel
theorem d_Law_law_1305 : decode M_Law_law.2.1 1305 = .ok (.iload 4, 2) := by decide +kernel
theorem d_Law_law_1307 : decode M_Law_law.2.1 1307 = .ok (.iconst 1, 1) := by decide +kernel
theorem d_Law_law_1308 : decode M_Law_law.2.1 1308 = .ok (.iadd, 1) := by decide +kernel
theorem d_Law_law_1309 : decode M_Law_law.2.1 1309 = .ok (.iaload, 1) := by decide +kernel
theorem d_Law_law_1310 : decode M_Law_law.2.1 1310 = .ok (.aload_n 0, 1) := by decide +kernel
theorem d_Law_law_1311 : decode M_Law_law.2.1 1311 = .ok (.iload 4, 2) := by decide +kernel
theorem d_Law_law_1313 : decode M_Law_law.2.1 1313 = .ok (.iconst 2, 1) := by decide +kernel
theorem d_Law_law_1314 : decode M_Law_law.2.1 1314 = .ok (.iadd, 1) := by decide +kernel
theorem d_Law_law_1315 : decode M_Law_law.2.1 1315 = .ok (.iaload, 1) := by decide +kernel
theorem d_Law_law_1316 : decode M_Law_law.2.1 1316 = .ok (.ifCond .eq 7, 3) := by decide +kernel
theorem d_Law_law_1319 : decode M_Law_law.2.1 1319 = .ok (.iconst 1, 1) := by decide +kernel
theorem d_Law_law_1320 : decode M_Law_law.2.1 1320 = .ok (.goto 4, 3) := by decide +kernel
theorem d_Law_law_1323 : decode M_Law_law.2.1 1323 = .ok (.iconst 0, 1) := by decide +kernel
theorem d_Law_law_1324 : decode M_Law_law.2.1 1324 = .ok (.invokevirtual 168, 3) := by decide +kernel
theorem d_Law_law_1327 : decode M_Law_law.2.1 1327 = .ok (.lcmp, 1) := by decide +kernel
theorem d_Law_law_1328 : decode M_Law_law.2.1 1328 = .ok (.ifCond .eq 756, 3) := by decide +kernel
theorem d_Law_law_1331 : decode M_Law_law.2.1 1331 = .ok (.iconst 0, 1) := by decide +kernel
theorem d_Law_law_1332 : decode M_Law_law.2.1 1332 = .ok (.ireturn, 1) := by decide +kernel
theorem d_Law_law_1333 : decode M_Law_law.2.1 1333 = .ok (.aload_n 1, 1) := by decide +kernel
theorem d_Law_law_1334 : decode M_Law_law.2.1 1334 = .ok (.invokevirtual 169, 3) := by decide +kernel
theorem d_Law_law_1337 : decode M_Law_law.2.1 1337 = .ok (.aload_n 2, 1) := by decide +kernel
theorem d_Law_law_1338 : decode M_Law_law.2.1 1338 = .ok (.invokevirtual 172, 3) := by decide +kernel
theorem d_Law_law_1341 : decode M_Law_law.2.1 1341 = .ok (.if_icmp .eq 743, 3) := by decide +kernel
theorem d_Law_law_1344 : decode M_Law_law.2.1 1344 = .ok (.iconst 0, 1) := by decide +kernel
theorem d_Law_law_1345 : decode M_Law_law.2.1 1345 = .ok (.ireturn, 1) := by decide +kernel
theorem d_Law_law_1346 : decode M_Law_law.2.1 1346 = .ok (.aload_n 1, 1) := by decide +kernel
theorem d_Law_law_1347 : decode M_Law_law.2.1 1347 = .ok (.aload_n 0, 1) := by decide +kernel
theorem d_Law_law_1348 : decode M_Law_law.2.1 1348 = .ok (.iload 4, 2) := by decide +kernel
theorem d_Law_law_1350 : decode M_Law_law.2.1 1350 = .ok (.iconst 1, 1) := by decide +kernel
theorem d_Law_law_1351 : decode M_Law_law.2.1 1351 = .ok (.iadd, 1) := by decide +kernel
theorem d_Law_law_1352 : decode M_Law_law.2.1 1352 = .ok (.iaload, 1) := by decide +kernel
theorem d_Law_law_1353 : decode M_Law_law.2.1 1353 = .ok (.aload_n 0, 1) := by decide +kernel
theorem d_Law_law_1354 : decode M_Law_law.2.1 1354 = .ok (.iload 4, 2) := by decide +kernel
theorem d_Law_law_1356 : decode M_Law_law.2.1 1356 = .ok (.iconst 2, 1) := by decide +kernel
theorem d_Law_law_1357 : decode M_Law_law.2.1 1357 = .ok (.iadd, 1) := by decide +kernel
theorem d_Law_law_1358 : decode M_Law_law.2.1 1358 = .ok (.iaload, 1) := by decide +kernel
theorem d_Law_law_1359 : decode M_Law_law.2.1 1359 = .ok (.ifCond .eq 7, 3) := by decide +kernel
theorem d_Law_law_1362 : decode M_Law_law.2.1 1362 = .ok (.iconst 1, 1) := by decide +kernel
theorem d_Law_law_1363 : decode M_Law_law.2.1 1363 = .ok (.goto 4, 3) := by decide +kernel
theorem d_Law_law_1366 : decode M_Law_law.2.1 1366 = .ok (.iconst 0, 1) := by decide +kernel
theorem d_Law_law_1367 : decode M_Law_law.2.1 1367 = .ok (.aload_n 0, 1) := by decide +kernel
theorem d_Law_law_1368 : decode M_Law_law.2.1 1368 = .ok (.iload 4, 2) := by decide +kernel
theorem d_Law_law_1370 : decode M_Law_law.2.1 1370 = .ok (.iconst 3, 1) := by decide +kernel
theorem d_Law_law_1371 : decode M_Law_law.2.1 1371 = .ok (.iadd, 1) := by decide +kernel
theorem d_Law_law_1372 : decode M_Law_law.2.1 1372 = .ok (.iaload, 1) := by decide +kernel
theorem d_Law_law_1373 : decode M_Law_law.2.1 1373 = .ok (.ifCond .eq 7, 3) := by decide +kernel
theorem d_Law_law_1376 : decode M_Law_law.2.1 1376 = .ok (.iconst 1, 1) := by decide +kernel
theorem d_Law_law_1377 : decode M_Law_law.2.1 1377 = .ok (.goto 4, 3) := by decide +kernel
theorem d_Law_law_1380 : decode M_Law_law.2.1 1380 = .ok (.iconst 0, 1) := by decide +kernel
theorem d_Law_law_1381 : decode M_Law_law.2.1 1381 = .ok (.aload_n 0, 1) := by decide +kernel
theorem d_Law_law_1382 : decode M_Law_law.2.1 1382 = .ok (.iload 4, 2) := by decide +kernel
theorem d_Law_law_1384 : decode M_Law_law.2.1 1384 = .ok (.iconst 4, 1) := by decide +kernel
theorem d_Law_law_1385 : decode M_Law_law.2.1 1385 = .ok (.iadd, 1) := by decide +kernel
theorem d_Law_law_1386 : decode M_Law_law.2.1 1386 = .ok (.iaload, 1) := by decide +kernel
theorem d_Law_law_1387 : decode M_Law_law.2.1 1387 = .ok (.ifCond .eq 7, 3) := by decide +kernel
theorem d_Law_law_1390 : decode M_Law_law.2.1 1390 = .ok (.iconst 1, 1) := by decide +kernel
theorem d_Law_law_1391 : decode M_Law_law.2.1 1391 = .ok (.goto 4, 3) := by decide +kernel
theorem d_Law_law_1394 : decode M_Law_law.2.1 1394 = .ok (.iconst 0, 1) := by decide +kernel
theorem d_Law_law_1395 : decode M_Law_law.2.1 1395 = .ok (.invokevirtual 173, 3) := by decide +kernel
theorem d_Law_law_1398 : decode M_Law_law.2.1 1398 = .ok (.aload_n 2, 1) := by decide +kernel
theorem d_Law_law_1399 : decode M_Law_law.2.1 1399 = .ok (.aload_n 0, 1) := by decide +kernel
theorem d_Law_law_1400 : decode M_Law_law.2.1 1400 = .ok (.iload 4, 2) := by decide +kernel
theorem d_Law_law_1402 : decode M_Law_law.2.1 1402 = .ok (.iconst 1, 1) := by decide +kernel
theorem d_Law_law_1403 : decode M_Law_law.2.1 1403 = .ok (.iadd, 1) := by decide +kernel
theorem d_Law_law_1404 : decode M_Law_law.2.1 1404 = .ok (.iaload, 1) := by decide +kernel
theorem d_Law_law_1405 : decode M_Law_law.2.1 1405 = .ok (.aload_n 0, 1) := by decide +kernel
theorem d_Law_law_1406 : decode M_Law_law.2.1 1406 = .ok (.iload 4, 2) := by decide +kernel
theorem d_Law_law_1408 : decode M_Law_law.2.1 1408 = .ok (.iconst 2, 1) := by decide +kernel
theorem d_Law_law_1409 : decode M_Law_law.2.1 1409 = .ok (.iadd, 1) := by decide +kernel
theorem d_Law_law_1410 : decode M_Law_law.2.1 1410 = .ok (.iaload, 1) := by decide +kernel
theorem d_Law_law_1411 : decode M_Law_law.2.1 1411 = .ok (.ifCond .eq 7, 3) := by decide +kernel
theorem d_Law_law_1414 : decode M_Law_law.2.1 1414 = .ok (.iconst 1, 1) := by decide +kernel
theorem d_Law_law_1415 : decode M_Law_law.2.1 1415 = .ok (.goto 4, 3) := by decide +kernel
theorem d_Law_law_1418 : decode M_Law_law.2.1 1418 = .ok (.iconst 0, 1) := by decide +kernel
theorem d_Law_law_1419 : decode M_Law_law.2.1 1419 = .ok (.aload_n 0, 1) := by decide +kernel
theorem d_Law_law_1420 : decode M_Law_law.2.1 1420 = .ok (.iload 4, 2) := by decide +kernel
theorem d_Law_law_1422 : decode M_Law_law.2.1 1422 = .ok (.iconst 3, 1) := by decide +kernel
theorem d_Law_law_1423 : decode M_Law_law.2.1 1423 = .ok (.iadd, 1) := by decide +kernel
theorem d_Law_law_1424 : decode M_Law_law.2.1 1424 = .ok (.iaload, 1) := by decide +kernel
theorem d_Law_law_1425 : decode M_Law_law.2.1 1425 = .ok (.ifCond .eq 7, 3) := by decide +kernel
theorem d_Law_law_1428 : decode M_Law_law.2.1 1428 = .ok (.iconst 1, 1) := by decide +kernel
theorem d_Law_law_1429 : decode M_Law_law.2.1 1429 = .ok (.goto 4, 3) := by decide +kernel
theorem d_Law_law_1432 : decode M_Law_law.2.1 1432 = .ok (.iconst 0, 1) := by decide +kernel
theorem d_Law_law_1433 : decode M_Law_law.2.1 1433 = .ok (.aload_n 0, 1) := by decide +kernel
theorem d_Law_law_1434 : decode M_Law_law.2.1 1434 = .ok (.iload 4, 2) := by decide +kernel
theorem d_Law_law_1436 : decode M_Law_law.2.1 1436 = .ok (.iconst 4, 1) := by decide +kernel
theorem d_Law_law_1437 : decode M_Law_law.2.1 1437 = .ok (.iadd, 1) := by decide +kernel
theorem d_Law_law_1438 : decode M_Law_law.2.1 1438 = .ok (.iaload, 1) := by decide +kernel
theorem d_Law_law_1439 : decode M_Law_law.2.1 1439 = .ok (.ifCond .eq 7, 3) := by decide +kernel
theorem d_Law_law_1442 : decode M_Law_law.2.1 1442 = .ok (.iconst 1, 1) := by decide +kernel
theorem d_Law_law_1443 : decode M_Law_law.2.1 1443 = .ok (.goto 4, 3) := by decide +kernel
theorem d_Law_law_1446 : decode M_Law_law.2.1 1446 = .ok (.iconst 0, 1) := by decide +kernel
theorem d_Law_law_1447 : decode M_Law_law.2.1 1447 = .ok (.invokevirtual 177, 3) := by decide +kernel
theorem d_Law_law_1450 : decode M_Law_law.2.1 1450 = .ok (.if_icmp .eq 634, 3) := by decide +kernel
theorem d_Law_law_1453 : decode M_Law_law.2.1 1453 = .ok (.iconst 0, 1) := by decide +kernel
theorem d_Law_law_1454 : decode M_Law_law.2.1 1454 = .ok (.ireturn, 1) := by decide +kernel
theorem d_Law_law_1455 : decode M_Law_law.2.1 1455 = .ok (.aload_n 1, 1) := by decide +kernel
theorem d_Law_law_1456 : decode M_Law_law.2.1 1456 = .ok (.aload_n 0, 1) := by decide +kernel
theorem d_Law_law_1457 : decode M_Law_law.2.1 1457 = .ok (.iload 4, 2) := by decide +kernel
theorem d_Law_law_1459 : decode M_Law_law.2.1 1459 = .ok (.iconst 1, 1) := by decide +kernel
theorem d_Law_law_1460 : decode M_Law_law.2.1 1460 = .ok (.iadd, 1) := by decide +kernel
theorem d_Law_law_1461 : decode M_Law_law.2.1 1461 = .ok (.iaload, 1) := by decide +kernel
theorem d_Law_law_1462 : decode M_Law_law.2.1 1462 = .ok (.invokevirtual 178, 3) := by decide +kernel
theorem d_Law_law_1465 : decode M_Law_law.2.1 1465 = .ok (.aload_n 2, 1) := by decide +kernel
theorem d_Law_law_1466 : decode M_Law_law.2.1 1466 = .ok (.aload_n 0, 1) := by decide +kernel
theorem d_Law_law_1467 : decode M_Law_law.2.1 1467 = .ok (.iload 4, 2) := by decide +kernel
theorem d_Law_law_1469 : decode M_Law_law.2.1 1469 = .ok (.iconst 1, 1) := by decide +kernel
theorem d_Law_law_1470 : decode M_Law_law.2.1 1470 = .ok (.iadd, 1) := by decide +kernel
theorem d_Law_law_1471 : decode M_Law_law.2.1 1471 = .ok (.iaload, 1) := by decide +kernel
theorem d_Law_law_1472 : decode M_Law_law.2.1 1472 = .ok (.invokevirtual 181, 3) := by decide +kernel
theorem d_Law_law_1475 : decode M_Law_law.2.1 1475 = .ok (.if_icmp .eq 609, 3) := by decide +kernel
theorem d_Law_law_1478 : decode M_Law_law.2.1 1478 = .ok (.iconst 0, 1) := by decide +kernel
theorem d_Law_law_1479 : decode M_Law_law.2.1 1479 = .ok (.ireturn, 1) := by decide +kernel
theorem d_Law_law_1480 : decode M_Law_law.2.1 1480 = .ok (.aload_n 1, 1) := by decide +kernel
theorem d_Law_law_1481 : decode M_Law_law.2.1 1481 = .ok (.aload_n 0, 1) := by decide +kernel
theorem d_Law_law_1482 : decode M_Law_law.2.1 1482 = .ok (.iload 4, 2) := by decide +kernel
theorem d_Law_law_1484 : decode M_Law_law.2.1 1484 = .ok (.iconst 1, 1) := by decide +kernel
theorem d_Law_law_1485 : decode M_Law_law.2.1 1485 = .ok (.iadd, 1) := by decide +kernel
theorem d_Law_law_1486 : decode M_Law_law.2.1 1486 = .ok (.iaload, 1) := by decide +kernel
theorem d_Law_law_1487 : decode M_Law_law.2.1 1487 = .ok (.invokevirtual 182, 3) := by decide +kernel
theorem d_Law_law_1490 : decode M_Law_law.2.1 1490 = .ok (.aload_n 2, 1) := by decide +kernel
theorem d_Law_law_1491 : decode M_Law_law.2.1 1491 = .ok (.aload_n 0, 1) := by decide +kernel
theorem d_Law_law_1492 : decode M_Law_law.2.1 1492 = .ok (.iload 4, 2) := by decide +kernel
theorem d_Law_law_1494 : decode M_Law_law.2.1 1494 = .ok (.iconst 1, 1) := by decide +kernel
theorem d_Law_law_1495 : decode M_Law_law.2.1 1495 = .ok (.iadd, 1) := by decide +kernel
theorem d_Law_law_1496 : decode M_Law_law.2.1 1496 = .ok (.iaload, 1) := by decide +kernel
theorem d_Law_law_1497 : decode M_Law_law.2.1 1497 = .ok (.invokevirtual 185, 3) := by decide +kernel
theorem d_Law_law_1500 : decode M_Law_law.2.1 1500 = .ok (.if_icmp .eq 584, 3) := by decide +kernel
theorem d_Law_law_1503 : decode M_Law_law.2.1 1503 = .ok (.iconst 0, 1) := by decide +kernel
theorem d_Law_law_1504 : decode M_Law_law.2.1 1504 = .ok (.ireturn, 1) := by decide +kernel
theorem d_Law_law_1505 : decode M_Law_law.2.1 1505 = .ok (.aload_n 1, 1) := by decide +kernel
theorem d_Law_law_1506 : decode M_Law_law.2.1 1506 = .ok (.aload_n 0, 1) := by decide +kernel
theorem d_Law_law_1507 : decode M_Law_law.2.1 1507 = .ok (.iload 4, 2) := by decide +kernel
theorem d_Law_law_1509 : decode M_Law_law.2.1 1509 = .ok (.iconst 1, 1) := by decide +kernel
theorem d_Law_law_1510 : decode M_Law_law.2.1 1510 = .ok (.iadd, 1) := by decide +kernel
theorem d_Law_law_1511 : decode M_Law_law.2.1 1511 = .ok (.iaload, 1) := by decide +kernel
theorem d_Law_law_1512 : decode M_Law_law.2.1 1512 = .ok (.aload_n 0, 1) := by decide +kernel
theorem d_Law_law_1513 : decode M_Law_law.2.1 1513 = .ok (.iload 4, 2) := by decide +kernel
theorem d_Law_law_1515 : decode M_Law_law.2.1 1515 = .ok (.iconst 2, 1) := by decide +kernel
theorem d_Law_law_1516 : decode M_Law_law.2.1 1516 = .ok (.iadd, 1) := by decide +kernel
theorem d_Law_law_1517 : decode M_Law_law.2.1 1517 = .ok (.iaload, 1) := by decide +kernel
theorem d_Law_law_1518 : decode M_Law_law.2.1 1518 = .ok (.ifCond .eq 7, 3) := by decide +kernel
theorem d_Law_law_1521 : decode M_Law_law.2.1 1521 = .ok (.iconst 1, 1) := by decide +kernel
theorem d_Law_law_1522 : decode M_Law_law.2.1 1522 = .ok (.goto 4, 3) := by decide +kernel
theorem d_Law_law_1525 : decode M_Law_law.2.1 1525 = .ok (.iconst 0, 1) := by decide +kernel
theorem d_Law_law_1526 : decode M_Law_law.2.1 1526 = .ok (.aload_n 0, 1) := by decide +kernel
theorem d_Law_law_1527 : decode M_Law_law.2.1 1527 = .ok (.iload 4, 2) := by decide +kernel
theorem d_Law_law_1529 : decode M_Law_law.2.1 1529 = .ok (.iconst 3, 1) := by decide +kernel
theorem d_Law_law_1530 : decode M_Law_law.2.1 1530 = .ok (.iadd, 1) := by decide +kernel
theorem d_Law_law_1531 : decode M_Law_law.2.1 1531 = .ok (.iaload, 1) := by decide +kernel
theorem d_Law_law_1532 : decode M_Law_law.2.1 1532 = .ok (.ifCond .eq 7, 3) := by decide +kernel
theorem d_Law_law_1535 : decode M_Law_law.2.1 1535 = .ok (.iconst 1, 1) := by decide +kernel
theorem d_Law_law_1536 : decode M_Law_law.2.1 1536 = .ok (.goto 4, 3) := by decide +kernel
theorem d_Law_law_1539 : decode M_Law_law.2.1 1539 = .ok (.iconst 0, 1) := by decide +kernel
theorem d_Law_law_1540 : decode M_Law_law.2.1 1540 = .ok (.aload_n 0, 1) := by decide +kernel
theorem d_Law_law_1541 : decode M_Law_law.2.1 1541 = .ok (.iload 4, 2) := by decide +kernel
theorem d_Law_law_1543 : decode M_Law_law.2.1 1543 = .ok (.iconst 4, 1) := by decide +kernel
theorem d_Law_law_1544 : decode M_Law_law.2.1 1544 = .ok (.iadd, 1) := by decide +kernel
theorem d_Law_law_1545 : decode M_Law_law.2.1 1545 = .ok (.iaload, 1) := by decide +kernel
theorem d_Law_law_1546 : decode M_Law_law.2.1 1546 = .ok (.ifCond .eq 7, 3) := by decide +kernel
theorem d_Law_law_1549 : decode M_Law_law.2.1 1549 = .ok (.iconst 1, 1) := by decide +kernel
theorem d_Law_law_1550 : decode M_Law_law.2.1 1550 = .ok (.goto 4, 3) := by decide +kernel
theorem d_Law_law_1553 : decode M_Law_law.2.1 1553 = .ok (.iconst 0, 1) := by decide +kernel
theorem d_Law_law_1554 : decode M_Law_law.2.1 1554 = .ok (.invokevirtual 186, 3) := by decide +kernel
theorem d_Law_law_1557 : decode M_Law_law.2.1 1557 = .ok (.aload_n 2, 1) := by decide +kernel
theorem d_Law_law_1558 : decode M_Law_law.2.1 1558 = .ok (.aload_n 0, 1) := by decide +kernel
theorem d_Law_law_1559 : decode M_Law_law.2.1 1559 = .ok (.iload 4, 2) := by decide +kernel
theorem d_Law_law_1561 : decode M_Law_law.2.1 1561 = .ok (.iconst 1, 1) := by decide +kernel
theorem d_Law_law_1562 : decode M_Law_law.2.1 1562 = .ok (.iadd, 1) := by decide +kernel
theorem d_Law_law_1563 : decode M_Law_law.2.1 1563 = .ok (.iaload, 1) := by decide +kernel
theorem d_Law_law_1564 : decode M_Law_law.2.1 1564 = .ok (.aload_n 0, 1) := by decide +kernel
theorem d_Law_law_1565 : decode M_Law_law.2.1 1565 = .ok (.iload 4, 2) := by decide +kernel
theorem d_Law_law_1567 : decode M_Law_law.2.1 1567 = .ok (.iconst 2, 1) := by decide +kernel
theorem d_Law_law_1568 : decode M_Law_law.2.1 1568 = .ok (.iadd, 1) := by decide +kernel
theorem d_Law_law_1569 : decode M_Law_law.2.1 1569 = .ok (.iaload, 1) := by decide +kernel
theorem d_Law_law_1570 : decode M_Law_law.2.1 1570 = .ok (.ifCond .eq 7, 3) := by decide +kernel
theorem d_Law_law_1573 : decode M_Law_law.2.1 1573 = .ok (.iconst 1, 1) := by decide +kernel
theorem d_Law_law_1574 : decode M_Law_law.2.1 1574 = .ok (.goto 4, 3) := by decide +kernel
theorem d_Law_law_1577 : decode M_Law_law.2.1 1577 = .ok (.iconst 0, 1) := by decide +kernel
theorem d_Law_law_1578 : decode M_Law_law.2.1 1578 = .ok (.aload_n 0, 1) := by decide +kernel
theorem d_Law_law_1579 : decode M_Law_law.2.1 1579 = .ok (.iload 4, 2) := by decide +kernel
theorem d_Law_law_1581 : decode M_Law_law.2.1 1581 = .ok (.iconst 3, 1) := by decide +kernel
theorem d_Law_law_1582 : decode M_Law_law.2.1 1582 = .ok (.iadd, 1) := by decide +kernel
theorem d_Law_law_1583 : decode M_Law_law.2.1 1583 = .ok (.iaload, 1) := by decide +kernel
theorem d_Law_law_1584 : decode M_Law_law.2.1 1584 = .ok (.ifCond .eq 7, 3) := by decide +kernel
theorem d_Law_law_1587 : decode M_Law_law.2.1 1587 = .ok (.iconst 1, 1) := by decide +kernel
theorem d_Law_law_1588 : decode M_Law_law.2.1 1588 = .ok (.goto 4, 3) := by decide +kernel
theorem d_Law_law_1591 : decode M_Law_law.2.1 1591 = .ok (.iconst 0, 1) := by decide +kernel
theorem d_Law_law_1592 : decode M_Law_law.2.1 1592 = .ok (.aload_n 0, 1) := by decide +kernel
theorem d_Law_law_1593 : decode M_Law_law.2.1 1593 = .ok (.iload 4, 2) := by decide +kernel
theorem d_Law_law_1595 : decode M_Law_law.2.1 1595 = .ok (.iconst 4, 1) := by decide +kernel
theorem d_Law_law_1596 : decode M_Law_law.2.1 1596 = .ok (.iadd, 1) := by decide +kernel
theorem d_Law_law_1597 : decode M_Law_law.2.1 1597 = .ok (.iaload, 1) := by decide +kernel
theorem d_Law_law_1598 : decode M_Law_law.2.1 1598 = .ok (.ifCond .eq 7, 3) := by decide +kernel
theorem d_Law_law_1601 : decode M_Law_law.2.1 1601 = .ok (.iconst 1, 1) := by decide +kernel
theorem d_Law_law_1602 : decode M_Law_law.2.1 1602 = .ok (.goto 4, 3) := by decide +kernel
theorem d_Law_law_1605 : decode M_Law_law.2.1 1605 = .ok (.iconst 0, 1) := by decide +kernel
theorem d_Law_law_1606 : decode M_Law_law.2.1 1606 = .ok (.invokevirtual 190, 3) := by decide +kernel
theorem d_Law_law_1609 : decode M_Law_law.2.1 1609 = .ok (.lcmp, 1) := by decide +kernel
theorem d_Law_law_1610 : decode M_Law_law.2.1 1610 = .ok (.ifCond .eq 474, 3) := by decide +kernel
theorem d_Law_law_1613 : decode M_Law_law.2.1 1613 = .ok (.iconst 0, 1) := by decide +kernel
theorem d_Law_law_1614 : decode M_Law_law.2.1 1614 = .ok (.ireturn, 1) := by decide +kernel
theorem d_Law_law_1615 : decode M_Law_law.2.1 1615 = .ok (.aload_n 1, 1) := by decide +kernel
theorem d_Law_law_1616 : decode M_Law_law.2.1 1616 = .ok (.aload_n 0, 1) := by decide +kernel
theorem d_Law_law_1617 : decode M_Law_law.2.1 1617 = .ok (.iload 4, 2) := by decide +kernel
theorem d_Law_law_1619 : decode M_Law_law.2.1 1619 = .ok (.iconst 1, 1) := by decide +kernel
theorem d_Law_law_1620 : decode M_Law_law.2.1 1620 = .ok (.iadd, 1) := by decide +kernel
theorem d_Law_law_1621 : decode M_Law_law.2.1 1621 = .ok (.iaload, 1) := by decide +kernel
theorem d_Law_law_1622 : decode M_Law_law.2.1 1622 = .ok (.aload_n 0, 1) := by decide +kernel
theorem d_Law_law_1623 : decode M_Law_law.2.1 1623 = .ok (.iload 4, 2) := by decide +kernel
theorem d_Law_law_1625 : decode M_Law_law.2.1 1625 = .ok (.iconst 2, 1) := by decide +kernel
theorem d_Law_law_1626 : decode M_Law_law.2.1 1626 = .ok (.iadd, 1) := by decide +kernel
theorem d_Law_law_1627 : decode M_Law_law.2.1 1627 = .ok (.iaload, 1) := by decide +kernel
theorem d_Law_law_1628 : decode M_Law_law.2.1 1628 = .ok (.ifCond .eq 7, 3) := by decide +kernel
theorem d_Law_law_1631 : decode M_Law_law.2.1 1631 = .ok (.iconst 1, 1) := by decide +kernel
theorem d_Law_law_1632 : decode M_Law_law.2.1 1632 = .ok (.goto 4, 3) := by decide +kernel
theorem d_Law_law_1635 : decode M_Law_law.2.1 1635 = .ok (.iconst 0, 1) := by decide +kernel
theorem d_Law_law_1636 : decode M_Law_law.2.1 1636 = .ok (.aload_n 0, 1) := by decide +kernel
theorem d_Law_law_1637 : decode M_Law_law.2.1 1637 = .ok (.iload 4, 2) := by decide +kernel
theorem d_Law_law_1639 : decode M_Law_law.2.1 1639 = .ok (.iconst 3, 1) := by decide +kernel
theorem d_Law_law_1640 : decode M_Law_law.2.1 1640 = .ok (.iadd, 1) := by decide +kernel
theorem d_Law_law_1641 : decode M_Law_law.2.1 1641 = .ok (.iaload, 1) := by decide +kernel
theorem d_Law_law_1642 : decode M_Law_law.2.1 1642 = .ok (.ifCond .eq 7, 3) := by decide +kernel
theorem d_Law_law_1645 : decode M_Law_law.2.1 1645 = .ok (.iconst 1, 1) := by decide +kernel
theorem d_Law_law_1646 : decode M_Law_law.2.1 1646 = .ok (.goto 4, 3) := by decide +kernel
theorem d_Law_law_1649 : decode M_Law_law.2.1 1649 = .ok (.iconst 0, 1) := by decide +kernel
theorem d_Law_law_1650 : decode M_Law_law.2.1 1650 = .ok (.invokevirtual 191, 3) := by decide +kernel
theorem d_Law_law_1653 : decode M_Law_law.2.1 1653 = .ok (.aload_n 2, 1) := by decide +kernel
theorem d_Law_law_1654 : decode M_Law_law.2.1 1654 = .ok (.aload_n 0, 1) := by decide +kernel
theorem d_Law_law_1655 : decode M_Law_law.2.1 1655 = .ok (.iload 4, 2) := by decide +kernel
theorem d_Law_law_1657 : decode M_Law_law.2.1 1657 = .ok (.iconst 1, 1) := by decide +kernel
theorem d_Law_law_1658 : decode M_Law_law.2.1 1658 = .ok (.iadd, 1) := by decide +kernel
theorem d_Law_law_1659 : decode M_Law_law.2.1 1659 = .ok (.iaload, 1) := by decide +kernel
theorem d_Law_law_1660 : decode M_Law_law.2.1 1660 = .ok (.aload_n 0, 1) := by decide +kernel
theorem d_Law_law_1661 : decode M_Law_law.2.1 1661 = .ok (.iload 4, 2) := by decide +kernel
theorem d_Law_law_1663 : decode M_Law_law.2.1 1663 = .ok (.iconst 2, 1) := by decide +kernel
theorem d_Law_law_1664 : decode M_Law_law.2.1 1664 = .ok (.iadd, 1) := by decide +kernel
theorem d_Law_law_1665 : decode M_Law_law.2.1 1665 = .ok (.iaload, 1) := by decide +kernel
theorem d_Law_law_1666 : decode M_Law_law.2.1 1666 = .ok (.ifCond .eq 7, 3) := by decide +kernel
theorem d_Law_law_1669 : decode M_Law_law.2.1 1669 = .ok (.iconst 1, 1) := by decide +kernel
theorem d_Law_law_1670 : decode M_Law_law.2.1 1670 = .ok (.goto 4, 3) := by decide +kernel
theorem d_Law_law_1673 : decode M_Law_law.2.1 1673 = .ok (.iconst 0, 1) := by decide +kernel
theorem d_Law_law_1674 : decode M_Law_law.2.1 1674 = .ok (.aload_n 0, 1) := by decide +kernel
theorem d_Law_law_1675 : decode M_Law_law.2.1 1675 = .ok (.iload 4, 2) := by decide +kernel
theorem d_Law_law_1677 : decode M_Law_law.2.1 1677 = .ok (.iconst 3, 1) := by decide +kernel
theorem d_Law_law_1678 : decode M_Law_law.2.1 1678 = .ok (.iadd, 1) := by decide +kernel
theorem d_Law_law_1679 : decode M_Law_law.2.1 1679 = .ok (.iaload, 1) := by decide +kernel
theorem d_Law_law_1680 : decode M_Law_law.2.1 1680 = .ok (.ifCond .eq 7, 3) := by decide +kernel
theorem d_Law_law_1683 : decode M_Law_law.2.1 1683 = .ok (.iconst 1, 1) := by decide +kernel
theorem d_Law_law_1684 : decode M_Law_law.2.1 1684 = .ok (.goto 4, 3) := by decide +kernel
theorem d_Law_law_1687 : decode M_Law_law.2.1 1687 = .ok (.iconst 0, 1) := by decide +kernel
theorem d_Law_law_1688 : decode M_Law_law.2.1 1688 = .ok (.invokevirtual 195, 3) := by decide +kernel
theorem d_Law_law_1691 : decode M_Law_law.2.1 1691 = .ok (.lcmp, 1) := by decide +kernel
theorem d_Law_law_1692 : decode M_Law_law.2.1 1692 = .ok (.ifCond .eq 392, 3) := by decide +kernel
theorem d_Law_law_1695 : decode M_Law_law.2.1 1695 = .ok (.iconst 0, 1) := by decide +kernel
theorem d_Law_law_1696 : decode M_Law_law.2.1 1696 = .ok (.ireturn, 1) := by decide +kernel
theorem d_Law_law_1697 : decode M_Law_law.2.1 1697 = .ok (.aload_n 1, 1) := by decide +kernel
theorem d_Law_law_1698 : decode M_Law_law.2.1 1698 = .ok (.aload_n 0, 1) := by decide +kernel
theorem d_Law_law_1699 : decode M_Law_law.2.1 1699 = .ok (.iload 4, 2) := by decide +kernel
theorem d_Law_law_1701 : decode M_Law_law.2.1 1701 = .ok (.iconst 1, 1) := by decide +kernel
theorem d_Law_law_1702 : decode M_Law_law.2.1 1702 = .ok (.iadd, 1) := by decide +kernel
theorem d_Law_law_1703 : decode M_Law_law.2.1 1703 = .ok (.iaload, 1) := by decide +kernel
theorem d_Law_law_1704 : decode M_Law_law.2.1 1704 = .ok (.aload_n 0, 1) := by decide +kernel
theorem d_Law_law_1705 : decode M_Law_law.2.1 1705 = .ok (.iload 4, 2) := by decide +kernel
theorem d_Law_law_1707 : decode M_Law_law.2.1 1707 = .ok (.iconst 2, 1) := by decide +kernel
theorem d_Law_law_1708 : decode M_Law_law.2.1 1708 = .ok (.iadd, 1) := by decide +kernel
theorem d_Law_law_1709 : decode M_Law_law.2.1 1709 = .ok (.iaload, 1) := by decide +kernel
theorem d_Law_law_1710 : decode M_Law_law.2.1 1710 = .ok (.ifCond .eq 7, 3) := by decide +kernel
theorem d_Law_law_1713 : decode M_Law_law.2.1 1713 = .ok (.iconst 1, 1) := by decide +kernel
theorem d_Law_law_1714 : decode M_Law_law.2.1 1714 = .ok (.goto 4, 3) := by decide +kernel
theorem d_Law_law_1717 : decode M_Law_law.2.1 1717 = .ok (.iconst 0, 1) := by decide +kernel
theorem d_Law_law_1718 : decode M_Law_law.2.1 1718 = .ok (.aload_n 0, 1) := by decide +kernel
theorem d_Law_law_1719 : decode M_Law_law.2.1 1719 = .ok (.iload 4, 2) := by decide +kernel
theorem d_Law_law_1721 : decode M_Law_law.2.1 1721 = .ok (.iconst 3, 1) := by decide +kernel
theorem d_Law_law_1722 : decode M_Law_law.2.1 1722 = .ok (.iadd, 1) := by decide +kernel
theorem d_Law_law_1723 : decode M_Law_law.2.1 1723 = .ok (.iaload, 1) := by decide +kernel
theorem d_Law_law_1724 : decode M_Law_law.2.1 1724 = .ok (.invokevirtual 196, 3) := by decide +kernel
theorem d_Law_law_1727 : decode M_Law_law.2.1 1727 = .ok (.aload_n 2, 1) := by decide +kernel
theorem d_Law_law_1728 : decode M_Law_law.2.1 1728 = .ok (.aload_n 0, 1) := by decide +kernel
theorem d_Law_law_1729 : decode M_Law_law.2.1 1729 = .ok (.iload 4, 2) := by decide +kernel
theorem d_Law_law_1731 : decode M_Law_law.2.1 1731 = .ok (.iconst 1, 1) := by decide +kernel
theorem d_Law_law_1732 : decode M_Law_law.2.1 1732 = .ok (.iadd, 1) := by decide +kernel
theorem d_Law_law_1733 : decode M_Law_law.2.1 1733 = .ok (.iaload, 1) := by decide +kernel
theorem d_Law_law_1734 : decode M_Law_law.2.1 1734 = .ok (.aload_n 0, 1) := by decide +kernel
theorem d_Law_law_1735 : decode M_Law_law.2.1 1735 = .ok (.iload 4, 2) := by decide +kernel
theorem d_Law_law_1737 : decode M_Law_law.2.1 1737 = .ok (.iconst 2, 1) := by decide +kernel
theorem d_Law_law_1738 : decode M_Law_law.2.1 1738 = .ok (.iadd, 1) := by decide +kernel
theorem d_Law_law_1739 : decode M_Law_law.2.1 1739 = .ok (.iaload, 1) := by decide +kernel
theorem d_Law_law_1740 : decode M_Law_law.2.1 1740 = .ok (.ifCond .eq 7, 3) := by decide +kernel
theorem d_Law_law_1743 : decode M_Law_law.2.1 1743 = .ok (.iconst 1, 1) := by decide +kernel
theorem d_Law_law_1744 : decode M_Law_law.2.1 1744 = .ok (.goto 4, 3) := by decide +kernel
theorem d_Law_law_1747 : decode M_Law_law.2.1 1747 = .ok (.iconst 0, 1) := by decide +kernel
theorem d_Law_law_1748 : decode M_Law_law.2.1 1748 = .ok (.aload_n 0, 1) := by decide +kernel
theorem d_Law_law_1749 : decode M_Law_law.2.1 1749 = .ok (.iload 4, 2) := by decide +kernel
theorem d_Law_law_1751 : decode M_Law_law.2.1 1751 = .ok (.iconst 3, 1) := by decide +kernel
theorem d_Law_law_1752 : decode M_Law_law.2.1 1752 = .ok (.iadd, 1) := by decide +kernel
theorem d_Law_law_1753 : decode M_Law_law.2.1 1753 = .ok (.iaload, 1) := by decide +kernel
theorem d_Law_law_1754 : decode M_Law_law.2.1 1754 = .ok (.invokevirtual 199, 3) := by decide +kernel
theorem d_Law_law_1757 : decode M_Law_law.2.1 1757 = .ok (.if_icmp .eq 327, 3) := by decide +kernel
theorem d_Law_law_1760 : decode M_Law_law.2.1 1760 = .ok (.iconst 0, 1) := by decide +kernel
theorem d_Law_law_1761 : decode M_Law_law.2.1 1761 = .ok (.ireturn, 1) := by decide +kernel
theorem d_Law_law_1762 : decode M_Law_law.2.1 1762 = .ok (.aload_n 1, 1) := by decide +kernel
theorem d_Law_law_1763 : decode M_Law_law.2.1 1763 = .ok (.aload_n 0, 1) := by decide +kernel
theorem d_Law_law_1764 : decode M_Law_law.2.1 1764 = .ok (.iload 4, 2) := by decide +kernel
theorem d_Law_law_1766 : decode M_Law_law.2.1 1766 = .ok (.iconst 1, 1) := by decide +kernel
theorem d_Law_law_1767 : decode M_Law_law.2.1 1767 = .ok (.iadd, 1) := by decide +kernel
theorem d_Law_law_1768 : decode M_Law_law.2.1 1768 = .ok (.iaload, 1) := by decide +kernel
theorem d_Law_law_1769 : decode M_Law_law.2.1 1769 = .ok (.aload_n 0, 1) := by decide +kernel
theorem d_Law_law_1770 : decode M_Law_law.2.1 1770 = .ok (.iload 4, 2) := by decide +kernel
theorem d_Law_law_1772 : decode M_Law_law.2.1 1772 = .ok (.iconst 2, 1) := by decide +kernel
theorem d_Law_law_1773 : decode M_Law_law.2.1 1773 = .ok (.iadd, 1) := by decide +kernel
theorem d_Law_law_1774 : decode M_Law_law.2.1 1774 = .ok (.iaload, 1) := by decide +kernel
theorem d_Law_law_1775 : decode M_Law_law.2.1 1775 = .ok (.ifCond .eq 7, 3) := by decide +kernel
theorem d_Law_law_1778 : decode M_Law_law.2.1 1778 = .ok (.iconst 1, 1) := by decide +kernel
theorem d_Law_law_1779 : decode M_Law_law.2.1 1779 = .ok (.goto 4, 3) := by decide +kernel
theorem d_Law_law_1782 : decode M_Law_law.2.1 1782 = .ok (.iconst 0, 1) := by decide +kernel
theorem d_Law_law_1783 : decode M_Law_law.2.1 1783 = .ok (.aload_n 0, 1) := by decide +kernel
theorem d_Law_law_1784 : decode M_Law_law.2.1 1784 = .ok (.iload 4, 2) := by decide +kernel
theorem d_Law_law_1786 : decode M_Law_law.2.1 1786 = .ok (.iconst 3, 1) := by decide +kernel
theorem d_Law_law_1787 : decode M_Law_law.2.1 1787 = .ok (.iadd, 1) := by decide +kernel
theorem d_Law_law_1788 : decode M_Law_law.2.1 1788 = .ok (.iaload, 1) := by decide +kernel
theorem d_Law_law_1789 : decode M_Law_law.2.1 1789 = .ok (.aload_n 0, 1) := by decide +kernel
theorem d_Law_law_1790 : decode M_Law_law.2.1 1790 = .ok (.iload 4, 2) := by decide +kernel
theorem d_Law_law_1792 : decode M_Law_law.2.1 1792 = .ok (.iconst 4, 1) := by decide +kernel
theorem d_Law_law_1793 : decode M_Law_law.2.1 1793 = .ok (.iadd, 1) := by decide +kernel
theorem d_Law_law_1794 : decode M_Law_law.2.1 1794 = .ok (.iaload, 1) := by decide +kernel
theorem d_Law_law_1795 : decode M_Law_law.2.1 1795 = .ok (.invokevirtual 200, 3) := by decide +kernel
theorem d_Law_law_1798 : decode M_Law_law.2.1 1798 = .ok (.aload_n 2, 1) := by decide +kernel
theorem d_Law_law_1799 : decode M_Law_law.2.1 1799 = .ok (.aload_n 0, 1) := by decide +kernel
theorem d_Law_law_1800 : decode M_Law_law.2.1 1800 = .ok (.iload 4, 2) := by decide +kernel
theorem d_Law_law_1802 : decode M_Law_law.2.1 1802 = .ok (.iconst 1, 1) := by decide +kernel
theorem d_Law_law_1803 : decode M_Law_law.2.1 1803 = .ok (.iadd, 1) := by decide +kernel
theorem d_Law_law_1804 : decode M_Law_law.2.1 1804 = .ok (.iaload, 1) := by decide +kernel
theorem d_Law_law_1805 : decode M_Law_law.2.1 1805 = .ok (.aload_n 0, 1) := by decide +kernel
theorem d_Law_law_1806 : decode M_Law_law.2.1 1806 = .ok (.iload 4, 2) := by decide +kernel
theorem d_Law_law_1808 : decode M_Law_law.2.1 1808 = .ok (.iconst 2, 1) := by decide +kernel
theorem d_Law_law_1809 : decode M_Law_law.2.1 1809 = .ok (.iadd, 1) := by decide +kernel
theorem d_Law_law_1810 : decode M_Law_law.2.1 1810 = .ok (.iaload, 1) := by decide +kernel
theorem d_Law_law_1811 : decode M_Law_law.2.1 1811 = .ok (.ifCond .eq 7, 3) := by decide +kernel
theorem d_Law_law_1814 : decode M_Law_law.2.1 1814 = .ok (.iconst 1, 1) := by decide +kernel
theorem d_Law_law_1815 : decode M_Law_law.2.1 1815 = .ok (.goto 4, 3) := by decide +kernel
theorem d_Law_law_1818 : decode M_Law_law.2.1 1818 = .ok (.iconst 0, 1) := by decide +kernel
theorem d_Law_law_1819 : decode M_Law_law.2.1 1819 = .ok (.aload_n 0, 1) := by decide +kernel
theorem d_Law_law_1820 : decode M_Law_law.2.1 1820 = .ok (.iload 4, 2) := by decide +kernel
theorem d_Law_law_1822 : decode M_Law_law.2.1 1822 = .ok (.iconst 3, 1) := by decide +kernel
theorem d_Law_law_1823 : decode M_Law_law.2.1 1823 = .ok (.iadd, 1) := by decide +kernel
theorem d_Law_law_1824 : decode M_Law_law.2.1 1824 = .ok (.iaload, 1) := by decide +kernel
theorem d_Law_law_1825 : decode M_Law_law.2.1 1825 = .ok (.aload_n 0, 1) := by decide +kernel
theorem d_Law_law_1826 : decode M_Law_law.2.1 1826 = .ok (.iload 4, 2) := by decide +kernel
theorem d_Law_law_1828 : decode M_Law_law.2.1 1828 = .ok (.iconst 4, 1) := by decide +kernel
theorem d_Law_law_1829 : decode M_Law_law.2.1 1829 = .ok (.iadd, 1) := by decide +kernel
theorem d_Law_law_1830 : decode M_Law_law.2.1 1830 = .ok (.iaload, 1) := by decide +kernel
theorem d_Law_law_1831 : decode M_Law_law.2.1 1831 = .ok (.invokevirtual 204, 3) := by decide +kernel
theorem d_Law_law_1834 : decode M_Law_law.2.1 1834 = .ok (.if_icmp .eq 250, 3) := by decide +kernel
theorem d_Law_law_1837 : decode M_Law_law.2.1 1837 = .ok (.iconst 0, 1) := by decide +kernel
theorem d_Law_law_1838 : decode M_Law_law.2.1 1838 = .ok (.ireturn, 1) := by decide +kernel
theorem d_Law_law_1839 : decode M_Law_law.2.1 1839 = .ok (.aload_n 1, 1) := by decide +kernel
theorem d_Law_law_1840 : decode M_Law_law.2.1 1840 = .ok (.invokevirtual 205, 3) := by decide +kernel
theorem d_Law_law_1843 : decode M_Law_law.2.1 1843 = .ok (.aload_n 2, 1) := by decide +kernel
theorem d_Law_law_1844 : decode M_Law_law.2.1 1844 = .ok (.invokevirtual 208, 3) := by decide +kernel
theorem d_Law_law_1847 : decode M_Law_law.2.1 1847 = .ok (.if_icmp .eq 237, 3) := by decide +kernel
theorem d_Law_law_1850 : decode M_Law_law.2.1 1850 = .ok (.iconst 0, 1) := by decide +kernel
theorem d_Law_law_1851 : decode M_Law_law.2.1 1851 = .ok (.ireturn, 1) := by decide +kernel
theorem d_Law_law_1852 : decode M_Law_law.2.1 1852 = .ok (.aload_n 1, 1) := by decide +kernel
theorem d_Law_law_1853 : decode M_Law_law.2.1 1853 = .ok (.aload_n 0, 1) := by decide +kernel
theorem d_Law_law_1854 : decode M_Law_law.2.1 1854 = .ok (.iload 4, 2) := by decide +kernel
theorem d_Law_law_1856 : decode M_Law_law.2.1 1856 = .ok (.iconst 1, 1) := by decide +kernel
theorem d_Law_law_1857 : decode M_Law_law.2.1 1857 = .ok (.iadd, 1) := by decide +kernel
theorem d_Law_law_1858 : decode M_Law_law.2.1 1858 = .ok (.iaload, 1) := by decide +kernel
theorem d_Law_law_1859 : decode M_Law_law.2.1 1859 = .ok (.invokevirtual 209, 3) := by decide +kernel
theorem d_Law_law_1862 : decode M_Law_law.2.1 1862 = .ok (.aload_n 2, 1) := by decide +kernel
theorem d_Law_law_1863 : decode M_Law_law.2.1 1863 = .ok (.aload_n 0, 1) := by decide +kernel
theorem d_Law_law_1864 : decode M_Law_law.2.1 1864 = .ok (.iload 4, 2) := by decide +kernel
theorem d_Law_law_1866 : decode M_Law_law.2.1 1866 = .ok (.iconst 1, 1) := by decide +kernel
theorem d_Law_law_1867 : decode M_Law_law.2.1 1867 = .ok (.iadd, 1) := by decide +kernel
theorem d_Law_law_1868 : decode M_Law_law.2.1 1868 = .ok (.iaload, 1) := by decide +kernel
theorem d_Law_law_1869 : decode M_Law_law.2.1 1869 = .ok (.invokevirtual 212, 3) := by decide +kernel
theorem d_Law_law_1872 : decode M_Law_law.2.1 1872 = .ok (.if_icmp .eq 212, 3) := by decide +kernel
theorem d_Law_law_1875 : decode M_Law_law.2.1 1875 = .ok (.iconst 0, 1) := by decide +kernel
theorem d_Law_law_1876 : decode M_Law_law.2.1 1876 = .ok (.ireturn, 1) := by decide +kernel
theorem d_Law_law_1877 : decode M_Law_law.2.1 1877 = .ok (.aload_n 1, 1) := by decide +kernel
theorem d_Law_law_1878 : decode M_Law_law.2.1 1878 = .ok (.aload_n 0, 1) := by decide +kernel
theorem d_Law_law_1879 : decode M_Law_law.2.1 1879 = .ok (.iload 4, 2) := by decide +kernel
theorem d_Law_law_1881 : decode M_Law_law.2.1 1881 = .ok (.iconst 1, 1) := by decide +kernel
theorem d_Law_law_1882 : decode M_Law_law.2.1 1882 = .ok (.iadd, 1) := by decide +kernel
theorem d_Law_law_1883 : decode M_Law_law.2.1 1883 = .ok (.iaload, 1) := by decide +kernel
theorem d_Law_law_1884 : decode M_Law_law.2.1 1884 = .ok (.invokevirtual 213, 3) := by decide +kernel
theorem d_Law_law_1887 : decode M_Law_law.2.1 1887 = .ok (.aload_n 2, 1) := by decide +kernel
theorem d_Law_law_1888 : decode M_Law_law.2.1 1888 = .ok (.aload_n 0, 1) := by decide +kernel
theorem d_Law_law_1889 : decode M_Law_law.2.1 1889 = .ok (.iload 4, 2) := by decide +kernel
theorem d_Law_law_1891 : decode M_Law_law.2.1 1891 = .ok (.iconst 1, 1) := by decide +kernel
theorem d_Law_law_1892 : decode M_Law_law.2.1 1892 = .ok (.iadd, 1) := by decide +kernel
theorem d_Law_law_1893 : decode M_Law_law.2.1 1893 = .ok (.iaload, 1) := by decide +kernel
theorem d_Law_law_1894 : decode M_Law_law.2.1 1894 = .ok (.invokevirtual 216, 3) := by decide +kernel
theorem d_Law_law_1897 : decode M_Law_law.2.1 1897 = .ok (.if_icmp .eq 187, 3) := by decide +kernel
theorem d_Law_law_1900 : decode M_Law_law.2.1 1900 = .ok (.iconst 0, 1) := by decide +kernel
theorem d_Law_law_1901 : decode M_Law_law.2.1 1901 = .ok (.ireturn, 1) := by decide +kernel
theorem d_Law_law_1902 : decode M_Law_law.2.1 1902 = .ok (.aload_n 1, 1) := by decide +kernel
theorem d_Law_law_1903 : decode M_Law_law.2.1 1903 = .ok (.aload_n 0, 1) := by decide +kernel
theorem d_Law_law_1904 : decode M_Law_law.2.1 1904 = .ok (.iload 4, 2) := by decide +kernel
theorem d_Law_law_1906 : decode M_Law_law.2.1 1906 = .ok (.iconst 1, 1) := by decide +kernel
theorem d_Law_law_1907 : decode M_Law_law.2.1 1907 = .ok (.iadd, 1) := by decide +kernel
theorem d_Law_law_1908 : decode M_Law_law.2.1 1908 = .ok (.iaload, 1) := by decide +kernel
theorem d_Law_law_1909 : decode M_Law_law.2.1 1909 = .ok (.aload_n 0, 1) := by decide +kernel
theorem d_Law_law_1910 : decode M_Law_law.2.1 1910 = .ok (.iload 4, 2) := by decide +kernel
theorem d_Law_law_1912 : decode M_Law_law.2.1 1912 = .ok (.iconst 2, 1) := by decide +kernel
theorem d_Law_law_1913 : decode M_Law_law.2.1 1913 = .ok (.iadd, 1) := by decide +kernel
theorem d_Law_law_1914 : decode M_Law_law.2.1 1914 = .ok (.iaload, 1) := by decide +kernel
theorem d_Law_law_1915 : decode M_Law_law.2.1 1915 = .ok (.invokevirtual 217, 3) := by decide +kernel
theorem d_Law_law_1918 : decode M_Law_law.2.1 1918 = .ok (.aload_n 2, 1) := by decide +kernel
theorem d_Law_law_1919 : decode M_Law_law.2.1 1919 = .ok (.aload_n 0, 1) := by decide +kernel
theorem d_Law_law_1920 : decode M_Law_law.2.1 1920 = .ok (.iload 4, 2) := by decide +kernel
theorem d_Law_law_1922 : decode M_Law_law.2.1 1922 = .ok (.iconst 1, 1) := by decide +kernel
theorem d_Law_law_1923 : decode M_Law_law.2.1 1923 = .ok (.iadd, 1) := by decide +kernel
theorem d_Law_law_1924 : decode M_Law_law.2.1 1924 = .ok (.iaload, 1) := by decide +kernel
theorem d_Law_law_1925 : decode M_Law_law.2.1 1925 = .ok (.aload_n 0, 1) := by decide +kernel
theorem d_Law_law_1926 : decode M_Law_law.2.1 1926 = .ok (.iload 4, 2) := by decide +kernel
theorem d_Law_law_1928 : decode M_Law_law.2.1 1928 = .ok (.iconst 2, 1) := by decide +kernel
theorem d_Law_law_1929 : decode M_Law_law.2.1 1929 = .ok (.iadd, 1) := by decide +kernel
theorem d_Law_law_1930 : decode M_Law_law.2.1 1930 = .ok (.iaload, 1) := by decide +kernel
theorem d_Law_law_1931 : decode M_Law_law.2.1 1931 = .ok (.invokevirtual 221, 3) := by decide +kernel
theorem d_Law_law_1934 : decode M_Law_law.2.1 1934 = .ok (.if_icmp .eq 150, 3) := by decide +kernel
theorem d_Law_law_1937 : decode M_Law_law.2.1 1937 = .ok (.iconst 0, 1) := by decide +kernel
theorem d_Law_law_1938 : decode M_Law_law.2.1 1938 = .ok (.ireturn, 1) := by decide +kernel
theorem d_Law_law_1939 : decode M_Law_law.2.1 1939 = .ok (.aload_n 1, 1) := by decide +kernel
theorem d_Law_law_1940 : decode M_Law_law.2.1 1940 = .ok (.invokevirtual 222, 3) := by decide +kernel
theorem d_Law_law_1943 : decode M_Law_law.2.1 1943 = .ok (.aload_n 2, 1) := by decide +kernel
theorem d_Law_law_1944 : decode M_Law_law.2.1 1944 = .ok (.invokevirtual 226, 3) := by decide +kernel
theorem d_Law_law_1947 : decode M_Law_law.2.1 1947 = .ok (.if_icmp .eq 137, 3) := by decide +kernel
theorem d_Law_law_1950 : decode M_Law_law.2.1 1950 = .ok (.iconst 0, 1) := by decide +kernel
theorem d_Law_law_1951 : decode M_Law_law.2.1 1951 = .ok (.ireturn, 1) := by decide +kernel
theorem d_Law_law_1952 : decode M_Law_law.2.1 1952 = .ok (.aload_n 1, 1) := by decide +kernel
theorem d_Law_law_1953 : decode M_Law_law.2.1 1953 = .ok (.invokevirtual 227, 3) := by decide +kernel
theorem d_Law_law_1956 : decode M_Law_law.2.1 1956 = .ok (.aload_n 2, 1) := by decide +kernel
theorem d_Law_law_1957 : decode M_Law_law.2.1 1957 = .ok (.invokevirtual 230, 3) := by decide +kernel
theorem d_Law_law_1960 : decode M_Law_law.2.1 1960 = .ok (.if_icmp .eq 124, 3) := by decide +kernel
theorem d_Law_law_1963 : decode M_Law_law.2.1 1963 = .ok (.iconst 0, 1) := by decide +kernel
theorem d_Law_law_1964 : decode M_Law_law.2.1 1964 = .ok (.ireturn, 1) := by decide +kernel
theorem d_Law_law_1965 : decode M_Law_law.2.1 1965 = .ok (.aload_n 1, 1) := by decide +kernel
theorem d_Law_law_1966 : decode M_Law_law.2.1 1966 = .ok (.aload_n 0, 1) := by decide +kernel
theorem d_Law_law_1967 : decode M_Law_law.2.1 1967 = .ok (.iload 4, 2) := by decide +kernel
theorem d_Law_law_1969 : decode M_Law_law.2.1 1969 = .ok (.iconst 1, 1) := by decide +kernel
theorem d_Law_law_1970 : decode M_Law_law.2.1 1970 = .ok (.iadd, 1) := by decide +kernel
theorem d_Law_law_1971 : decode M_Law_law.2.1 1971 = .ok (.iaload, 1) := by decide +kernel
theorem d_Law_law_1972 : decode M_Law_law.2.1 1972 = .ok (.invokevirtual 231, 3) := by decide +kernel
theorem d_Law_law_1975 : decode M_Law_law.2.1 1975 = .ok (.aload_n 2, 1) := by decide +kernel
theorem d_Law_law_1976 : decode M_Law_law.2.1 1976 = .ok (.aload_n 0, 1) := by decide +kernel
theorem d_Law_law_1977 : decode M_Law_law.2.1 1977 = .ok (.iload 4, 2) := by decide +kernel
theorem d_Law_law_1979 : decode M_Law_law.2.1 1979 = .ok (.iconst 1, 1) := by decide +kernel
theorem d_Law_law_1980 : decode M_Law_law.2.1 1980 = .ok (.iadd, 1) := by decide +kernel
theorem d_Law_law_1981 : decode M_Law_law.2.1 1981 = .ok (.iaload, 1) := by decide +kernel
theorem d_Law_law_1982 : decode M_Law_law.2.1 1982 = .ok (.invokevirtual 235, 3) := by decide +kernel
theorem d_Law_law_1985 : decode M_Law_law.2.1 1985 = .ok (.if_icmp .eq 99, 3) := by decide +kernel
theorem d_Law_law_1988 : decode M_Law_law.2.1 1988 = .ok (.iconst 0, 1) := by decide +kernel
theorem d_Law_law_1989 : decode M_Law_law.2.1 1989 = .ok (.ireturn, 1) := by decide +kernel
theorem d_Law_law_1990 : decode M_Law_law.2.1 1990 = .ok (.aload_n 1, 1) := by decide +kernel
theorem d_Law_law_1991 : decode M_Law_law.2.1 1991 = .ok (.aload_n 0, 1) := by decide +kernel
theorem d_Law_law_1992 : decode M_Law_law.2.1 1992 = .ok (.iload 4, 2) := by decide +kernel
theorem d_Law_law_1994 : decode M_Law_law.2.1 1994 = .ok (.iconst 1, 1) := by decide +kernel
theorem d_Law_law_1995 : decode M_Law_law.2.1 1995 = .ok (.iadd, 1) := by decide +kernel
theorem d_Law_law_1996 : decode M_Law_law.2.1 1996 = .ok (.iaload, 1) := by decide +kernel
theorem d_Law_law_1997 : decode M_Law_law.2.1 1997 = .ok (.aload_n 3, 1) := by decide +kernel
theorem d_Law_law_1998 : decode M_Law_law.2.1 1998 = .ok (.invokestatic 236, 3) := by decide +kernel
theorem d_Law_law_2001 : decode M_Law_law.2.1 2001 = .ok (.istore 5, 2) := by decide +kernel
theorem d_Law_law_2003 : decode M_Law_law.2.1 2003 = .ok (.aload_n 2, 1) := by decide +kernel
theorem d_Law_law_2004 : decode M_Law_law.2.1 2004 = .ok (.aload_n 0, 1) := by decide +kernel
theorem d_Law_law_2005 : decode M_Law_law.2.1 2005 = .ok (.iload 4, 2) := by decide +kernel
theorem d_Law_law_2007 : decode M_Law_law.2.1 2007 = .ok (.iconst 1, 1) := by decide +kernel
theorem d_Law_law_2008 : decode M_Law_law.2.1 2008 = .ok (.iadd, 1) := by decide +kernel
theorem d_Law_law_2009 : decode M_Law_law.2.1 2009 = .ok (.iaload, 1) := by decide +kernel
theorem d_Law_law_2010 : decode M_Law_law.2.1 2010 = .ok (.invokevirtual 241, 3) := by decide +kernel
theorem d_Law_law_2013 : decode M_Law_law.2.1 2013 = .ok (.istore 6, 2) := by decide +kernel
theorem d_Law_law_2015 : decode M_Law_law.2.1 2015 = .ok (.aload_n 2, 1) := by decide +kernel
theorem d_Law_law_2016 : decode M_Law_law.2.1 2016 = .ok (.invokevirtual 242, 3) := by decide +kernel
theorem d_Law_law_2019 : decode M_Law_law.2.1 2019 = .ok (.iload 5, 2) := by decide +kernel
theorem d_Law_law_2021 : decode M_Law_law.2.1 2021 = .ok (.if_icmp .eq 5, 3) := by decide +kernel
theorem d_Law_law_2024 : decode M_Law_law.2.1 2024 = .ok (.iconst 0, 1) := by decide +kernel
theorem d_Law_law_2025 : decode M_Law_law.2.1 2025 = .ok (.ireturn, 1) := by decide +kernel
theorem d_Law_law_2026 : decode M_Law_law.2.1 2026 = .ok (.iload 5, 2) := by decide +kernel
theorem d_Law_law_2028 : decode M_Law_law.2.1 2028 = .ok (.ifCond .ne 15, 3) := by decide +kernel
theorem d_Law_law_2031 : decode M_Law_law.2.1 2031 = .ok (.aload_n 3, 1) := by decide +kernel
theorem d_Law_law_2032 : decode M_Law_law.2.1 2032 = .ok (.iconst 0, 1) := by decide +kernel
theorem d_Law_law_2033 : decode M_Law_law.2.1 2033 = .ok (.laload, 1) := by decide +kernel
theorem d_Law_law_2034 : decode M_Law_law.2.1 2034 = .ok (.iload 6, 2) := by decide +kernel
theorem d_Law_law_2036 : decode M_Law_law.2.1 2036 = .ok (.i2l, 1) := by decide +kernel
theorem d_Law_law_2037 : decode M_Law_law.2.1 2037 = .ok (.lcmp, 1) := by decide +kernel
theorem d_Law_law_2038 : decode M_Law_law.2.1 2038 = .ok (.ifCond .eq 5, 3) := by decide +kernel
theorem d_Law_law_2041 : decode M_Law_law.2.1 2041 = .ok (.iconst 0, 1) := by decide +kernel
theorem d_Law_law_2042 : decode M_Law_law.2.1 2042 = .ok (.ireturn, 1) := by decide +kernel
theorem d_Law_law_2043 : decode M_Law_law.2.1 2043 = .ok (.goto 41, 3) := by decide +kernel
theorem d_Law_law_2046 : decode M_Law_law.2.1 2046 = .ok (.aload_n 1, 1) := by decide +kernel
theorem d_Law_law_2047 : decode M_Law_law.2.1 2047 = .ok (.aload_n 0, 1) := by decide +kernel
theorem d_Law_law_2048 : decode M_Law_law.2.1 2048 = .ok (.iload 4, 2) := by decide +kernel
theorem d_Law_law_2050 : decode M_Law_law.2.1 2050 = .ok (.iconst 1, 1) := by decide +kernel
theorem d_Law_law_2051 : decode M_Law_law.2.1 2051 = .ok (.iadd, 1) := by decide +kernel
theorem d_Law_law_2052 : decode M_Law_law.2.1 2052 = .ok (.iaload, 1) := by decide +kernel
theorem d_Law_law_2053 : decode M_Law_law.2.1 2053 = .ok (.invokevirtual 245, 3) := by decide +kernel
theorem d_Law_law_2056 : decode M_Law_law.2.1 2056 = .ok (.aload_n 2, 1) := by decide +kernel
theorem d_Law_law_2057 : decode M_Law_law.2.1 2057 = .ok (.aload_n 0, 1) := by decide +kernel
theorem d_Law_law_2058 : decode M_Law_law.2.1 2058 = .ok (.iload 4, 2) := by decide +kernel
theorem d_Law_law_2060 : decode M_Law_law.2.1 2060 = .ok (.iconst 1, 1) := by decide +kernel
theorem d_Law_law_2061 : decode M_Law_law.2.1 2061 = .ok (.iadd, 1) := by decide +kernel
theorem d_Law_law_2062 : decode M_Law_law.2.1 2062 = .ok (.iaload, 1) := by decide +kernel
theorem d_Law_law_2063 : decode M_Law_law.2.1 2063 = .ok (.invokevirtual 248, 3) := by decide +kernel
theorem d_Law_law_2066 : decode M_Law_law.2.1 2066 = .ok (.if_icmp .eq 18, 3) := by decide +kernel
theorem d_Law_law_2069 : decode M_Law_law.2.1 2069 = .ok (.iconst 0, 1) := by decide +kernel
theorem d_Law_law_2070 : decode M_Law_law.2.1 2070 = .ok (.ireturn, 1) := by decide +kernel
theorem d_Law_law_2071 : decode M_Law_law.2.1 2071 = .ok (.aload_n 1, 1) := by decide +kernel
theorem d_Law_law_2072 : decode M_Law_law.2.1 2072 = .ok (.invokevirtual 249, 3) := by decide +kernel
theorem d_Law_law_2075 : decode M_Law_law.2.1 2075 = .ok (.aload_n 2, 1) := by decide +kernel
theorem d_Law_law_2076 : decode M_Law_law.2.1 2076 = .ok (.invokevirtual 252, 3) := by decide +kernel
theorem d_Law_law_2079 : decode M_Law_law.2.1 2079 = .ok (.if_icmp .eq 5, 3) := by decide +kernel
theorem d_Law_law_2082 : decode M_Law_law.2.1 2082 = .ok (.iconst 0, 1) := by decide +kernel
theorem d_Law_law_2083 : decode M_Law_law.2.1 2083 = .ok (.ireturn, 1) := by decide +kernel
theorem d_Law_law_2084 : decode M_Law_law.2.1 2084 = .ok (.iinc 4 6, 3) := by decide +kernel
theorem d_Law_law_2087 : decode M_Law_law.2.1 2087 = .ok (.goto (-2064), 3) := by decide +kernel
theorem d_Law_law_2090 : decode M_Law_law.2.1 2090 = .ok (.iconst 1, 1) := by decide +kernel
theorem d_Law_law_2091 : decode M_Law_law.2.1 2091 = .ok (.ireturn, 1) := by decide +kernel
theorem sp_lcmp (x : Int64) : lg_cmp x x = 0 := by
  unfold lg_cmp
  simp
section CASES
variable {L i k n : Nat} {xs : Nat → Int32} {I : Nat → Nat → Int32} {J : Nat → Nat → Int64} {R : Nat → Nat → Option Nat}
set_option maxRecDepth 4000 in
theorem lw_case_0 (hR : ow_RF R) (hW : sp_W I) (hkn : k ≤ 601024 ∧ n ≤ 7293034) (hv : ∀ j, j < 6 → vp_in (nI i + nI j) L) (next : ∀ (I2 : Nat → Nat → Int32) (J2 : Nat → Nat → Int64) (R2 : Nat → Nat → Option Nat) (k2 n2 : Nat), ow_RF R2 → sp_W I2 → k2 ≤ k + 1 → n2 ≤ n + 6 → ow_AW ow_Y1 (ow_Zw L xs) M_Law_law 40 601024 7293034 2084 [(0, .ref 980), (1, .ref 0), (2, .ref 70), (3, .ref 84), (4, .int (nI i))] [] (85, I2, J2, R2) k2 n2) : ow_AW ow_Y1 (ow_Zw L xs) M_Law_law 40 601024 7293034 272 [(0, .ref 980), (1, .ref 0), (2, .ref 70), (3, .ref 84), (4, .int (nI i))] [] (85, I, J, R) k n := by
  refine ow_aload_n 1 rfl d_Law_law_272 ?_
  refine ow_aload_n 0 rfl d_Law_law_273 ?_
  refine ow_iload 4 rfl d_Law_law_274 ?_
  refine ow_iconst (v := 1) (by decide) d_Law_law_276 ?_
  refine ow_iadd d_Law_law_277 ?_
  refine ow_sld d_Law_law_278 (hv 1 (by decide)) ?_
  refine ow_aload_n 0 rfl d_Law_law_279 ?_
  refine ow_iload 4 rfl d_Law_law_280 ?_
  refine ow_iconst (v := 2) (by decide) d_Law_law_282 ?_
  refine ow_iadd d_Law_law_283 ?_
  refine ow_sld d_Law_law_284 (hv 2 (by decide)) ?_
  refine ow_aload_n 0 rfl d_Law_law_285 ?_
  refine ow_iload 4 rfl d_Law_law_286 ?_
  refine ow_iconst (v := 3) (by decide) d_Law_law_288 ?_
  refine ow_iadd d_Law_law_289 ?_
  refine ow_sld d_Law_law_290 (hv 3 (by decide)) ?_
  refine ow_aload_n 0 rfl d_Law_law_291 ?_
  refine ow_iload 4 rfl d_Law_law_292 ?_
  refine ow_iconst (v := 4) (by decide) d_Law_law_294 ?_
  refine ow_iadd d_Law_law_295 ?_
  refine ow_sld d_Law_law_296 (hv 4 (by decide)) ?_
  refine ow_aload_n 0 rfl d_Law_law_297 ?_
  refine ow_iload 4 rfl d_Law_law_298 ?_
  refine ow_iconst (v := 5) (by decide) d_Law_law_300 ?_
  refine ow_iadd d_Law_law_301 ?_
  refine ow_sld d_Law_law_302 (hv 5 (by decide)) ?_
  refine ow_callV (b := 0) (cq := 11) (As := [.int (xs (nI i + 1).toNatClampNeg), .int (xs (nI i + 2).toNatClampNeg), .int (xs (nI i + 3).toNatClampNeg), .int (xs (nI i + 4).toNatClampNeg), .int (xs (nI i + 5).toNatClampNeg)]) (rest := []) (d2 := 39) d_Law_law_303 l_Law_19 v_Fs_feed (show 0 < 85 by decide) rfl (by decide) rfl (Nat.le_of_ble_eq_true rfl) (Nat.le_refl _) hkn ?_
  refine (p_feed) 27 I J R _ hR hW ?_
  intro v I2 J2 R2 hR2 hM
  show ow_AW ow_Y1 (ow_Zw L xs) M_Law_law 40 601024 7293034 306 [(0, .ref 980), (1, .ref 0), (2, .ref 70), (3, .ref 84), (4, .int (nI i))] [.int v] (85, I2, J2, R2) k n
  refine ow_aload_n 2 rfl d_Law_law_306 ?_
  refine ow_aload_n 0 rfl d_Law_law_307 ?_
  refine ow_iload 4 rfl d_Law_law_308 ?_
  refine ow_iconst (v := 1) (by decide) d_Law_law_310 ?_
  refine ow_iadd d_Law_law_311 ?_
  refine ow_sld d_Law_law_312 (hv 1 (by decide)) ?_
  refine ow_aload_n 0 rfl d_Law_law_313 ?_
  refine ow_iload 4 rfl d_Law_law_314 ?_
  refine ow_iconst (v := 2) (by decide) d_Law_law_316 ?_
  refine ow_iadd d_Law_law_317 ?_
  refine ow_sld d_Law_law_318 (hv 2 (by decide)) ?_
  refine ow_aload_n 0 rfl d_Law_law_319 ?_
  refine ow_iload 4 rfl d_Law_law_320 ?_
  refine ow_iconst (v := 3) (by decide) d_Law_law_322 ?_
  refine ow_iadd d_Law_law_323 ?_
  refine ow_sld d_Law_law_324 (hv 3 (by decide)) ?_
  refine ow_aload_n 0 rfl d_Law_law_325 ?_
  refine ow_iload 4 rfl d_Law_law_326 ?_
  refine ow_iconst (v := 4) (by decide) d_Law_law_328 ?_
  refine ow_iadd d_Law_law_329 ?_
  refine ow_sld d_Law_law_330 (hv 4 (by decide)) ?_
  refine ow_aload_n 0 rfl d_Law_law_331 ?_
  refine ow_iload 4 rfl d_Law_law_332 ?_
  refine ow_iconst (v := 5) (by decide) d_Law_law_334 ?_
  refine ow_iadd d_Law_law_335 ?_
  refine ow_sld d_Law_law_336 (hv 5 (by decide)) ?_
  refine ow_callV (b := 70) (cq := 12) (As := [.int (xs (nI i + 1).toNatClampNeg), .int (xs (nI i + 2).toNatClampNeg), .int (xs (nI i + 3).toNatClampNeg), .int (xs (nI i + 4).toNatClampNeg), .int (xs (nI i + 5).toNatClampNeg)]) (rest := [.int v]) (d2 := 39) d_Law_law_337 l_Law_23 v_Mo_feed (show 70 < 85 by decide) rfl (by decide) rfl (Nat.le_of_ble_eq_true rfl) (Nat.le_refl _) hkn ?_
  refine hM _ ?_
  intro I3 J3 R3 hR3 hW3
  show ow_AW ow_Y1 (ow_Zw L xs) M_Law_law 40 601024 7293034 340 [(0, .ref 980), (1, .ref 0), (2, .ref 70), (3, .ref 84), (4, .int (nI i))] [.int v, .int v] (85, I3, J3, R3) k n
  exact ow_icmp_eq (tgt := 2084) d_Law_law_340 (by decide) (fun _ => next I3 J3 R3 k n hR3 hW3 (Nat.le_succ _) (Nat.le_add_right _ _)) (fun c => absurd rfl c)
set_option maxRecDepth 4000 in
theorem lw_case_1 (hR : ow_RF R) (hW : sp_W I) (hkn : k ≤ 601024 ∧ n ≤ 7293034) (hv : ∀ j, j < 6 → vp_in (nI i + nI j) L) (next : ∀ (I2 : Nat → Nat → Int32) (J2 : Nat → Nat → Int64) (R2 : Nat → Nat → Option Nat) (k2 n2 : Nat), ow_RF R2 → sp_W I2 → k2 ≤ k + 1 → n2 ≤ n + 6 → ow_AW ow_Y1 (ow_Zw L xs) M_Law_law 40 601024 7293034 2084 [(0, .ref 980), (1, .ref 0), (2, .ref 70), (3, .ref 84), (4, .int (nI i))] [] (85, I2, J2, R2) k2 n2) : ow_AW ow_Y1 (ow_Zw L xs) M_Law_law 40 601024 7293034 345 [(0, .ref 980), (1, .ref 0), (2, .ref 70), (3, .ref 84), (4, .int (nI i))] [] (85, I, J, R) k n := by
  refine ow_aload_n 1 rfl d_Law_law_345 ?_
  refine ow_aload_n 0 rfl d_Law_law_346 ?_
  refine ow_iload 4 rfl d_Law_law_347 ?_
  refine ow_iconst (v := 1) (by decide) d_Law_law_349 ?_
  refine ow_iadd d_Law_law_350 ?_
  refine ow_sld d_Law_law_351 (hv 1 (by decide)) ?_
  refine ow_callV (b := 0) (cq := 11) (As := [.int (xs (nI i + 1).toNatClampNeg)]) (rest := []) (d2 := 39) d_Law_law_352 l_Law_24 v_Fs_shire (show 0 < 85 by decide) rfl (by decide) rfl (Nat.le_of_ble_eq_true rfl) (Nat.le_refl _) hkn ?_
  refine (p_shire) 27 I J R _ hR hW ?_
  intro v I2 J2 R2 hR2 hM
  show ow_AW ow_Y1 (ow_Zw L xs) M_Law_law 40 601024 7293034 355 [(0, .ref 980), (1, .ref 0), (2, .ref 70), (3, .ref 84), (4, .int (nI i))] [.int v] (85, I2, J2, R2) k n
  refine ow_aload_n 2 rfl d_Law_law_355 ?_
  refine ow_aload_n 0 rfl d_Law_law_356 ?_
  refine ow_iload 4 rfl d_Law_law_357 ?_
  refine ow_iconst (v := 1) (by decide) d_Law_law_359 ?_
  refine ow_iadd d_Law_law_360 ?_
  refine ow_sld d_Law_law_361 (hv 1 (by decide)) ?_
  refine ow_callV (b := 70) (cq := 12) (As := [.int (xs (nI i + 1).toNatClampNeg)]) (rest := [.int v]) (d2 := 39) d_Law_law_362 l_Law_27 v_Mo_shire (show 70 < 85 by decide) rfl (by decide) rfl (Nat.le_of_ble_eq_true rfl) (Nat.le_refl _) hkn ?_
  refine hM _ ?_
  intro I3 J3 R3 hR3 hW3
  show ow_AW ow_Y1 (ow_Zw L xs) M_Law_law 40 601024 7293034 365 [(0, .ref 980), (1, .ref 0), (2, .ref 70), (3, .ref 84), (4, .int (nI i))] [.int v, .int v] (85, I3, J3, R3) k n
  exact ow_icmp_eq (tgt := 2084) d_Law_law_365 (by decide) (fun _ => next I3 J3 R3 k n hR3 hW3 (Nat.le_succ _) (Nat.le_add_right _ _)) (fun c => absurd rfl c)
set_option maxRecDepth 4000 in
theorem lw_case_2 (hR : ow_RF R) (hW : sp_W I) (hkn : k ≤ 601024 ∧ n ≤ 7293034) (hv : ∀ j, j < 6 → vp_in (nI i + nI j) L) (next : ∀ (I2 : Nat → Nat → Int32) (J2 : Nat → Nat → Int64) (R2 : Nat → Nat → Option Nat) (k2 n2 : Nat), ow_RF R2 → sp_W I2 → k2 ≤ k + 1 → n2 ≤ n + 6 → ow_AW ow_Y1 (ow_Zw L xs) M_Law_law 40 601024 7293034 2084 [(0, .ref 980), (1, .ref 0), (2, .ref 70), (3, .ref 84), (4, .int (nI i))] [] (85, I2, J2, R2) k2 n2) : ow_AW ow_Y1 (ow_Zw L xs) M_Law_law 40 601024 7293034 370 [(0, .ref 980), (1, .ref 0), (2, .ref 70), (3, .ref 84), (4, .int (nI i))] [] (85, I, J, R) k n := by
  refine ow_aload_n 1 rfl d_Law_law_370 ?_
  refine ow_callV (b := 0) (cq := 11) (As := []) (rest := []) (d2 := 39) d_Law_law_371 l_Law_28 v_Fs_fault (show 0 < 85 by decide) rfl (by decide) rfl (Nat.le_of_ble_eq_true rfl) (Nat.le_refl _) hkn ?_
  refine (p_fault) 27 I J R _ hR hW ?_
  intro v I2 J2 R2 hR2 hM
  show ow_AW ow_Y1 (ow_Zw L xs) M_Law_law 40 601024 7293034 374 [(0, .ref 980), (1, .ref 0), (2, .ref 70), (3, .ref 84), (4, .int (nI i))] [.int v] (85, I2, J2, R2) k n
  refine ow_aload_n 2 rfl d_Law_law_374 ?_
  refine ow_callV (b := 70) (cq := 12) (As := []) (rest := [.int v]) (d2 := 39) d_Law_law_375 l_Law_32 v_Mo_fault (show 70 < 85 by decide) rfl (by decide) rfl (Nat.le_of_ble_eq_true rfl) (Nat.le_refl _) hkn ?_
  refine hM _ ?_
  intro I3 J3 R3 hR3 hW3
  show ow_AW ow_Y1 (ow_Zw L xs) M_Law_law 40 601024 7293034 378 [(0, .ref 980), (1, .ref 0), (2, .ref 70), (3, .ref 84), (4, .int (nI i))] [.int v, .int v] (85, I3, J3, R3) k n
  exact ow_icmp_eq (tgt := 2084) d_Law_law_378 (by decide) (fun _ => next I3 J3 R3 k n hR3 hW3 (Nat.le_succ _) (Nat.le_add_right _ _)) (fun c => absurd rfl c)
set_option maxRecDepth 4000 in
theorem lw_case_3 (hR : ow_RF R) (hW : sp_W I) (hkn : k ≤ 601024 ∧ n ≤ 7293034) (hv : ∀ j, j < 6 → vp_in (nI i + nI j) L) (next : ∀ (I2 : Nat → Nat → Int32) (J2 : Nat → Nat → Int64) (R2 : Nat → Nat → Option Nat) (k2 n2 : Nat), ow_RF R2 → sp_W I2 → k2 ≤ k + 1 → n2 ≤ n + 6 → ow_AW ow_Y1 (ow_Zw L xs) M_Law_law 40 601024 7293034 2084 [(0, .ref 980), (1, .ref 0), (2, .ref 70), (3, .ref 84), (4, .int (nI i))] [] (85, I2, J2, R2) k2 n2) : ow_AW ow_Y1 (ow_Zw L xs) M_Law_law 40 601024 7293034 383 [(0, .ref 980), (1, .ref 0), (2, .ref 70), (3, .ref 84), (4, .int (nI i))] [] (85, I, J, R) k n := by
  refine ow_aload_n 1 rfl d_Law_law_383 ?_
  refine ow_callV (b := 0) (cq := 11) (As := []) (rest := []) (d2 := 39) d_Law_law_384 l_Law_33 v_Fs_where (show 0 < 85 by decide) rfl (by decide) rfl (Nat.le_of_ble_eq_true rfl) (Nat.le_refl _) hkn ?_
  refine (p_where) 27 I J R _ hR hW ?_
  intro v I2 J2 R2 hR2 hM
  show ow_AW ow_Y1 (ow_Zw L xs) M_Law_law 40 601024 7293034 387 [(0, .ref 980), (1, .ref 0), (2, .ref 70), (3, .ref 84), (4, .int (nI i))] [.int v] (85, I2, J2, R2) k n
  refine ow_aload_n 2 rfl d_Law_law_387 ?_
  refine ow_callV (b := 70) (cq := 12) (As := []) (rest := [.int v]) (d2 := 39) d_Law_law_388 l_Law_36 v_Mo_where (show 70 < 85 by decide) rfl (by decide) rfl (Nat.le_of_ble_eq_true rfl) (Nat.le_refl _) hkn ?_
  refine hM _ ?_
  intro I3 J3 R3 hR3 hW3
  show ow_AW ow_Y1 (ow_Zw L xs) M_Law_law 40 601024 7293034 391 [(0, .ref 980), (1, .ref 0), (2, .ref 70), (3, .ref 84), (4, .int (nI i))] [.int v, .int v] (85, I3, J3, R3) k n
  exact ow_icmp_eq (tgt := 2084) d_Law_law_391 (by decide) (fun _ => next I3 J3 R3 k n hR3 hW3 (Nat.le_succ _) (Nat.le_add_right _ _)) (fun c => absurd rfl c)
set_option maxRecDepth 4000 in
theorem lw_case_4 (hR : ow_RF R) (hW : sp_W I) (hkn : k ≤ 601024 ∧ n ≤ 7293034) (hv : ∀ j, j < 6 → vp_in (nI i + nI j) L) (next : ∀ (I2 : Nat → Nat → Int32) (J2 : Nat → Nat → Int64) (R2 : Nat → Nat → Option Nat) (k2 n2 : Nat), ow_RF R2 → sp_W I2 → k2 ≤ k + 1 → n2 ≤ n + 6 → ow_AW ow_Y1 (ow_Zw L xs) M_Law_law 40 601024 7293034 2084 [(0, .ref 980), (1, .ref 0), (2, .ref 70), (3, .ref 84), (4, .int (nI i))] [] (85, I2, J2, R2) k2 n2) : ow_AW ow_Y1 (ow_Zw L xs) M_Law_law 40 601024 7293034 396 [(0, .ref 980), (1, .ref 0), (2, .ref 70), (3, .ref 84), (4, .int (nI i))] [] (85, I, J, R) k n := by
  refine ow_aload_n 1 rfl d_Law_law_396 ?_
  refine ow_aload_n 0 rfl d_Law_law_397 ?_
  refine ow_iload 4 rfl d_Law_law_398 ?_
  refine ow_iconst (v := 1) (by decide) d_Law_law_400 ?_
  refine ow_iadd d_Law_law_401 ?_
  refine ow_sld d_Law_law_402 (hv 1 (by decide)) ?_
  refine ow_aload_n 0 rfl d_Law_law_403 ?_
  refine ow_iload 4 rfl d_Law_law_404 ?_
  refine ow_iconst (v := 2) (by decide) d_Law_law_406 ?_
  refine ow_iadd d_Law_law_407 ?_
  refine ow_sld d_Law_law_408 (hv 2 (by decide)) ?_
  refine ow_callV (b := 0) (cq := 11) (As := [.int (xs (nI i + 1).toNatClampNeg), .int (xs (nI i + 2).toNatClampNeg)]) (rest := []) (d2 := 39) d_Law_law_409 l_Law_37 v_Fs_folly (show 0 < 85 by decide) rfl (by decide) rfl (Nat.le_of_ble_eq_true rfl) (Nat.le_refl _) hkn ?_
  refine (sp_U_of p_folly) 27 I J R _ hR hW ?_
  intro v I2 J2 R2 hR2 hM
  show ow_AW ow_Y1 (ow_Zw L xs) M_Law_law 40 601024 7293034 412 [(0, .ref 980), (1, .ref 0), (2, .ref 70), (3, .ref 84), (4, .int (nI i))] [.int v] (85, I2, J2, R2) k n
  refine ow_aload_n 2 rfl d_Law_law_412 ?_
  refine ow_aload_n 0 rfl d_Law_law_413 ?_
  refine ow_iload 4 rfl d_Law_law_414 ?_
  refine ow_iconst (v := 1) (by decide) d_Law_law_416 ?_
  refine ow_iadd d_Law_law_417 ?_
  refine ow_sld d_Law_law_418 (hv 1 (by decide)) ?_
  refine ow_aload_n 0 rfl d_Law_law_419 ?_
  refine ow_iload 4 rfl d_Law_law_420 ?_
  refine ow_iconst (v := 2) (by decide) d_Law_law_422 ?_
  refine ow_iadd d_Law_law_423 ?_
  refine ow_sld d_Law_law_424 (hv 2 (by decide)) ?_
  refine ow_callV (b := 70) (cq := 12) (As := [.int (xs (nI i + 1).toNatClampNeg), .int (xs (nI i + 2).toNatClampNeg)]) (rest := [.int v]) (d2 := 39) d_Law_law_425 l_Law_41 v_Mo_folly (show 70 < 85 by decide) rfl (by decide) rfl (Nat.le_of_ble_eq_true rfl) (Nat.le_refl _) hkn ?_
  refine hM _ ?_
  intro I3 J3 R3 hR3 hW3
  show ow_AW ow_Y1 (ow_Zw L xs) M_Law_law 40 601024 7293034 428 [(0, .ref 980), (1, .ref 0), (2, .ref 70), (3, .ref 84), (4, .int (nI i))] [.int v, .int v] (85, I3, J3, R3) k n
  exact ow_icmp_eq (tgt := 2084) d_Law_law_428 (by decide) (fun _ => next I3 J3 R3 k n hR3 hW3 (Nat.le_succ _) (Nat.le_add_right _ _)) (fun c => absurd rfl c)
set_option maxRecDepth 4000 in
theorem lw_case_5 (hR : ow_RF R) (hW : sp_W I) (hkn : k ≤ 601024 ∧ n ≤ 7293034) (hv : ∀ j, j < 6 → vp_in (nI i + nI j) L) (next : ∀ (I2 : Nat → Nat → Int32) (J2 : Nat → Nat → Int64) (R2 : Nat → Nat → Option Nat) (k2 n2 : Nat), ow_RF R2 → sp_W I2 → k2 ≤ k + 1 → n2 ≤ n + 6 → ow_AW ow_Y1 (ow_Zw L xs) M_Law_law 40 601024 7293034 2084 [(0, .ref 980), (1, .ref 0), (2, .ref 70), (3, .ref 84), (4, .int (nI i))] [] (85, I2, J2, R2) k2 n2) : ow_AW ow_Y1 (ow_Zw L xs) M_Law_law 40 601024 7293034 433 [(0, .ref 980), (1, .ref 0), (2, .ref 70), (3, .ref 84), (4, .int (nI i))] [] (85, I, J, R) k n := by
  refine ow_aload_n 1 rfl d_Law_law_433 ?_
  refine ow_aload_n 0 rfl d_Law_law_434 ?_
  refine ow_iload 4 rfl d_Law_law_435 ?_
  refine ow_iconst (v := 1) (by decide) d_Law_law_437 ?_
  refine ow_iadd d_Law_law_438 ?_
  refine ow_sld d_Law_law_439 (hv 1 (by decide)) ?_
  refine ow_aload_n 0 rfl d_Law_law_440 ?_
  refine ow_iload 4 rfl d_Law_law_441 ?_
  refine ow_iconst (v := 2) (by decide) d_Law_law_443 ?_
  refine ow_iadd d_Law_law_444 ?_
  refine ow_sld d_Law_law_445 (hv 2 (by decide)) ?_
  refine ow_callV (b := 0) (cq := 11) (As := [.int (xs (nI i + 1).toNatClampNeg), .int (xs (nI i + 2).toNatClampNeg)]) (rest := []) (d2 := 39) d_Law_law_446 l_Law_42 v_Fs_estate (show 0 < 85 by decide) rfl (by decide) rfl (Nat.le_of_ble_eq_true rfl) (Nat.le_refl _) hkn ?_
  refine (sp_U_of p_estate) 27 I J R _ hR hW ?_
  intro v I2 J2 R2 hR2 hM
  show ow_AW ow_Y1 (ow_Zw L xs) M_Law_law 40 601024 7293034 449 [(0, .ref 980), (1, .ref 0), (2, .ref 70), (3, .ref 84), (4, .int (nI i))] [.int v] (85, I2, J2, R2) k n
  refine ow_aload_n 2 rfl d_Law_law_449 ?_
  refine ow_aload_n 0 rfl d_Law_law_450 ?_
  refine ow_iload 4 rfl d_Law_law_451 ?_
  refine ow_iconst (v := 1) (by decide) d_Law_law_453 ?_
  refine ow_iadd d_Law_law_454 ?_
  refine ow_sld d_Law_law_455 (hv 1 (by decide)) ?_
  refine ow_aload_n 0 rfl d_Law_law_456 ?_
  refine ow_iload 4 rfl d_Law_law_457 ?_
  refine ow_iconst (v := 2) (by decide) d_Law_law_459 ?_
  refine ow_iadd d_Law_law_460 ?_
  refine ow_sld d_Law_law_461 (hv 2 (by decide)) ?_
  refine ow_callV (b := 70) (cq := 12) (As := [.int (xs (nI i + 1).toNatClampNeg), .int (xs (nI i + 2).toNatClampNeg)]) (rest := [.int v]) (d2 := 39) d_Law_law_462 l_Law_45 v_Mo_estate (show 70 < 85 by decide) rfl (by decide) rfl (Nat.le_of_ble_eq_true rfl) (Nat.le_refl _) hkn ?_
  refine hM _ ?_
  intro I3 J3 R3 hR3 hW3
  show ow_AW ow_Y1 (ow_Zw L xs) M_Law_law 40 601024 7293034 465 [(0, .ref 980), (1, .ref 0), (2, .ref 70), (3, .ref 84), (4, .int (nI i))] [.int v, .int v] (85, I3, J3, R3) k n
  exact ow_icmp_eq (tgt := 2084) d_Law_law_465 (by decide) (fun _ => next I3 J3 R3 k n hR3 hW3 (Nat.le_succ _) (Nat.le_add_right _ _)) (fun c => absurd rfl c)
set_option maxRecDepth 4000 in
theorem lw_case_6 (hR : ow_RF R) (hW : sp_W I) (hkn : k ≤ 601024 ∧ n ≤ 7293034) (hv : ∀ j, j < 6 → vp_in (nI i + nI j) L) (next : ∀ (I2 : Nat → Nat → Int32) (J2 : Nat → Nat → Int64) (R2 : Nat → Nat → Option Nat) (k2 n2 : Nat), ow_RF R2 → sp_W I2 → k2 ≤ k + 1 → n2 ≤ n + 6 → ow_AW ow_Y1 (ow_Zw L xs) M_Law_law 40 601024 7293034 2084 [(0, .ref 980), (1, .ref 0), (2, .ref 70), (3, .ref 84), (4, .int (nI i))] [] (85, I2, J2, R2) k2 n2) : ow_AW ow_Y1 (ow_Zw L xs) M_Law_law 40 601024 7293034 470 [(0, .ref 980), (1, .ref 0), (2, .ref 70), (3, .ref 84), (4, .int (nI i))] [] (85, I, J, R) k n := by
  refine ow_aload_n 1 rfl d_Law_law_470 ?_
  refine ow_aload_n 0 rfl d_Law_law_471 ?_
  refine ow_iload 4 rfl d_Law_law_472 ?_
  refine ow_iconst (v := 1) (by decide) d_Law_law_474 ?_
  refine ow_iadd d_Law_law_475 ?_
  refine ow_sld d_Law_law_476 (hv 1 (by decide)) ?_
  refine ow_aload_n 0 rfl d_Law_law_477 ?_
  refine ow_iload 4 rfl d_Law_law_478 ?_
  refine ow_iconst (v := 2) (by decide) d_Law_law_480 ?_
  refine ow_iadd d_Law_law_481 ?_
  refine ow_sld d_Law_law_482 (hv 2 (by decide)) ?_
  refine ow_bool d_Law_law_483 d_Law_law_486 d_Law_law_487 d_Law_law_490 ?_
  refine ow_callV (b := 0) (cq := 11) (As := [.int (xs (nI i + 1).toNatClampNeg), .int (sp_jb (!decide ((xs (nI i + 2).toNatClampNeg) = 0)))]) (rest := []) (d2 := 39) d_Law_law_491 l_Law_46 v_Fs_answers (show 0 < 85 by decide) rfl (by decide) rfl (Nat.le_of_ble_eq_true rfl) (Nat.le_refl _) hkn ?_
  refine (sp_U_of p_answers) 27 I J R _ hR hW ?_
  intro v I2 J2 R2 hR2 hM
  show ow_AW ow_Y1 (ow_Zw L xs) M_Law_law 40 601024 7293034 494 [(0, .ref 980), (1, .ref 0), (2, .ref 70), (3, .ref 84), (4, .int (nI i))] [.int v] (85, I2, J2, R2) k n
  refine ow_aload_n 2 rfl d_Law_law_494 ?_
  refine ow_aload_n 0 rfl d_Law_law_495 ?_
  refine ow_iload 4 rfl d_Law_law_496 ?_
  refine ow_iconst (v := 1) (by decide) d_Law_law_498 ?_
  refine ow_iadd d_Law_law_499 ?_
  refine ow_sld d_Law_law_500 (hv 1 (by decide)) ?_
  refine ow_aload_n 0 rfl d_Law_law_501 ?_
  refine ow_iload 4 rfl d_Law_law_502 ?_
  refine ow_iconst (v := 2) (by decide) d_Law_law_504 ?_
  refine ow_iadd d_Law_law_505 ?_
  refine ow_sld d_Law_law_506 (hv 2 (by decide)) ?_
  refine ow_bool d_Law_law_507 d_Law_law_510 d_Law_law_511 d_Law_law_514 ?_
  refine ow_callV (b := 70) (cq := 12) (As := [.int (xs (nI i + 1).toNatClampNeg), .int (sp_jb (!decide ((xs (nI i + 2).toNatClampNeg) = 0)))]) (rest := [.int v]) (d2 := 39) d_Law_law_515 l_Law_50 v_Mo_answers (show 70 < 85 by decide) rfl (by decide) rfl (Nat.le_of_ble_eq_true rfl) (Nat.le_refl _) hkn ?_
  refine hM _ ?_
  intro I3 J3 R3 hR3 hW3
  show ow_AW ow_Y1 (ow_Zw L xs) M_Law_law 40 601024 7293034 518 [(0, .ref 980), (1, .ref 0), (2, .ref 70), (3, .ref 84), (4, .int (nI i))] [.int v, .int v] (85, I3, J3, R3) k n
  exact ow_icmp_eq (tgt := 2084) d_Law_law_518 (by decide) (fun _ => next I3 J3 R3 k n hR3 hW3 (Nat.le_succ _) (Nat.le_add_right _ _)) (fun c => absurd rfl c)
set_option maxRecDepth 4000 in
theorem lw_case_7 (hR : ow_RF R) (hW : sp_W I) (hkn : k ≤ 601024 ∧ n ≤ 7293034) (hv : ∀ j, j < 6 → vp_in (nI i + nI j) L) (next : ∀ (I2 : Nat → Nat → Int32) (J2 : Nat → Nat → Int64) (R2 : Nat → Nat → Option Nat) (k2 n2 : Nat), ow_RF R2 → sp_W I2 → k2 ≤ k + 1 → n2 ≤ n + 6 → ow_AW ow_Y1 (ow_Zw L xs) M_Law_law 40 601024 7293034 2084 [(0, .ref 980), (1, .ref 0), (2, .ref 70), (3, .ref 84), (4, .int (nI i))] [] (85, I2, J2, R2) k2 n2) : ow_AW ow_Y1 (ow_Zw L xs) M_Law_law 40 601024 7293034 523 [(0, .ref 980), (1, .ref 0), (2, .ref 70), (3, .ref 84), (4, .int (nI i))] [] (85, I, J, R) k n := by
  refine ow_aload_n 1 rfl d_Law_law_523 ?_
  refine ow_aload_n 0 rfl d_Law_law_524 ?_
  refine ow_iload 4 rfl d_Law_law_525 ?_
  refine ow_iconst (v := 1) (by decide) d_Law_law_527 ?_
  refine ow_iadd d_Law_law_528 ?_
  refine ow_sld d_Law_law_529 (hv 1 (by decide)) ?_
  refine ow_aload_n 0 rfl d_Law_law_530 ?_
  refine ow_iload 4 rfl d_Law_law_531 ?_
  refine ow_iconst (v := 2) (by decide) d_Law_law_533 ?_
  refine ow_iadd d_Law_law_534 ?_
  refine ow_sld d_Law_law_535 (hv 2 (by decide)) ?_
  refine ow_bool d_Law_law_536 d_Law_law_539 d_Law_law_540 d_Law_law_543 ?_
  refine ow_callV (b := 0) (cq := 11) (As := [.int (xs (nI i + 1).toNatClampNeg), .int (sp_jb (!decide ((xs (nI i + 2).toNatClampNeg) = 0)))]) (rest := []) (d2 := 39) d_Law_law_544 l_Law_51 v_Fs_signs (show 0 < 85 by decide) rfl (by decide) rfl (Nat.le_of_ble_eq_true rfl) (Nat.le_refl _) hkn ?_
  refine (sp_U_of p_signs) 27 I J R _ hR hW ?_
  intro v I2 J2 R2 hR2 hM
  show ow_AW ow_Y1 (ow_Zw L xs) M_Law_law 40 601024 7293034 547 [(0, .ref 980), (1, .ref 0), (2, .ref 70), (3, .ref 84), (4, .int (nI i))] [.int v] (85, I2, J2, R2) k n
  refine ow_aload_n 2 rfl d_Law_law_547 ?_
  refine ow_aload_n 0 rfl d_Law_law_548 ?_
  refine ow_iload 4 rfl d_Law_law_549 ?_
  refine ow_iconst (v := 1) (by decide) d_Law_law_551 ?_
  refine ow_iadd d_Law_law_552 ?_
  refine ow_sld d_Law_law_553 (hv 1 (by decide)) ?_
  refine ow_aload_n 0 rfl d_Law_law_554 ?_
  refine ow_iload 4 rfl d_Law_law_555 ?_
  refine ow_iconst (v := 2) (by decide) d_Law_law_557 ?_
  refine ow_iadd d_Law_law_558 ?_
  refine ow_sld d_Law_law_559 (hv 2 (by decide)) ?_
  refine ow_bool d_Law_law_560 d_Law_law_563 d_Law_law_564 d_Law_law_567 ?_
  refine ow_callV (b := 70) (cq := 12) (As := [.int (xs (nI i + 1).toNatClampNeg), .int (sp_jb (!decide ((xs (nI i + 2).toNatClampNeg) = 0)))]) (rest := [.int v]) (d2 := 39) d_Law_law_568 l_Law_54 v_Mo_signs (show 70 < 85 by decide) rfl (by decide) rfl (Nat.le_of_ble_eq_true rfl) (Nat.le_refl _) hkn ?_
  refine hM _ ?_
  intro I3 J3 R3 hR3 hW3
  show ow_AW ow_Y1 (ow_Zw L xs) M_Law_law 40 601024 7293034 571 [(0, .ref 980), (1, .ref 0), (2, .ref 70), (3, .ref 84), (4, .int (nI i))] [.int v, .int v] (85, I3, J3, R3) k n
  exact ow_icmp_eq (tgt := 2084) d_Law_law_571 (by decide) (fun _ => next I3 J3 R3 k n hR3 hW3 (Nat.le_succ _) (Nat.le_add_right _ _)) (fun c => absurd rfl c)
set_option maxRecDepth 4000 in
theorem lw_case_8 (hR : ow_RF R) (hW : sp_W I) (hkn : k ≤ 601024 ∧ n ≤ 7293034) (hv : ∀ j, j < 6 → vp_in (nI i + nI j) L) (next : ∀ (I2 : Nat → Nat → Int32) (J2 : Nat → Nat → Int64) (R2 : Nat → Nat → Option Nat) (k2 n2 : Nat), ow_RF R2 → sp_W I2 → k2 ≤ k + 1 → n2 ≤ n + 6 → ow_AW ow_Y1 (ow_Zw L xs) M_Law_law 40 601024 7293034 2084 [(0, .ref 980), (1, .ref 0), (2, .ref 70), (3, .ref 84), (4, .int (nI i))] [] (85, I2, J2, R2) k2 n2) : ow_AW ow_Y1 (ow_Zw L xs) M_Law_law 40 601024 7293034 576 [(0, .ref 980), (1, .ref 0), (2, .ref 70), (3, .ref 84), (4, .int (nI i))] [] (85, I, J, R) k n := by
  refine ow_aload_n 1 rfl d_Law_law_576 ?_
  refine ow_aload_n 0 rfl d_Law_law_577 ?_
  refine ow_iload 4 rfl d_Law_law_578 ?_
  refine ow_iconst (v := 1) (by decide) d_Law_law_580 ?_
  refine ow_iadd d_Law_law_581 ?_
  refine ow_sld d_Law_law_582 (hv 1 (by decide)) ?_
  refine ow_aload_n 0 rfl d_Law_law_583 ?_
  refine ow_iload 4 rfl d_Law_law_584 ?_
  refine ow_iconst (v := 2) (by decide) d_Law_law_586 ?_
  refine ow_iadd d_Law_law_587 ?_
  refine ow_sld d_Law_law_588 (hv 2 (by decide)) ?_
  refine ow_bool d_Law_law_589 d_Law_law_592 d_Law_law_593 d_Law_law_596 ?_
  refine ow_callV (b := 0) (cq := 11) (As := [.int (xs (nI i + 1).toNatClampNeg), .int (sp_jb (!decide ((xs (nI i + 2).toNatClampNeg) = 0)))]) (rest := []) (d2 := 39) d_Law_law_597 l_Law_55 v_Fs_signer (show 0 < 85 by decide) rfl (by decide) rfl (Nat.le_of_ble_eq_true rfl) (Nat.le_refl _) hkn ?_
  refine (sp_U_of p_signer) 27 I J R _ hR hW ?_
  intro v I2 J2 R2 hR2 hM
  show ow_AW ow_Y1 (ow_Zw L xs) M_Law_law 40 601024 7293034 600 [(0, .ref 980), (1, .ref 0), (2, .ref 70), (3, .ref 84), (4, .int (nI i))] [.int v] (85, I2, J2, R2) k n
  refine ow_aload_n 2 rfl d_Law_law_600 ?_
  refine ow_aload_n 0 rfl d_Law_law_601 ?_
  refine ow_iload 4 rfl d_Law_law_602 ?_
  refine ow_iconst (v := 1) (by decide) d_Law_law_604 ?_
  refine ow_iadd d_Law_law_605 ?_
  refine ow_sld d_Law_law_606 (hv 1 (by decide)) ?_
  refine ow_aload_n 0 rfl d_Law_law_607 ?_
  refine ow_iload 4 rfl d_Law_law_608 ?_
  refine ow_iconst (v := 2) (by decide) d_Law_law_610 ?_
  refine ow_iadd d_Law_law_611 ?_
  refine ow_sld d_Law_law_612 (hv 2 (by decide)) ?_
  refine ow_bool d_Law_law_613 d_Law_law_616 d_Law_law_617 d_Law_law_620 ?_
  refine ow_callV (b := 70) (cq := 12) (As := [.int (xs (nI i + 1).toNatClampNeg), .int (sp_jb (!decide ((xs (nI i + 2).toNatClampNeg) = 0)))]) (rest := [.int v]) (d2 := 39) d_Law_law_621 l_Law_58 v_Mo_signer (show 70 < 85 by decide) rfl (by decide) rfl (Nat.le_of_ble_eq_true rfl) (Nat.le_refl _) hkn ?_
  refine hM _ ?_
  intro I3 J3 R3 hR3 hW3
  show ow_AW ow_Y1 (ow_Zw L xs) M_Law_law 40 601024 7293034 624 [(0, .ref 980), (1, .ref 0), (2, .ref 70), (3, .ref 84), (4, .int (nI i))] [.int v, .int v] (85, I3, J3, R3) k n
  exact ow_icmp_eq (tgt := 2084) d_Law_law_624 (by decide) (fun _ => next I3 J3 R3 k n hR3 hW3 (Nat.le_succ _) (Nat.le_add_right _ _)) (fun c => absurd rfl c)
set_option maxRecDepth 4000 in
theorem lw_case_9 (hR : ow_RF R) (hW : sp_W I) (hkn : k ≤ 601024 ∧ n ≤ 7293034) (hv : ∀ j, j < 6 → vp_in (nI i + nI j) L) (next : ∀ (I2 : Nat → Nat → Int32) (J2 : Nat → Nat → Int64) (R2 : Nat → Nat → Option Nat) (k2 n2 : Nat), ow_RF R2 → sp_W I2 → k2 ≤ k + 1 → n2 ≤ n + 6 → ow_AW ow_Y1 (ow_Zw L xs) M_Law_law 40 601024 7293034 2084 [(0, .ref 980), (1, .ref 0), (2, .ref 70), (3, .ref 84), (4, .int (nI i))] [] (85, I2, J2, R2) k2 n2) : ow_AW ow_Y1 (ow_Zw L xs) M_Law_law 40 601024 7293034 629 [(0, .ref 980), (1, .ref 0), (2, .ref 70), (3, .ref 84), (4, .int (nI i))] [] (85, I, J, R) k n := by
  refine ow_aload_n 1 rfl d_Law_law_629 ?_
  refine ow_aload_n 0 rfl d_Law_law_630 ?_
  refine ow_iload 4 rfl d_Law_law_631 ?_
  refine ow_iconst (v := 1) (by decide) d_Law_law_633 ?_
  refine ow_iadd d_Law_law_634 ?_
  refine ow_sld d_Law_law_635 (hv 1 (by decide)) ?_
  refine ow_aload_n 0 rfl d_Law_law_636 ?_
  refine ow_iload 4 rfl d_Law_law_637 ?_
  refine ow_iconst (v := 2) (by decide) d_Law_law_639 ?_
  refine ow_iadd d_Law_law_640 ?_
  refine ow_sld d_Law_law_641 (hv 2 (by decide)) ?_
  refine ow_bool d_Law_law_642 d_Law_law_645 d_Law_law_646 d_Law_law_649 ?_
  refine ow_callV (b := 0) (cq := 11) (As := [.int (xs (nI i + 1).toNatClampNeg), .int (sp_jb (!decide ((xs (nI i + 2).toNatClampNeg) = 0)))]) (rest := []) (d2 := 39) d_Law_law_650 l_Law_59 v_Fs_course (show 0 < 85 by decide) rfl (by decide) rfl (Nat.le_of_ble_eq_true rfl) (Nat.le_refl _) hkn ?_
  refine (sp_U_of p_course) 27 I J R _ hR hW ?_
  intro v I2 J2 R2 hR2 hM
  show ow_AW ow_Y1 (ow_Zw L xs) M_Law_law 40 601024 7293034 653 [(0, .ref 980), (1, .ref 0), (2, .ref 70), (3, .ref 84), (4, .int (nI i))] [.int v] (85, I2, J2, R2) k n
  refine ow_aload_n 2 rfl d_Law_law_653 ?_
  refine ow_aload_n 0 rfl d_Law_law_654 ?_
  refine ow_iload 4 rfl d_Law_law_655 ?_
  refine ow_iconst (v := 1) (by decide) d_Law_law_657 ?_
  refine ow_iadd d_Law_law_658 ?_
  refine ow_sld d_Law_law_659 (hv 1 (by decide)) ?_
  refine ow_aload_n 0 rfl d_Law_law_660 ?_
  refine ow_iload 4 rfl d_Law_law_661 ?_
  refine ow_iconst (v := 2) (by decide) d_Law_law_663 ?_
  refine ow_iadd d_Law_law_664 ?_
  refine ow_sld d_Law_law_665 (hv 2 (by decide)) ?_
  refine ow_bool d_Law_law_666 d_Law_law_669 d_Law_law_670 d_Law_law_673 ?_
  refine ow_callV (b := 70) (cq := 12) (As := [.int (xs (nI i + 1).toNatClampNeg), .int (sp_jb (!decide ((xs (nI i + 2).toNatClampNeg) = 0)))]) (rest := [.int v]) (d2 := 39) d_Law_law_674 l_Law_62 v_Mo_course (show 70 < 85 by decide) rfl (by decide) rfl (Nat.le_of_ble_eq_true rfl) (Nat.le_refl _) hkn ?_
  refine hM _ ?_
  intro I3 J3 R3 hR3 hW3
  show ow_AW ow_Y1 (ow_Zw L xs) M_Law_law 40 601024 7293034 677 [(0, .ref 980), (1, .ref 0), (2, .ref 70), (3, .ref 84), (4, .int (nI i))] [.int v, .int v] (85, I3, J3, R3) k n
  exact ow_icmp_eq (tgt := 2084) d_Law_law_677 (by decide) (fun _ => next I3 J3 R3 k n hR3 hW3 (Nat.le_succ _) (Nat.le_add_right _ _)) (fun c => absurd rfl c)
set_option maxRecDepth 4000 in
theorem lw_case_10 (hR : ow_RF R) (hW : sp_W I) (hkn : k ≤ 601024 ∧ n ≤ 7293034) (hv : ∀ j, j < 6 → vp_in (nI i + nI j) L) (next : ∀ (I2 : Nat → Nat → Int32) (J2 : Nat → Nat → Int64) (R2 : Nat → Nat → Option Nat) (k2 n2 : Nat), ow_RF R2 → sp_W I2 → k2 ≤ k + 1 → n2 ≤ n + 6 → ow_AW ow_Y1 (ow_Zw L xs) M_Law_law 40 601024 7293034 2084 [(0, .ref 980), (1, .ref 0), (2, .ref 70), (3, .ref 84), (4, .int (nI i))] [] (85, I2, J2, R2) k2 n2) : ow_AW ow_Y1 (ow_Zw L xs) M_Law_law 40 601024 7293034 682 [(0, .ref 980), (1, .ref 0), (2, .ref 70), (3, .ref 84), (4, .int (nI i))] [] (85, I, J, R) k n := by
  refine ow_aload_n 1 rfl d_Law_law_682 ?_
  refine ow_aload_n 0 rfl d_Law_law_683 ?_
  refine ow_iload 4 rfl d_Law_law_684 ?_
  refine ow_iconst (v := 1) (by decide) d_Law_law_686 ?_
  refine ow_iadd d_Law_law_687 ?_
  refine ow_sld d_Law_law_688 (hv 1 (by decide)) ?_
  refine ow_aload_n 0 rfl d_Law_law_689 ?_
  refine ow_iload 4 rfl d_Law_law_690 ?_
  refine ow_iconst (v := 2) (by decide) d_Law_law_692 ?_
  refine ow_iadd d_Law_law_693 ?_
  refine ow_sld d_Law_law_694 (hv 2 (by decide)) ?_
  refine ow_bool d_Law_law_695 d_Law_law_698 d_Law_law_699 d_Law_law_702 ?_
  refine ow_aload_n 0 rfl d_Law_law_703 ?_
  refine ow_iload 4 rfl d_Law_law_704 ?_
  refine ow_iconst (v := 3) (by decide) d_Law_law_706 ?_
  refine ow_iadd d_Law_law_707 ?_
  refine ow_sld d_Law_law_708 (hv 3 (by decide)) ?_
  refine ow_callV (b := 0) (cq := 11) (As := [.int (xs (nI i + 1).toNatClampNeg), .int (sp_jb (!decide ((xs (nI i + 2).toNatClampNeg) = 0))), .int (xs (nI i + 3).toNatClampNeg)]) (rest := []) (d2 := 39) d_Law_law_709 l_Law_63 v_Fs_courseAt (show 0 < 85 by decide) rfl (by decide) rfl (Nat.le_of_ble_eq_true rfl) (Nat.le_refl _) hkn ?_
  refine (sp_U_of p_courseAt) 27 I J R _ hR hW ?_
  intro v I2 J2 R2 hR2 hM
  show ow_AW ow_Y1 (ow_Zw L xs) M_Law_law 40 601024 7293034 712 [(0, .ref 980), (1, .ref 0), (2, .ref 70), (3, .ref 84), (4, .int (nI i))] [.int v] (85, I2, J2, R2) k n
  refine ow_aload_n 2 rfl d_Law_law_712 ?_
  refine ow_aload_n 0 rfl d_Law_law_713 ?_
  refine ow_iload 4 rfl d_Law_law_714 ?_
  refine ow_iconst (v := 1) (by decide) d_Law_law_716 ?_
  refine ow_iadd d_Law_law_717 ?_
  refine ow_sld d_Law_law_718 (hv 1 (by decide)) ?_
  refine ow_aload_n 0 rfl d_Law_law_719 ?_
  refine ow_iload 4 rfl d_Law_law_720 ?_
  refine ow_iconst (v := 2) (by decide) d_Law_law_722 ?_
  refine ow_iadd d_Law_law_723 ?_
  refine ow_sld d_Law_law_724 (hv 2 (by decide)) ?_
  refine ow_bool d_Law_law_725 d_Law_law_728 d_Law_law_729 d_Law_law_732 ?_
  refine ow_aload_n 0 rfl d_Law_law_733 ?_
  refine ow_iload 4 rfl d_Law_law_734 ?_
  refine ow_iconst (v := 3) (by decide) d_Law_law_736 ?_
  refine ow_iadd d_Law_law_737 ?_
  refine ow_sld d_Law_law_738 (hv 3 (by decide)) ?_
  refine ow_callV (b := 70) (cq := 12) (As := [.int (xs (nI i + 1).toNatClampNeg), .int (sp_jb (!decide ((xs (nI i + 2).toNatClampNeg) = 0))), .int (xs (nI i + 3).toNatClampNeg)]) (rest := [.int v]) (d2 := 39) d_Law_law_739 l_Law_67 v_Mo_courseAt (show 70 < 85 by decide) rfl (by decide) rfl (Nat.le_of_ble_eq_true rfl) (Nat.le_refl _) hkn ?_
  refine hM _ ?_
  intro I3 J3 R3 hR3 hW3
  show ow_AW ow_Y1 (ow_Zw L xs) M_Law_law 40 601024 7293034 742 [(0, .ref 980), (1, .ref 0), (2, .ref 70), (3, .ref 84), (4, .int (nI i))] [.int v, .int v] (85, I3, J3, R3) k n
  exact ow_icmp_eq (tgt := 2084) d_Law_law_742 (by decide) (fun _ => next I3 J3 R3 k n hR3 hW3 (Nat.le_succ _) (Nat.le_add_right _ _)) (fun c => absurd rfl c)
set_option maxRecDepth 4000 in
theorem lw_case_11 (hR : ow_RF R) (hW : sp_W I) (hkn : k ≤ 601024 ∧ n ≤ 7293034) (hv : ∀ j, j < 6 → vp_in (nI i + nI j) L) (next : ∀ (I2 : Nat → Nat → Int32) (J2 : Nat → Nat → Int64) (R2 : Nat → Nat → Option Nat) (k2 n2 : Nat), ow_RF R2 → sp_W I2 → k2 ≤ k + 1 → n2 ≤ n + 6 → ow_AW ow_Y1 (ow_Zw L xs) M_Law_law 40 601024 7293034 2084 [(0, .ref 980), (1, .ref 0), (2, .ref 70), (3, .ref 84), (4, .int (nI i))] [] (85, I2, J2, R2) k2 n2) : ow_AW ow_Y1 (ow_Zw L xs) M_Law_law 40 601024 7293034 747 [(0, .ref 980), (1, .ref 0), (2, .ref 70), (3, .ref 84), (4, .int (nI i))] [] (85, I, J, R) k n := by
  refine ow_aload_n 1 rfl d_Law_law_747 ?_
  refine ow_callV (b := 0) (cq := 11) (As := []) (rest := []) (d2 := 39) d_Law_law_748 l_Law_68 v_Fs_served (show 0 < 85 by decide) rfl (by decide) rfl (Nat.le_of_ble_eq_true rfl) (Nat.le_refl _) hkn ?_
  refine (sp_U_of p_served) 27 I J R _ hR hW ?_
  intro v I2 J2 R2 hR2 hM
  show ow_AW ow_Y1 (ow_Zw L xs) M_Law_law 40 601024 7293034 751 [(0, .ref 980), (1, .ref 0), (2, .ref 70), (3, .ref 84), (4, .int (nI i))] [.int v] (85, I2, J2, R2) k n
  refine ow_aload_n 2 rfl d_Law_law_751 ?_
  refine ow_callV (b := 70) (cq := 12) (As := []) (rest := [.int v]) (d2 := 39) d_Law_law_752 l_Law_71 v_Mo_served (show 70 < 85 by decide) rfl (by decide) rfl (Nat.le_of_ble_eq_true rfl) (Nat.le_refl _) hkn ?_
  refine hM _ ?_
  intro I3 J3 R3 hR3 hW3
  show ow_AW ow_Y1 (ow_Zw L xs) M_Law_law 40 601024 7293034 755 [(0, .ref 980), (1, .ref 0), (2, .ref 70), (3, .ref 84), (4, .int (nI i))] [.int v, .int v] (85, I3, J3, R3) k n
  exact ow_icmp_eq (tgt := 2084) d_Law_law_755 (by decide) (fun _ => next I3 J3 R3 k n hR3 hW3 (Nat.le_succ _) (Nat.le_add_right _ _)) (fun c => absurd rfl c)
set_option maxRecDepth 4000 in
theorem lw_case_12 (hR : ow_RF R) (hW : sp_W I) (hkn : k ≤ 601024 ∧ n ≤ 7293034) (hv : ∀ j, j < 6 → vp_in (nI i + nI j) L) (next : ∀ (I2 : Nat → Nat → Int32) (J2 : Nat → Nat → Int64) (R2 : Nat → Nat → Option Nat) (k2 n2 : Nat), ow_RF R2 → sp_W I2 → k2 ≤ k + 1 → n2 ≤ n + 6 → ow_AW ow_Y1 (ow_Zw L xs) M_Law_law 40 601024 7293034 2084 [(0, .ref 980), (1, .ref 0), (2, .ref 70), (3, .ref 84), (4, .int (nI i))] [] (85, I2, J2, R2) k2 n2) : ow_AW ow_Y1 (ow_Zw L xs) M_Law_law 40 601024 7293034 760 [(0, .ref 980), (1, .ref 0), (2, .ref 70), (3, .ref 84), (4, .int (nI i))] [] (85, I, J, R) k n := by
  refine ow_aload_n 1 rfl d_Law_law_760 ?_
  refine ow_callV (b := 0) (cq := 11) (As := []) (rest := []) (d2 := 39) d_Law_law_761 l_Law_72 v_Fs_rounds (show 0 < 85 by decide) rfl (by decide) rfl (Nat.le_of_ble_eq_true rfl) (Nat.le_refl _) hkn ?_
  refine (sp_U_of p_rounds) 27 I J R _ hR hW ?_
  intro v I2 J2 R2 hR2 hM
  show ow_AW ow_Y1 (ow_Zw L xs) M_Law_law 40 601024 7293034 764 [(0, .ref 980), (1, .ref 0), (2, .ref 70), (3, .ref 84), (4, .int (nI i))] [.int v] (85, I2, J2, R2) k n
  refine ow_aload_n 2 rfl d_Law_law_764 ?_
  refine ow_callV (b := 70) (cq := 12) (As := []) (rest := [.int v]) (d2 := 39) d_Law_law_765 l_Law_75 v_Mo_rounds (show 70 < 85 by decide) rfl (by decide) rfl (Nat.le_of_ble_eq_true rfl) (Nat.le_refl _) hkn ?_
  refine hM _ ?_
  intro I3 J3 R3 hR3 hW3
  show ow_AW ow_Y1 (ow_Zw L xs) M_Law_law 40 601024 7293034 768 [(0, .ref 980), (1, .ref 0), (2, .ref 70), (3, .ref 84), (4, .int (nI i))] [.int v, .int v] (85, I3, J3, R3) k n
  exact ow_icmp_eq (tgt := 2084) d_Law_law_768 (by decide) (fun _ => next I3 J3 R3 k n hR3 hW3 (Nat.le_succ _) (Nat.le_add_right _ _)) (fun c => absurd rfl c)
set_option maxRecDepth 4000 in
theorem lw_case_13 (hR : ow_RF R) (hW : sp_W I) (hkn : k ≤ 601024 ∧ n ≤ 7293034) (hv : ∀ j, j < 6 → vp_in (nI i + nI j) L) (next : ∀ (I2 : Nat → Nat → Int32) (J2 : Nat → Nat → Int64) (R2 : Nat → Nat → Option Nat) (k2 n2 : Nat), ow_RF R2 → sp_W I2 → k2 ≤ k + 1 → n2 ≤ n + 6 → ow_AW ow_Y1 (ow_Zw L xs) M_Law_law 40 601024 7293034 2084 [(0, .ref 980), (1, .ref 0), (2, .ref 70), (3, .ref 84), (4, .int (nI i))] [] (85, I2, J2, R2) k2 n2) : ow_AW ow_Y1 (ow_Zw L xs) M_Law_law 40 601024 7293034 773 [(0, .ref 980), (1, .ref 0), (2, .ref 70), (3, .ref 84), (4, .int (nI i))] [] (85, I, J, R) k n := by
  refine ow_aload_n 1 rfl d_Law_law_773 ?_
  refine ow_callV (b := 0) (cq := 11) (As := []) (rest := []) (d2 := 39) d_Law_law_774 l_Law_76 v_Fs_idle (show 0 < 85 by decide) rfl (by decide) rfl (Nat.le_of_ble_eq_true rfl) (Nat.le_refl _) hkn ?_
  refine (sp_U_of p_idle) 27 I J R _ hR hW ?_
  intro v I2 J2 R2 hR2 hM
  show ow_AW ow_Y1 (ow_Zw L xs) M_Law_law 40 601024 7293034 777 [(0, .ref 980), (1, .ref 0), (2, .ref 70), (3, .ref 84), (4, .int (nI i))] [.int v] (85, I2, J2, R2) k n
  refine ow_aload_n 2 rfl d_Law_law_777 ?_
  refine ow_callV (b := 70) (cq := 12) (As := []) (rest := [.int v]) (d2 := 39) d_Law_law_778 l_Law_79 v_Mo_idle (show 70 < 85 by decide) rfl (by decide) rfl (Nat.le_of_ble_eq_true rfl) (Nat.le_refl _) hkn ?_
  refine hM _ ?_
  intro I3 J3 R3 hR3 hW3
  show ow_AW ow_Y1 (ow_Zw L xs) M_Law_law 40 601024 7293034 781 [(0, .ref 980), (1, .ref 0), (2, .ref 70), (3, .ref 84), (4, .int (nI i))] [.int v, .int v] (85, I3, J3, R3) k n
  exact ow_icmp_eq (tgt := 2084) d_Law_law_781 (by decide) (fun _ => next I3 J3 R3 k n hR3 hW3 (Nat.le_succ _) (Nat.le_add_right _ _)) (fun c => absurd rfl c)
set_option maxRecDepth 4000 in
theorem lw_case_14 (hR : ow_RF R) (hW : sp_W I) (hkn : k ≤ 601024 ∧ n ≤ 7293034) (hv : ∀ j, j < 6 → vp_in (nI i + nI j) L) (next : ∀ (I2 : Nat → Nat → Int32) (J2 : Nat → Nat → Int64) (R2 : Nat → Nat → Option Nat) (k2 n2 : Nat), ow_RF R2 → sp_W I2 → k2 ≤ k + 1 → n2 ≤ n + 6 → ow_AW ow_Y1 (ow_Zw L xs) M_Law_law 40 601024 7293034 2084 [(0, .ref 980), (1, .ref 0), (2, .ref 70), (3, .ref 84), (4, .int (nI i))] [] (85, I2, J2, R2) k2 n2) : ow_AW ow_Y1 (ow_Zw L xs) M_Law_law 40 601024 7293034 786 [(0, .ref 980), (1, .ref 0), (2, .ref 70), (3, .ref 84), (4, .int (nI i))] [] (85, I, J, R) k n := by
  refine ow_aload_n 1 rfl d_Law_law_786 ?_
  refine ow_aload_n 0 rfl d_Law_law_787 ?_
  refine ow_iload 4 rfl d_Law_law_788 ?_
  refine ow_iconst (v := 1) (by decide) d_Law_law_790 ?_
  refine ow_iadd d_Law_law_791 ?_
  refine ow_sld d_Law_law_792 (hv 1 (by decide)) ?_
  refine ow_callV (b := 0) (cq := 11) (As := [.int (xs (nI i + 1).toNatClampNeg)]) (rest := []) (d2 := 39) d_Law_law_793 l_Law_80 v_Fs_serves (show 0 < 85 by decide) rfl (by decide) rfl (Nat.le_of_ble_eq_true rfl) (Nat.le_refl _) hkn ?_
  refine (sp_U_of p_serves) 27 I J R _ hR hW ?_
  intro v I2 J2 R2 hR2 hM
  show ow_AW ow_Y1 (ow_Zw L xs) M_Law_law 40 601024 7293034 796 [(0, .ref 980), (1, .ref 0), (2, .ref 70), (3, .ref 84), (4, .int (nI i))] [.int v] (85, I2, J2, R2) k n
  refine ow_aload_n 2 rfl d_Law_law_796 ?_
  refine ow_aload_n 0 rfl d_Law_law_797 ?_
  refine ow_iload 4 rfl d_Law_law_798 ?_
  refine ow_iconst (v := 1) (by decide) d_Law_law_800 ?_
  refine ow_iadd d_Law_law_801 ?_
  refine ow_sld d_Law_law_802 (hv 1 (by decide)) ?_
  refine ow_callV (b := 70) (cq := 12) (As := [.int (xs (nI i + 1).toNatClampNeg)]) (rest := [.int v]) (d2 := 39) d_Law_law_803 l_Law_83 v_Mo_serves (show 70 < 85 by decide) rfl (by decide) rfl (Nat.le_of_ble_eq_true rfl) (Nat.le_refl _) hkn ?_
  refine hM _ ?_
  intro I3 J3 R3 hR3 hW3
  show ow_AW ow_Y1 (ow_Zw L xs) M_Law_law 40 601024 7293034 806 [(0, .ref 980), (1, .ref 0), (2, .ref 70), (3, .ref 84), (4, .int (nI i))] [.int v, .int v] (85, I3, J3, R3) k n
  exact ow_icmp_eq (tgt := 2084) d_Law_law_806 (by decide) (fun _ => next I3 J3 R3 k n hR3 hW3 (Nat.le_succ _) (Nat.le_add_right _ _)) (fun c => absurd rfl c)
set_option maxRecDepth 4000 in
theorem lw_case_15 (hR : ow_RF R) (hW : sp_W I) (hkn : k ≤ 601024 ∧ n ≤ 7293034) (hv : ∀ j, j < 6 → vp_in (nI i + nI j) L) (next : ∀ (I2 : Nat → Nat → Int32) (J2 : Nat → Nat → Int64) (R2 : Nat → Nat → Option Nat) (k2 n2 : Nat), ow_RF R2 → sp_W I2 → k2 ≤ k + 1 → n2 ≤ n + 6 → ow_AW ow_Y1 (ow_Zw L xs) M_Law_law 40 601024 7293034 2084 [(0, .ref 980), (1, .ref 0), (2, .ref 70), (3, .ref 84), (4, .int (nI i))] [] (85, I2, J2, R2) k2 n2) : ow_AW ow_Y1 (ow_Zw L xs) M_Law_law 40 601024 7293034 811 [(0, .ref 980), (1, .ref 0), (2, .ref 70), (3, .ref 84), (4, .int (nI i))] [] (85, I, J, R) k n := by
  refine ow_aload_n 1 rfl d_Law_law_811 ?_
  refine ow_aload_n 0 rfl d_Law_law_812 ?_
  refine ow_iload 4 rfl d_Law_law_813 ?_
  refine ow_iconst (v := 1) (by decide) d_Law_law_815 ?_
  refine ow_iadd d_Law_law_816 ?_
  refine ow_sld d_Law_law_817 (hv 1 (by decide)) ?_
  refine ow_callV (b := 0) (cq := 11) (As := [.int (xs (nI i + 1).toNatClampNeg)]) (rest := []) (d2 := 39) d_Law_law_818 l_Law_84 v_Fs_best (show 0 < 85 by decide) rfl (by decide) rfl (Nat.le_of_ble_eq_true rfl) (Nat.le_refl _) hkn ?_
  refine (sp_U_of p_best) 27 I J R _ hR hW ?_
  intro v I2 J2 R2 hR2 hM
  show ow_AW ow_Y1 (ow_Zw L xs) M_Law_law 40 601024 7293034 821 [(0, .ref 980), (1, .ref 0), (2, .ref 70), (3, .ref 84), (4, .int (nI i))] [.int v] (85, I2, J2, R2) k n
  refine ow_aload_n 2 rfl d_Law_law_821 ?_
  refine ow_aload_n 0 rfl d_Law_law_822 ?_
  refine ow_iload 4 rfl d_Law_law_823 ?_
  refine ow_iconst (v := 1) (by decide) d_Law_law_825 ?_
  refine ow_iadd d_Law_law_826 ?_
  refine ow_sld d_Law_law_827 (hv 1 (by decide)) ?_
  refine ow_callV (b := 70) (cq := 12) (As := [.int (xs (nI i + 1).toNatClampNeg)]) (rest := [.int v]) (d2 := 39) d_Law_law_828 l_Law_87 v_Mo_best (show 70 < 85 by decide) rfl (by decide) rfl (Nat.le_of_ble_eq_true rfl) (Nat.le_refl _) hkn ?_
  refine hM _ ?_
  intro I3 J3 R3 hR3 hW3
  show ow_AW ow_Y1 (ow_Zw L xs) M_Law_law 40 601024 7293034 831 [(0, .ref 980), (1, .ref 0), (2, .ref 70), (3, .ref 84), (4, .int (nI i))] [.int v, .int v] (85, I3, J3, R3) k n
  exact ow_icmp_eq (tgt := 2084) d_Law_law_831 (by decide) (fun _ => next I3 J3 R3 k n hR3 hW3 (Nat.le_succ _) (Nat.le_add_right _ _)) (fun c => absurd rfl c)
set_option maxRecDepth 4000 in
theorem lw_case_16 (hR : ow_RF R) (hW : sp_W I) (hkn : k ≤ 601024 ∧ n ≤ 7293034) (hv : ∀ j, j < 6 → vp_in (nI i + nI j) L) (next : ∀ (I2 : Nat → Nat → Int32) (J2 : Nat → Nat → Int64) (R2 : Nat → Nat → Option Nat) (k2 n2 : Nat), ow_RF R2 → sp_W I2 → k2 ≤ k + 1 → n2 ≤ n + 6 → ow_AW ow_Y1 (ow_Zw L xs) M_Law_law 40 601024 7293034 2084 [(0, .ref 980), (1, .ref 0), (2, .ref 70), (3, .ref 84), (4, .int (nI i))] [] (85, I2, J2, R2) k2 n2) : ow_AW ow_Y1 (ow_Zw L xs) M_Law_law 40 601024 7293034 836 [(0, .ref 980), (1, .ref 0), (2, .ref 70), (3, .ref 84), (4, .int (nI i))] [] (85, I, J, R) k n := by
  refine ow_aload_n 1 rfl d_Law_law_836 ?_
  refine ow_aload_n 0 rfl d_Law_law_837 ?_
  refine ow_iload 4 rfl d_Law_law_838 ?_
  refine ow_iconst (v := 1) (by decide) d_Law_law_840 ?_
  refine ow_iadd d_Law_law_841 ?_
  refine ow_sld d_Law_law_842 (hv 1 (by decide)) ?_
  refine ow_callV (b := 0) (cq := 11) (As := [.int (xs (nI i + 1).toNatClampNeg)]) (rest := []) (d2 := 39) d_Law_law_843 l_Law_88 v_Fs_shortest (show 0 < 85 by decide) rfl (by decide) rfl (Nat.le_of_ble_eq_true rfl) (Nat.le_refl _) hkn ?_
  refine (sp_U_of p_shortest) 27 I J R _ hR hW ?_
  intro v I2 J2 R2 hR2 hM
  show ow_AW ow_Y1 (ow_Zw L xs) M_Law_law 40 601024 7293034 846 [(0, .ref 980), (1, .ref 0), (2, .ref 70), (3, .ref 84), (4, .int (nI i))] [.int v] (85, I2, J2, R2) k n
  refine ow_aload_n 2 rfl d_Law_law_846 ?_
  refine ow_aload_n 0 rfl d_Law_law_847 ?_
  refine ow_iload 4 rfl d_Law_law_848 ?_
  refine ow_iconst (v := 1) (by decide) d_Law_law_850 ?_
  refine ow_iadd d_Law_law_851 ?_
  refine ow_sld d_Law_law_852 (hv 1 (by decide)) ?_
  refine ow_callV (b := 70) (cq := 12) (As := [.int (xs (nI i + 1).toNatClampNeg)]) (rest := [.int v]) (d2 := 39) d_Law_law_853 l_Law_91 v_Mo_shortest (show 70 < 85 by decide) rfl (by decide) rfl (Nat.le_of_ble_eq_true rfl) (Nat.le_refl _) hkn ?_
  refine hM _ ?_
  intro I3 J3 R3 hR3 hW3
  show ow_AW ow_Y1 (ow_Zw L xs) M_Law_law 40 601024 7293034 856 [(0, .ref 980), (1, .ref 0), (2, .ref 70), (3, .ref 84), (4, .int (nI i))] [.int v, .int v] (85, I3, J3, R3) k n
  exact ow_icmp_eq (tgt := 2084) d_Law_law_856 (by decide) (fun _ => next I3 J3 R3 k n hR3 hW3 (Nat.le_succ _) (Nat.le_add_right _ _)) (fun c => absurd rfl c)
set_option maxRecDepth 4000 in
theorem lw_case_17 (hR : ow_RF R) (hW : sp_W I) (hkn : k ≤ 601024 ∧ n ≤ 7293034) (hv : ∀ j, j < 6 → vp_in (nI i + nI j) L) (next : ∀ (I2 : Nat → Nat → Int32) (J2 : Nat → Nat → Int64) (R2 : Nat → Nat → Option Nat) (k2 n2 : Nat), ow_RF R2 → sp_W I2 → k2 ≤ k + 1 → n2 ≤ n + 6 → ow_AW ow_Y1 (ow_Zw L xs) M_Law_law 40 601024 7293034 2084 [(0, .ref 980), (1, .ref 0), (2, .ref 70), (3, .ref 84), (4, .int (nI i))] [] (85, I2, J2, R2) k2 n2) : ow_AW ow_Y1 (ow_Zw L xs) M_Law_law 40 601024 7293034 861 [(0, .ref 980), (1, .ref 0), (2, .ref 70), (3, .ref 84), (4, .int (nI i))] [] (85, I, J, R) k n := by
  refine ow_aload_n 1 rfl d_Law_law_861 ?_
  refine ow_callV (b := 0) (cq := 11) (As := []) (rest := []) (d2 := 39) d_Law_law_862 l_Law_92 v_Fs_widest (show 0 < 85 by decide) rfl (by decide) rfl (Nat.le_of_ble_eq_true rfl) (Nat.le_refl _) hkn ?_
  refine (sp_U_of p_widest) 27 I J R _ hR hW ?_
  intro v I2 J2 R2 hR2 hM
  show ow_AW ow_Y1 (ow_Zw L xs) M_Law_law 40 601024 7293034 865 [(0, .ref 980), (1, .ref 0), (2, .ref 70), (3, .ref 84), (4, .int (nI i))] [.int v] (85, I2, J2, R2) k n
  refine ow_aload_n 2 rfl d_Law_law_865 ?_
  refine ow_callV (b := 70) (cq := 12) (As := []) (rest := [.int v]) (d2 := 39) d_Law_law_866 l_Law_95 v_Mo_widest (show 70 < 85 by decide) rfl (by decide) rfl (Nat.le_of_ble_eq_true rfl) (Nat.le_refl _) hkn ?_
  refine hM _ ?_
  intro I3 J3 R3 hR3 hW3
  show ow_AW ow_Y1 (ow_Zw L xs) M_Law_law 40 601024 7293034 869 [(0, .ref 980), (1, .ref 0), (2, .ref 70), (3, .ref 84), (4, .int (nI i))] [.int v, .int v] (85, I3, J3, R3) k n
  exact ow_icmp_eq (tgt := 2084) d_Law_law_869 (by decide) (fun _ => next I3 J3 R3 k n hR3 hW3 (Nat.le_succ _) (Nat.le_add_right _ _)) (fun c => absurd rfl c)
set_option maxRecDepth 4000 in
theorem lw_case_18 (hR : ow_RF R) (hW : sp_W I) (hkn : k ≤ 601024 ∧ n ≤ 7293034) (hv : ∀ j, j < 6 → vp_in (nI i + nI j) L) (next : ∀ (I2 : Nat → Nat → Int32) (J2 : Nat → Nat → Int64) (R2 : Nat → Nat → Option Nat) (k2 n2 : Nat), ow_RF R2 → sp_W I2 → k2 ≤ k + 1 → n2 ≤ n + 6 → ow_AW ow_Y1 (ow_Zw L xs) M_Law_law 40 601024 7293034 2084 [(0, .ref 980), (1, .ref 0), (2, .ref 70), (3, .ref 84), (4, .int (nI i))] [] (85, I2, J2, R2) k2 n2) : ow_AW ow_Y1 (ow_Zw L xs) M_Law_law 40 601024 7293034 874 [(0, .ref 980), (1, .ref 0), (2, .ref 70), (3, .ref 84), (4, .int (nI i))] [] (85, I, J, R) k n := by
  refine ow_aload_n 1 rfl d_Law_law_874 ?_
  refine ow_callV (b := 0) (cq := 11) (As := []) (rest := []) (d2 := 39) d_Law_law_875 l_Law_96 v_Fs_change (show 0 < 85 by decide) rfl (by decide) rfl (Nat.le_of_ble_eq_true rfl) (Nat.le_refl _) hkn ?_
  refine (sp_U_of p_change) 27 I J R _ hR hW ?_
  intro v I2 J2 R2 hR2 hM
  show ow_AW ow_Y1 (ow_Zw L xs) M_Law_law 40 601024 7293034 878 [(0, .ref 980), (1, .ref 0), (2, .ref 70), (3, .ref 84), (4, .int (nI i))] [.int v] (85, I2, J2, R2) k n
  refine ow_aload_n 2 rfl d_Law_law_878 ?_
  refine ow_callV (b := 70) (cq := 12) (As := []) (rest := [.int v]) (d2 := 39) d_Law_law_879 l_Law_99 v_Mo_change (show 70 < 85 by decide) rfl (by decide) rfl (Nat.le_of_ble_eq_true rfl) (Nat.le_refl _) hkn ?_
  refine hM _ ?_
  intro I3 J3 R3 hR3 hW3
  show ow_AW ow_Y1 (ow_Zw L xs) M_Law_law 40 601024 7293034 882 [(0, .ref 980), (1, .ref 0), (2, .ref 70), (3, .ref 84), (4, .int (nI i))] [.int v, .int v] (85, I3, J3, R3) k n
  exact ow_icmp_eq (tgt := 2084) d_Law_law_882 (by decide) (fun _ => next I3 J3 R3 k n hR3 hW3 (Nat.le_succ _) (Nat.le_add_right _ _)) (fun c => absurd rfl c)
set_option maxRecDepth 4000 in
theorem lw_case_19 (hR : ow_RF R) (hW : sp_W I) (hkn : k ≤ 601024 ∧ n ≤ 7293034) (hv : ∀ j, j < 6 → vp_in (nI i + nI j) L) (next : ∀ (I2 : Nat → Nat → Int32) (J2 : Nat → Nat → Int64) (R2 : Nat → Nat → Option Nat) (k2 n2 : Nat), ow_RF R2 → sp_W I2 → k2 ≤ k + 1 → n2 ≤ n + 6 → ow_AW ow_Y1 (ow_Zw L xs) M_Law_law 40 601024 7293034 2084 [(0, .ref 980), (1, .ref 0), (2, .ref 70), (3, .ref 84), (4, .int (nI i))] [] (85, I2, J2, R2) k2 n2) : ow_AW ow_Y1 (ow_Zw L xs) M_Law_law 40 601024 7293034 887 [(0, .ref 980), (1, .ref 0), (2, .ref 70), (3, .ref 84), (4, .int (nI i))] [] (85, I, J, R) k n := by
  refine ow_aload_n 1 rfl d_Law_law_887 ?_
  refine ow_callV (b := 0) (cq := 11) (As := []) (rest := []) (d2 := 39) d_Law_law_888 l_Law_100 v_Fs_changeServes (show 0 < 85 by decide) rfl (by decide) rfl (Nat.le_of_ble_eq_true rfl) (Nat.le_refl _) hkn ?_
  refine (sp_U_of p_changeServes) 27 I J R _ hR hW ?_
  intro v I2 J2 R2 hR2 hM
  show ow_AW ow_Y1 (ow_Zw L xs) M_Law_law 40 601024 7293034 891 [(0, .ref 980), (1, .ref 0), (2, .ref 70), (3, .ref 84), (4, .int (nI i))] [.int v] (85, I2, J2, R2) k n
  refine ow_aload_n 2 rfl d_Law_law_891 ?_
  refine ow_callV (b := 70) (cq := 12) (As := []) (rest := [.int v]) (d2 := 39) d_Law_law_892 l_Law_103 v_Mo_changeServes (show 70 < 85 by decide) rfl (by decide) rfl (Nat.le_of_ble_eq_true rfl) (Nat.le_refl _) hkn ?_
  refine hM _ ?_
  intro I3 J3 R3 hR3 hW3
  show ow_AW ow_Y1 (ow_Zw L xs) M_Law_law 40 601024 7293034 895 [(0, .ref 980), (1, .ref 0), (2, .ref 70), (3, .ref 84), (4, .int (nI i))] [.int v, .int v] (85, I3, J3, R3) k n
  exact ow_icmp_eq (tgt := 2084) d_Law_law_895 (by decide) (fun _ => next I3 J3 R3 k n hR3 hW3 (Nat.le_succ _) (Nat.le_add_right _ _)) (fun c => absurd rfl c)
set_option maxRecDepth 4000 in
theorem lw_case_20 (hR : ow_RF R) (hW : sp_W I) (hkn : k ≤ 601024 ∧ n ≤ 7293034) (hv : ∀ j, j < 6 → vp_in (nI i + nI j) L) (next : ∀ (I2 : Nat → Nat → Int32) (J2 : Nat → Nat → Int64) (R2 : Nat → Nat → Option Nat) (k2 n2 : Nat), ow_RF R2 → sp_W I2 → k2 ≤ k + 1 → n2 ≤ n + 6 → ow_AW ow_Y1 (ow_Zw L xs) M_Law_law 40 601024 7293034 2084 [(0, .ref 980), (1, .ref 0), (2, .ref 70), (3, .ref 84), (4, .int (nI i))] [] (85, I2, J2, R2) k2 n2) : ow_AW ow_Y1 (ow_Zw L xs) M_Law_law 40 601024 7293034 900 [(0, .ref 980), (1, .ref 0), (2, .ref 70), (3, .ref 84), (4, .int (nI i))] [] (85, I, J, R) k n := by
  refine ow_aload_n 1 rfl d_Law_law_900 ?_
  refine ow_aload_n 0 rfl d_Law_law_901 ?_
  refine ow_iload 4 rfl d_Law_law_902 ?_
  refine ow_iconst (v := 1) (by decide) d_Law_law_904 ?_
  refine ow_iadd d_Law_law_905 ?_
  refine ow_sld d_Law_law_906 (hv 1 (by decide)) ?_
  refine ow_aload_n 0 rfl d_Law_law_907 ?_
  refine ow_iload 4 rfl d_Law_law_908 ?_
  refine ow_iconst (v := 2) (by decide) d_Law_law_910 ?_
  refine ow_iadd d_Law_law_911 ?_
  refine ow_sld d_Law_law_912 (hv 2 (by decide)) ?_
  refine ow_callV (b := 0) (cq := 11) (As := [.int (xs (nI i + 1).toNatClampNeg), .int (xs (nI i + 2).toNatClampNeg)]) (rest := []) (d2 := 39) d_Law_law_913 l_Law_104 v_Fs_servedIf (show 0 < 85 by decide) rfl (by decide) rfl (Nat.le_of_ble_eq_true rfl) (Nat.le_refl _) hkn ?_
  refine (sp_U_of p_servedIf) 27 I J R _ hR hW ?_
  intro v I2 J2 R2 hR2 hM
  show ow_AW ow_Y1 (ow_Zw L xs) M_Law_law 40 601024 7293034 916 [(0, .ref 980), (1, .ref 0), (2, .ref 70), (3, .ref 84), (4, .int (nI i))] [.int v] (85, I2, J2, R2) k n
  refine ow_aload_n 2 rfl d_Law_law_916 ?_
  refine ow_aload_n 0 rfl d_Law_law_917 ?_
  refine ow_iload 4 rfl d_Law_law_918 ?_
  refine ow_iconst (v := 1) (by decide) d_Law_law_920 ?_
  refine ow_iadd d_Law_law_921 ?_
  refine ow_sld d_Law_law_922 (hv 1 (by decide)) ?_
  refine ow_aload_n 0 rfl d_Law_law_923 ?_
  refine ow_iload 4 rfl d_Law_law_924 ?_
  refine ow_iconst (v := 2) (by decide) d_Law_law_926 ?_
  refine ow_iadd d_Law_law_927 ?_
  refine ow_sld d_Law_law_928 (hv 2 (by decide)) ?_
  refine ow_callV (b := 70) (cq := 12) (As := [.int (xs (nI i + 1).toNatClampNeg), .int (xs (nI i + 2).toNatClampNeg)]) (rest := [.int v]) (d2 := 39) d_Law_law_929 l_Law_107 v_Mo_servedIf (show 70 < 85 by decide) rfl (by decide) rfl (Nat.le_of_ble_eq_true rfl) (Nat.le_refl _) hkn ?_
  refine hM _ ?_
  intro I3 J3 R3 hR3 hW3
  show ow_AW ow_Y1 (ow_Zw L xs) M_Law_law 40 601024 7293034 932 [(0, .ref 980), (1, .ref 0), (2, .ref 70), (3, .ref 84), (4, .int (nI i))] [.int v, .int v] (85, I3, J3, R3) k n
  exact ow_icmp_eq (tgt := 2084) d_Law_law_932 (by decide) (fun _ => next I3 J3 R3 k n hR3 hW3 (Nat.le_succ _) (Nat.le_add_right _ _)) (fun c => absurd rfl c)
set_option maxRecDepth 4000 in
theorem lw_case_21 (hR : ow_RF R) (hW : sp_W I) (hkn : k ≤ 601024 ∧ n ≤ 7293034) (hv : ∀ j, j < 6 → vp_in (nI i + nI j) L) (next : ∀ (I2 : Nat → Nat → Int32) (J2 : Nat → Nat → Int64) (R2 : Nat → Nat → Option Nat) (k2 n2 : Nat), ow_RF R2 → sp_W I2 → k2 ≤ k + 1 → n2 ≤ n + 6 → ow_AW ow_Y1 (ow_Zw L xs) M_Law_law 40 601024 7293034 2084 [(0, .ref 980), (1, .ref 0), (2, .ref 70), (3, .ref 84), (4, .int (nI i))] [] (85, I2, J2, R2) k2 n2) : ow_AW ow_Y1 (ow_Zw L xs) M_Law_law 40 601024 7293034 937 [(0, .ref 980), (1, .ref 0), (2, .ref 70), (3, .ref 84), (4, .int (nI i))] [] (85, I, J, R) k n := by
  refine ow_aload_n 1 rfl d_Law_law_937 ?_
  refine ow_aload_n 0 rfl d_Law_law_938 ?_
  refine ow_iload 4 rfl d_Law_law_939 ?_
  refine ow_iconst (v := 1) (by decide) d_Law_law_941 ?_
  refine ow_iadd d_Law_law_942 ?_
  refine ow_sld d_Law_law_943 (hv 1 (by decide)) ?_
  refine ow_aload_n 0 rfl d_Law_law_944 ?_
  refine ow_iload 4 rfl d_Law_law_945 ?_
  refine ow_iconst (v := 2) (by decide) d_Law_law_947 ?_
  refine ow_iadd d_Law_law_948 ?_
  refine ow_sld d_Law_law_949 (hv 2 (by decide)) ?_
  refine ow_bool d_Law_law_950 d_Law_law_953 d_Law_law_954 d_Law_law_957 ?_
  refine ow_aload_n 0 rfl d_Law_law_958 ?_
  refine ow_iload 4 rfl d_Law_law_959 ?_
  refine ow_iconst (v := 3) (by decide) d_Law_law_961 ?_
  refine ow_iadd d_Law_law_962 ?_
  refine ow_sld d_Law_law_963 (hv 3 (by decide)) ?_
  refine ow_callV (b := 0) (cq := 11) (As := [.int (xs (nI i + 1).toNatClampNeg), .int (sp_jb (!decide ((xs (nI i + 2).toNatClampNeg) = 0))), .int (xs (nI i + 3).toNatClampNeg)]) (rest := []) (d2 := 39) d_Law_law_964 l_Law_108 v_Fs_signsIn (show 0 < 85 by decide) rfl (by decide) rfl (Nat.le_of_ble_eq_true rfl) (Nat.le_refl _) hkn ?_
  refine (sp_U_of p_signsIn) 27 I J R _ hR hW ?_
  intro v I2 J2 R2 hR2 hM
  show ow_AW ow_Y1 (ow_Zw L xs) M_Law_law 40 601024 7293034 967 [(0, .ref 980), (1, .ref 0), (2, .ref 70), (3, .ref 84), (4, .int (nI i))] [.int v] (85, I2, J2, R2) k n
  refine ow_aload_n 2 rfl d_Law_law_967 ?_
  refine ow_aload_n 0 rfl d_Law_law_968 ?_
  refine ow_iload 4 rfl d_Law_law_969 ?_
  refine ow_iconst (v := 1) (by decide) d_Law_law_971 ?_
  refine ow_iadd d_Law_law_972 ?_
  refine ow_sld d_Law_law_973 (hv 1 (by decide)) ?_
  refine ow_aload_n 0 rfl d_Law_law_974 ?_
  refine ow_iload 4 rfl d_Law_law_975 ?_
  refine ow_iconst (v := 2) (by decide) d_Law_law_977 ?_
  refine ow_iadd d_Law_law_978 ?_
  refine ow_sld d_Law_law_979 (hv 2 (by decide)) ?_
  refine ow_bool d_Law_law_980 d_Law_law_983 d_Law_law_984 d_Law_law_987 ?_
  refine ow_aload_n 0 rfl d_Law_law_988 ?_
  refine ow_iload 4 rfl d_Law_law_989 ?_
  refine ow_iconst (v := 3) (by decide) d_Law_law_991 ?_
  refine ow_iadd d_Law_law_992 ?_
  refine ow_sld d_Law_law_993 (hv 3 (by decide)) ?_
  refine ow_callV (b := 70) (cq := 12) (As := [.int (xs (nI i + 1).toNatClampNeg), .int (sp_jb (!decide ((xs (nI i + 2).toNatClampNeg) = 0))), .int (xs (nI i + 3).toNatClampNeg)]) (rest := [.int v]) (d2 := 39) d_Law_law_994 l_Law_111 v_Mo_signsIn (show 70 < 85 by decide) rfl (by decide) rfl (Nat.le_of_ble_eq_true rfl) (Nat.le_refl _) hkn ?_
  refine hM _ ?_
  intro I3 J3 R3 hR3 hW3
  show ow_AW ow_Y1 (ow_Zw L xs) M_Law_law 40 601024 7293034 997 [(0, .ref 980), (1, .ref 0), (2, .ref 70), (3, .ref 84), (4, .int (nI i))] [.int v, .int v] (85, I3, J3, R3) k n
  exact ow_icmp_eq (tgt := 2084) d_Law_law_997 (by decide) (fun _ => next I3 J3 R3 k n hR3 hW3 (Nat.le_succ _) (Nat.le_add_right _ _)) (fun c => absurd rfl c)
set_option maxRecDepth 4000 in
theorem lw_case_22 (hR : ow_RF R) (hW : sp_W I) (hkn : k ≤ 601024 ∧ n ≤ 7293034) (hv : ∀ j, j < 6 → vp_in (nI i + nI j) L) (next : ∀ (I2 : Nat → Nat → Int32) (J2 : Nat → Nat → Int64) (R2 : Nat → Nat → Option Nat) (k2 n2 : Nat), ow_RF R2 → sp_W I2 → k2 ≤ k + 1 → n2 ≤ n + 6 → ow_AW ow_Y1 (ow_Zw L xs) M_Law_law 40 601024 7293034 2084 [(0, .ref 980), (1, .ref 0), (2, .ref 70), (3, .ref 84), (4, .int (nI i))] [] (85, I2, J2, R2) k2 n2) : ow_AW ow_Y1 (ow_Zw L xs) M_Law_law 40 601024 7293034 1002 [(0, .ref 980), (1, .ref 0), (2, .ref 70), (3, .ref 84), (4, .int (nI i))] [] (85, I, J, R) k n := by
  refine ow_aload_n 1 rfl d_Law_law_1002 ?_
  refine ow_aload_n 0 rfl d_Law_law_1003 ?_
  refine ow_iload 4 rfl d_Law_law_1004 ?_
  refine ow_iconst (v := 1) (by decide) d_Law_law_1006 ?_
  refine ow_iadd d_Law_law_1007 ?_
  refine ow_sld d_Law_law_1008 (hv 1 (by decide)) ?_
  refine ow_callV (b := 0) (cq := 11) (As := [.int (xs (nI i + 1).toNatClampNeg)]) (rest := []) (d2 := 39) d_Law_law_1009 l_Law_112 v_Fs_servedIn (show 0 < 85 by decide) rfl (by decide) rfl (Nat.le_of_ble_eq_true rfl) (Nat.le_refl _) hkn ?_
  refine (sp_U_of p_servedIn) 27 I J R _ hR hW ?_
  intro v I2 J2 R2 hR2 hM
  show ow_AW ow_Y1 (ow_Zw L xs) M_Law_law 40 601024 7293034 1012 [(0, .ref 980), (1, .ref 0), (2, .ref 70), (3, .ref 84), (4, .int (nI i))] [.int v] (85, I2, J2, R2) k n
  refine ow_aload_n 2 rfl d_Law_law_1012 ?_
  refine ow_aload_n 0 rfl d_Law_law_1013 ?_
  refine ow_iload 4 rfl d_Law_law_1014 ?_
  refine ow_iconst (v := 1) (by decide) d_Law_law_1016 ?_
  refine ow_iadd d_Law_law_1017 ?_
  refine ow_sld d_Law_law_1018 (hv 1 (by decide)) ?_
  refine ow_callV (b := 70) (cq := 12) (As := [.int (xs (nI i + 1).toNatClampNeg)]) (rest := [.int v]) (d2 := 39) d_Law_law_1019 l_Law_115 v_Mo_servedIn (show 70 < 85 by decide) rfl (by decide) rfl (Nat.le_of_ble_eq_true rfl) (Nat.le_refl _) hkn ?_
  refine hM _ ?_
  intro I3 J3 R3 hR3 hW3
  show ow_AW ow_Y1 (ow_Zw L xs) M_Law_law 40 601024 7293034 1022 [(0, .ref 980), (1, .ref 0), (2, .ref 70), (3, .ref 84), (4, .int (nI i))] [.int v, .int v] (85, I3, J3, R3) k n
  exact ow_icmp_eq (tgt := 2084) d_Law_law_1022 (by decide) (fun _ => next I3 J3 R3 k n hR3 hW3 (Nat.le_succ _) (Nat.le_add_right _ _)) (fun c => absurd rfl c)
set_option maxRecDepth 4000 in
theorem lw_case_23 (hR : ow_RF R) (hW : sp_W I) (hkn : k ≤ 601024 ∧ n ≤ 7293034) (hv : ∀ j, j < 6 → vp_in (nI i + nI j) L) (next : ∀ (I2 : Nat → Nat → Int32) (J2 : Nat → Nat → Int64) (R2 : Nat → Nat → Option Nat) (k2 n2 : Nat), ow_RF R2 → sp_W I2 → k2 ≤ k + 1 → n2 ≤ n + 6 → ow_AW ow_Y1 (ow_Zw L xs) M_Law_law 40 601024 7293034 2084 [(0, .ref 980), (1, .ref 0), (2, .ref 70), (3, .ref 84), (4, .int (nI i))] [] (85, I2, J2, R2) k2 n2) : ow_AW ow_Y1 (ow_Zw L xs) M_Law_law 40 601024 7293034 1027 [(0, .ref 980), (1, .ref 0), (2, .ref 70), (3, .ref 84), (4, .int (nI i))] [] (85, I, J, R) k n := by
  refine ow_aload_n 1 rfl d_Law_law_1027 ?_
  refine ow_aload_n 0 rfl d_Law_law_1028 ?_
  refine ow_iload 4 rfl d_Law_law_1029 ?_
  refine ow_iconst (v := 1) (by decide) d_Law_law_1031 ?_
  refine ow_iadd d_Law_law_1032 ?_
  refine ow_sld d_Law_law_1033 (hv 1 (by decide)) ?_
  refine ow_callV (b := 0) (cq := 11) (As := [.int (xs (nI i + 1).toNatClampNeg)]) (rest := []) (d2 := 39) d_Law_law_1034 l_Law_116 v_Fs_firstServed (show 0 < 85 by decide) rfl (by decide) rfl (Nat.le_of_ble_eq_true rfl) (Nat.le_refl _) hkn ?_
  refine (sp_U_of p_firstServed) 27 I J R _ hR hW ?_
  intro v I2 J2 R2 hR2 hM
  show ow_AW ow_Y1 (ow_Zw L xs) M_Law_law 40 601024 7293034 1037 [(0, .ref 980), (1, .ref 0), (2, .ref 70), (3, .ref 84), (4, .int (nI i))] [.int v] (85, I2, J2, R2) k n
  refine ow_aload_n 2 rfl d_Law_law_1037 ?_
  refine ow_aload_n 0 rfl d_Law_law_1038 ?_
  refine ow_iload 4 rfl d_Law_law_1039 ?_
  refine ow_iconst (v := 1) (by decide) d_Law_law_1041 ?_
  refine ow_iadd d_Law_law_1042 ?_
  refine ow_sld d_Law_law_1043 (hv 1 (by decide)) ?_
  refine ow_callV (b := 70) (cq := 12) (As := [.int (xs (nI i + 1).toNatClampNeg)]) (rest := [.int v]) (d2 := 39) d_Law_law_1044 l_Law_119 v_Mo_firstServed (show 70 < 85 by decide) rfl (by decide) rfl (Nat.le_of_ble_eq_true rfl) (Nat.le_refl _) hkn ?_
  refine hM _ ?_
  intro I3 J3 R3 hR3 hW3
  show ow_AW ow_Y1 (ow_Zw L xs) M_Law_law 40 601024 7293034 1047 [(0, .ref 980), (1, .ref 0), (2, .ref 70), (3, .ref 84), (4, .int (nI i))] [.int v, .int v] (85, I3, J3, R3) k n
  exact ow_icmp_eq (tgt := 2084) d_Law_law_1047 (by decide) (fun _ => next I3 J3 R3 k n hR3 hW3 (Nat.le_succ _) (Nat.le_add_right _ _)) (fun c => absurd rfl c)
set_option maxRecDepth 4000 in
theorem lw_case_24 (hR : ow_RF R) (hW : sp_W I) (hkn : k ≤ 601024 ∧ n ≤ 7293034) (hv : ∀ j, j < 6 → vp_in (nI i + nI j) L) (next : ∀ (I2 : Nat → Nat → Int32) (J2 : Nat → Nat → Int64) (R2 : Nat → Nat → Option Nat) (k2 n2 : Nat), ow_RF R2 → sp_W I2 → k2 ≤ k + 1 → n2 ≤ n + 6 → ow_AW ow_Y1 (ow_Zw L xs) M_Law_law 40 601024 7293034 2084 [(0, .ref 980), (1, .ref 0), (2, .ref 70), (3, .ref 84), (4, .int (nI i))] [] (85, I2, J2, R2) k2 n2) : ow_AW ow_Y1 (ow_Zw L xs) M_Law_law 40 601024 7293034 1052 [(0, .ref 980), (1, .ref 0), (2, .ref 70), (3, .ref 84), (4, .int (nI i))] [] (85, I, J, R) k n := by
  refine ow_aload_n 1 rfl d_Law_law_1052 ?_
  refine ow_aload_n 0 rfl d_Law_law_1053 ?_
  refine ow_iload 4 rfl d_Law_law_1054 ?_
  refine ow_iconst (v := 1) (by decide) d_Law_law_1056 ?_
  refine ow_iadd d_Law_law_1057 ?_
  refine ow_sld d_Law_law_1058 (hv 1 (by decide)) ?_
  refine ow_callV (b := 0) (cq := 11) (As := [.int (xs (nI i + 1).toNatClampNeg)]) (rest := []) (d2 := 39) d_Law_law_1059 l_Law_120 v_Fs_lastServed (show 0 < 85 by decide) rfl (by decide) rfl (Nat.le_of_ble_eq_true rfl) (Nat.le_refl _) hkn ?_
  refine (sp_U_of p_lastServed) 27 I J R _ hR hW ?_
  intro v I2 J2 R2 hR2 hM
  show ow_AW ow_Y1 (ow_Zw L xs) M_Law_law 40 601024 7293034 1062 [(0, .ref 980), (1, .ref 0), (2, .ref 70), (3, .ref 84), (4, .int (nI i))] [.int v] (85, I2, J2, R2) k n
  refine ow_aload_n 2 rfl d_Law_law_1062 ?_
  refine ow_aload_n 0 rfl d_Law_law_1063 ?_
  refine ow_iload 4 rfl d_Law_law_1064 ?_
  refine ow_iconst (v := 1) (by decide) d_Law_law_1066 ?_
  refine ow_iadd d_Law_law_1067 ?_
  refine ow_sld d_Law_law_1068 (hv 1 (by decide)) ?_
  refine ow_callV (b := 70) (cq := 12) (As := [.int (xs (nI i + 1).toNatClampNeg)]) (rest := [.int v]) (d2 := 39) d_Law_law_1069 l_Law_123 v_Mo_lastServed (show 70 < 85 by decide) rfl (by decide) rfl (Nat.le_of_ble_eq_true rfl) (Nat.le_refl _) hkn ?_
  refine hM _ ?_
  intro I3 J3 R3 hR3 hW3
  show ow_AW ow_Y1 (ow_Zw L xs) M_Law_law 40 601024 7293034 1072 [(0, .ref 980), (1, .ref 0), (2, .ref 70), (3, .ref 84), (4, .int (nI i))] [.int v, .int v] (85, I3, J3, R3) k n
  exact ow_icmp_eq (tgt := 2084) d_Law_law_1072 (by decide) (fun _ => next I3 J3 R3 k n hR3 hW3 (Nat.le_succ _) (Nat.le_add_right _ _)) (fun c => absurd rfl c)
set_option maxRecDepth 4000 in
theorem lw_case_25 (hR : ow_RF R) (hW : sp_W I) (hkn : k ≤ 601024 ∧ n ≤ 7293034) (hv : ∀ j, j < 6 → vp_in (nI i + nI j) L) (next : ∀ (I2 : Nat → Nat → Int32) (J2 : Nat → Nat → Int64) (R2 : Nat → Nat → Option Nat) (k2 n2 : Nat), ow_RF R2 → sp_W I2 → k2 ≤ k + 1 → n2 ≤ n + 6 → ow_AW ow_Y1 (ow_Zw L xs) M_Law_law 40 601024 7293034 2084 [(0, .ref 980), (1, .ref 0), (2, .ref 70), (3, .ref 84), (4, .int (nI i))] [] (85, I2, J2, R2) k2 n2) : ow_AW ow_Y1 (ow_Zw L xs) M_Law_law 40 601024 7293034 1077 [(0, .ref 980), (1, .ref 0), (2, .ref 70), (3, .ref 84), (4, .int (nI i))] [] (85, I, J, R) k n := by
  refine ow_aload_n 1 rfl d_Law_law_1077 ?_
  refine ow_aload_n 0 rfl d_Law_law_1078 ?_
  refine ow_iload 4 rfl d_Law_law_1079 ?_
  refine ow_iconst (v := 1) (by decide) d_Law_law_1081 ?_
  refine ow_iadd d_Law_law_1082 ?_
  refine ow_sld d_Law_law_1083 (hv 1 (by decide)) ?_
  refine ow_callV (b := 0) (cq := 11) (As := [.int (xs (nI i + 1).toNatClampNeg)]) (rest := []) (d2 := 39) d_Law_law_1084 l_Law_124 v_Fs_plan (show 0 < 85 by decide) rfl (by decide) rfl (Nat.le_of_ble_eq_true rfl) (Nat.le_refl _) hkn ?_
  refine (sp_U_of p_plan) 27 I J R _ hR hW ?_
  intro v I2 J2 R2 hR2 hM
  show ow_AW ow_Y1 (ow_Zw L xs) M_Law_law 40 601024 7293034 1087 [(0, .ref 980), (1, .ref 0), (2, .ref 70), (3, .ref 84), (4, .int (nI i))] [.int v] (85, I2, J2, R2) k n
  refine ow_aload_n 2 rfl d_Law_law_1087 ?_
  refine ow_aload_n 0 rfl d_Law_law_1088 ?_
  refine ow_iload 4 rfl d_Law_law_1089 ?_
  refine ow_iconst (v := 1) (by decide) d_Law_law_1091 ?_
  refine ow_iadd d_Law_law_1092 ?_
  refine ow_sld d_Law_law_1093 (hv 1 (by decide)) ?_
  refine ow_callV (b := 70) (cq := 12) (As := [.int (xs (nI i + 1).toNatClampNeg)]) (rest := [.int v]) (d2 := 39) d_Law_law_1094 l_Law_127 v_Mo_plan (show 70 < 85 by decide) rfl (by decide) rfl (Nat.le_of_ble_eq_true rfl) (Nat.le_refl _) hkn ?_
  refine hM _ ?_
  intro I3 J3 R3 hR3 hW3
  show ow_AW ow_Y1 (ow_Zw L xs) M_Law_law 40 601024 7293034 1097 [(0, .ref 980), (1, .ref 0), (2, .ref 70), (3, .ref 84), (4, .int (nI i))] [.int v, .int v] (85, I3, J3, R3) k n
  exact ow_icmp_eq (tgt := 2084) d_Law_law_1097 (by decide) (fun _ => next I3 J3 R3 k n hR3 hW3 (Nat.le_succ _) (Nat.le_add_right _ _)) (fun c => absurd rfl c)
set_option maxRecDepth 4000 in
theorem lw_case_26 (hR : ow_RF R) (hW : sp_W I) (hkn : k ≤ 601024 ∧ n ≤ 7293034) (hv : ∀ j, j < 6 → vp_in (nI i + nI j) L) (next : ∀ (I2 : Nat → Nat → Int32) (J2 : Nat → Nat → Int64) (R2 : Nat → Nat → Option Nat) (k2 n2 : Nat), ow_RF R2 → sp_W I2 → k2 ≤ k + 1 → n2 ≤ n + 6 → ow_AW ow_Y1 (ow_Zw L xs) M_Law_law 40 601024 7293034 2084 [(0, .ref 980), (1, .ref 0), (2, .ref 70), (3, .ref 84), (4, .int (nI i))] [] (85, I2, J2, R2) k2 n2) : ow_AW ow_Y1 (ow_Zw L xs) M_Law_law 40 601024 7293034 1102 [(0, .ref 980), (1, .ref 0), (2, .ref 70), (3, .ref 84), (4, .int (nI i))] [] (85, I, J, R) k n := by
  refine ow_aload_n 1 rfl d_Law_law_1102 ?_
  refine ow_aload_n 0 rfl d_Law_law_1103 ?_
  refine ow_iload 4 rfl d_Law_law_1104 ?_
  refine ow_iconst (v := 1) (by decide) d_Law_law_1106 ?_
  refine ow_iadd d_Law_law_1107 ?_
  refine ow_sld d_Law_law_1108 (hv 1 (by decide)) ?_
  refine ow_callV (b := 0) (cq := 11) (As := [.int (xs (nI i + 1).toNatClampNeg)]) (rest := []) (d2 := 39) d_Law_law_1109 l_Law_128 v_Fs_planServes (show 0 < 85 by decide) rfl (by decide) rfl (Nat.le_of_ble_eq_true rfl) (Nat.le_refl _) hkn ?_
  refine (sp_U_of p_planServes) 27 I J R _ hR hW ?_
  intro v I2 J2 R2 hR2 hM
  show ow_AW ow_Y1 (ow_Zw L xs) M_Law_law 40 601024 7293034 1112 [(0, .ref 980), (1, .ref 0), (2, .ref 70), (3, .ref 84), (4, .int (nI i))] [.int v] (85, I2, J2, R2) k n
  refine ow_aload_n 2 rfl d_Law_law_1112 ?_
  refine ow_aload_n 0 rfl d_Law_law_1113 ?_
  refine ow_iload 4 rfl d_Law_law_1114 ?_
  refine ow_iconst (v := 1) (by decide) d_Law_law_1116 ?_
  refine ow_iadd d_Law_law_1117 ?_
  refine ow_sld d_Law_law_1118 (hv 1 (by decide)) ?_
  refine ow_callV (b := 70) (cq := 12) (As := [.int (xs (nI i + 1).toNatClampNeg)]) (rest := [.int v]) (d2 := 39) d_Law_law_1119 l_Law_131 v_Mo_planServes (show 70 < 85 by decide) rfl (by decide) rfl (Nat.le_of_ble_eq_true rfl) (Nat.le_refl _) hkn ?_
  refine hM _ ?_
  intro I3 J3 R3 hR3 hW3
  show ow_AW ow_Y1 (ow_Zw L xs) M_Law_law 40 601024 7293034 1122 [(0, .ref 980), (1, .ref 0), (2, .ref 70), (3, .ref 84), (4, .int (nI i))] [.int v, .int v] (85, I3, J3, R3) k n
  exact ow_icmp_eq (tgt := 2084) d_Law_law_1122 (by decide) (fun _ => next I3 J3 R3 k n hR3 hW3 (Nat.le_succ _) (Nat.le_add_right _ _)) (fun c => absurd rfl c)
set_option maxRecDepth 4000 in
theorem lw_case_27 (hR : ow_RF R) (hW : sp_W I) (hkn : k ≤ 601024 ∧ n ≤ 7293034) (hv : ∀ j, j < 6 → vp_in (nI i + nI j) L) (next : ∀ (I2 : Nat → Nat → Int32) (J2 : Nat → Nat → Int64) (R2 : Nat → Nat → Option Nat) (k2 n2 : Nat), ow_RF R2 → sp_W I2 → k2 ≤ k + 1 → n2 ≤ n + 6 → ow_AW ow_Y1 (ow_Zw L xs) M_Law_law 40 601024 7293034 2084 [(0, .ref 980), (1, .ref 0), (2, .ref 70), (3, .ref 84), (4, .int (nI i))] [] (85, I2, J2, R2) k2 n2) : ow_AW ow_Y1 (ow_Zw L xs) M_Law_law 40 601024 7293034 1127 [(0, .ref 980), (1, .ref 0), (2, .ref 70), (3, .ref 84), (4, .int (nI i))] [] (85, I, J, R) k n := by
  refine ow_aload_n 1 rfl d_Law_law_1127 ?_
  refine ow_callV (b := 0) (cq := 11) (As := []) (rest := []) (d2 := 39) d_Law_law_1128 l_Law_132 v_Fs_keep (show 0 < 85 by decide) rfl (by decide) rfl (Nat.le_of_ble_eq_true rfl) (Nat.le_refl _) hkn ?_
  refine (sp_U_of p_keep) 27 I J R _ hR hW ?_
  intro v I2 J2 R2 hR2 hM
  show ow_AW ow_Y1 (ow_Zw L xs) M_Law_law 40 601024 7293034 1131 [(0, .ref 980), (1, .ref 0), (2, .ref 70), (3, .ref 84), (4, .int (nI i))] [.int v] (85, I2, J2, R2) k n
  refine ow_aload_n 2 rfl d_Law_law_1131 ?_
  refine ow_callV (b := 70) (cq := 12) (As := []) (rest := [.int v]) (d2 := 39) d_Law_law_1132 l_Law_135 v_Mo_keep (show 70 < 85 by decide) rfl (by decide) rfl (Nat.le_of_ble_eq_true rfl) (Nat.le_refl _) hkn ?_
  refine hM _ ?_
  intro I3 J3 R3 hR3 hW3
  show ow_AW ow_Y1 (ow_Zw L xs) M_Law_law 40 601024 7293034 1135 [(0, .ref 980), (1, .ref 0), (2, .ref 70), (3, .ref 84), (4, .int (nI i))] [.int v, .int v] (85, I3, J3, R3) k n
  exact ow_icmp_eq (tgt := 2084) d_Law_law_1135 (by decide) (fun _ => next I3 J3 R3 k n hR3 hW3 (Nat.le_succ _) (Nat.le_add_right _ _)) (fun c => absurd rfl c)
set_option maxRecDepth 4000 in
theorem lw_case_28 (hR : ow_RF R) (hW : sp_W I) (hkn : k ≤ 601024 ∧ n ≤ 7293034) (hv : ∀ j, j < 6 → vp_in (nI i + nI j) L) (next : ∀ (I2 : Nat → Nat → Int32) (J2 : Nat → Nat → Int64) (R2 : Nat → Nat → Option Nat) (k2 n2 : Nat), ow_RF R2 → sp_W I2 → k2 ≤ k + 1 → n2 ≤ n + 6 → ow_AW ow_Y1 (ow_Zw L xs) M_Law_law 40 601024 7293034 2084 [(0, .ref 980), (1, .ref 0), (2, .ref 70), (3, .ref 84), (4, .int (nI i))] [] (85, I2, J2, R2) k2 n2) : ow_AW ow_Y1 (ow_Zw L xs) M_Law_law 40 601024 7293034 1140 [(0, .ref 980), (1, .ref 0), (2, .ref 70), (3, .ref 84), (4, .int (nI i))] [] (85, I, J, R) k n := by
  refine ow_aload_n 1 rfl d_Law_law_1140 ?_
  refine ow_callV (b := 0) (cq := 11) (As := []) (rest := []) (d2 := 39) d_Law_law_1141 l_Law_136 v_Fs_pillar (show 0 < 85 by decide) rfl (by decide) rfl (Nat.le_of_ble_eq_true rfl) (Nat.le_refl _) hkn ?_
  refine (sp_U_of p_pillar) 27 I J R _ hR hW ?_
  intro v I2 J2 R2 hR2 hM
  show ow_AW ow_Y1 (ow_Zw L xs) M_Law_law 40 601024 7293034 1144 [(0, .ref 980), (1, .ref 0), (2, .ref 70), (3, .ref 84), (4, .int (nI i))] [.int v] (85, I2, J2, R2) k n
  refine ow_aload_n 2 rfl d_Law_law_1144 ?_
  refine ow_callV (b := 70) (cq := 12) (As := []) (rest := [.int v]) (d2 := 39) d_Law_law_1145 l_Law_139 v_Mo_pillar (show 70 < 85 by decide) rfl (by decide) rfl (Nat.le_of_ble_eq_true rfl) (Nat.le_refl _) hkn ?_
  refine hM _ ?_
  intro I3 J3 R3 hR3 hW3
  show ow_AW ow_Y1 (ow_Zw L xs) M_Law_law 40 601024 7293034 1148 [(0, .ref 980), (1, .ref 0), (2, .ref 70), (3, .ref 84), (4, .int (nI i))] [.int v, .int v] (85, I3, J3, R3) k n
  exact ow_icmp_eq (tgt := 2084) d_Law_law_1148 (by decide) (fun _ => next I3 J3 R3 k n hR3 hW3 (Nat.le_succ _) (Nat.le_add_right _ _)) (fun c => absurd rfl c)
set_option maxRecDepth 4000 in
theorem lw_case_29 (hR : ow_RF R) (hW : sp_W I) (hkn : k ≤ 601024 ∧ n ≤ 7293034) (hv : ∀ j, j < 6 → vp_in (nI i + nI j) L) (next : ∀ (I2 : Nat → Nat → Int32) (J2 : Nat → Nat → Int64) (R2 : Nat → Nat → Option Nat) (k2 n2 : Nat), ow_RF R2 → sp_W I2 → k2 ≤ k + 1 → n2 ≤ n + 6 → ow_AW ow_Y1 (ow_Zw L xs) M_Law_law 40 601024 7293034 2084 [(0, .ref 980), (1, .ref 0), (2, .ref 70), (3, .ref 84), (4, .int (nI i))] [] (85, I2, J2, R2) k2 n2) : ow_AW ow_Y1 (ow_Zw L xs) M_Law_law 40 601024 7293034 1153 [(0, .ref 980), (1, .ref 0), (2, .ref 70), (3, .ref 84), (4, .int (nI i))] [] (85, I, J, R) k n := by
  refine ow_aload_n 1 rfl d_Law_law_1153 ?_
  refine ow_callV (b := 0) (cq := 11) (As := []) (rest := []) (d2 := 39) d_Law_law_1154 l_Law_140 v_Fs_fits (show 0 < 85 by decide) rfl (by decide) rfl (Nat.le_of_ble_eq_true rfl) (Nat.le_refl _) hkn ?_
  refine (sp_U_of p_fits) 27 I J R _ hR hW ?_
  intro v I2 J2 R2 hR2 hM
  show ow_AW ow_Y1 (ow_Zw L xs) M_Law_law 40 601024 7293034 1157 [(0, .ref 980), (1, .ref 0), (2, .ref 70), (3, .ref 84), (4, .int (nI i))] [.int v] (85, I2, J2, R2) k n
  refine ow_aload_n 2 rfl d_Law_law_1157 ?_
  refine ow_callV (b := 70) (cq := 12) (As := []) (rest := [.int v]) (d2 := 39) d_Law_law_1158 l_Law_143 v_Mo_fits (show 70 < 85 by decide) rfl (by decide) rfl (Nat.le_of_ble_eq_true rfl) (Nat.le_refl _) hkn ?_
  refine hM _ ?_
  intro I3 J3 R3 hR3 hW3
  show ow_AW ow_Y1 (ow_Zw L xs) M_Law_law 40 601024 7293034 1161 [(0, .ref 980), (1, .ref 0), (2, .ref 70), (3, .ref 84), (4, .int (nI i))] [.int v, .int v] (85, I3, J3, R3) k n
  exact ow_icmp_eq (tgt := 2084) d_Law_law_1161 (by decide) (fun _ => next I3 J3 R3 k n hR3 hW3 (Nat.le_succ _) (Nat.le_add_right _ _)) (fun c => absurd rfl c)
set_option maxRecDepth 4000 in
theorem lw_case_30 (hR : ow_RF R) (hW : sp_W I) (hkn : k ≤ 601024 ∧ n ≤ 7293034) (hv : ∀ j, j < 6 → vp_in (nI i + nI j) L) (next : ∀ (I2 : Nat → Nat → Int32) (J2 : Nat → Nat → Int64) (R2 : Nat → Nat → Option Nat) (k2 n2 : Nat), ow_RF R2 → sp_W I2 → k2 ≤ k + 1 → n2 ≤ n + 6 → ow_AW ow_Y1 (ow_Zw L xs) M_Law_law 40 601024 7293034 2084 [(0, .ref 980), (1, .ref 0), (2, .ref 70), (3, .ref 84), (4, .int (nI i))] [] (85, I2, J2, R2) k2 n2) : ow_AW ow_Y1 (ow_Zw L xs) M_Law_law 40 601024 7293034 1166 [(0, .ref 980), (1, .ref 0), (2, .ref 70), (3, .ref 84), (4, .int (nI i))] [] (85, I, J, R) k n := by
  refine ow_aload_n 1 rfl d_Law_law_1166 ?_
  refine ow_aload_n 0 rfl d_Law_law_1167 ?_
  refine ow_iload 4 rfl d_Law_law_1168 ?_
  refine ow_iconst (v := 1) (by decide) d_Law_law_1170 ?_
  refine ow_iadd d_Law_law_1171 ?_
  refine ow_sld d_Law_law_1172 (hv 1 (by decide)) ?_
  refine ow_aload_n 0 rfl d_Law_law_1173 ?_
  refine ow_iload 4 rfl d_Law_law_1174 ?_
  refine ow_iconst (v := 2) (by decide) d_Law_law_1176 ?_
  refine ow_iadd d_Law_law_1177 ?_
  refine ow_sld d_Law_law_1178 (hv 2 (by decide)) ?_
  refine ow_callV (b := 0) (cq := 11) (As := [.int (xs (nI i + 1).toNatClampNeg), .int (xs (nI i + 2).toNatClampNeg)]) (rest := []) (d2 := 39) d_Law_law_1179 l_Law_144 v_Fs_fitAt (show 0 < 85 by decide) rfl (by decide) rfl (Nat.le_of_ble_eq_true rfl) (Nat.le_refl _) hkn ?_
  refine (sp_U_of p_fitAt) 27 I J R _ hR hW ?_
  intro v I2 J2 R2 hR2 hM
  show ow_AW ow_Y1 (ow_Zw L xs) M_Law_law 40 601024 7293034 1182 [(0, .ref 980), (1, .ref 0), (2, .ref 70), (3, .ref 84), (4, .int (nI i))] [.int v] (85, I2, J2, R2) k n
  refine ow_aload_n 2 rfl d_Law_law_1182 ?_
  refine ow_aload_n 0 rfl d_Law_law_1183 ?_
  refine ow_iload 4 rfl d_Law_law_1184 ?_
  refine ow_iconst (v := 1) (by decide) d_Law_law_1186 ?_
  refine ow_iadd d_Law_law_1187 ?_
  refine ow_sld d_Law_law_1188 (hv 1 (by decide)) ?_
  refine ow_aload_n 0 rfl d_Law_law_1189 ?_
  refine ow_iload 4 rfl d_Law_law_1190 ?_
  refine ow_iconst (v := 2) (by decide) d_Law_law_1192 ?_
  refine ow_iadd d_Law_law_1193 ?_
  refine ow_sld d_Law_law_1194 (hv 2 (by decide)) ?_
  refine ow_callV (b := 70) (cq := 12) (As := [.int (xs (nI i + 1).toNatClampNeg), .int (xs (nI i + 2).toNatClampNeg)]) (rest := [.int v]) (d2 := 39) d_Law_law_1195 l_Law_147 v_Mo_fitAt (show 70 < 85 by decide) rfl (by decide) rfl (Nat.le_of_ble_eq_true rfl) (Nat.le_refl _) hkn ?_
  refine hM _ ?_
  intro I3 J3 R3 hR3 hW3
  show ow_AW ow_Y1 (ow_Zw L xs) M_Law_law 40 601024 7293034 1198 [(0, .ref 980), (1, .ref 0), (2, .ref 70), (3, .ref 84), (4, .int (nI i))] [.int v, .int v] (85, I3, J3, R3) k n
  exact ow_icmp_eq (tgt := 2084) d_Law_law_1198 (by decide) (fun _ => next I3 J3 R3 k n hR3 hW3 (Nat.le_succ _) (Nat.le_add_right _ _)) (fun c => absurd rfl c)
set_option maxRecDepth 4000 in
theorem lw_case_31 (hR : ow_RF R) (hW : sp_W I) (hkn : k ≤ 601024 ∧ n ≤ 7293034) (hv : ∀ j, j < 6 → vp_in (nI i + nI j) L) (next : ∀ (I2 : Nat → Nat → Int32) (J2 : Nat → Nat → Int64) (R2 : Nat → Nat → Option Nat) (k2 n2 : Nat), ow_RF R2 → sp_W I2 → k2 ≤ k + 1 → n2 ≤ n + 6 → ow_AW ow_Y1 (ow_Zw L xs) M_Law_law 40 601024 7293034 2084 [(0, .ref 980), (1, .ref 0), (2, .ref 70), (3, .ref 84), (4, .int (nI i))] [] (85, I2, J2, R2) k2 n2) : ow_AW ow_Y1 (ow_Zw L xs) M_Law_law 40 601024 7293034 1203 [(0, .ref 980), (1, .ref 0), (2, .ref 70), (3, .ref 84), (4, .int (nI i))] [] (85, I, J, R) k n := by
  refine ow_aload_n 1 rfl d_Law_law_1203 ?_
  refine ow_aload_n 0 rfl d_Law_law_1204 ?_
  refine ow_iload 4 rfl d_Law_law_1205 ?_
  refine ow_iconst (v := 1) (by decide) d_Law_law_1207 ?_
  refine ow_iadd d_Law_law_1208 ?_
  refine ow_sld d_Law_law_1209 (hv 1 (by decide)) ?_
  refine ow_aload_n 0 rfl d_Law_law_1210 ?_
  refine ow_iload 4 rfl d_Law_law_1211 ?_
  refine ow_iconst (v := 2) (by decide) d_Law_law_1213 ?_
  refine ow_iadd d_Law_law_1214 ?_
  refine ow_sld d_Law_law_1215 (hv 2 (by decide)) ?_
  refine ow_callV (b := 0) (cq := 11) (As := [.int (xs (nI i + 1).toNatClampNeg), .int (xs (nI i + 2).toNatClampNeg)]) (rest := []) (d2 := 39) d_Law_law_1216 l_Law_148 v_Fs_shapedBy (show 0 < 85 by decide) rfl (by decide) rfl (Nat.le_of_ble_eq_true rfl) (Nat.le_refl _) hkn ?_
  refine (sp_U_of p_shapedBy) 27 I J R _ hR hW ?_
  intro v I2 J2 R2 hR2 hM
  show ow_AW ow_Y1 (ow_Zw L xs) M_Law_law 40 601024 7293034 1219 [(0, .ref 980), (1, .ref 0), (2, .ref 70), (3, .ref 84), (4, .int (nI i))] [.int v] (85, I2, J2, R2) k n
  refine ow_aload_n 2 rfl d_Law_law_1219 ?_
  refine ow_aload_n 0 rfl d_Law_law_1220 ?_
  refine ow_iload 4 rfl d_Law_law_1221 ?_
  refine ow_iconst (v := 1) (by decide) d_Law_law_1223 ?_
  refine ow_iadd d_Law_law_1224 ?_
  refine ow_sld d_Law_law_1225 (hv 1 (by decide)) ?_
  refine ow_aload_n 0 rfl d_Law_law_1226 ?_
  refine ow_iload 4 rfl d_Law_law_1227 ?_
  refine ow_iconst (v := 2) (by decide) d_Law_law_1229 ?_
  refine ow_iadd d_Law_law_1230 ?_
  refine ow_sld d_Law_law_1231 (hv 2 (by decide)) ?_
  refine ow_callV (b := 70) (cq := 12) (As := [.int (xs (nI i + 1).toNatClampNeg), .int (xs (nI i + 2).toNatClampNeg)]) (rest := [.int v]) (d2 := 39) d_Law_law_1232 l_Law_151 v_Mo_shapedBy (show 70 < 85 by decide) rfl (by decide) rfl (Nat.le_of_ble_eq_true rfl) (Nat.le_refl _) hkn ?_
  refine hM _ ?_
  intro I3 J3 R3 hR3 hW3
  show ow_AW ow_Y1 (ow_Zw L xs) M_Law_law 40 601024 7293034 1235 [(0, .ref 980), (1, .ref 0), (2, .ref 70), (3, .ref 84), (4, .int (nI i))] [.int v, .int v] (85, I3, J3, R3) k n
  exact ow_icmp_eq (tgt := 2084) d_Law_law_1235 (by decide) (fun _ => next I3 J3 R3 k n hR3 hW3 (Nat.le_succ _) (Nat.le_add_right _ _)) (fun c => absurd rfl c)
set_option maxRecDepth 4000 in
theorem lw_case_32 (hR : ow_RF R) (hW : sp_W I) (hkn : k ≤ 601024 ∧ n ≤ 7293034) (hv : ∀ j, j < 6 → vp_in (nI i + nI j) L) (next : ∀ (I2 : Nat → Nat → Int32) (J2 : Nat → Nat → Int64) (R2 : Nat → Nat → Option Nat) (k2 n2 : Nat), ow_RF R2 → sp_W I2 → k2 ≤ k + 1 → n2 ≤ n + 6 → ow_AW ow_Y1 (ow_Zw L xs) M_Law_law 40 601024 7293034 2084 [(0, .ref 980), (1, .ref 0), (2, .ref 70), (3, .ref 84), (4, .int (nI i))] [] (85, I2, J2, R2) k2 n2) : ow_AW ow_Y1 (ow_Zw L xs) M_Law_law 40 601024 7293034 1240 [(0, .ref 980), (1, .ref 0), (2, .ref 70), (3, .ref 84), (4, .int (nI i))] [] (85, I, J, R) k n := by
  refine ow_aload_n 1 rfl d_Law_law_1240 ?_
  refine ow_callV (b := 0) (cq := 11) (As := []) (rest := []) (d2 := 39) d_Law_law_1241 l_Law_152 v_Fs_tryLetter (show 0 < 85 by decide) rfl (by decide) rfl (Nat.le_of_ble_eq_true rfl) (Nat.le_refl _) hkn ?_
  refine (sp_U_of p_tryLetter) 27 I J R _ hR hW ?_
  intro v I2 J2 R2 hR2 hM
  show ow_AW ow_Y1 (ow_Zw L xs) M_Law_law 40 601024 7293034 1244 [(0, .ref 980), (1, .ref 0), (2, .ref 70), (3, .ref 84), (4, .int (nI i))] [.int v] (85, I2, J2, R2) k n
  refine ow_aload_n 2 rfl d_Law_law_1244 ?_
  refine ow_callV (b := 70) (cq := 12) (As := []) (rest := [.int v]) (d2 := 39) d_Law_law_1245 l_Law_155 v_Mo_tryLetter (show 70 < 85 by decide) rfl (by decide) rfl (Nat.le_of_ble_eq_true rfl) (Nat.le_refl _) hkn ?_
  refine hM _ ?_
  intro I3 J3 R3 hR3 hW3
  show ow_AW ow_Y1 (ow_Zw L xs) M_Law_law 40 601024 7293034 1248 [(0, .ref 980), (1, .ref 0), (2, .ref 70), (3, .ref 84), (4, .int (nI i))] [.int v, .int v] (85, I3, J3, R3) k n
  exact ow_icmp_eq (tgt := 2084) d_Law_law_1248 (by decide) (fun _ => next I3 J3 R3 k n hR3 hW3 (Nat.le_succ _) (Nat.le_add_right _ _)) (fun c => absurd rfl c)
set_option maxRecDepth 4000 in
theorem lw_case_33 (hR : ow_RF R) (hW : sp_W I) (hkn : k ≤ 601024 ∧ n ≤ 7293034) (hv : ∀ j, j < 6 → vp_in (nI i + nI j) L) (next : ∀ (I2 : Nat → Nat → Int32) (J2 : Nat → Nat → Int64) (R2 : Nat → Nat → Option Nat) (k2 n2 : Nat), ow_RF R2 → sp_W I2 → k2 ≤ k + 1 → n2 ≤ n + 6 → ow_AW ow_Y1 (ow_Zw L xs) M_Law_law 40 601024 7293034 2084 [(0, .ref 980), (1, .ref 0), (2, .ref 70), (3, .ref 84), (4, .int (nI i))] [] (85, I2, J2, R2) k2 n2) : ow_AW ow_Y1 (ow_Zw L xs) M_Law_law 40 601024 7293034 1253 [(0, .ref 980), (1, .ref 0), (2, .ref 70), (3, .ref 84), (4, .int (nI i))] [] (85, I, J, R) k n := by
  refine ow_aload_n 1 rfl d_Law_law_1253 ?_
  refine ow_callV (b := 0) (cq := 11) (As := []) (rest := []) (d2 := 39) d_Law_law_1254 l_Law_156 v_Fs_tryLeaves (show 0 < 85 by decide) rfl (by decide) rfl (Nat.le_of_ble_eq_true rfl) (Nat.le_refl _) hkn ?_
  refine (sp_U_of p_tryLeaves) 27 I J R _ hR hW ?_
  intro v I2 J2 R2 hR2 hM
  show ow_AW ow_Y1 (ow_Zw L xs) M_Law_law 40 601024 7293034 1257 [(0, .ref 980), (1, .ref 0), (2, .ref 70), (3, .ref 84), (4, .int (nI i))] [.int v] (85, I2, J2, R2) k n
  refine ow_aload_n 2 rfl d_Law_law_1257 ?_
  refine ow_callV (b := 70) (cq := 12) (As := []) (rest := [.int v]) (d2 := 39) d_Law_law_1258 l_Law_159 v_Mo_tryLeaves (show 70 < 85 by decide) rfl (by decide) rfl (Nat.le_of_ble_eq_true rfl) (Nat.le_refl _) hkn ?_
  refine hM _ ?_
  intro I3 J3 R3 hR3 hW3
  show ow_AW ow_Y1 (ow_Zw L xs) M_Law_law 40 601024 7293034 1261 [(0, .ref 980), (1, .ref 0), (2, .ref 70), (3, .ref 84), (4, .int (nI i))] [.int v, .int v] (85, I3, J3, R3) k n
  exact ow_icmp_eq (tgt := 2084) d_Law_law_1261 (by decide) (fun _ => next I3 J3 R3 k n hR3 hW3 (Nat.le_succ _) (Nat.le_add_right _ _)) (fun c => absurd rfl c)
set_option maxRecDepth 4000 in
theorem lw_case_34 (hR : ow_RF R) (hW : sp_W I) (hkn : k ≤ 601024 ∧ n ≤ 7293034) (hv : ∀ j, j < 6 → vp_in (nI i + nI j) L) (next : ∀ (I2 : Nat → Nat → Int32) (J2 : Nat → Nat → Int64) (R2 : Nat → Nat → Option Nat) (k2 n2 : Nat), ow_RF R2 → sp_W I2 → k2 ≤ k + 1 → n2 ≤ n + 6 → ow_AW ow_Y1 (ow_Zw L xs) M_Law_law 40 601024 7293034 2084 [(0, .ref 980), (1, .ref 0), (2, .ref 70), (3, .ref 84), (4, .int (nI i))] [] (85, I2, J2, R2) k2 n2) : ow_AW ow_Y1 (ow_Zw L xs) M_Law_law 40 601024 7293034 1266 [(0, .ref 980), (1, .ref 0), (2, .ref 70), (3, .ref 84), (4, .int (nI i))] [] (85, I, J, R) k n := by
  refine ow_aload_n 1 rfl d_Law_law_1266 ?_
  refine ow_callV (b := 0) (cq := 11) (As := []) (rest := []) (d2 := 39) d_Law_law_1267 l_Law_160 v_Fs_judge (show 0 < 85 by decide) rfl (by decide) rfl (Nat.le_of_ble_eq_true rfl) (Nat.le_refl _) hkn ?_
  refine (sp_U_of p_judge) 27 I J R _ hR hW ?_
  intro v I2 J2 R2 hR2 hM
  show ow_AW ow_Y1 (ow_Zw L xs) M_Law_law 40 601024 7293034 1270 [(0, .ref 980), (1, .ref 0), (2, .ref 70), (3, .ref 84), (4, .int (nI i))] [.int v] (85, I2, J2, R2) k n
  refine ow_aload_n 2 rfl d_Law_law_1270 ?_
  refine ow_callV (b := 70) (cq := 12) (As := []) (rest := [.int v]) (d2 := 39) d_Law_law_1271 l_Law_163 v_Mo_judge (show 70 < 85 by decide) rfl (by decide) rfl (Nat.le_of_ble_eq_true rfl) (Nat.le_refl _) hkn ?_
  refine hM _ ?_
  intro I3 J3 R3 hR3 hW3
  show ow_AW ow_Y1 (ow_Zw L xs) M_Law_law 40 601024 7293034 1274 [(0, .ref 980), (1, .ref 0), (2, .ref 70), (3, .ref 84), (4, .int (nI i))] [.int v, .int v] (85, I3, J3, R3) k n
  exact ow_icmp_eq (tgt := 2084) d_Law_law_1274 (by decide) (fun _ => next I3 J3 R3 k n hR3 hW3 (Nat.le_succ _) (Nat.le_add_right _ _)) (fun c => absurd rfl c)
set_option maxRecDepth 4000 in
theorem lw_case_35 (hR : ow_RF R) (hW : sp_W I) (hkn : k ≤ 601024 ∧ n ≤ 7293034) (hv : ∀ j, j < 6 → vp_in (nI i + nI j) L) (next : ∀ (I2 : Nat → Nat → Int32) (J2 : Nat → Nat → Int64) (R2 : Nat → Nat → Option Nat) (k2 n2 : Nat), ow_RF R2 → sp_W I2 → k2 ≤ k + 1 → n2 ≤ n + 6 → ow_AW ow_Y1 (ow_Zw L xs) M_Law_law 40 601024 7293034 2084 [(0, .ref 980), (1, .ref 0), (2, .ref 70), (3, .ref 84), (4, .int (nI i))] [] (85, I2, J2, R2) k2 n2) : ow_AW ow_Y1 (ow_Zw L xs) M_Law_law 40 601024 7293034 1279 [(0, .ref 980), (1, .ref 0), (2, .ref 70), (3, .ref 84), (4, .int (nI i))] [] (85, I, J, R) k n := by
  refine ow_aload_n 1 rfl d_Law_law_1279 ?_
  refine ow_aload_n 0 rfl d_Law_law_1280 ?_
  refine ow_iload 4 rfl d_Law_law_1281 ?_
  refine ow_iconst (v := 1) (by decide) d_Law_law_1283 ?_
  refine ow_iadd d_Law_law_1284 ?_
  refine ow_sld d_Law_law_1285 (hv 1 (by decide)) ?_
  refine ow_aload_n 0 rfl d_Law_law_1286 ?_
  refine ow_iload 4 rfl d_Law_law_1287 ?_
  refine ow_iconst (v := 2) (by decide) d_Law_law_1289 ?_
  refine ow_iadd d_Law_law_1290 ?_
  refine ow_sld d_Law_law_1291 (hv 2 (by decide)) ?_
  refine ow_bool d_Law_law_1292 d_Law_law_1295 d_Law_law_1296 d_Law_law_1299 ?_
  refine ow_callV (b := 0) (cq := 11) (As := [.int (xs (nI i + 1).toNatClampNeg), .int (sp_jb (!decide ((xs (nI i + 2).toNatClampNeg) = 0)))]) (rest := []) (d2 := 39) d_Law_law_1300 l_Law_164 v_Fs_power (show 0 < 85 by decide) rfl (by decide) rfl (Nat.le_of_ble_eq_true rfl) (Nat.le_refl _) hkn ?_
  refine (sp_U_of p_power) 27 I J R _ hR hW ?_
  intro v I2 J2 R2 hR2 hM
  show ow_AW ow_Y1 (ow_Zw L xs) M_Law_law 40 601024 7293034 1303 [(0, .ref 980), (1, .ref 0), (2, .ref 70), (3, .ref 84), (4, .int (nI i))] [.long v] (85, I2, J2, R2) k n
  refine ow_aload_n 2 rfl d_Law_law_1303 ?_
  refine ow_aload_n 0 rfl d_Law_law_1304 ?_
  refine ow_iload 4 rfl d_Law_law_1305 ?_
  refine ow_iconst (v := 1) (by decide) d_Law_law_1307 ?_
  refine ow_iadd d_Law_law_1308 ?_
  refine ow_sld d_Law_law_1309 (hv 1 (by decide)) ?_
  refine ow_aload_n 0 rfl d_Law_law_1310 ?_
  refine ow_iload 4 rfl d_Law_law_1311 ?_
  refine ow_iconst (v := 2) (by decide) d_Law_law_1313 ?_
  refine ow_iadd d_Law_law_1314 ?_
  refine ow_sld d_Law_law_1315 (hv 2 (by decide)) ?_
  refine ow_bool d_Law_law_1316 d_Law_law_1319 d_Law_law_1320 d_Law_law_1323 ?_
  refine ow_callV (b := 70) (cq := 12) (As := [.int (xs (nI i + 1).toNatClampNeg), .int (sp_jb (!decide ((xs (nI i + 2).toNatClampNeg) = 0)))]) (rest := [.long v]) (d2 := 39) d_Law_law_1324 l_Law_168 v_Mo_power (show 70 < 85 by decide) rfl (by decide) rfl (Nat.le_of_ble_eq_true rfl) (Nat.le_refl _) hkn ?_
  refine hM _ ?_
  intro I3 J3 R3 hR3 hW3
  show ow_AW ow_Y1 (ow_Zw L xs) M_Law_law 40 601024 7293034 1327 [(0, .ref 980), (1, .ref 0), (2, .ref 70), (3, .ref 84), (4, .int (nI i))] [.long v, .long v] (85, I3, J3, R3) k n
  refine ow_lcmp d_Law_law_1327 ?_
  exact ow_if_eq (tgt := 2084) d_Law_law_1328 (by decide) (fun _ => next I3 J3 R3 k n hR3 hW3 (Nat.le_succ _) (Nat.le_add_right _ _)) (fun c => absurd (sp_lcmp v) c)
set_option maxRecDepth 4000 in
theorem lw_case_36 (hR : ow_RF R) (hW : sp_W I) (hkn : k ≤ 601024 ∧ n ≤ 7293034) (hv : ∀ j, j < 6 → vp_in (nI i + nI j) L) (next : ∀ (I2 : Nat → Nat → Int32) (J2 : Nat → Nat → Int64) (R2 : Nat → Nat → Option Nat) (k2 n2 : Nat), ow_RF R2 → sp_W I2 → k2 ≤ k + 1 → n2 ≤ n + 6 → ow_AW ow_Y1 (ow_Zw L xs) M_Law_law 40 601024 7293034 2084 [(0, .ref 980), (1, .ref 0), (2, .ref 70), (3, .ref 84), (4, .int (nI i))] [] (85, I2, J2, R2) k2 n2) : ow_AW ow_Y1 (ow_Zw L xs) M_Law_law 40 601024 7293034 1333 [(0, .ref 980), (1, .ref 0), (2, .ref 70), (3, .ref 84), (4, .int (nI i))] [] (85, I, J, R) k n := by
  refine ow_aload_n 1 rfl d_Law_law_1333 ?_
  refine ow_callV (b := 0) (cq := 11) (As := []) (rest := []) (d2 := 39) d_Law_law_1334 l_Law_169 v_Fs_rule (show 0 < 85 by decide) rfl (by decide) rfl (Nat.le_of_ble_eq_true rfl) (Nat.le_refl _) hkn ?_
  refine (sp_U_of p_rule) 27 I J R _ hR hW ?_
  intro v I2 J2 R2 hR2 hM
  show ow_AW ow_Y1 (ow_Zw L xs) M_Law_law 40 601024 7293034 1337 [(0, .ref 980), (1, .ref 0), (2, .ref 70), (3, .ref 84), (4, .int (nI i))] [.int v] (85, I2, J2, R2) k n
  refine ow_aload_n 2 rfl d_Law_law_1337 ?_
  refine ow_callV (b := 70) (cq := 12) (As := []) (rest := [.int v]) (d2 := 39) d_Law_law_1338 l_Law_172 v_Mo_rule (show 70 < 85 by decide) rfl (by decide) rfl (Nat.le_of_ble_eq_true rfl) (Nat.le_refl _) hkn ?_
  refine hM _ ?_
  intro I3 J3 R3 hR3 hW3
  show ow_AW ow_Y1 (ow_Zw L xs) M_Law_law 40 601024 7293034 1341 [(0, .ref 980), (1, .ref 0), (2, .ref 70), (3, .ref 84), (4, .int (nI i))] [.int v, .int v] (85, I3, J3, R3) k n
  exact ow_icmp_eq (tgt := 2084) d_Law_law_1341 (by decide) (fun _ => next I3 J3 R3 k n hR3 hW3 (Nat.le_succ _) (Nat.le_add_right _ _)) (fun c => absurd rfl c)
set_option maxRecDepth 4000 in
theorem lw_case_37 (hR : ow_RF R) (hW : sp_W I) (hkn : k ≤ 601024 ∧ n ≤ 7293034) (hv : ∀ j, j < 6 → vp_in (nI i + nI j) L) (next : ∀ (I2 : Nat → Nat → Int32) (J2 : Nat → Nat → Int64) (R2 : Nat → Nat → Option Nat) (k2 n2 : Nat), ow_RF R2 → sp_W I2 → k2 ≤ k + 1 → n2 ≤ n + 6 → ow_AW ow_Y1 (ow_Zw L xs) M_Law_law 40 601024 7293034 2084 [(0, .ref 980), (1, .ref 0), (2, .ref 70), (3, .ref 84), (4, .int (nI i))] [] (85, I2, J2, R2) k2 n2) : ow_AW ow_Y1 (ow_Zw L xs) M_Law_law 40 601024 7293034 1346 [(0, .ref 980), (1, .ref 0), (2, .ref 70), (3, .ref 84), (4, .int (nI i))] [] (85, I, J, R) k n := by
  refine ow_aload_n 1 rfl d_Law_law_1346 ?_
  refine ow_aload_n 0 rfl d_Law_law_1347 ?_
  refine ow_iload 4 rfl d_Law_law_1348 ?_
  refine ow_iconst (v := 1) (by decide) d_Law_law_1350 ?_
  refine ow_iadd d_Law_law_1351 ?_
  refine ow_sld d_Law_law_1352 (hv 1 (by decide)) ?_
  refine ow_aload_n 0 rfl d_Law_law_1353 ?_
  refine ow_iload 4 rfl d_Law_law_1354 ?_
  refine ow_iconst (v := 2) (by decide) d_Law_law_1356 ?_
  refine ow_iadd d_Law_law_1357 ?_
  refine ow_sld d_Law_law_1358 (hv 2 (by decide)) ?_
  refine ow_bool d_Law_law_1359 d_Law_law_1362 d_Law_law_1363 d_Law_law_1366 ?_
  refine ow_aload_n 0 rfl d_Law_law_1367 ?_
  refine ow_iload 4 rfl d_Law_law_1368 ?_
  refine ow_iconst (v := 3) (by decide) d_Law_law_1370 ?_
  refine ow_iadd d_Law_law_1371 ?_
  refine ow_sld d_Law_law_1372 (hv 3 (by decide)) ?_
  refine ow_bool d_Law_law_1373 d_Law_law_1376 d_Law_law_1377 d_Law_law_1380 ?_
  refine ow_aload_n 0 rfl d_Law_law_1381 ?_
  refine ow_iload 4 rfl d_Law_law_1382 ?_
  refine ow_iconst (v := 4) (by decide) d_Law_law_1384 ?_
  refine ow_iadd d_Law_law_1385 ?_
  refine ow_sld d_Law_law_1386 (hv 4 (by decide)) ?_
  refine ow_bool d_Law_law_1387 d_Law_law_1390 d_Law_law_1391 d_Law_law_1394 ?_
  refine ow_callV (b := 0) (cq := 11) (As := [.int (xs (nI i + 1).toNatClampNeg), .int (sp_jb (!decide ((xs (nI i + 2).toNatClampNeg) = 0))), .int (sp_jb (!decide ((xs (nI i + 3).toNatClampNeg) = 0))), .int (sp_jb (!decide ((xs (nI i + 4).toNatClampNeg) = 0)))]) (rest := []) (d2 := 39) d_Law_law_1395 l_Law_173 v_Fs_sues (show 0 < 85 by decide) rfl (by decide) rfl (Nat.le_of_ble_eq_true rfl) (Nat.le_refl _) hkn ?_
  refine (sp_U_of p_sues) 27 I J R _ hR hW ?_
  intro v I2 J2 R2 hR2 hM
  show ow_AW ow_Y1 (ow_Zw L xs) M_Law_law 40 601024 7293034 1398 [(0, .ref 980), (1, .ref 0), (2, .ref 70), (3, .ref 84), (4, .int (nI i))] [.int v] (85, I2, J2, R2) k n
  refine ow_aload_n 2 rfl d_Law_law_1398 ?_
  refine ow_aload_n 0 rfl d_Law_law_1399 ?_
  refine ow_iload 4 rfl d_Law_law_1400 ?_
  refine ow_iconst (v := 1) (by decide) d_Law_law_1402 ?_
  refine ow_iadd d_Law_law_1403 ?_
  refine ow_sld d_Law_law_1404 (hv 1 (by decide)) ?_
  refine ow_aload_n 0 rfl d_Law_law_1405 ?_
  refine ow_iload 4 rfl d_Law_law_1406 ?_
  refine ow_iconst (v := 2) (by decide) d_Law_law_1408 ?_
  refine ow_iadd d_Law_law_1409 ?_
  refine ow_sld d_Law_law_1410 (hv 2 (by decide)) ?_
  refine ow_bool d_Law_law_1411 d_Law_law_1414 d_Law_law_1415 d_Law_law_1418 ?_
  refine ow_aload_n 0 rfl d_Law_law_1419 ?_
  refine ow_iload 4 rfl d_Law_law_1420 ?_
  refine ow_iconst (v := 3) (by decide) d_Law_law_1422 ?_
  refine ow_iadd d_Law_law_1423 ?_
  refine ow_sld d_Law_law_1424 (hv 3 (by decide)) ?_
  refine ow_bool d_Law_law_1425 d_Law_law_1428 d_Law_law_1429 d_Law_law_1432 ?_
  refine ow_aload_n 0 rfl d_Law_law_1433 ?_
  refine ow_iload 4 rfl d_Law_law_1434 ?_
  refine ow_iconst (v := 4) (by decide) d_Law_law_1436 ?_
  refine ow_iadd d_Law_law_1437 ?_
  refine ow_sld d_Law_law_1438 (hv 4 (by decide)) ?_
  refine ow_bool d_Law_law_1439 d_Law_law_1442 d_Law_law_1443 d_Law_law_1446 ?_
  refine ow_callV (b := 70) (cq := 12) (As := [.int (xs (nI i + 1).toNatClampNeg), .int (sp_jb (!decide ((xs (nI i + 2).toNatClampNeg) = 0))), .int (sp_jb (!decide ((xs (nI i + 3).toNatClampNeg) = 0))), .int (sp_jb (!decide ((xs (nI i + 4).toNatClampNeg) = 0)))]) (rest := [.int v]) (d2 := 39) d_Law_law_1447 l_Law_177 v_Mo_sues (show 70 < 85 by decide) rfl (by decide) rfl (Nat.le_of_ble_eq_true rfl) (Nat.le_refl _) hkn ?_
  refine hM _ ?_
  intro I3 J3 R3 hR3 hW3
  show ow_AW ow_Y1 (ow_Zw L xs) M_Law_law 40 601024 7293034 1450 [(0, .ref 980), (1, .ref 0), (2, .ref 70), (3, .ref 84), (4, .int (nI i))] [.int v, .int v] (85, I3, J3, R3) k n
  exact ow_icmp_eq (tgt := 2084) d_Law_law_1450 (by decide) (fun _ => next I3 J3 R3 k n hR3 hW3 (Nat.le_succ _) (Nat.le_add_right _ _)) (fun c => absurd rfl c)
set_option maxRecDepth 4000 in
theorem lw_case_38 (hR : ow_RF R) (hW : sp_W I) (hkn : k ≤ 601024 ∧ n ≤ 7293034) (hv : ∀ j, j < 6 → vp_in (nI i + nI j) L) (next : ∀ (I2 : Nat → Nat → Int32) (J2 : Nat → Nat → Int64) (R2 : Nat → Nat → Option Nat) (k2 n2 : Nat), ow_RF R2 → sp_W I2 → k2 ≤ k + 1 → n2 ≤ n + 6 → ow_AW ow_Y1 (ow_Zw L xs) M_Law_law 40 601024 7293034 2084 [(0, .ref 980), (1, .ref 0), (2, .ref 70), (3, .ref 84), (4, .int (nI i))] [] (85, I2, J2, R2) k2 n2) : ow_AW ow_Y1 (ow_Zw L xs) M_Law_law 40 601024 7293034 1455 [(0, .ref 980), (1, .ref 0), (2, .ref 70), (3, .ref 84), (4, .int (nI i))] [] (85, I, J, R) k n := by
  refine ow_aload_n 1 rfl d_Law_law_1455 ?_
  refine ow_aload_n 0 rfl d_Law_law_1456 ?_
  refine ow_iload 4 rfl d_Law_law_1457 ?_
  refine ow_iconst (v := 1) (by decide) d_Law_law_1459 ?_
  refine ow_iadd d_Law_law_1460 ?_
  refine ow_sld d_Law_law_1461 (hv 1 (by decide)) ?_
  refine ow_callV (b := 0) (cq := 11) (As := [.int (xs (nI i + 1).toNatClampNeg)]) (rest := []) (d2 := 39) d_Law_law_1462 l_Law_178 v_Fs_rests (show 0 < 85 by decide) rfl (by decide) rfl (Nat.le_of_ble_eq_true rfl) (Nat.le_refl _) hkn ?_
  refine (sp_U_of p_rests) 27 I J R _ hR hW ?_
  intro v I2 J2 R2 hR2 hM
  show ow_AW ow_Y1 (ow_Zw L xs) M_Law_law 40 601024 7293034 1465 [(0, .ref 980), (1, .ref 0), (2, .ref 70), (3, .ref 84), (4, .int (nI i))] [.int v] (85, I2, J2, R2) k n
  refine ow_aload_n 2 rfl d_Law_law_1465 ?_
  refine ow_aload_n 0 rfl d_Law_law_1466 ?_
  refine ow_iload 4 rfl d_Law_law_1467 ?_
  refine ow_iconst (v := 1) (by decide) d_Law_law_1469 ?_
  refine ow_iadd d_Law_law_1470 ?_
  refine ow_sld d_Law_law_1471 (hv 1 (by decide)) ?_
  refine ow_callV (b := 70) (cq := 12) (As := [.int (xs (nI i + 1).toNatClampNeg)]) (rest := [.int v]) (d2 := 39) d_Law_law_1472 l_Law_181 v_Mo_rests (show 70 < 85 by decide) rfl (by decide) rfl (Nat.le_of_ble_eq_true rfl) (Nat.le_refl _) hkn ?_
  refine hM _ ?_
  intro I3 J3 R3 hR3 hW3
  show ow_AW ow_Y1 (ow_Zw L xs) M_Law_law 40 601024 7293034 1475 [(0, .ref 980), (1, .ref 0), (2, .ref 70), (3, .ref 84), (4, .int (nI i))] [.int v, .int v] (85, I3, J3, R3) k n
  exact ow_icmp_eq (tgt := 2084) d_Law_law_1475 (by decide) (fun _ => next I3 J3 R3 k n hR3 hW3 (Nat.le_succ _) (Nat.le_add_right _ _)) (fun c => absurd rfl c)
set_option maxRecDepth 4000 in
theorem lw_case_39 (hR : ow_RF R) (hW : sp_W I) (hkn : k ≤ 601024 ∧ n ≤ 7293034) (hv : ∀ j, j < 6 → vp_in (nI i + nI j) L) (next : ∀ (I2 : Nat → Nat → Int32) (J2 : Nat → Nat → Int64) (R2 : Nat → Nat → Option Nat) (k2 n2 : Nat), ow_RF R2 → sp_W I2 → k2 ≤ k + 1 → n2 ≤ n + 6 → ow_AW ow_Y1 (ow_Zw L xs) M_Law_law 40 601024 7293034 2084 [(0, .ref 980), (1, .ref 0), (2, .ref 70), (3, .ref 84), (4, .int (nI i))] [] (85, I2, J2, R2) k2 n2) : ow_AW ow_Y1 (ow_Zw L xs) M_Law_law 40 601024 7293034 1480 [(0, .ref 980), (1, .ref 0), (2, .ref 70), (3, .ref 84), (4, .int (nI i))] [] (85, I, J, R) k n := by
  refine ow_aload_n 1 rfl d_Law_law_1480 ?_
  refine ow_aload_n 0 rfl d_Law_law_1481 ?_
  refine ow_iload 4 rfl d_Law_law_1482 ?_
  refine ow_iconst (v := 1) (by decide) d_Law_law_1484 ?_
  refine ow_iadd d_Law_law_1485 ?_
  refine ow_sld d_Law_law_1486 (hv 1 (by decide)) ?_
  refine ow_callV (b := 0) (cq := 11) (As := [.int (xs (nI i + 1).toNatClampNeg)]) (rest := []) (d2 := 39) d_Law_law_1487 l_Law_182 v_Fs_rest (show 0 < 85 by decide) rfl (by decide) rfl (Nat.le_of_ble_eq_true rfl) (Nat.le_refl _) hkn ?_
  refine (sp_U_of p_rest) 27 I J R _ hR hW ?_
  intro v I2 J2 R2 hR2 hM
  show ow_AW ow_Y1 (ow_Zw L xs) M_Law_law 40 601024 7293034 1490 [(0, .ref 980), (1, .ref 0), (2, .ref 70), (3, .ref 84), (4, .int (nI i))] [.int v] (85, I2, J2, R2) k n
  refine ow_aload_n 2 rfl d_Law_law_1490 ?_
  refine ow_aload_n 0 rfl d_Law_law_1491 ?_
  refine ow_iload 4 rfl d_Law_law_1492 ?_
  refine ow_iconst (v := 1) (by decide) d_Law_law_1494 ?_
  refine ow_iadd d_Law_law_1495 ?_
  refine ow_sld d_Law_law_1496 (hv 1 (by decide)) ?_
  refine ow_callV (b := 70) (cq := 12) (As := [.int (xs (nI i + 1).toNatClampNeg)]) (rest := [.int v]) (d2 := 39) d_Law_law_1497 l_Law_185 v_Mo_rest (show 70 < 85 by decide) rfl (by decide) rfl (Nat.le_of_ble_eq_true rfl) (Nat.le_refl _) hkn ?_
  refine hM _ ?_
  intro I3 J3 R3 hR3 hW3
  show ow_AW ow_Y1 (ow_Zw L xs) M_Law_law 40 601024 7293034 1500 [(0, .ref 980), (1, .ref 0), (2, .ref 70), (3, .ref 84), (4, .int (nI i))] [.int v, .int v] (85, I3, J3, R3) k n
  exact ow_icmp_eq (tgt := 2084) d_Law_law_1500 (by decide) (fun _ => next I3 J3 R3 k n hR3 hW3 (Nat.le_succ _) (Nat.le_add_right _ _)) (fun c => absurd rfl c)
set_option maxRecDepth 4000 in
theorem lw_case_40 (hR : ow_RF R) (hW : sp_W I) (hkn : k ≤ 601024 ∧ n ≤ 7293034) (hv : ∀ j, j < 6 → vp_in (nI i + nI j) L) (next : ∀ (I2 : Nat → Nat → Int32) (J2 : Nat → Nat → Int64) (R2 : Nat → Nat → Option Nat) (k2 n2 : Nat), ow_RF R2 → sp_W I2 → k2 ≤ k + 1 → n2 ≤ n + 6 → ow_AW ow_Y1 (ow_Zw L xs) M_Law_law 40 601024 7293034 2084 [(0, .ref 980), (1, .ref 0), (2, .ref 70), (3, .ref 84), (4, .int (nI i))] [] (85, I2, J2, R2) k2 n2) : ow_AW ow_Y1 (ow_Zw L xs) M_Law_law 40 601024 7293034 1505 [(0, .ref 980), (1, .ref 0), (2, .ref 70), (3, .ref 84), (4, .int (nI i))] [] (85, I, J, R) k n := by
  refine ow_aload_n 1 rfl d_Law_law_1505 ?_
  refine ow_aload_n 0 rfl d_Law_law_1506 ?_
  refine ow_iload 4 rfl d_Law_law_1507 ?_
  refine ow_iconst (v := 1) (by decide) d_Law_law_1509 ?_
  refine ow_iadd d_Law_law_1510 ?_
  refine ow_sld d_Law_law_1511 (hv 1 (by decide)) ?_
  refine ow_aload_n 0 rfl d_Law_law_1512 ?_
  refine ow_iload 4 rfl d_Law_law_1513 ?_
  refine ow_iconst (v := 2) (by decide) d_Law_law_1515 ?_
  refine ow_iadd d_Law_law_1516 ?_
  refine ow_sld d_Law_law_1517 (hv 2 (by decide)) ?_
  refine ow_bool d_Law_law_1518 d_Law_law_1521 d_Law_law_1522 d_Law_law_1525 ?_
  refine ow_aload_n 0 rfl d_Law_law_1526 ?_
  refine ow_iload 4 rfl d_Law_law_1527 ?_
  refine ow_iconst (v := 3) (by decide) d_Law_law_1529 ?_
  refine ow_iadd d_Law_law_1530 ?_
  refine ow_sld d_Law_law_1531 (hv 3 (by decide)) ?_
  refine ow_bool d_Law_law_1532 d_Law_law_1535 d_Law_law_1536 d_Law_law_1539 ?_
  refine ow_aload_n 0 rfl d_Law_law_1540 ?_
  refine ow_iload 4 rfl d_Law_law_1541 ?_
  refine ow_iconst (v := 4) (by decide) d_Law_law_1543 ?_
  refine ow_iadd d_Law_law_1544 ?_
  refine ow_sld d_Law_law_1545 (hv 4 (by decide)) ?_
  refine ow_bool d_Law_law_1546 d_Law_law_1549 d_Law_law_1550 d_Law_law_1553 ?_
  refine ow_callV (b := 0) (cq := 11) (As := [.int (xs (nI i + 1).toNatClampNeg), .int (sp_jb (!decide ((xs (nI i + 2).toNatClampNeg) = 0))), .int (sp_jb (!decide ((xs (nI i + 3).toNatClampNeg) = 0))), .int (sp_jb (!decide ((xs (nI i + 4).toNatClampNeg) = 0)))]) (rest := []) (d2 := 39) d_Law_law_1554 l_Law_186 v_Fs_odds (show 0 < 85 by decide) rfl (by decide) rfl (Nat.le_of_ble_eq_true rfl) (Nat.le_refl _) hkn ?_
  refine (sp_U_of p_odds) 27 I J R _ hR hW ?_
  intro v I2 J2 R2 hR2 hM
  show ow_AW ow_Y1 (ow_Zw L xs) M_Law_law 40 601024 7293034 1557 [(0, .ref 980), (1, .ref 0), (2, .ref 70), (3, .ref 84), (4, .int (nI i))] [.long v] (85, I2, J2, R2) k n
  refine ow_aload_n 2 rfl d_Law_law_1557 ?_
  refine ow_aload_n 0 rfl d_Law_law_1558 ?_
  refine ow_iload 4 rfl d_Law_law_1559 ?_
  refine ow_iconst (v := 1) (by decide) d_Law_law_1561 ?_
  refine ow_iadd d_Law_law_1562 ?_
  refine ow_sld d_Law_law_1563 (hv 1 (by decide)) ?_
  refine ow_aload_n 0 rfl d_Law_law_1564 ?_
  refine ow_iload 4 rfl d_Law_law_1565 ?_
  refine ow_iconst (v := 2) (by decide) d_Law_law_1567 ?_
  refine ow_iadd d_Law_law_1568 ?_
  refine ow_sld d_Law_law_1569 (hv 2 (by decide)) ?_
  refine ow_bool d_Law_law_1570 d_Law_law_1573 d_Law_law_1574 d_Law_law_1577 ?_
  refine ow_aload_n 0 rfl d_Law_law_1578 ?_
  refine ow_iload 4 rfl d_Law_law_1579 ?_
  refine ow_iconst (v := 3) (by decide) d_Law_law_1581 ?_
  refine ow_iadd d_Law_law_1582 ?_
  refine ow_sld d_Law_law_1583 (hv 3 (by decide)) ?_
  refine ow_bool d_Law_law_1584 d_Law_law_1587 d_Law_law_1588 d_Law_law_1591 ?_
  refine ow_aload_n 0 rfl d_Law_law_1592 ?_
  refine ow_iload 4 rfl d_Law_law_1593 ?_
  refine ow_iconst (v := 4) (by decide) d_Law_law_1595 ?_
  refine ow_iadd d_Law_law_1596 ?_
  refine ow_sld d_Law_law_1597 (hv 4 (by decide)) ?_
  refine ow_bool d_Law_law_1598 d_Law_law_1601 d_Law_law_1602 d_Law_law_1605 ?_
  refine ow_callV (b := 70) (cq := 12) (As := [.int (xs (nI i + 1).toNatClampNeg), .int (sp_jb (!decide ((xs (nI i + 2).toNatClampNeg) = 0))), .int (sp_jb (!decide ((xs (nI i + 3).toNatClampNeg) = 0))), .int (sp_jb (!decide ((xs (nI i + 4).toNatClampNeg) = 0)))]) (rest := [.long v]) (d2 := 39) d_Law_law_1606 l_Law_190 v_Mo_odds (show 70 < 85 by decide) rfl (by decide) rfl (Nat.le_of_ble_eq_true rfl) (Nat.le_refl _) hkn ?_
  refine hM _ ?_
  intro I3 J3 R3 hR3 hW3
  show ow_AW ow_Y1 (ow_Zw L xs) M_Law_law 40 601024 7293034 1609 [(0, .ref 980), (1, .ref 0), (2, .ref 70), (3, .ref 84), (4, .int (nI i))] [.long v, .long v] (85, I3, J3, R3) k n
  refine ow_lcmp d_Law_law_1609 ?_
  exact ow_if_eq (tgt := 2084) d_Law_law_1610 (by decide) (fun _ => next I3 J3 R3 k n hR3 hW3 (Nat.le_succ _) (Nat.le_add_right _ _)) (fun c => absurd (sp_lcmp v) c)
set_option maxRecDepth 4000 in
theorem lw_case_41 (hR : ow_RF R) (hW : sp_W I) (hkn : k ≤ 601024 ∧ n ≤ 7293034) (hv : ∀ j, j < 6 → vp_in (nI i + nI j) L) (next : ∀ (I2 : Nat → Nat → Int32) (J2 : Nat → Nat → Int64) (R2 : Nat → Nat → Option Nat) (k2 n2 : Nat), ow_RF R2 → sp_W I2 → k2 ≤ k + 1 → n2 ≤ n + 6 → ow_AW ow_Y1 (ow_Zw L xs) M_Law_law 40 601024 7293034 2084 [(0, .ref 980), (1, .ref 0), (2, .ref 70), (3, .ref 84), (4, .int (nI i))] [] (85, I2, J2, R2) k2 n2) : ow_AW ow_Y1 (ow_Zw L xs) M_Law_law 40 601024 7293034 1615 [(0, .ref 980), (1, .ref 0), (2, .ref 70), (3, .ref 84), (4, .int (nI i))] [] (85, I, J, R) k n := by
  refine ow_aload_n 1 rfl d_Law_law_1615 ?_
  refine ow_aload_n 0 rfl d_Law_law_1616 ?_
  refine ow_iload 4 rfl d_Law_law_1617 ?_
  refine ow_iconst (v := 1) (by decide) d_Law_law_1619 ?_
  refine ow_iadd d_Law_law_1620 ?_
  refine ow_sld d_Law_law_1621 (hv 1 (by decide)) ?_
  refine ow_aload_n 0 rfl d_Law_law_1622 ?_
  refine ow_iload 4 rfl d_Law_law_1623 ?_
  refine ow_iconst (v := 2) (by decide) d_Law_law_1625 ?_
  refine ow_iadd d_Law_law_1626 ?_
  refine ow_sld d_Law_law_1627 (hv 2 (by decide)) ?_
  refine ow_bool d_Law_law_1628 d_Law_law_1631 d_Law_law_1632 d_Law_law_1635 ?_
  refine ow_aload_n 0 rfl d_Law_law_1636 ?_
  refine ow_iload 4 rfl d_Law_law_1637 ?_
  refine ow_iconst (v := 3) (by decide) d_Law_law_1639 ?_
  refine ow_iadd d_Law_law_1640 ?_
  refine ow_sld d_Law_law_1641 (hv 3 (by decide)) ?_
  refine ow_bool d_Law_law_1642 d_Law_law_1645 d_Law_law_1646 d_Law_law_1649 ?_
  refine ow_callV (b := 0) (cq := 11) (As := [.int (xs (nI i + 1).toNatClampNeg), .int (sp_jb (!decide ((xs (nI i + 2).toNatClampNeg) = 0))), .int (sp_jb (!decide ((xs (nI i + 3).toNatClampNeg) = 0)))]) (rest := []) (d2 := 39) d_Law_law_1650 l_Law_191 v_Fs_lostOdds (show 0 < 85 by decide) rfl (by decide) rfl (Nat.le_of_ble_eq_true rfl) (Nat.le_refl _) hkn ?_
  refine (sp_U_of p_lostOdds) 27 I J R _ hR hW ?_
  intro v I2 J2 R2 hR2 hM
  show ow_AW ow_Y1 (ow_Zw L xs) M_Law_law 40 601024 7293034 1653 [(0, .ref 980), (1, .ref 0), (2, .ref 70), (3, .ref 84), (4, .int (nI i))] [.long v] (85, I2, J2, R2) k n
  refine ow_aload_n 2 rfl d_Law_law_1653 ?_
  refine ow_aload_n 0 rfl d_Law_law_1654 ?_
  refine ow_iload 4 rfl d_Law_law_1655 ?_
  refine ow_iconst (v := 1) (by decide) d_Law_law_1657 ?_
  refine ow_iadd d_Law_law_1658 ?_
  refine ow_sld d_Law_law_1659 (hv 1 (by decide)) ?_
  refine ow_aload_n 0 rfl d_Law_law_1660 ?_
  refine ow_iload 4 rfl d_Law_law_1661 ?_
  refine ow_iconst (v := 2) (by decide) d_Law_law_1663 ?_
  refine ow_iadd d_Law_law_1664 ?_
  refine ow_sld d_Law_law_1665 (hv 2 (by decide)) ?_
  refine ow_bool d_Law_law_1666 d_Law_law_1669 d_Law_law_1670 d_Law_law_1673 ?_
  refine ow_aload_n 0 rfl d_Law_law_1674 ?_
  refine ow_iload 4 rfl d_Law_law_1675 ?_
  refine ow_iconst (v := 3) (by decide) d_Law_law_1677 ?_
  refine ow_iadd d_Law_law_1678 ?_
  refine ow_sld d_Law_law_1679 (hv 3 (by decide)) ?_
  refine ow_bool d_Law_law_1680 d_Law_law_1683 d_Law_law_1684 d_Law_law_1687 ?_
  refine ow_callV (b := 70) (cq := 12) (As := [.int (xs (nI i + 1).toNatClampNeg), .int (sp_jb (!decide ((xs (nI i + 2).toNatClampNeg) = 0))), .int (sp_jb (!decide ((xs (nI i + 3).toNatClampNeg) = 0)))]) (rest := [.long v]) (d2 := 39) d_Law_law_1688 l_Law_195 v_Mo_lostOdds (show 70 < 85 by decide) rfl (by decide) rfl (Nat.le_of_ble_eq_true rfl) (Nat.le_refl _) hkn ?_
  refine hM _ ?_
  intro I3 J3 R3 hR3 hW3
  show ow_AW ow_Y1 (ow_Zw L xs) M_Law_law 40 601024 7293034 1691 [(0, .ref 980), (1, .ref 0), (2, .ref 70), (3, .ref 84), (4, .int (nI i))] [.long v, .long v] (85, I3, J3, R3) k n
  refine ow_lcmp d_Law_law_1691 ?_
  exact ow_if_eq (tgt := 2084) d_Law_law_1692 (by decide) (fun _ => next I3 J3 R3 k n hR3 hW3 (Nat.le_succ _) (Nat.le_add_right _ _)) (fun c => absurd (sp_lcmp v) c)
set_option maxRecDepth 4000 in
theorem lw_case_42 (hR : ow_RF R) (hW : sp_W I) (hkn : k ≤ 601024 ∧ n ≤ 7293034) (hv : ∀ j, j < 6 → vp_in (nI i + nI j) L) (next : ∀ (I2 : Nat → Nat → Int32) (J2 : Nat → Nat → Int64) (R2 : Nat → Nat → Option Nat) (k2 n2 : Nat), ow_RF R2 → sp_W I2 → k2 ≤ k + 1 → n2 ≤ n + 6 → ow_AW ow_Y1 (ow_Zw L xs) M_Law_law 40 601024 7293034 2084 [(0, .ref 980), (1, .ref 0), (2, .ref 70), (3, .ref 84), (4, .int (nI i))] [] (85, I2, J2, R2) k2 n2) : ow_AW ow_Y1 (ow_Zw L xs) M_Law_law 40 601024 7293034 1697 [(0, .ref 980), (1, .ref 0), (2, .ref 70), (3, .ref 84), (4, .int (nI i))] [] (85, I, J, R) k n := by
  refine ow_aload_n 1 rfl d_Law_law_1697 ?_
  refine ow_aload_n 0 rfl d_Law_law_1698 ?_
  refine ow_iload 4 rfl d_Law_law_1699 ?_
  refine ow_iconst (v := 1) (by decide) d_Law_law_1701 ?_
  refine ow_iadd d_Law_law_1702 ?_
  refine ow_sld d_Law_law_1703 (hv 1 (by decide)) ?_
  refine ow_aload_n 0 rfl d_Law_law_1704 ?_
  refine ow_iload 4 rfl d_Law_law_1705 ?_
  refine ow_iconst (v := 2) (by decide) d_Law_law_1707 ?_
  refine ow_iadd d_Law_law_1708 ?_
  refine ow_sld d_Law_law_1709 (hv 2 (by decide)) ?_
  refine ow_bool d_Law_law_1710 d_Law_law_1713 d_Law_law_1714 d_Law_law_1717 ?_
  refine ow_aload_n 0 rfl d_Law_law_1718 ?_
  refine ow_iload 4 rfl d_Law_law_1719 ?_
  refine ow_iconst (v := 3) (by decide) d_Law_law_1721 ?_
  refine ow_iadd d_Law_law_1722 ?_
  refine ow_sld d_Law_law_1723 (hv 3 (by decide)) ?_
  refine ow_callV (b := 0) (cq := 11) (As := [.int (xs (nI i + 1).toNatClampNeg), .int (sp_jb (!decide ((xs (nI i + 2).toNatClampNeg) = 0))), .int (xs (nI i + 3).toNatClampNeg)]) (rest := []) (d2 := 39) d_Law_law_1724 l_Law_196 v_Fs_blown (show 0 < 85 by decide) rfl (by decide) rfl (Nat.le_of_ble_eq_true rfl) (Nat.le_refl _) hkn ?_
  refine (sp_U_of p_blown) 27 I J R _ hR hW ?_
  intro v I2 J2 R2 hR2 hM
  show ow_AW ow_Y1 (ow_Zw L xs) M_Law_law 40 601024 7293034 1727 [(0, .ref 980), (1, .ref 0), (2, .ref 70), (3, .ref 84), (4, .int (nI i))] [.int v] (85, I2, J2, R2) k n
  refine ow_aload_n 2 rfl d_Law_law_1727 ?_
  refine ow_aload_n 0 rfl d_Law_law_1728 ?_
  refine ow_iload 4 rfl d_Law_law_1729 ?_
  refine ow_iconst (v := 1) (by decide) d_Law_law_1731 ?_
  refine ow_iadd d_Law_law_1732 ?_
  refine ow_sld d_Law_law_1733 (hv 1 (by decide)) ?_
  refine ow_aload_n 0 rfl d_Law_law_1734 ?_
  refine ow_iload 4 rfl d_Law_law_1735 ?_
  refine ow_iconst (v := 2) (by decide) d_Law_law_1737 ?_
  refine ow_iadd d_Law_law_1738 ?_
  refine ow_sld d_Law_law_1739 (hv 2 (by decide)) ?_
  refine ow_bool d_Law_law_1740 d_Law_law_1743 d_Law_law_1744 d_Law_law_1747 ?_
  refine ow_aload_n 0 rfl d_Law_law_1748 ?_
  refine ow_iload 4 rfl d_Law_law_1749 ?_
  refine ow_iconst (v := 3) (by decide) d_Law_law_1751 ?_
  refine ow_iadd d_Law_law_1752 ?_
  refine ow_sld d_Law_law_1753 (hv 3 (by decide)) ?_
  refine ow_callV (b := 70) (cq := 12) (As := [.int (xs (nI i + 1).toNatClampNeg), .int (sp_jb (!decide ((xs (nI i + 2).toNatClampNeg) = 0))), .int (xs (nI i + 3).toNatClampNeg)]) (rest := [.int v]) (d2 := 39) d_Law_law_1754 l_Law_199 v_Mo_blown (show 70 < 85 by decide) rfl (by decide) rfl (Nat.le_of_ble_eq_true rfl) (Nat.le_refl _) hkn ?_
  refine hM _ ?_
  intro I3 J3 R3 hR3 hW3
  show ow_AW ow_Y1 (ow_Zw L xs) M_Law_law 40 601024 7293034 1757 [(0, .ref 980), (1, .ref 0), (2, .ref 70), (3, .ref 84), (4, .int (nI i))] [.int v, .int v] (85, I3, J3, R3) k n
  exact ow_icmp_eq (tgt := 2084) d_Law_law_1757 (by decide) (fun _ => next I3 J3 R3 k n hR3 hW3 (Nat.le_succ _) (Nat.le_add_right _ _)) (fun c => absurd rfl c)
set_option maxRecDepth 4000 in
theorem lw_case_43 (hR : ow_RF R) (hW : sp_W I) (hkn : k ≤ 601024 ∧ n ≤ 7293034) (hv : ∀ j, j < 6 → vp_in (nI i + nI j) L) (next : ∀ (I2 : Nat → Nat → Int32) (J2 : Nat → Nat → Int64) (R2 : Nat → Nat → Option Nat) (k2 n2 : Nat), ow_RF R2 → sp_W I2 → k2 ≤ k + 1 → n2 ≤ n + 6 → ow_AW ow_Y1 (ow_Zw L xs) M_Law_law 40 601024 7293034 2084 [(0, .ref 980), (1, .ref 0), (2, .ref 70), (3, .ref 84), (4, .int (nI i))] [] (85, I2, J2, R2) k2 n2) : ow_AW ow_Y1 (ow_Zw L xs) M_Law_law 40 601024 7293034 1762 [(0, .ref 980), (1, .ref 0), (2, .ref 70), (3, .ref 84), (4, .int (nI i))] [] (85, I, J, R) k n := by
  refine ow_aload_n 1 rfl d_Law_law_1762 ?_
  refine ow_aload_n 0 rfl d_Law_law_1763 ?_
  refine ow_iload 4 rfl d_Law_law_1764 ?_
  refine ow_iconst (v := 1) (by decide) d_Law_law_1766 ?_
  refine ow_iadd d_Law_law_1767 ?_
  refine ow_sld d_Law_law_1768 (hv 1 (by decide)) ?_
  refine ow_aload_n 0 rfl d_Law_law_1769 ?_
  refine ow_iload 4 rfl d_Law_law_1770 ?_
  refine ow_iconst (v := 2) (by decide) d_Law_law_1772 ?_
  refine ow_iadd d_Law_law_1773 ?_
  refine ow_sld d_Law_law_1774 (hv 2 (by decide)) ?_
  refine ow_bool d_Law_law_1775 d_Law_law_1778 d_Law_law_1779 d_Law_law_1782 ?_
  refine ow_aload_n 0 rfl d_Law_law_1783 ?_
  refine ow_iload 4 rfl d_Law_law_1784 ?_
  refine ow_iconst (v := 3) (by decide) d_Law_law_1786 ?_
  refine ow_iadd d_Law_law_1787 ?_
  refine ow_sld d_Law_law_1788 (hv 3 (by decide)) ?_
  refine ow_aload_n 0 rfl d_Law_law_1789 ?_
  refine ow_iload 4 rfl d_Law_law_1790 ?_
  refine ow_iconst (v := 4) (by decide) d_Law_law_1792 ?_
  refine ow_iadd d_Law_law_1793 ?_
  refine ow_sld d_Law_law_1794 (hv 4 (by decide)) ?_
  refine ow_callV (b := 0) (cq := 11) (As := [.int (xs (nI i + 1).toNatClampNeg), .int (sp_jb (!decide ((xs (nI i + 2).toNatClampNeg) = 0))), .int (xs (nI i + 3).toNatClampNeg), .int (xs (nI i + 4).toNatClampNeg)]) (rest := []) (d2 := 39) d_Law_law_1795 l_Law_200 v_Fs_yeses (show 0 < 85 by decide) rfl (by decide) rfl (Nat.le_of_ble_eq_true rfl) (Nat.le_refl _) hkn ?_
  refine (sp_U_of p_yeses) 27 I J R _ hR hW ?_
  intro v I2 J2 R2 hR2 hM
  show ow_AW ow_Y1 (ow_Zw L xs) M_Law_law 40 601024 7293034 1798 [(0, .ref 980), (1, .ref 0), (2, .ref 70), (3, .ref 84), (4, .int (nI i))] [.int v] (85, I2, J2, R2) k n
  refine ow_aload_n 2 rfl d_Law_law_1798 ?_
  refine ow_aload_n 0 rfl d_Law_law_1799 ?_
  refine ow_iload 4 rfl d_Law_law_1800 ?_
  refine ow_iconst (v := 1) (by decide) d_Law_law_1802 ?_
  refine ow_iadd d_Law_law_1803 ?_
  refine ow_sld d_Law_law_1804 (hv 1 (by decide)) ?_
  refine ow_aload_n 0 rfl d_Law_law_1805 ?_
  refine ow_iload 4 rfl d_Law_law_1806 ?_
  refine ow_iconst (v := 2) (by decide) d_Law_law_1808 ?_
  refine ow_iadd d_Law_law_1809 ?_
  refine ow_sld d_Law_law_1810 (hv 2 (by decide)) ?_
  refine ow_bool d_Law_law_1811 d_Law_law_1814 d_Law_law_1815 d_Law_law_1818 ?_
  refine ow_aload_n 0 rfl d_Law_law_1819 ?_
  refine ow_iload 4 rfl d_Law_law_1820 ?_
  refine ow_iconst (v := 3) (by decide) d_Law_law_1822 ?_
  refine ow_iadd d_Law_law_1823 ?_
  refine ow_sld d_Law_law_1824 (hv 3 (by decide)) ?_
  refine ow_aload_n 0 rfl d_Law_law_1825 ?_
  refine ow_iload 4 rfl d_Law_law_1826 ?_
  refine ow_iconst (v := 4) (by decide) d_Law_law_1828 ?_
  refine ow_iadd d_Law_law_1829 ?_
  refine ow_sld d_Law_law_1830 (hv 4 (by decide)) ?_
  refine ow_callV (b := 70) (cq := 12) (As := [.int (xs (nI i + 1).toNatClampNeg), .int (sp_jb (!decide ((xs (nI i + 2).toNatClampNeg) = 0))), .int (xs (nI i + 3).toNatClampNeg), .int (xs (nI i + 4).toNatClampNeg)]) (rest := [.int v]) (d2 := 39) d_Law_law_1831 l_Law_204 v_Mo_yeses (show 70 < 85 by decide) rfl (by decide) rfl (Nat.le_of_ble_eq_true rfl) (Nat.le_refl _) hkn ?_
  refine hM _ ?_
  intro I3 J3 R3 hR3 hW3
  show ow_AW ow_Y1 (ow_Zw L xs) M_Law_law 40 601024 7293034 1834 [(0, .ref 980), (1, .ref 0), (2, .ref 70), (3, .ref 84), (4, .int (nI i))] [.int v, .int v] (85, I3, J3, R3) k n
  exact ow_icmp_eq (tgt := 2084) d_Law_law_1834 (by decide) (fun _ => next I3 J3 R3 k n hR3 hW3 (Nat.le_succ _) (Nat.le_add_right _ _)) (fun c => absurd rfl c)
set_option maxRecDepth 4000 in
theorem lw_case_44 (hR : ow_RF R) (hW : sp_W I) (hkn : k ≤ 601024 ∧ n ≤ 7293034) (hv : ∀ j, j < 6 → vp_in (nI i + nI j) L) (next : ∀ (I2 : Nat → Nat → Int32) (J2 : Nat → Nat → Int64) (R2 : Nat → Nat → Option Nat) (k2 n2 : Nat), ow_RF R2 → sp_W I2 → k2 ≤ k + 1 → n2 ≤ n + 6 → ow_AW ow_Y1 (ow_Zw L xs) M_Law_law 40 601024 7293034 2084 [(0, .ref 980), (1, .ref 0), (2, .ref 70), (3, .ref 84), (4, .int (nI i))] [] (85, I2, J2, R2) k2 n2) : ow_AW ow_Y1 (ow_Zw L xs) M_Law_law 40 601024 7293034 1839 [(0, .ref 980), (1, .ref 0), (2, .ref 70), (3, .ref 84), (4, .int (nI i))] [] (85, I, J, R) k n := by
  refine ow_aload_n 1 rfl d_Law_law_1839 ?_
  refine ow_callV (b := 0) (cq := 11) (As := []) (rest := []) (d2 := 39) d_Law_law_1840 l_Law_205 v_Fs_year (show 0 < 85 by decide) rfl (by decide) rfl (Nat.le_of_ble_eq_true rfl) (Nat.le_refl _) hkn ?_
  refine (sp_U_of p_year) 27 I J R _ hR hW ?_
  intro v I2 J2 R2 hR2 hM
  show ow_AW ow_Y1 (ow_Zw L xs) M_Law_law 40 601024 7293034 1843 [(0, .ref 980), (1, .ref 0), (2, .ref 70), (3, .ref 84), (4, .int (nI i))] [.int v] (85, I2, J2, R2) k n
  refine ow_aload_n 2 rfl d_Law_law_1843 ?_
  refine ow_callV (b := 70) (cq := 12) (As := []) (rest := [.int v]) (d2 := 39) d_Law_law_1844 l_Law_208 v_Mo_year (show 70 < 85 by decide) rfl (by decide) rfl (Nat.le_of_ble_eq_true rfl) (Nat.le_refl _) hkn ?_
  refine hM _ ?_
  intro I3 J3 R3 hR3 hW3
  show ow_AW ow_Y1 (ow_Zw L xs) M_Law_law 40 601024 7293034 1847 [(0, .ref 980), (1, .ref 0), (2, .ref 70), (3, .ref 84), (4, .int (nI i))] [.int v, .int v] (85, I3, J3, R3) k n
  exact ow_icmp_eq (tgt := 2084) d_Law_law_1847 (by decide) (fun _ => next I3 J3 R3 k n hR3 hW3 (Nat.le_succ _) (Nat.le_add_right _ _)) (fun c => absurd rfl c)
set_option maxRecDepth 4000 in
theorem lw_case_45 (hR : ow_RF R) (hW : sp_W I) (hkn : k ≤ 601024 ∧ n ≤ 7293034) (hv : ∀ j, j < 6 → vp_in (nI i + nI j) L) (next : ∀ (I2 : Nat → Nat → Int32) (J2 : Nat → Nat → Int64) (R2 : Nat → Nat → Option Nat) (k2 n2 : Nat), ow_RF R2 → sp_W I2 → k2 ≤ k + 1 → n2 ≤ n + 6 → ow_AW ow_Y1 (ow_Zw L xs) M_Law_law 40 601024 7293034 2084 [(0, .ref 980), (1, .ref 0), (2, .ref 70), (3, .ref 84), (4, .int (nI i))] [] (85, I2, J2, R2) k2 n2) : ow_AW ow_Y1 (ow_Zw L xs) M_Law_law 40 601024 7293034 1852 [(0, .ref 980), (1, .ref 0), (2, .ref 70), (3, .ref 84), (4, .int (nI i))] [] (85, I, J, R) k n := by
  refine ow_aload_n 1 rfl d_Law_law_1852 ?_
  refine ow_aload_n 0 rfl d_Law_law_1853 ?_
  refine ow_iload 4 rfl d_Law_law_1854 ?_
  refine ow_iconst (v := 1) (by decide) d_Law_law_1856 ?_
  refine ow_iadd d_Law_law_1857 ?_
  refine ow_sld d_Law_law_1858 (hv 1 (by decide)) ?_
  refine ow_callV (b := 0) (cq := 11) (As := [.int (xs (nI i + 1).toNatClampNeg)]) (rest := []) (d2 := 39) d_Law_law_1859 l_Law_209 v_Fs_mend (show 0 < 85 by decide) rfl (by decide) rfl (Nat.le_of_ble_eq_true rfl) (Nat.le_refl _) hkn ?_
  refine (sp_U_of p_mend) 27 I J R _ hR hW ?_
  intro v I2 J2 R2 hR2 hM
  show ow_AW ow_Y1 (ow_Zw L xs) M_Law_law 40 601024 7293034 1862 [(0, .ref 980), (1, .ref 0), (2, .ref 70), (3, .ref 84), (4, .int (nI i))] [.int v] (85, I2, J2, R2) k n
  refine ow_aload_n 2 rfl d_Law_law_1862 ?_
  refine ow_aload_n 0 rfl d_Law_law_1863 ?_
  refine ow_iload 4 rfl d_Law_law_1864 ?_
  refine ow_iconst (v := 1) (by decide) d_Law_law_1866 ?_
  refine ow_iadd d_Law_law_1867 ?_
  refine ow_sld d_Law_law_1868 (hv 1 (by decide)) ?_
  refine ow_callV (b := 70) (cq := 12) (As := [.int (xs (nI i + 1).toNatClampNeg)]) (rest := [.int v]) (d2 := 39) d_Law_law_1869 l_Law_212 v_Mo_mend (show 70 < 85 by decide) rfl (by decide) rfl (Nat.le_of_ble_eq_true rfl) (Nat.le_refl _) hkn ?_
  refine hM _ ?_
  intro I3 J3 R3 hR3 hW3
  show ow_AW ow_Y1 (ow_Zw L xs) M_Law_law 40 601024 7293034 1872 [(0, .ref 980), (1, .ref 0), (2, .ref 70), (3, .ref 84), (4, .int (nI i))] [.int v, .int v] (85, I3, J3, R3) k n
  exact ow_icmp_eq (tgt := 2084) d_Law_law_1872 (by decide) (fun _ => next I3 J3 R3 k n hR3 hW3 (Nat.le_succ _) (Nat.le_add_right _ _)) (fun c => absurd rfl c)
set_option maxRecDepth 4000 in
theorem lw_case_46 (hR : ow_RF R) (hW : sp_W I) (hkn : k ≤ 601024 ∧ n ≤ 7293034) (hv : ∀ j, j < 6 → vp_in (nI i + nI j) L) (next : ∀ (I2 : Nat → Nat → Int32) (J2 : Nat → Nat → Int64) (R2 : Nat → Nat → Option Nat) (k2 n2 : Nat), ow_RF R2 → sp_W I2 → k2 ≤ k + 1 → n2 ≤ n + 6 → ow_AW ow_Y1 (ow_Zw L xs) M_Law_law 40 601024 7293034 2084 [(0, .ref 980), (1, .ref 0), (2, .ref 70), (3, .ref 84), (4, .int (nI i))] [] (85, I2, J2, R2) k2 n2) : ow_AW ow_Y1 (ow_Zw L xs) M_Law_law 40 601024 7293034 1877 [(0, .ref 980), (1, .ref 0), (2, .ref 70), (3, .ref 84), (4, .int (nI i))] [] (85, I, J, R) k n := by
  refine ow_aload_n 1 rfl d_Law_law_1877 ?_
  refine ow_aload_n 0 rfl d_Law_law_1878 ?_
  refine ow_iload 4 rfl d_Law_law_1879 ?_
  refine ow_iconst (v := 1) (by decide) d_Law_law_1881 ?_
  refine ow_iadd d_Law_law_1882 ?_
  refine ow_sld d_Law_law_1883 (hv 1 (by decide)) ?_
  refine ow_callV (b := 0) (cq := 11) (As := [.int (xs (nI i + 1).toNatClampNeg)]) (rest := []) (d2 := 39) d_Law_law_1884 l_Law_213 v_Fs_hire (show 0 < 85 by decide) rfl (by decide) rfl (Nat.le_of_ble_eq_true rfl) (Nat.le_refl _) hkn ?_
  refine (sp_U_of p_hire) 27 I J R _ hR hW ?_
  intro v I2 J2 R2 hR2 hM
  show ow_AW ow_Y1 (ow_Zw L xs) M_Law_law 40 601024 7293034 1887 [(0, .ref 980), (1, .ref 0), (2, .ref 70), (3, .ref 84), (4, .int (nI i))] [.int v] (85, I2, J2, R2) k n
  refine ow_aload_n 2 rfl d_Law_law_1887 ?_
  refine ow_aload_n 0 rfl d_Law_law_1888 ?_
  refine ow_iload 4 rfl d_Law_law_1889 ?_
  refine ow_iconst (v := 1) (by decide) d_Law_law_1891 ?_
  refine ow_iadd d_Law_law_1892 ?_
  refine ow_sld d_Law_law_1893 (hv 1 (by decide)) ?_
  refine ow_callV (b := 70) (cq := 12) (As := [.int (xs (nI i + 1).toNatClampNeg)]) (rest := [.int v]) (d2 := 39) d_Law_law_1894 l_Law_216 v_Mo_hire (show 70 < 85 by decide) rfl (by decide) rfl (Nat.le_of_ble_eq_true rfl) (Nat.le_refl _) hkn ?_
  refine hM _ ?_
  intro I3 J3 R3 hR3 hW3
  show ow_AW ow_Y1 (ow_Zw L xs) M_Law_law 40 601024 7293034 1897 [(0, .ref 980), (1, .ref 0), (2, .ref 70), (3, .ref 84), (4, .int (nI i))] [.int v, .int v] (85, I3, J3, R3) k n
  exact ow_icmp_eq (tgt := 2084) d_Law_law_1897 (by decide) (fun _ => next I3 J3 R3 k n hR3 hW3 (Nat.le_succ _) (Nat.le_add_right _ _)) (fun c => absurd rfl c)
set_option maxRecDepth 4000 in
theorem lw_case_47 (hR : ow_RF R) (hW : sp_W I) (hkn : k ≤ 601024 ∧ n ≤ 7293034) (hv : ∀ j, j < 6 → vp_in (nI i + nI j) L) (next : ∀ (I2 : Nat → Nat → Int32) (J2 : Nat → Nat → Int64) (R2 : Nat → Nat → Option Nat) (k2 n2 : Nat), ow_RF R2 → sp_W I2 → k2 ≤ k + 1 → n2 ≤ n + 6 → ow_AW ow_Y1 (ow_Zw L xs) M_Law_law 40 601024 7293034 2084 [(0, .ref 980), (1, .ref 0), (2, .ref 70), (3, .ref 84), (4, .int (nI i))] [] (85, I2, J2, R2) k2 n2) : ow_AW ow_Y1 (ow_Zw L xs) M_Law_law 40 601024 7293034 1902 [(0, .ref 980), (1, .ref 0), (2, .ref 70), (3, .ref 84), (4, .int (nI i))] [] (85, I, J, R) k n := by
  refine ow_aload_n 1 rfl d_Law_law_1902 ?_
  refine ow_aload_n 0 rfl d_Law_law_1903 ?_
  refine ow_iload 4 rfl d_Law_law_1904 ?_
  refine ow_iconst (v := 1) (by decide) d_Law_law_1906 ?_
  refine ow_iadd d_Law_law_1907 ?_
  refine ow_sld d_Law_law_1908 (hv 1 (by decide)) ?_
  refine ow_aload_n 0 rfl d_Law_law_1909 ?_
  refine ow_iload 4 rfl d_Law_law_1910 ?_
  refine ow_iconst (v := 2) (by decide) d_Law_law_1912 ?_
  refine ow_iadd d_Law_law_1913 ?_
  refine ow_sld d_Law_law_1914 (hv 2 (by decide)) ?_
  refine ow_callV (b := 0) (cq := 11) (As := [.int (xs (nI i + 1).toNatClampNeg), .int (xs (nI i + 2).toNatClampNeg)]) (rest := []) (d2 := 39) d_Law_law_1915 l_Law_217 v_Fs_send (show 0 < 85 by decide) rfl (by decide) rfl (Nat.le_of_ble_eq_true rfl) (Nat.le_refl _) hkn ?_
  refine (sp_U_of p_send) 27 I J R _ hR hW ?_
  intro v I2 J2 R2 hR2 hM
  show ow_AW ow_Y1 (ow_Zw L xs) M_Law_law 40 601024 7293034 1918 [(0, .ref 980), (1, .ref 0), (2, .ref 70), (3, .ref 84), (4, .int (nI i))] [.int v] (85, I2, J2, R2) k n
  refine ow_aload_n 2 rfl d_Law_law_1918 ?_
  refine ow_aload_n 0 rfl d_Law_law_1919 ?_
  refine ow_iload 4 rfl d_Law_law_1920 ?_
  refine ow_iconst (v := 1) (by decide) d_Law_law_1922 ?_
  refine ow_iadd d_Law_law_1923 ?_
  refine ow_sld d_Law_law_1924 (hv 1 (by decide)) ?_
  refine ow_aload_n 0 rfl d_Law_law_1925 ?_
  refine ow_iload 4 rfl d_Law_law_1926 ?_
  refine ow_iconst (v := 2) (by decide) d_Law_law_1928 ?_
  refine ow_iadd d_Law_law_1929 ?_
  refine ow_sld d_Law_law_1930 (hv 2 (by decide)) ?_
  refine ow_callV (b := 70) (cq := 12) (As := [.int (xs (nI i + 1).toNatClampNeg), .int (xs (nI i + 2).toNatClampNeg)]) (rest := [.int v]) (d2 := 39) d_Law_law_1931 l_Law_221 v_Mo_send (show 70 < 85 by decide) rfl (by decide) rfl (Nat.le_of_ble_eq_true rfl) (Nat.le_refl _) hkn ?_
  refine hM _ ?_
  intro I3 J3 R3 hR3 hW3
  show ow_AW ow_Y1 (ow_Zw L xs) M_Law_law 40 601024 7293034 1934 [(0, .ref 980), (1, .ref 0), (2, .ref 70), (3, .ref 84), (4, .int (nI i))] [.int v, .int v] (85, I3, J3, R3) k n
  exact ow_icmp_eq (tgt := 2084) d_Law_law_1934 (by decide) (fun _ => next I3 J3 R3 k n hR3 hW3 (Nat.le_succ _) (Nat.le_add_right _ _)) (fun c => absurd rfl c)
set_option maxRecDepth 4000 in
theorem lw_case_48 (hR : ow_RF R) (hW : sp_W I) (hkn : k ≤ 601024 ∧ n ≤ 7293034) (hv : ∀ j, j < 6 → vp_in (nI i + nI j) L) (next : ∀ (I2 : Nat → Nat → Int32) (J2 : Nat → Nat → Int64) (R2 : Nat → Nat → Option Nat) (k2 n2 : Nat), ow_RF R2 → sp_W I2 → k2 ≤ k + 1 → n2 ≤ n + 6 → ow_AW ow_Y1 (ow_Zw L xs) M_Law_law 40 601024 7293034 2084 [(0, .ref 980), (1, .ref 0), (2, .ref 70), (3, .ref 84), (4, .int (nI i))] [] (85, I2, J2, R2) k2 n2) : ow_AW ow_Y1 (ow_Zw L xs) M_Law_law 40 601024 7293034 1939 [(0, .ref 980), (1, .ref 0), (2, .ref 70), (3, .ref 84), (4, .int (nI i))] [] (85, I, J, R) k n := by
  refine ow_aload_n 1 rfl d_Law_law_1939 ?_
  refine ow_callV (b := 0) (cq := 11) (As := []) (rest := []) (d2 := 39) d_Law_law_1940 l_Law_222 v_Fs_undo (show 0 < 85 by decide) rfl (by decide) rfl (Nat.le_of_ble_eq_true rfl) (Nat.le_refl _) hkn ?_
  refine (sp_U_of p_undo) 27 I J R _ hR hW ?_
  intro v I2 J2 R2 hR2 hM
  show ow_AW ow_Y1 (ow_Zw L xs) M_Law_law 40 601024 7293034 1943 [(0, .ref 980), (1, .ref 0), (2, .ref 70), (3, .ref 84), (4, .int (nI i))] [.int v] (85, I2, J2, R2) k n
  refine ow_aload_n 2 rfl d_Law_law_1943 ?_
  refine ow_callV (b := 70) (cq := 12) (As := []) (rest := [.int v]) (d2 := 39) d_Law_law_1944 l_Law_226 v_Mo_undo (show 70 < 85 by decide) rfl (by decide) rfl (Nat.le_of_ble_eq_true rfl) (Nat.le_refl _) hkn ?_
  refine hM _ ?_
  intro I3 J3 R3 hR3 hW3
  show ow_AW ow_Y1 (ow_Zw L xs) M_Law_law 40 601024 7293034 1947 [(0, .ref 980), (1, .ref 0), (2, .ref 70), (3, .ref 84), (4, .int (nI i))] [.int v, .int v] (85, I3, J3, R3) k n
  exact ow_icmp_eq (tgt := 2084) d_Law_law_1947 (by decide) (fun _ => next I3 J3 R3 k n hR3 hW3 (Nat.le_succ _) (Nat.le_add_right _ _)) (fun c => absurd rfl c)
set_option maxRecDepth 4000 in
theorem lw_case_49 (hR : ow_RF R) (hW : sp_W I) (hkn : k ≤ 601024 ∧ n ≤ 7293034) (hv : ∀ j, j < 6 → vp_in (nI i + nI j) L) (next : ∀ (I2 : Nat → Nat → Int32) (J2 : Nat → Nat → Int64) (R2 : Nat → Nat → Option Nat) (k2 n2 : Nat), ow_RF R2 → sp_W I2 → k2 ≤ k + 1 → n2 ≤ n + 6 → ow_AW ow_Y1 (ow_Zw L xs) M_Law_law 40 601024 7293034 2084 [(0, .ref 980), (1, .ref 0), (2, .ref 70), (3, .ref 84), (4, .int (nI i))] [] (85, I2, J2, R2) k2 n2) : ow_AW ow_Y1 (ow_Zw L xs) M_Law_law 40 601024 7293034 1952 [(0, .ref 980), (1, .ref 0), (2, .ref 70), (3, .ref 84), (4, .int (nI i))] [] (85, I, J, R) k n := by
  refine ow_aload_n 1 rfl d_Law_law_1952 ?_
  refine ow_callV (b := 0) (cq := 11) (As := []) (rest := []) (d2 := 39) d_Law_law_1953 l_Law_227 v_Fs_image (show 0 < 85 by decide) rfl (by decide) rfl (Nat.le_of_ble_eq_true rfl) (Nat.le_refl _) hkn ?_
  refine (sp_U_of p_image) 27 I J R _ hR hW ?_
  intro v I2 J2 R2 hR2 hM
  show ow_AW ow_Y1 (ow_Zw L xs) M_Law_law 40 601024 7293034 1956 [(0, .ref 980), (1, .ref 0), (2, .ref 70), (3, .ref 84), (4, .int (nI i))] [.int v] (85, I2, J2, R2) k n
  refine ow_aload_n 2 rfl d_Law_law_1956 ?_
  refine ow_callV (b := 70) (cq := 12) (As := []) (rest := [.int v]) (d2 := 39) d_Law_law_1957 l_Law_230 v_Mo_image (show 70 < 85 by decide) rfl (by decide) rfl (Nat.le_of_ble_eq_true rfl) (Nat.le_refl _) hkn ?_
  refine hM _ ?_
  intro I3 J3 R3 hR3 hW3
  show ow_AW ow_Y1 (ow_Zw L xs) M_Law_law 40 601024 7293034 1960 [(0, .ref 980), (1, .ref 0), (2, .ref 70), (3, .ref 84), (4, .int (nI i))] [.int v, .int v] (85, I3, J3, R3) k n
  exact ow_icmp_eq (tgt := 2084) d_Law_law_1960 (by decide) (fun _ => next I3 J3 R3 k n hR3 hW3 (Nat.le_succ _) (Nat.le_add_right _ _)) (fun c => absurd rfl c)
set_option maxRecDepth 4000 in
theorem lw_case_50 (hR : ow_RF R) (hW : sp_W I) (hkn : k ≤ 601024 ∧ n ≤ 7293034) (hv : ∀ j, j < 6 → vp_in (nI i + nI j) L) (next : ∀ (I2 : Nat → Nat → Int32) (J2 : Nat → Nat → Int64) (R2 : Nat → Nat → Option Nat) (k2 n2 : Nat), ow_RF R2 → sp_W I2 → k2 ≤ k + 1 → n2 ≤ n + 6 → ow_AW ow_Y1 (ow_Zw L xs) M_Law_law 40 601024 7293034 2084 [(0, .ref 980), (1, .ref 0), (2, .ref 70), (3, .ref 84), (4, .int (nI i))] [] (85, I2, J2, R2) k2 n2) : ow_AW ow_Y1 (ow_Zw L xs) M_Law_law 40 601024 7293034 1965 [(0, .ref 980), (1, .ref 0), (2, .ref 70), (3, .ref 84), (4, .int (nI i))] [] (85, I, J, R) k n := by
  refine ow_aload_n 1 rfl d_Law_law_1965 ?_
  refine ow_aload_n 0 rfl d_Law_law_1966 ?_
  refine ow_iload 4 rfl d_Law_law_1967 ?_
  refine ow_iconst (v := 1) (by decide) d_Law_law_1969 ?_
  refine ow_iadd d_Law_law_1970 ?_
  refine ow_sld d_Law_law_1971 (hv 1 (by decide)) ?_
  refine ow_callV (b := 0) (cq := 11) (As := [.int (xs (nI i + 1).toNatClampNeg)]) (rest := []) (d2 := 39) d_Law_law_1972 l_Law_231 v_Fs_back (show 0 < 85 by decide) rfl (by decide) rfl (Nat.le_of_ble_eq_true rfl) (Nat.le_refl _) hkn ?_
  refine (sp_U_of p_back) 27 I J R _ hR hW ?_
  intro v I2 J2 R2 hR2 hM
  show ow_AW ow_Y1 (ow_Zw L xs) M_Law_law 40 601024 7293034 1975 [(0, .ref 980), (1, .ref 0), (2, .ref 70), (3, .ref 84), (4, .int (nI i))] [.int v] (85, I2, J2, R2) k n
  refine ow_aload_n 2 rfl d_Law_law_1975 ?_
  refine ow_aload_n 0 rfl d_Law_law_1976 ?_
  refine ow_iload 4 rfl d_Law_law_1977 ?_
  refine ow_iconst (v := 1) (by decide) d_Law_law_1979 ?_
  refine ow_iadd d_Law_law_1980 ?_
  refine ow_sld d_Law_law_1981 (hv 1 (by decide)) ?_
  refine ow_callV (b := 70) (cq := 12) (As := [.int (xs (nI i + 1).toNatClampNeg)]) (rest := [.int v]) (d2 := 39) d_Law_law_1982 l_Law_235 v_Mo_back (show 70 < 85 by decide) rfl (by decide) rfl (Nat.le_of_ble_eq_true rfl) (Nat.le_refl _) hkn ?_
  refine hM _ ?_
  intro I3 J3 R3 hR3 hW3
  show ow_AW ow_Y1 (ow_Zw L xs) M_Law_law 40 601024 7293034 1985 [(0, .ref 980), (1, .ref 0), (2, .ref 70), (3, .ref 84), (4, .int (nI i))] [.int v, .int v] (85, I3, J3, R3) k n
  exact ow_icmp_eq (tgt := 2084) d_Law_law_1985 (by decide) (fun _ => next I3 J3 R3 k n hR3 hW3 (Nat.le_succ _) (Nat.le_add_right _ _)) (fun c => absurd rfl c)
set_option maxRecDepth 4000 in
theorem lw_case_52 (hR : ow_RF R) (hW : sp_W I) (hkn : k ≤ 601024 ∧ n ≤ 7293034) (hv : ∀ j, j < 6 → vp_in (nI i + nI j) L) (next : ∀ (I2 : Nat → Nat → Int32) (J2 : Nat → Nat → Int64) (R2 : Nat → Nat → Option Nat) (k2 n2 : Nat), ow_RF R2 → sp_W I2 → k2 ≤ k + 1 → n2 ≤ n + 6 → ow_AW ow_Y1 (ow_Zw L xs) M_Law_law 40 601024 7293034 2084 [(0, .ref 980), (1, .ref 0), (2, .ref 70), (3, .ref 84), (4, .int (nI i))] [] (85, I2, J2, R2) k2 n2) : ow_AW ow_Y1 (ow_Zw L xs) M_Law_law 40 601024 7293034 2046 [(0, .ref 980), (1, .ref 0), (2, .ref 70), (3, .ref 84), (4, .int (nI i))] [] (85, I, J, R) k n := by
  refine ow_aload_n 1 rfl d_Law_law_2046 ?_
  refine ow_aload_n 0 rfl d_Law_law_2047 ?_
  refine ow_iload 4 rfl d_Law_law_2048 ?_
  refine ow_iconst (v := 1) (by decide) d_Law_law_2050 ?_
  refine ow_iadd d_Law_law_2051 ?_
  refine ow_sld d_Law_law_2052 (hv 1 (by decide)) ?_
  refine ow_callV (b := 0) (cq := 11) (As := [.int (xs (nI i + 1).toNatClampNeg)]) (rest := []) (d2 := 39) d_Law_law_2053 l_Law_245 v_Fs_size (show 0 < 85 by decide) rfl (by decide) rfl (Nat.le_of_ble_eq_true rfl) (Nat.le_refl _) hkn ?_
  refine (p_size) 27 I J R _ hR hW ?_
  intro v I2 J2 R2 hR2 hM
  show ow_AW ow_Y1 (ow_Zw L xs) M_Law_law 40 601024 7293034 2056 [(0, .ref 980), (1, .ref 0), (2, .ref 70), (3, .ref 84), (4, .int (nI i))] [.int v] (85, I2, J2, R2) k n
  refine ow_aload_n 2 rfl d_Law_law_2056 ?_
  refine ow_aload_n 0 rfl d_Law_law_2057 ?_
  refine ow_iload 4 rfl d_Law_law_2058 ?_
  refine ow_iconst (v := 1) (by decide) d_Law_law_2060 ?_
  refine ow_iadd d_Law_law_2061 ?_
  refine ow_sld d_Law_law_2062 (hv 1 (by decide)) ?_
  refine ow_callV (b := 70) (cq := 12) (As := [.int (xs (nI i + 1).toNatClampNeg)]) (rest := [.int v]) (d2 := 39) d_Law_law_2063 l_Law_248 v_Mo_size (show 70 < 85 by decide) rfl (by decide) rfl (Nat.le_of_ble_eq_true rfl) (Nat.le_refl _) hkn ?_
  refine hM _ ?_
  intro I3 J3 R3 hR3 hW3
  show ow_AW ow_Y1 (ow_Zw L xs) M_Law_law 40 601024 7293034 2066 [(0, .ref 980), (1, .ref 0), (2, .ref 70), (3, .ref 84), (4, .int (nI i))] [.int v, .int v] (85, I3, J3, R3) k n
  exact ow_icmp_eq (tgt := 2084) d_Law_law_2066 (by decide) (fun _ => next I3 J3 R3 k n hR3 hW3 (Nat.le_succ _) (Nat.le_add_right _ _)) (fun c => absurd rfl c)
set_option maxRecDepth 4000 in
theorem lw_case_53 (hR : ow_RF R) (hW : sp_W I) (hkn : k ≤ 601024 ∧ n ≤ 7293034) (hv : ∀ j, j < 6 → vp_in (nI i + nI j) L) (next : ∀ (I2 : Nat → Nat → Int32) (J2 : Nat → Nat → Int64) (R2 : Nat → Nat → Option Nat) (k2 n2 : Nat), ow_RF R2 → sp_W I2 → k2 ≤ k + 1 → n2 ≤ n + 6 → ow_AW ow_Y1 (ow_Zw L xs) M_Law_law 40 601024 7293034 2084 [(0, .ref 980), (1, .ref 0), (2, .ref 70), (3, .ref 84), (4, .int (nI i))] [] (85, I2, J2, R2) k2 n2) : ow_AW ow_Y1 (ow_Zw L xs) M_Law_law 40 601024 7293034 2071 [(0, .ref 980), (1, .ref 0), (2, .ref 70), (3, .ref 84), (4, .int (nI i))] [] (85, I, J, R) k n := by
  refine ow_aload_n 1 rfl d_Law_law_2071 ?_
  refine ow_callV (b := 0) (cq := 11) (As := []) (rest := []) (d2 := 39) d_Law_law_2072 l_Law_249 v_Fs_trouble (show 0 < 85 by decide) rfl (by decide) rfl (Nat.le_of_ble_eq_true rfl) (Nat.le_refl _) hkn ?_
  refine (p_trouble) 27 I J R _ hR hW ?_
  intro v I2 J2 R2 hR2 hM
  show ow_AW ow_Y1 (ow_Zw L xs) M_Law_law 40 601024 7293034 2075 [(0, .ref 980), (1, .ref 0), (2, .ref 70), (3, .ref 84), (4, .int (nI i))] [.int v] (85, I2, J2, R2) k n
  refine ow_aload_n 2 rfl d_Law_law_2075 ?_
  refine ow_callV (b := 70) (cq := 12) (As := []) (rest := [.int v]) (d2 := 39) d_Law_law_2076 l_Law_252 v_Mo_trouble (show 70 < 85 by decide) rfl (by decide) rfl (Nat.le_of_ble_eq_true rfl) (Nat.le_refl _) hkn ?_
  refine hM _ ?_
  intro I3 J3 R3 hR3 hW3
  show ow_AW ow_Y1 (ow_Zw L xs) M_Law_law 40 601024 7293034 2079 [(0, .ref 980), (1, .ref 0), (2, .ref 70), (3, .ref 84), (4, .int (nI i))] [.int v, .int v] (85, I3, J3, R3) k n
  exact ow_icmp_eq (tgt := 2084) d_Law_law_2079 (by decide) (fun _ => next I3 J3 R3 k n hR3 hW3 (Nat.le_succ _) (Nat.le_add_right _ _)) (fun c => absurd rfl c)
end CASES
