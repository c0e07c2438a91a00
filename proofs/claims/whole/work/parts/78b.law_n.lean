theorem d_law_299 : decode code 299 = .ok (.iconst 1, 1) := by decide +kernel
theorem d_law_300 : decode code 300 = .ok (.iadd, 1) := by decide +kernel
theorem d_law_301 : decode code 301 = .ok (.iaload, 1) := by decide +kernel
theorem d_law_302 : decode code 302 = .ok (.aload_n 0, 1) := by decide +kernel
theorem d_law_303 : decode code 303 = .ok (.iload 4, 2) := by decide +kernel
theorem d_law_305 : decode code 305 = .ok (.iconst 2, 1) := by decide +kernel
theorem d_law_306 : decode code 306 = .ok (.iadd, 1) := by decide +kernel
theorem d_law_307 : decode code 307 = .ok (.iaload, 1) := by decide +kernel
theorem d_law_308 : decode code 308 = .ok (.invokevirtual 80, 3) := by decide +kernel
theorem d_law_311 : decode code 311 = .ok (.istore 6, 2) := by decide +kernel
theorem d_law_313 : decode code 313 = .ok (.aload_n 2, 1) := by decide +kernel
theorem d_law_314 : decode code 314 = .ok (.invokevirtual 68, 3) := by decide +kernel
theorem d_law_317 : decode code 317 = .ok (.iload 5, 2) := by decide +kernel
theorem d_law_319 : decode code 319 = .ok (.if_icmp .eq 5, 3) := by decide +kernel
theorem d_law_324 : decode code 324 = .ok (.iload 5, 2) := by decide +kernel
theorem d_law_326 : decode code 326 = .ok (.ifCond .ne 15, 3) := by decide +kernel
theorem d_law_329 : decode code 329 = .ok (.aload_n 3, 1) := by decide +kernel
theorem d_law_330 : decode code 330 = .ok (.iconst 0, 1) := by decide +kernel
theorem d_law_331 : decode code 331 = .ok (.laload, 1) := by decide +kernel
theorem d_law_332 : decode code 332 = .ok (.iload 6, 2) := by decide +kernel
theorem d_law_334 : decode code 334 = .ok (.i2l, 1) := by decide +kernel
theorem d_law_335 : decode code 335 = .ok (.lcmp, 1) := by decide +kernel
theorem d_law_336 : decode code 336 = .ok (.ifCond .eq 5, 3) := by decide +kernel
theorem d_law_339 : decode code 339 = .ok (.iconst 0, 1) := by decide +kernel
theorem d_law_341 : decode code 341 = .ok (.goto 668, 3) := by decide +kernel
theorem d_law_344 : decode code 344 = .ok (.aload_n 1, 1) := by decide +kernel
theorem d_law_345 : decode code 345 = .ok (.aload_n 0, 1) := by decide +kernel
theorem d_law_346 : decode code 346 = .ok (.iload 4, 2) := by decide +kernel
theorem d_law_348 : decode code 348 = .ok (.iconst 1, 1) := by decide +kernel
theorem d_law_349 : decode code 349 = .ok (.iadd, 1) := by decide +kernel
theorem d_law_350 : decode code 350 = .ok (.iaload, 1) := by decide +kernel
theorem d_law_351 : decode code 351 = .ok (.aload_n 3, 1) := by decide +kernel
theorem d_law_352 : decode code 352 = .ok (.invokestatic 81, 3) := by decide +kernel
theorem d_law_355 : decode code 355 = .ok (.istore 5, 2) := by decide +kernel
theorem d_law_357 : decode code 357 = .ok (.aload_n 2, 1) := by decide +kernel
theorem d_law_358 : decode code 358 = .ok (.aload_n 0, 1) := by decide +kernel
theorem d_law_359 : decode code 359 = .ok (.iload 4, 2) := by decide +kernel
theorem d_law_361 : decode code 361 = .ok (.iconst 1, 1) := by decide +kernel
theorem d_law_362 : decode code 362 = .ok (.iadd, 1) := by decide +kernel
theorem d_law_363 : decode code 363 = .ok (.iaload, 1) := by decide +kernel
theorem d_law_364 : decode code 364 = .ok (.invokevirtual 84, 3) := by decide +kernel
theorem d_law_367 : decode code 367 = .ok (.istore 6, 2) := by decide +kernel
theorem d_law_369 : decode code 369 = .ok (.aload_n 2, 1) := by decide +kernel
theorem d_law_370 : decode code 370 = .ok (.invokevirtual 68, 3) := by decide +kernel
theorem d_law_373 : decode code 373 = .ok (.iload 5, 2) := by decide +kernel
theorem d_law_375 : decode code 375 = .ok (.if_icmp .eq 5, 3) := by decide +kernel
theorem d_law_380 : decode code 380 = .ok (.iload 5, 2) := by decide +kernel
theorem d_law_382 : decode code 382 = .ok (.ifCond .ne 15, 3) := by decide +kernel
theorem d_law_385 : decode code 385 = .ok (.aload_n 3, 1) := by decide +kernel
theorem d_law_386 : decode code 386 = .ok (.iconst 0, 1) := by decide +kernel
theorem d_law_387 : decode code 387 = .ok (.laload, 1) := by decide +kernel
theorem d_law_388 : decode code 388 = .ok (.iload 6, 2) := by decide +kernel
theorem d_law_390 : decode code 390 = .ok (.i2l, 1) := by decide +kernel
theorem d_law_391 : decode code 391 = .ok (.lcmp, 1) := by decide +kernel
theorem d_law_392 : decode code 392 = .ok (.ifCond .eq 5, 3) := by decide +kernel
theorem d_law_395 : decode code 395 = .ok (.iconst 0, 1) := by decide +kernel
theorem d_law_397 : decode code 397 = .ok (.goto 612, 3) := by decide +kernel
theorem d_law_400 : decode code 400 = .ok (.aload_n 1, 1) := by decide +kernel
theorem d_law_401 : decode code 401 = .ok (.invokevirtual 85, 3) := by decide +kernel
theorem d_law_404 : decode code 404 = .ok (.aload_n 2, 1) := by decide +kernel
theorem d_law_405 : decode code 405 = .ok (.invokevirtual 88, 3) := by decide +kernel
theorem d_law_408 : decode code 408 = .ok (.if_icmp .eq 601, 3) := by decide +kernel
theorem d_law_413 : decode code 413 = .ok (.aload_n 1, 1) := by decide +kernel
theorem d_law_414 : decode code 414 = .ok (.aload_n 0, 1) := by decide +kernel
theorem d_law_415 : decode code 415 = .ok (.iload 4, 2) := by decide +kernel
theorem d_law_417 : decode code 417 = .ok (.iconst 1, 1) := by decide +kernel
theorem d_law_418 : decode code 418 = .ok (.iadd, 1) := by decide +kernel
theorem d_law_419 : decode code 419 = .ok (.iaload, 1) := by decide +kernel
theorem d_law_420 : decode code 420 = .ok (.aload_n 0, 1) := by decide +kernel
theorem d_law_421 : decode code 421 = .ok (.iload 4, 2) := by decide +kernel
theorem d_law_423 : decode code 423 = .ok (.iconst 2, 1) := by decide +kernel
theorem d_law_424 : decode code 424 = .ok (.iadd, 1) := by decide +kernel
theorem d_law_425 : decode code 425 = .ok (.iaload, 1) := by decide +kernel
theorem d_law_426 : decode code 426 = .ok (.aload_n 3, 1) := by decide +kernel
theorem d_law_427 : decode code 427 = .ok (.invokestatic 89, 3) := by decide +kernel
theorem d_law_430 : decode code 430 = .ok (.istore 5, 2) := by decide +kernel
theorem d_law_432 : decode code 432 = .ok (.aload_n 2, 1) := by decide +kernel
theorem d_law_433 : decode code 433 = .ok (.aload_n 0, 1) := by decide +kernel
theorem d_law_434 : decode code 434 = .ok (.iload 4, 2) := by decide +kernel
theorem d_law_436 : decode code 436 = .ok (.iconst 1, 1) := by decide +kernel
theorem d_law_437 : decode code 437 = .ok (.iadd, 1) := by decide +kernel
theorem d_law_438 : decode code 438 = .ok (.iaload, 1) := by decide +kernel
theorem d_law_439 : decode code 439 = .ok (.aload_n 0, 1) := by decide +kernel
theorem d_law_440 : decode code 440 = .ok (.iload 4, 2) := by decide +kernel
theorem d_law_442 : decode code 442 = .ok (.iconst 2, 1) := by decide +kernel
theorem d_law_443 : decode code 443 = .ok (.iadd, 1) := by decide +kernel
theorem d_law_444 : decode code 444 = .ok (.iaload, 1) := by decide +kernel
theorem d_law_445 : decode code 445 = .ok (.invokevirtual 91, 3) := by decide +kernel
theorem d_law_448 : decode code 448 = .ok (.istore 6, 2) := by decide +kernel
theorem d_law_450 : decode code 450 = .ok (.aload_n 2, 1) := by decide +kernel
theorem d_law_451 : decode code 451 = .ok (.invokevirtual 68, 3) := by decide +kernel
theorem d_law_454 : decode code 454 = .ok (.iload 5, 2) := by decide +kernel
theorem d_law_456 : decode code 456 = .ok (.if_icmp .eq 5, 3) := by decide +kernel
theorem d_law_461 : decode code 461 = .ok (.iload 5, 2) := by decide +kernel
theorem d_law_463 : decode code 463 = .ok (.ifCond .ne 15, 3) := by decide +kernel
theorem d_law_466 : decode code 466 = .ok (.aload_n 3, 1) := by decide +kernel
theorem d_law_467 : decode code 467 = .ok (.iconst 0, 1) := by decide +kernel
theorem d_law_468 : decode code 468 = .ok (.laload, 1) := by decide +kernel
theorem d_law_469 : decode code 469 = .ok (.iload 6, 2) := by decide +kernel
theorem d_law_471 : decode code 471 = .ok (.i2l, 1) := by decide +kernel
theorem d_law_472 : decode code 472 = .ok (.lcmp, 1) := by decide +kernel
theorem d_law_473 : decode code 473 = .ok (.ifCond .eq 5, 3) := by decide +kernel
theorem d_law_476 : decode code 476 = .ok (.iconst 0, 1) := by decide +kernel
theorem d_law_478 : decode code 478 = .ok (.goto 531, 3) := by decide +kernel
theorem d_law_481 : decode code 481 = .ok (.aload_n 1, 1) := by decide +kernel
theorem d_law_482 : decode code 482 = .ok (.aload_n 0, 1) := by decide +kernel
theorem d_law_483 : decode code 483 = .ok (.iload 4, 2) := by decide +kernel
theorem d_law_485 : decode code 485 = .ok (.iconst 1, 1) := by decide +kernel
theorem d_law_486 : decode code 486 = .ok (.iadd, 1) := by decide +kernel
theorem d_law_487 : decode code 487 = .ok (.iaload, 1) := by decide +kernel
theorem d_law_488 : decode code 488 = .ok (.aload_n 3, 1) := by decide +kernel
theorem d_law_489 : decode code 489 = .ok (.invokestatic 92, 3) := by decide +kernel
theorem d_law_492 : decode code 492 = .ok (.istore 5, 2) := by decide +kernel
theorem d_law_494 : decode code 494 = .ok (.aload_n 2, 1) := by decide +kernel
theorem d_law_495 : decode code 495 = .ok (.aload_n 0, 1) := by decide +kernel
theorem d_law_496 : decode code 496 = .ok (.iload 4, 2) := by decide +kernel
theorem d_law_498 : decode code 498 = .ok (.iconst 1, 1) := by decide +kernel
theorem d_law_499 : decode code 499 = .ok (.iadd, 1) := by decide +kernel
theorem d_law_500 : decode code 500 = .ok (.iaload, 1) := by decide +kernel
theorem d_law_501 : decode code 501 = .ok (.invokevirtual 94, 3) := by decide +kernel
theorem d_law_504 : decode code 504 = .ok (.istore 6, 2) := by decide +kernel
theorem d_law_506 : decode code 506 = .ok (.aload_n 2, 1) := by decide +kernel
theorem d_law_507 : decode code 507 = .ok (.invokevirtual 68, 3) := by decide +kernel
theorem d_law_510 : decode code 510 = .ok (.iload 5, 2) := by decide +kernel
theorem d_law_512 : decode code 512 = .ok (.if_icmp .eq 5, 3) := by decide +kernel
theorem d_law_517 : decode code 517 = .ok (.iload 5, 2) := by decide +kernel
theorem d_law_519 : decode code 519 = .ok (.ifCond .ne 15, 3) := by decide +kernel
theorem d_law_522 : decode code 522 = .ok (.aload_n 3, 1) := by decide +kernel
theorem d_law_523 : decode code 523 = .ok (.iconst 0, 1) := by decide +kernel
theorem d_law_524 : decode code 524 = .ok (.laload, 1) := by decide +kernel
theorem d_law_525 : decode code 525 = .ok (.iload 6, 2) := by decide +kernel
theorem d_law_527 : decode code 527 = .ok (.i2l, 1) := by decide +kernel
theorem d_law_528 : decode code 528 = .ok (.lcmp, 1) := by decide +kernel
theorem d_law_529 : decode code 529 = .ok (.ifCond .eq 5, 3) := by decide +kernel
theorem d_law_532 : decode code 532 = .ok (.iconst 0, 1) := by decide +kernel
theorem d_law_534 : decode code 534 = .ok (.goto 475, 3) := by decide +kernel
theorem d_law_537 : decode code 537 = .ok (.aload_n 1, 1) := by decide +kernel
theorem d_law_538 : decode code 538 = .ok (.aload_n 0, 1) := by decide +kernel
theorem d_law_539 : decode code 539 = .ok (.iload 4, 2) := by decide +kernel
theorem d_law_541 : decode code 541 = .ok (.iconst 1, 1) := by decide +kernel
theorem d_law_542 : decode code 542 = .ok (.iadd, 1) := by decide +kernel
theorem d_law_543 : decode code 543 = .ok (.iaload, 1) := by decide +kernel
theorem d_law_544 : decode code 544 = .ok (.aload_n 3, 1) := by decide +kernel
theorem d_law_545 : decode code 545 = .ok (.invokestatic 95, 3) := by decide +kernel
theorem d_law_548 : decode code 548 = .ok (.istore 5, 2) := by decide +kernel
theorem d_law_550 : decode code 550 = .ok (.aload_n 2, 1) := by decide +kernel
theorem d_law_551 : decode code 551 = .ok (.aload_n 0, 1) := by decide +kernel
theorem d_law_552 : decode code 552 = .ok (.iload 4, 2) := by decide +kernel
theorem d_law_554 : decode code 554 = .ok (.iconst 1, 1) := by decide +kernel
theorem d_law_555 : decode code 555 = .ok (.iadd, 1) := by decide +kernel
