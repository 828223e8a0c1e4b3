/-! the law: what its instructions are -/
theorem dd_L_law_355 : decode Y_L_law.2.1 355 = .ok (.aload_n 2, 1) := by decide +kernel
theorem dd_L_law_356 : decode Y_L_law.2.1 356 = .ok (.aload_n 0, 1) := by decide +kernel
theorem dd_L_law_357 : decode Y_L_law.2.1 357 = .ok (.iload 4, 2) := by decide +kernel
theorem dd_L_law_359 : decode Y_L_law.2.1 359 = .ok (.iconst 1, 1) := by decide +kernel
theorem dd_L_law_360 : decode Y_L_law.2.1 360 = .ok (.iadd, 1) := by decide +kernel
theorem dd_L_law_361 : decode Y_L_law.2.1 361 = .ok (.iaload, 1) := by decide +kernel
theorem dd_L_law_362 : decode Y_L_law.2.1 362 = .ok (.invokevirtual 127, 3) := by decide +kernel
theorem dd_L_law_365 : decode Y_L_law.2.1 365 = .ok (.istore 6, 2) := by decide +kernel
theorem dd_L_law_367 : decode Y_L_law.2.1 367 = .ok (.aload_n 2, 1) := by decide +kernel
theorem dd_L_law_368 : decode Y_L_law.2.1 368 = .ok (.invokevirtual 117, 3) := by decide +kernel
theorem dd_L_law_371 : decode Y_L_law.2.1 371 = .ok (.iload 5, 2) := by decide +kernel
theorem dd_L_law_373 : decode Y_L_law.2.1 373 = .ok (.if_icmp .eq 5, 3) := by decide +kernel
theorem dd_L_law_376 : decode Y_L_law.2.1 376 = .ok (.iconst 0, 1) := by decide +kernel
theorem dd_L_law_377 : decode Y_L_law.2.1 377 = .ok (.ireturn, 1) := by decide +kernel
theorem dd_L_law_378 : decode Y_L_law.2.1 378 = .ok (.iload 5, 2) := by decide +kernel
theorem dd_L_law_380 : decode Y_L_law.2.1 380 = .ok (.ifCond .ne 15, 3) := by decide +kernel
theorem dd_L_law_383 : decode Y_L_law.2.1 383 = .ok (.aload_n 3, 1) := by decide +kernel
theorem dd_L_law_384 : decode Y_L_law.2.1 384 = .ok (.iconst 0, 1) := by decide +kernel
theorem dd_L_law_385 : decode Y_L_law.2.1 385 = .ok (.laload, 1) := by decide +kernel
theorem dd_L_law_386 : decode Y_L_law.2.1 386 = .ok (.iload 6, 2) := by decide +kernel
theorem dd_L_law_388 : decode Y_L_law.2.1 388 = .ok (.i2l, 1) := by decide +kernel
theorem dd_L_law_389 : decode Y_L_law.2.1 389 = .ok (.lcmp, 1) := by decide +kernel
theorem dd_L_law_390 : decode Y_L_law.2.1 390 = .ok (.ifCond .eq 5, 3) := by decide +kernel
theorem dd_L_law_393 : decode Y_L_law.2.1 393 = .ok (.iconst 0, 1) := by decide +kernel
theorem dd_L_law_394 : decode Y_L_law.2.1 394 = .ok (.ireturn, 1) := by decide +kernel
theorem dd_L_law_395 : decode Y_L_law.2.1 395 = .ok (.goto 1866, 3) := by decide +kernel
theorem dd_L_law_398 : decode Y_L_law.2.1 398 = .ok (.aload_n 1, 1) := by decide +kernel
theorem dd_L_law_399 : decode Y_L_law.2.1 399 = .ok (.aload_n 0, 1) := by decide +kernel
theorem dd_L_law_400 : decode Y_L_law.2.1 400 = .ok (.iload 4, 2) := by decide +kernel
theorem dd_L_law_402 : decode Y_L_law.2.1 402 = .ok (.iconst 1, 1) := by decide +kernel
theorem dd_L_law_403 : decode Y_L_law.2.1 403 = .ok (.iadd, 1) := by decide +kernel
theorem dd_L_law_404 : decode Y_L_law.2.1 404 = .ok (.iaload, 1) := by decide +kernel
theorem dd_L_law_405 : decode Y_L_law.2.1 405 = .ok (.aload_n 0, 1) := by decide +kernel
theorem dd_L_law_406 : decode Y_L_law.2.1 406 = .ok (.iload 4, 2) := by decide +kernel
theorem dd_L_law_408 : decode Y_L_law.2.1 408 = .ok (.iconst 2, 1) := by decide +kernel
theorem dd_L_law_409 : decode Y_L_law.2.1 409 = .ok (.iadd, 1) := by decide +kernel
theorem dd_L_law_410 : decode Y_L_law.2.1 410 = .ok (.iaload, 1) := by decide +kernel
theorem dd_L_law_411 : decode Y_L_law.2.1 411 = .ok (.aload_n 3, 1) := by decide +kernel
theorem dd_L_law_412 : decode Y_L_law.2.1 412 = .ok (.invokestatic 128, 3) := by decide +kernel
theorem dd_L_law_415 : decode Y_L_law.2.1 415 = .ok (.istore 5, 2) := by decide +kernel
theorem dd_L_law_417 : decode Y_L_law.2.1 417 = .ok (.aload_n 2, 1) := by decide +kernel
theorem dd_L_law_418 : decode Y_L_law.2.1 418 = .ok (.aload_n 0, 1) := by decide +kernel
theorem dd_L_law_419 : decode Y_L_law.2.1 419 = .ok (.iload 4, 2) := by decide +kernel
theorem dd_L_law_421 : decode Y_L_law.2.1 421 = .ok (.iconst 1, 1) := by decide +kernel
theorem dd_L_law_422 : decode Y_L_law.2.1 422 = .ok (.iadd, 1) := by decide +kernel
theorem dd_L_law_423 : decode Y_L_law.2.1 423 = .ok (.iaload, 1) := by decide +kernel
theorem dd_L_law_424 : decode Y_L_law.2.1 424 = .ok (.aload_n 0, 1) := by decide +kernel
theorem dd_L_law_425 : decode Y_L_law.2.1 425 = .ok (.iload 4, 2) := by decide +kernel
theorem dd_L_law_427 : decode Y_L_law.2.1 427 = .ok (.iconst 2, 1) := by decide +kernel
theorem dd_L_law_428 : decode Y_L_law.2.1 428 = .ok (.iadd, 1) := by decide +kernel
theorem dd_L_law_429 : decode Y_L_law.2.1 429 = .ok (.iaload, 1) := by decide +kernel
theorem dd_L_law_430 : decode Y_L_law.2.1 430 = .ok (.invokevirtual 131, 3) := by decide +kernel
theorem dd_L_law_433 : decode Y_L_law.2.1 433 = .ok (.istore 6, 2) := by decide +kernel
theorem dd_L_law_435 : decode Y_L_law.2.1 435 = .ok (.aload_n 2, 1) := by decide +kernel
theorem dd_L_law_436 : decode Y_L_law.2.1 436 = .ok (.invokevirtual 117, 3) := by decide +kernel
theorem dd_L_law_439 : decode Y_L_law.2.1 439 = .ok (.iload 5, 2) := by decide +kernel
theorem dd_L_law_441 : decode Y_L_law.2.1 441 = .ok (.if_icmp .eq 5, 3) := by decide +kernel
theorem dd_L_law_444 : decode Y_L_law.2.1 444 = .ok (.iconst 0, 1) := by decide +kernel
theorem dd_L_law_445 : decode Y_L_law.2.1 445 = .ok (.ireturn, 1) := by decide +kernel
theorem dd_L_law_446 : decode Y_L_law.2.1 446 = .ok (.iload 5, 2) := by decide +kernel
theorem dd_L_law_448 : decode Y_L_law.2.1 448 = .ok (.ifCond .ne 15, 3) := by decide +kernel
theorem dd_L_law_451 : decode Y_L_law.2.1 451 = .ok (.aload_n 3, 1) := by decide +kernel
theorem dd_L_law_452 : decode Y_L_law.2.1 452 = .ok (.iconst 0, 1) := by decide +kernel
theorem dd_L_law_453 : decode Y_L_law.2.1 453 = .ok (.laload, 1) := by decide +kernel
theorem dd_L_law_454 : decode Y_L_law.2.1 454 = .ok (.iload 6, 2) := by decide +kernel
theorem dd_L_law_456 : decode Y_L_law.2.1 456 = .ok (.i2l, 1) := by decide +kernel
theorem dd_L_law_457 : decode Y_L_law.2.1 457 = .ok (.lcmp, 1) := by decide +kernel
theorem dd_L_law_458 : decode Y_L_law.2.1 458 = .ok (.ifCond .eq 5, 3) := by decide +kernel
theorem dd_L_law_461 : decode Y_L_law.2.1 461 = .ok (.iconst 0, 1) := by decide +kernel
theorem dd_L_law_462 : decode Y_L_law.2.1 462 = .ok (.ireturn, 1) := by decide +kernel
theorem dd_L_law_463 : decode Y_L_law.2.1 463 = .ok (.goto 1798, 3) := by decide +kernel
theorem dd_L_law_466 : decode Y_L_law.2.1 466 = .ok (.aload_n 1, 1) := by decide +kernel
theorem dd_L_law_467 : decode Y_L_law.2.1 467 = .ok (.aload_n 0, 1) := by decide +kernel
theorem dd_L_law_468 : decode Y_L_law.2.1 468 = .ok (.iload 4, 2) := by decide +kernel
theorem dd_L_law_470 : decode Y_L_law.2.1 470 = .ok (.iconst 1, 1) := by decide +kernel
theorem dd_L_law_471 : decode Y_L_law.2.1 471 = .ok (.iadd, 1) := by decide +kernel
theorem dd_L_law_472 : decode Y_L_law.2.1 472 = .ok (.iaload, 1) := by decide +kernel
theorem dd_L_law_473 : decode Y_L_law.2.1 473 = .ok (.aload_n 0, 1) := by decide +kernel
theorem dd_L_law_474 : decode Y_L_law.2.1 474 = .ok (.iload 4, 2) := by decide +kernel
theorem dd_L_law_476 : decode Y_L_law.2.1 476 = .ok (.iconst 2, 1) := by decide +kernel
theorem dd_L_law_477 : decode Y_L_law.2.1 477 = .ok (.iadd, 1) := by decide +kernel
theorem dd_L_law_478 : decode Y_L_law.2.1 478 = .ok (.iaload, 1) := by decide +kernel
theorem dd_L_law_479 : decode Y_L_law.2.1 479 = .ok (.aload_n 3, 1) := by decide +kernel
theorem dd_L_law_480 : decode Y_L_law.2.1 480 = .ok (.invokestatic 132, 3) := by decide +kernel
theorem dd_L_law_483 : decode Y_L_law.2.1 483 = .ok (.istore 5, 2) := by decide +kernel
theorem dd_L_law_485 : decode Y_L_law.2.1 485 = .ok (.aload_n 2, 1) := by decide +kernel
theorem dd_L_law_486 : decode Y_L_law.2.1 486 = .ok (.aload_n 0, 1) := by decide +kernel
theorem dd_L_law_487 : decode Y_L_law.2.1 487 = .ok (.iload 4, 2) := by decide +kernel
theorem dd_L_law_489 : decode Y_L_law.2.1 489 = .ok (.iconst 1, 1) := by decide +kernel
theorem dd_L_law_490 : decode Y_L_law.2.1 490 = .ok (.iadd, 1) := by decide +kernel
theorem dd_L_law_491 : decode Y_L_law.2.1 491 = .ok (.iaload, 1) := by decide +kernel
theorem dd_L_law_492 : decode Y_L_law.2.1 492 = .ok (.aload_n 0, 1) := by decide +kernel
theorem dd_L_law_493 : decode Y_L_law.2.1 493 = .ok (.iload 4, 2) := by decide +kernel
theorem dd_L_law_495 : decode Y_L_law.2.1 495 = .ok (.iconst 2, 1) := by decide +kernel
theorem dd_L_law_496 : decode Y_L_law.2.1 496 = .ok (.iadd, 1) := by decide +kernel
theorem dd_L_law_497 : decode Y_L_law.2.1 497 = .ok (.iaload, 1) := by decide +kernel
theorem dd_L_law_498 : decode Y_L_law.2.1 498 = .ok (.invokevirtual 134, 3) := by decide +kernel
theorem dd_L_law_501 : decode Y_L_law.2.1 501 = .ok (.istore 6, 2) := by decide +kernel
theorem dd_L_law_503 : decode Y_L_law.2.1 503 = .ok (.aload_n 2, 1) := by decide +kernel
theorem dd_L_law_504 : decode Y_L_law.2.1 504 = .ok (.invokevirtual 117, 3) := by decide +kernel
theorem dd_L_law_507 : decode Y_L_law.2.1 507 = .ok (.iload 5, 2) := by decide +kernel
theorem dd_L_law_509 : decode Y_L_law.2.1 509 = .ok (.if_icmp .eq 5, 3) := by decide +kernel
theorem dd_L_law_512 : decode Y_L_law.2.1 512 = .ok (.iconst 0, 1) := by decide +kernel
theorem dd_L_law_513 : decode Y_L_law.2.1 513 = .ok (.ireturn, 1) := by decide +kernel
theorem dd_L_law_514 : decode Y_L_law.2.1 514 = .ok (.iload 5, 2) := by decide +kernel
theorem dd_L_law_516 : decode Y_L_law.2.1 516 = .ok (.ifCond .ne 15, 3) := by decide +kernel
theorem dd_L_law_519 : decode Y_L_law.2.1 519 = .ok (.aload_n 3, 1) := by decide +kernel
theorem dd_L_law_520 : decode Y_L_law.2.1 520 = .ok (.iconst 0, 1) := by decide +kernel
theorem dd_L_law_521 : decode Y_L_law.2.1 521 = .ok (.laload, 1) := by decide +kernel
theorem dd_L_law_522 : decode Y_L_law.2.1 522 = .ok (.iload 6, 2) := by decide +kernel
theorem dd_L_law_524 : decode Y_L_law.2.1 524 = .ok (.i2l, 1) := by decide +kernel
theorem dd_L_law_525 : decode Y_L_law.2.1 525 = .ok (.lcmp, 1) := by decide +kernel
theorem dd_L_law_526 : decode Y_L_law.2.1 526 = .ok (.ifCond .eq 5, 3) := by decide +kernel
theorem dd_L_law_529 : decode Y_L_law.2.1 529 = .ok (.iconst 0, 1) := by decide +kernel
theorem dd_L_law_530 : decode Y_L_law.2.1 530 = .ok (.ireturn, 1) := by decide +kernel
theorem dd_L_law_531 : decode Y_L_law.2.1 531 = .ok (.goto 1730, 3) := by decide +kernel
theorem dd_L_law_534 : decode Y_L_law.2.1 534 = .ok (.aload_n 1, 1) := by decide +kernel
theorem dd_L_law_535 : decode Y_L_law.2.1 535 = .ok (.aload_n 0, 1) := by decide +kernel
theorem dd_L_law_536 : decode Y_L_law.2.1 536 = .ok (.iload 4, 2) := by decide +kernel
theorem dd_L_law_538 : decode Y_L_law.2.1 538 = .ok (.iconst 1, 1) := by decide +kernel
