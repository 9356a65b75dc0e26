theorem d_La_law_352 : decode code 352 = .ok (.iadd, 1) := by decide +kernel
theorem d_La_law_353 : decode code 353 = .ok (.iaload, 1) := by decide +kernel
theorem d_La_law_354 : decode code 354 = .ok (.invokevirtual 50, 3) := by decide +kernel
theorem d_La_law_357 : decode code 357 = .ok (.aload_n 2, 1) := by decide +kernel
theorem d_La_law_358 : decode code 358 = .ok (.aload_n 0, 1) := by decide +kernel
theorem d_La_law_359 : decode code 359 = .ok (.iload_n 3, 1) := by decide +kernel
theorem d_La_law_360 : decode code 360 = .ok (.iconst 1, 1) := by decide +kernel
theorem d_La_law_361 : decode code 361 = .ok (.iadd, 1) := by decide +kernel
theorem d_La_law_362 : decode code 362 = .ok (.iaload, 1) := by decide +kernel
theorem d_La_law_363 : decode code 363 = .ok (.invokevirtual 53, 3) := by decide +kernel
theorem d_La_law_366 : decode code 366 = .ok (.if_icmp .eq 110, 3) := by decide +kernel
theorem d_La_law_369 : decode code 369 = .ok (.iconst 0, 1) := by decide +kernel
theorem d_La_law_370 : decode code 370 = .ok (.ireturn, 1) := by decide +kernel
theorem d_La_law_371 : decode code 371 = .ok (.aload_n 1, 1) := by decide +kernel
theorem d_La_law_372 : decode code 372 = .ok (.aload_n 0, 1) := by decide +kernel
theorem d_La_law_373 : decode code 373 = .ok (.iload_n 3, 1) := by decide +kernel
theorem d_La_law_374 : decode code 374 = .ok (.iconst 1, 1) := by decide +kernel
theorem d_La_law_375 : decode code 375 = .ok (.iadd, 1) := by decide +kernel
theorem d_La_law_376 : decode code 376 = .ok (.iaload, 1) := by decide +kernel
theorem d_La_law_377 : decode code 377 = .ok (.ifCond .eq 7, 3) := by decide +kernel
theorem d_La_law_380 : decode code 380 = .ok (.iconst 1, 1) := by decide +kernel
theorem d_La_law_381 : decode code 381 = .ok (.goto 4, 3) := by decide +kernel
theorem d_La_law_384 : decode code 384 = .ok (.iconst 0, 1) := by decide +kernel
theorem d_La_law_385 : decode code 385 = .ok (.aload_n 0, 1) := by decide +kernel
theorem d_La_law_386 : decode code 386 = .ok (.iload_n 3, 1) := by decide +kernel
theorem d_La_law_387 : decode code 387 = .ok (.iconst 2, 1) := by decide +kernel
theorem d_La_law_388 : decode code 388 = .ok (.iadd, 1) := by decide +kernel
theorem d_La_law_389 : decode code 389 = .ok (.iaload, 1) := by decide +kernel
theorem d_La_law_390 : decode code 390 = .ok (.invokevirtual 54, 3) := by decide +kernel
theorem d_La_law_393 : decode code 393 = .ok (.aload_n 2, 1) := by decide +kernel
theorem d_La_law_394 : decode code 394 = .ok (.aload_n 0, 1) := by decide +kernel
theorem d_La_law_395 : decode code 395 = .ok (.iload_n 3, 1) := by decide +kernel
theorem d_La_law_396 : decode code 396 = .ok (.iconst 1, 1) := by decide +kernel
theorem d_La_law_397 : decode code 397 = .ok (.iadd, 1) := by decide +kernel
theorem d_La_law_398 : decode code 398 = .ok (.iaload, 1) := by decide +kernel
theorem d_La_law_399 : decode code 399 = .ok (.ifCond .eq 7, 3) := by decide +kernel
theorem d_La_law_402 : decode code 402 = .ok (.iconst 1, 1) := by decide +kernel
theorem d_La_law_403 : decode code 403 = .ok (.goto 4, 3) := by decide +kernel
theorem d_La_law_406 : decode code 406 = .ok (.iconst 0, 1) := by decide +kernel
theorem d_La_law_407 : decode code 407 = .ok (.aload_n 0, 1) := by decide +kernel
theorem d_La_law_408 : decode code 408 = .ok (.iload_n 3, 1) := by decide +kernel
theorem d_La_law_409 : decode code 409 = .ok (.iconst 2, 1) := by decide +kernel
theorem d_La_law_410 : decode code 410 = .ok (.iadd, 1) := by decide +kernel
theorem d_La_law_411 : decode code 411 = .ok (.iaload, 1) := by decide +kernel
theorem d_La_law_412 : decode code 412 = .ok (.invokevirtual 58, 3) := by decide +kernel
theorem d_La_law_415 : decode code 415 = .ok (.if_icmp .eq 61, 3) := by decide +kernel
theorem d_La_law_418 : decode code 418 = .ok (.iconst 0, 1) := by decide +kernel
theorem d_La_law_419 : decode code 419 = .ok (.ireturn, 1) := by decide +kernel
theorem d_La_law_420 : decode code 420 = .ok (.aload_n 1, 1) := by decide +kernel
theorem d_La_law_421 : decode code 421 = .ok (.aload_n 0, 1) := by decide +kernel
theorem d_La_law_422 : decode code 422 = .ok (.iload_n 3, 1) := by decide +kernel
theorem d_La_law_423 : decode code 423 = .ok (.iconst 1, 1) := by decide +kernel
theorem d_La_law_424 : decode code 424 = .ok (.iadd, 1) := by decide +kernel
theorem d_La_law_425 : decode code 425 = .ok (.iaload, 1) := by decide +kernel
theorem d_La_law_426 : decode code 426 = .ok (.aload_n 0, 1) := by decide +kernel
theorem d_La_law_427 : decode code 427 = .ok (.iload_n 3, 1) := by decide +kernel
theorem d_La_law_428 : decode code 428 = .ok (.iconst 2, 1) := by decide +kernel
theorem d_La_law_429 : decode code 429 = .ok (.iadd, 1) := by decide +kernel
theorem d_La_law_430 : decode code 430 = .ok (.iaload, 1) := by decide +kernel
theorem d_La_law_431 : decode code 431 = .ok (.invokevirtual 59, 3) := by decide +kernel
theorem d_La_law_434 : decode code 434 = .ok (.aload_n 2, 1) := by decide +kernel
theorem d_La_law_435 : decode code 435 = .ok (.aload_n 0, 1) := by decide +kernel
theorem d_La_law_436 : decode code 436 = .ok (.iload_n 3, 1) := by decide +kernel
theorem d_La_law_437 : decode code 437 = .ok (.iconst 1, 1) := by decide +kernel
theorem d_La_law_438 : decode code 438 = .ok (.iadd, 1) := by decide +kernel
theorem d_La_law_439 : decode code 439 = .ok (.iaload, 1) := by decide +kernel
theorem d_La_law_440 : decode code 440 = .ok (.aload_n 0, 1) := by decide +kernel
theorem d_La_law_441 : decode code 441 = .ok (.iload_n 3, 1) := by decide +kernel
theorem d_La_law_442 : decode code 442 = .ok (.iconst 2, 1) := by decide +kernel
theorem d_La_law_443 : decode code 443 = .ok (.iadd, 1) := by decide +kernel
theorem d_La_law_444 : decode code 444 = .ok (.iaload, 1) := by decide +kernel
theorem d_La_law_445 : decode code 445 = .ok (.invokevirtual 62, 3) := by decide +kernel
theorem d_La_law_448 : decode code 448 = .ok (.if_icmp .eq 28, 3) := by decide +kernel
theorem d_La_law_451 : decode code 451 = .ok (.iconst 0, 1) := by decide +kernel
theorem d_La_law_452 : decode code 452 = .ok (.ireturn, 1) := by decide +kernel
theorem d_La_law_453 : decode code 453 = .ok (.aload_n 1, 1) := by decide +kernel
theorem d_La_law_454 : decode code 454 = .ok (.aload_n 0, 1) := by decide +kernel
theorem d_La_law_455 : decode code 455 = .ok (.iload_n 3, 1) := by decide +kernel
theorem d_La_law_456 : decode code 456 = .ok (.iconst 1, 1) := by decide +kernel
theorem d_La_law_457 : decode code 457 = .ok (.iadd, 1) := by decide +kernel
theorem d_La_law_458 : decode code 458 = .ok (.iaload, 1) := by decide +kernel
theorem d_La_law_459 : decode code 459 = .ok (.invokevirtual 63, 3) := by decide +kernel
theorem d_La_law_462 : decode code 462 = .ok (.aload_n 2, 1) := by decide +kernel
theorem d_La_law_463 : decode code 463 = .ok (.aload_n 0, 1) := by decide +kernel
theorem d_La_law_464 : decode code 464 = .ok (.iload_n 3, 1) := by decide +kernel
theorem d_La_law_465 : decode code 465 = .ok (.iconst 1, 1) := by decide +kernel
theorem d_La_law_466 : decode code 466 = .ok (.iadd, 1) := by decide +kernel
theorem d_La_law_467 : decode code 467 = .ok (.iaload, 1) := by decide +kernel
theorem d_La_law_468 : decode code 468 = .ok (.invokevirtual 66, 3) := by decide +kernel
theorem d_La_law_471 : decode code 471 = .ok (.if_icmp .eq 5, 3) := by decide +kernel
theorem d_La_law_474 : decode code 474 = .ok (.iconst 0, 1) := by decide +kernel
theorem d_La_law_475 : decode code 475 = .ok (.ireturn, 1) := by decide +kernel
theorem d_La_law_476 : decode code 476 = .ok (.iinc 3 6, 3) := by decide +kernel
theorem d_La_law_479 : decode code 479 = .ok (.goto (-461), 3) := by decide +kernel
theorem d_La_law_482 : decode code 482 = .ok (.iconst 1, 1) := by decide +kernel
theorem d_La_law_483 : decode code 483 = .ok (.ireturn, 1) := by decide +kernel
