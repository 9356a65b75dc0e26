theorem d_Mo_init_332 : decode b_Mo_init 332 = .ok (.bipush 17, 2) := by decide +kernel
theorem d_Mo_init_334 : decode b_Mo_init 334 = .ok (.bipush 111, 2) := by decide +kernel
theorem d_Mo_init_336 : decode b_Mo_init 336 = .ok (.iastore, 1) := by decide +kernel
theorem d_Mo_init_337 : decode b_Mo_init 337 = .ok (.dup, 1) := by decide +kernel
theorem d_Mo_init_338 : decode b_Mo_init 338 = .ok (.bipush 18, 2) := by decide +kernel
theorem d_Mo_init_340 : decode b_Mo_init 340 = .ok (.bipush 110, 2) := by decide +kernel
theorem d_Mo_init_342 : decode b_Mo_init 342 = .ok (.iastore, 1) := by decide +kernel
theorem d_Mo_init_343 : decode b_Mo_init 343 = .ok (.putfield 16, 3) := by decide +kernel
theorem d_Mo_init_346 : decode b_Mo_init 346 = .ok (.aload_n 0, 1) := by decide +kernel
theorem d_Mo_init_347 : decode b_Mo_init 347 = .ok (.bipush 8, 2) := by decide +kernel
theorem d_Mo_init_349 : decode b_Mo_init 349 = .ok (.newarray .int, 2) := by decide +kernel
theorem d_Mo_init_351 : decode b_Mo_init 351 = .ok (.dup, 1) := by decide +kernel
theorem d_Mo_init_352 : decode b_Mo_init 352 = .ok (.iconst 0, 1) := by decide +kernel
theorem d_Mo_init_353 : decode b_Mo_init 353 = .ok (.bipush 98, 2) := by decide +kernel
theorem d_Mo_init_355 : decode b_Mo_init 355 = .ok (.iastore, 1) := by decide +kernel
theorem d_Mo_init_356 : decode b_Mo_init 356 = .ok (.dup, 1) := by decide +kernel
theorem d_Mo_init_357 : decode b_Mo_init 357 = .ok (.iconst 1, 1) := by decide +kernel
theorem d_Mo_init_358 : decode b_Mo_init 358 = .ok (.bipush 111, 2) := by decide +kernel
theorem d_Mo_init_360 : decode b_Mo_init 360 = .ok (.iastore, 1) := by decide +kernel
theorem d_Mo_init_361 : decode b_Mo_init 361 = .ok (.dup, 1) := by decide +kernel
theorem d_Mo_init_362 : decode b_Mo_init 362 = .ok (.iconst 2, 1) := by decide +kernel
theorem d_Mo_init_363 : decode b_Mo_init 363 = .ok (.bipush 117, 2) := by decide +kernel
theorem d_Mo_init_365 : decode b_Mo_init 365 = .ok (.iastore, 1) := by decide +kernel
theorem d_Mo_init_366 : decode b_Mo_init 366 = .ok (.dup, 1) := by decide +kernel
theorem d_Mo_init_367 : decode b_Mo_init 367 = .ok (.iconst 3, 1) := by decide +kernel
theorem d_Mo_init_368 : decode b_Mo_init 368 = .ok (.bipush 110, 2) := by decide +kernel
theorem d_Mo_init_370 : decode b_Mo_init 370 = .ok (.iastore, 1) := by decide +kernel
theorem d_Mo_init_371 : decode b_Mo_init 371 = .ok (.dup, 1) := by decide +kernel
theorem d_Mo_init_372 : decode b_Mo_init 372 = .ok (.iconst 4, 1) := by decide +kernel
theorem d_Mo_init_373 : decode b_Mo_init 373 = .ok (.bipush 100, 2) := by decide +kernel
theorem d_Mo_init_375 : decode b_Mo_init 375 = .ok (.iastore, 1) := by decide +kernel
theorem d_Mo_init_376 : decode b_Mo_init 376 = .ok (.dup, 1) := by decide +kernel
theorem d_Mo_init_377 : decode b_Mo_init 377 = .ok (.iconst 5, 1) := by decide +kernel
theorem d_Mo_init_378 : decode b_Mo_init 378 = .ok (.bipush 97, 2) := by decide +kernel
theorem d_Mo_init_380 : decode b_Mo_init 380 = .ok (.iastore, 1) := by decide +kernel
theorem d_Mo_init_381 : decode b_Mo_init 381 = .ok (.dup, 1) := by decide +kernel
theorem d_Mo_init_382 : decode b_Mo_init 382 = .ok (.bipush 6, 2) := by decide +kernel
theorem d_Mo_init_384 : decode b_Mo_init 384 = .ok (.bipush 114, 2) := by decide +kernel
theorem d_Mo_init_386 : decode b_Mo_init 386 = .ok (.iastore, 1) := by decide +kernel
theorem d_Mo_init_387 : decode b_Mo_init 387 = .ok (.dup, 1) := by decide +kernel
theorem d_Mo_init_388 : decode b_Mo_init 388 = .ok (.bipush 7, 2) := by decide +kernel
theorem d_Mo_init_390 : decode b_Mo_init 390 = .ok (.bipush 121, 2) := by decide +kernel
theorem d_Mo_init_392 : decode b_Mo_init 392 = .ok (.iastore, 1) := by decide +kernel
theorem d_Mo_init_393 : decode b_Mo_init 393 = .ok (.putfield 19, 3) := by decide +kernel
theorem d_Mo_init_396 : decode b_Mo_init 396 = .ok (.aload_n 0, 1) := by decide +kernel
theorem d_Mo_init_397 : decode b_Mo_init 397 = .ok (.bipush 8, 2) := by decide +kernel
theorem d_Mo_init_399 : decode b_Mo_init 399 = .ok (.newarray .int, 2) := by decide +kernel
theorem d_Mo_init_401 : decode b_Mo_init 401 = .ok (.dup, 1) := by decide +kernel
theorem d_Mo_init_402 : decode b_Mo_init 402 = .ok (.iconst 0, 1) := by decide +kernel
theorem d_Mo_init_403 : decode b_Mo_init 403 = .ok (.bipush 102, 2) := by decide +kernel
theorem d_Mo_init_405 : decode b_Mo_init 405 = .ok (.iastore, 1) := by decide +kernel
theorem d_Mo_init_406 : decode b_Mo_init 406 = .ok (.dup, 1) := by decide +kernel
theorem d_Mo_init_407 : decode b_Mo_init 407 = .ok (.iconst 1, 1) := by decide +kernel
theorem d_Mo_init_408 : decode b_Mo_init 408 = .ok (.bipush 105, 2) := by decide +kernel
theorem d_Mo_init_410 : decode b_Mo_init 410 = .ok (.iastore, 1) := by decide +kernel
theorem d_Mo_init_411 : decode b_Mo_init 411 = .ok (.dup, 1) := by decide +kernel
theorem d_Mo_init_412 : decode b_Mo_init 412 = .ok (.iconst 2, 1) := by decide +kernel
theorem d_Mo_init_413 : decode b_Mo_init 413 = .ok (.bipush 108, 2) := by decide +kernel
theorem d_Mo_init_415 : decode b_Mo_init 415 = .ok (.iastore, 1) := by decide +kernel
theorem d_Mo_init_416 : decode b_Mo_init 416 = .ok (.dup, 1) := by decide +kernel
theorem d_Mo_init_417 : decode b_Mo_init 417 = .ok (.iconst 3, 1) := by decide +kernel
theorem d_Mo_init_418 : decode b_Mo_init 418 = .ok (.bipush 101, 2) := by decide +kernel
theorem d_Mo_init_420 : decode b_Mo_init 420 = .ok (.iastore, 1) := by decide +kernel
theorem d_Mo_init_421 : decode b_Mo_init 421 = .ok (.dup, 1) := by decide +kernel
theorem d_Mo_init_422 : decode b_Mo_init 422 = .ok (.iconst 4, 1) := by decide +kernel
theorem d_Mo_init_423 : decode b_Mo_init 423 = .ok (.bipush 110, 2) := by decide +kernel
theorem d_Mo_init_425 : decode b_Mo_init 425 = .ok (.iastore, 1) := by decide +kernel
theorem d_Mo_init_426 : decode b_Mo_init 426 = .ok (.dup, 1) := by decide +kernel
theorem d_Mo_init_427 : decode b_Mo_init 427 = .ok (.iconst 5, 1) := by decide +kernel
theorem d_Mo_init_428 : decode b_Mo_init 428 = .ok (.bipush 97, 2) := by decide +kernel
theorem d_Mo_init_430 : decode b_Mo_init 430 = .ok (.iastore, 1) := by decide +kernel
theorem d_Mo_init_431 : decode b_Mo_init 431 = .ok (.dup, 1) := by decide +kernel
theorem d_Mo_init_432 : decode b_Mo_init 432 = .ok (.bipush 6, 2) := by decide +kernel
theorem d_Mo_init_434 : decode b_Mo_init 434 = .ok (.bipush 109, 2) := by decide +kernel
theorem d_Mo_init_436 : decode b_Mo_init 436 = .ok (.iastore, 1) := by decide +kernel
theorem d_Mo_init_437 : decode b_Mo_init 437 = .ok (.dup, 1) := by decide +kernel
theorem d_Mo_init_438 : decode b_Mo_init 438 = .ok (.bipush 7, 2) := by decide +kernel
theorem d_Mo_init_440 : decode b_Mo_init 440 = .ok (.bipush 101, 2) := by decide +kernel
theorem d_Mo_init_442 : decode b_Mo_init 442 = .ok (.iastore, 1) := by decide +kernel
theorem d_Mo_init_443 : decode b_Mo_init 443 = .ok (.putfield 22, 3) := by decide +kernel
theorem d_Mo_init_446 : decode b_Mo_init 446 = .ok (.aload_n 0, 1) := by decide +kernel
theorem d_Mo_init_447 : decode b_Mo_init 447 = .ok (.iconst 4, 1) := by decide +kernel
theorem d_Mo_init_448 : decode b_Mo_init 448 = .ok (.newarray .int, 2) := by decide +kernel
theorem d_Mo_init_450 : decode b_Mo_init 450 = .ok (.dup, 1) := by decide +kernel
theorem d_Mo_init_451 : decode b_Mo_init 451 = .ok (.iconst 0, 1) := by decide +kernel
theorem d_Mo_init_452 : decode b_Mo_init 452 = .ok (.bipush 110, 2) := by decide +kernel
theorem d_Mo_init_454 : decode b_Mo_init 454 = .ok (.iastore, 1) := by decide +kernel
theorem d_Mo_init_455 : decode b_Mo_init 455 = .ok (.dup, 1) := by decide +kernel
theorem d_Mo_init_456 : decode b_Mo_init 456 = .ok (.iconst 1, 1) := by decide +kernel
theorem d_Mo_init_457 : decode b_Mo_init 457 = .ok (.bipush 97, 2) := by decide +kernel
theorem d_Mo_init_459 : decode b_Mo_init 459 = .ok (.iastore, 1) := by decide +kernel
theorem d_Mo_init_460 : decode b_Mo_init 460 = .ok (.dup, 1) := by decide +kernel
theorem d_Mo_init_461 : decode b_Mo_init 461 = .ok (.iconst 2, 1) := by decide +kernel
theorem d_Mo_init_462 : decode b_Mo_init 462 = .ok (.bipush 109, 2) := by decide +kernel
theorem d_Mo_init_464 : decode b_Mo_init 464 = .ok (.iastore, 1) := by decide +kernel
theorem d_Mo_init_465 : decode b_Mo_init 465 = .ok (.dup, 1) := by decide +kernel
theorem d_Mo_init_466 : decode b_Mo_init 466 = .ok (.iconst 3, 1) := by decide +kernel
theorem d_Mo_init_467 : decode b_Mo_init 467 = .ok (.bipush 101, 2) := by decide +kernel
theorem d_Mo_init_469 : decode b_Mo_init 469 = .ok (.iastore, 1) := by decide +kernel
theorem d_Mo_init_470 : decode b_Mo_init 470 = .ok (.putfield 25, 3) := by decide +kernel
theorem d_Mo_init_473 : decode b_Mo_init 473 = .ok (.aload_n 0, 1) := by decide +kernel
theorem d_Mo_init_474 : decode b_Mo_init 474 = .ok (.bipush 10, 2) := by decide +kernel
theorem d_Mo_init_476 : decode b_Mo_init 476 = .ok (.newarray .int, 2) := by decide +kernel
theorem d_Mo_init_478 : decode b_Mo_init 478 = .ok (.dup, 1) := by decide +kernel
theorem d_Mo_init_479 : decode b_Mo_init 479 = .ok (.iconst 0, 1) := by decide +kernel
theorem d_Mo_init_480 : decode b_Mo_init 480 = .ok (.bipush 116, 2) := by decide +kernel
theorem d_Mo_init_482 : decode b_Mo_init 482 = .ok (.iastore, 1) := by decide +kernel
theorem d_Mo_init_483 : decode b_Mo_init 483 = .ok (.dup, 1) := by decide +kernel
theorem d_Mo_init_484 : decode b_Mo_init 484 = .ok (.iconst 1, 1) := by decide +kernel
theorem d_Mo_init_485 : decode b_Mo_init 485 = .ok (.bipush 101, 2) := by decide +kernel
theorem d_Mo_init_487 : decode b_Mo_init 487 = .ok (.iastore, 1) := by decide +kernel
theorem d_Mo_init_488 : decode b_Mo_init 488 = .ok (.dup, 1) := by decide +kernel
theorem d_Mo_init_489 : decode b_Mo_init 489 = .ok (.iconst 2, 1) := by decide +kernel
theorem d_Mo_init_490 : decode b_Mo_init 490 = .ok (.bipush 120, 2) := by decide +kernel
theorem d_Mo_init_492 : decode b_Mo_init 492 = .ok (.iastore, 1) := by decide +kernel
theorem d_Mo_init_493 : decode b_Mo_init 493 = .ok (.dup, 1) := by decide +kernel
theorem d_Mo_init_494 : decode b_Mo_init 494 = .ok (.iconst 3, 1) := by decide +kernel
theorem d_Mo_init_495 : decode b_Mo_init 495 = .ok (.bipush 116, 2) := by decide +kernel
theorem d_Mo_init_497 : decode b_Mo_init 497 = .ok (.iastore, 1) := by decide +kernel
theorem d_Mo_init_498 : decode b_Mo_init 498 = .ok (.dup, 1) := by decide +kernel
theorem d_Mo_init_499 : decode b_Mo_init 499 = .ok (.iconst 4, 1) := by decide +kernel
theorem d_Mo_init_500 : decode b_Mo_init 500 = .ok (.bipush 47, 2) := by decide +kernel
theorem d_Mo_init_502 : decode b_Mo_init 502 = .ok (.iastore, 1) := by decide +kernel
theorem d_Mo_init_503 : decode b_Mo_init 503 = .ok (.dup, 1) := by decide +kernel
theorem d_Mo_init_504 : decode b_Mo_init 504 = .ok (.iconst 5, 1) := by decide +kernel
theorem d_Mo_init_505 : decode b_Mo_init 505 = .ok (.bipush 112, 2) := by decide +kernel
theorem d_Mo_init_507 : decode b_Mo_init 507 = .ok (.iastore, 1) := by decide +kernel
theorem d_Mo_init_508 : decode b_Mo_init 508 = .ok (.dup, 1) := by decide +kernel
theorem d_Mo_init_509 : decode b_Mo_init 509 = .ok (.bipush 6, 2) := by decide +kernel
theorem d_Mo_init_511 : decode b_Mo_init 511 = .ok (.bipush 108, 2) := by decide +kernel
theorem d_Mo_init_513 : decode b_Mo_init 513 = .ok (.iastore, 1) := by decide +kernel
theorem d_Mo_init_514 : decode b_Mo_init 514 = .ok (.dup, 1) := by decide +kernel
theorem d_Mo_init_515 : decode b_Mo_init 515 = .ok (.bipush 7, 2) := by decide +kernel
theorem d_Mo_init_517 : decode b_Mo_init 517 = .ok (.bipush 97, 2) := by decide +kernel
theorem d_Mo_init_519 : decode b_Mo_init 519 = .ok (.iastore, 1) := by decide +kernel
theorem d_Mo_init_520 : decode b_Mo_init 520 = .ok (.dup, 1) := by decide +kernel
theorem d_Mo_init_521 : decode b_Mo_init 521 = .ok (.bipush 8, 2) := by decide +kernel
theorem d_Mo_init_523 : decode b_Mo_init 523 = .ok (.bipush 105, 2) := by decide +kernel
theorem d_Mo_init_525 : decode b_Mo_init 525 = .ok (.iastore, 1) := by decide +kernel
theorem d_Mo_init_526 : decode b_Mo_init 526 = .ok (.dup, 1) := by decide +kernel
theorem d_Mo_init_527 : decode b_Mo_init 527 = .ok (.bipush 9, 2) := by decide +kernel
theorem d_Mo_init_529 : decode b_Mo_init 529 = .ok (.bipush 110, 2) := by decide +kernel
theorem d_Mo_init_531 : decode b_Mo_init 531 = .ok (.iastore, 1) := by decide +kernel
theorem d_Mo_init_532 : decode b_Mo_init 532 = .ok (.putfield 28, 3) := by decide +kernel
theorem d_Mo_init_535 : decode b_Mo_init 535 = .ok (.aload_n 0, 1) := by decide +kernel
theorem d_Mo_init_536 : decode b_Mo_init 536 = .ok (.bipush 9, 2) := by decide +kernel
theorem d_Mo_init_538 : decode b_Mo_init 538 = .ok (.newarray .int, 2) := by decide +kernel
theorem d_Mo_init_540 : decode b_Mo_init 540 = .ok (.dup, 1) := by decide +kernel
theorem d_Mo_init_541 : decode b_Mo_init 541 = .ok (.iconst 0, 1) := by decide +kernel
theorem d_Mo_init_542 : decode b_Mo_init 542 = .ok (.bipush 116, 2) := by decide +kernel
theorem d_Mo_init_544 : decode b_Mo_init 544 = .ok (.iastore, 1) := by decide +kernel
theorem d_Mo_init_545 : decode b_Mo_init 545 = .ok (.dup, 1) := by decide +kernel
theorem d_Mo_init_546 : decode b_Mo_init 546 = .ok (.iconst 1, 1) := by decide +kernel
theorem d_Mo_init_547 : decode b_Mo_init 547 = .ok (.bipush 101, 2) := by decide +kernel
theorem d_Mo_init_549 : decode b_Mo_init 549 = .ok (.iastore, 1) := by decide +kernel
theorem d_Mo_init_550 : decode b_Mo_init 550 = .ok (.dup, 1) := by decide +kernel
theorem d_Mo_init_551 : decode b_Mo_init 551 = .ok (.iconst 2, 1) := by decide +kernel
theorem d_Mo_init_552 : decode b_Mo_init 552 = .ok (.bipush 120, 2) := by decide +kernel
theorem d_Mo_init_554 : decode b_Mo_init 554 = .ok (.iastore, 1) := by decide +kernel
theorem d_Mo_init_555 : decode b_Mo_init 555 = .ok (.dup, 1) := by decide +kernel
theorem d_Mo_init_556 : decode b_Mo_init 556 = .ok (.iconst 3, 1) := by decide +kernel
theorem d_Mo_init_557 : decode b_Mo_init 557 = .ok (.bipush 116, 2) := by decide +kernel
theorem d_Mo_init_559 : decode b_Mo_init 559 = .ok (.iastore, 1) := by decide +kernel
theorem d_Mo_init_560 : decode b_Mo_init 560 = .ok (.dup, 1) := by decide +kernel
theorem d_Mo_init_561 : decode b_Mo_init 561 = .ok (.iconst 4, 1) := by decide +kernel
theorem d_Mo_init_562 : decode b_Mo_init 562 = .ok (.bipush 47, 2) := by decide +kernel
theorem d_Mo_init_564 : decode b_Mo_init 564 = .ok (.iastore, 1) := by decide +kernel
theorem d_Mo_init_565 : decode b_Mo_init 565 = .ok (.dup, 1) := by decide +kernel
theorem d_Mo_init_566 : decode b_Mo_init 566 = .ok (.iconst 5, 1) := by decide +kernel
theorem d_Mo_init_567 : decode b_Mo_init 567 = .ok (.bipush 104, 2) := by decide +kernel
theorem d_Mo_init_569 : decode b_Mo_init 569 = .ok (.iastore, 1) := by decide +kernel
theorem d_Mo_init_570 : decode b_Mo_init 570 = .ok (.dup, 1) := by decide +kernel
theorem d_Mo_init_571 : decode b_Mo_init 571 = .ok (.bipush 6, 2) := by decide +kernel
theorem d_Mo_init_573 : decode b_Mo_init 573 = .ok (.bipush 116, 2) := by decide +kernel
theorem d_Mo_init_575 : decode b_Mo_init 575 = .ok (.iastore, 1) := by decide +kernel
theorem d_Mo_init_576 : decode b_Mo_init 576 = .ok (.dup, 1) := by decide +kernel
theorem d_Mo_init_577 : decode b_Mo_init 577 = .ok (.bipush 7, 2) := by decide +kernel
theorem d_Mo_init_579 : decode b_Mo_init 579 = .ok (.bipush 109, 2) := by decide +kernel
theorem d_Mo_init_581 : decode b_Mo_init 581 = .ok (.iastore, 1) := by decide +kernel
theorem d_Mo_init_582 : decode b_Mo_init 582 = .ok (.dup, 1) := by decide +kernel
theorem d_Mo_init_583 : decode b_Mo_init 583 = .ok (.bipush 8, 2) := by decide +kernel
theorem d_Mo_init_585 : decode b_Mo_init 585 = .ok (.bipush 108, 2) := by decide +kernel
theorem d_Mo_init_587 : decode b_Mo_init 587 = .ok (.iastore, 1) := by decide +kernel
theorem d_Mo_init_588 : decode b_Mo_init 588 = .ok (.putfield 31, 3) := by decide +kernel
theorem d_Mo_init_591 : decode b_Mo_init 591 = .ok (.aload_n 0, 1) := by decide +kernel
theorem d_Mo_init_592 : decode b_Mo_init 592 = .ok (.iconst 5, 1) := by decide +kernel
theorem d_Mo_init_593 : decode b_Mo_init 593 = .ok (.newarray .int, 2) := by decide +kernel
theorem d_Mo_init_595 : decode b_Mo_init 595 = .ok (.dup, 1) := by decide +kernel
theorem d_Mo_init_596 : decode b_Mo_init 596 = .ok (.iconst 0, 1) := by decide +kernel
theorem d_Mo_init_597 : decode b_Mo_init 597 = .ok (.bipush 116, 2) := by decide +kernel
theorem d_Mo_init_599 : decode b_Mo_init 599 = .ok (.iastore, 1) := by decide +kernel
theorem d_Mo_init_600 : decode b_Mo_init 600 = .ok (.dup, 1) := by decide +kernel
theorem d_Mo_init_601 : decode b_Mo_init 601 = .ok (.iconst 1, 1) := by decide +kernel
theorem d_Mo_init_602 : decode b_Mo_init 602 = .ok (.bipush 101, 2) := by decide +kernel
theorem d_Mo_init_604 : decode b_Mo_init 604 = .ok (.iastore, 1) := by decide +kernel
theorem d_Mo_init_605 : decode b_Mo_init 605 = .ok (.dup, 1) := by decide +kernel
theorem d_Mo_init_606 : decode b_Mo_init 606 = .ok (.iconst 2, 1) := by decide +kernel
theorem d_Mo_init_607 : decode b_Mo_init 607 = .ok (.bipush 120, 2) := by decide +kernel
theorem d_Mo_init_609 : decode b_Mo_init 609 = .ok (.iastore, 1) := by decide +kernel
theorem d_Mo_init_610 : decode b_Mo_init 610 = .ok (.dup, 1) := by decide +kernel
theorem d_Mo_init_611 : decode b_Mo_init 611 = .ok (.iconst 3, 1) := by decide +kernel
theorem d_Mo_init_612 : decode b_Mo_init 612 = .ok (.bipush 116, 2) := by decide +kernel
theorem d_Mo_init_614 : decode b_Mo_init 614 = .ok (.iastore, 1) := by decide +kernel
theorem d_Mo_init_615 : decode b_Mo_init 615 = .ok (.dup, 1) := by decide +kernel
theorem d_Mo_init_616 : decode b_Mo_init 616 = .ok (.iconst 4, 1) := by decide +kernel
theorem d_Mo_init_617 : decode b_Mo_init 617 = .ok (.bipush 47, 2) := by decide +kernel
theorem d_Mo_init_619 : decode b_Mo_init 619 = .ok (.iastore, 1) := by decide +kernel
theorem d_Mo_init_620 : decode b_Mo_init 620 = .ok (.putfield 34, 3) := by decide +kernel
theorem d_Mo_init_623 : decode b_Mo_init 623 = .ok (.aload_n 0, 1) := by decide +kernel
theorem d_Mo_init_624 : decode b_Mo_init 624 = .ok (.bipush 10, 2) := by decide +kernel
theorem d_Mo_init_626 : decode b_Mo_init 626 = .ok (.newarray .int, 2) := by decide +kernel
theorem d_Mo_init_628 : decode b_Mo_init 628 = .ok (.dup, 1) := by decide +kernel
theorem d_Mo_init_629 : decode b_Mo_init 629 = .ok (.iconst 0, 1) := by decide +kernel
theorem d_Mo_init_630 : decode b_Mo_init 630 = .ok (.bipush 109, 2) := by decide +kernel
theorem d_Mo_init_632 : decode b_Mo_init 632 = .ok (.iastore, 1) := by decide +kernel
theorem d_Mo_init_633 : decode b_Mo_init 633 = .ok (.dup, 1) := by decide +kernel
theorem d_Mo_init_634 : decode b_Mo_init 634 = .ok (.iconst 1, 1) := by decide +kernel
theorem d_Mo_init_635 : decode b_Mo_init 635 = .ok (.bipush 117, 2) := by decide +kernel
theorem d_Mo_init_637 : decode b_Mo_init 637 = .ok (.iastore, 1) := by decide +kernel
theorem d_Mo_init_638 : decode b_Mo_init 638 = .ok (.dup, 1) := by decide +kernel
theorem d_Mo_init_639 : decode b_Mo_init 639 = .ok (.iconst 2, 1) := by decide +kernel
theorem d_Mo_init_640 : decode b_Mo_init 640 = .ok (.bipush 108, 2) := by decide +kernel
theorem d_Mo_init_642 : decode b_Mo_init 642 = .ok (.iastore, 1) := by decide +kernel
theorem d_Mo_init_643 : decode b_Mo_init 643 = .ok (.dup, 1) := by decide +kernel
theorem d_Mo_init_644 : decode b_Mo_init 644 = .ok (.iconst 3, 1) := by decide +kernel
theorem d_Mo_init_645 : decode b_Mo_init 645 = .ok (.bipush 116, 2) := by decide +kernel
theorem d_Mo_init_647 : decode b_Mo_init 647 = .ok (.iastore, 1) := by decide +kernel
theorem d_Mo_init_648 : decode b_Mo_init 648 = .ok (.dup, 1) := by decide +kernel
theorem d_Mo_init_649 : decode b_Mo_init 649 = .ok (.iconst 4, 1) := by decide +kernel
theorem d_Mo_init_650 : decode b_Mo_init 650 = .ok (.bipush 105, 2) := by decide +kernel
