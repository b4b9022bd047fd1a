theorem d_LW_law_342 : decode b_LW_law 342 = .ok (.iconst 2, 1) := by decide +kernel
theorem d_LW_law_343 : decode b_LW_law 343 = .ok (.iadd, 1) := by decide +kernel
theorem d_LW_law_344 : decode b_LW_law 344 = .ok (.iaload, 1) := by decide +kernel
theorem d_LW_law_345 : decode b_LW_law 345 = .ok (.aload_n 0, 1) := by decide +kernel
theorem d_LW_law_346 : decode b_LW_law 346 = .ok (.iload 4, 2) := by decide +kernel
theorem d_LW_law_348 : decode b_LW_law 348 = .ok (.iconst 3, 1) := by decide +kernel
theorem d_LW_law_349 : decode b_LW_law 349 = .ok (.iadd, 1) := by decide +kernel
theorem d_LW_law_350 : decode b_LW_law 350 = .ok (.iaload, 1) := by decide +kernel
theorem d_LW_law_351 : decode b_LW_law 351 = .ok (.invokevirtual 74, 3) := by decide +kernel
theorem d_LW_law_354 : decode b_LW_law 354 = .ok (.istore 6, 2) := by decide +kernel
theorem d_LW_law_356 : decode b_LW_law 356 = .ok (.aload_n 2, 1) := by decide +kernel
theorem d_LW_law_357 : decode b_LW_law 357 = .ok (.invokevirtual 61, 3) := by decide +kernel
theorem d_LW_law_360 : decode b_LW_law 360 = .ok (.iload 5, 2) := by decide +kernel
theorem d_LW_law_362 : decode b_LW_law 362 = .ok (.if_icmp .eq 5, 3) := by decide +kernel
theorem d_LW_law_365 : decode b_LW_law 365 = .ok (.iconst 0, 1) := by decide +kernel
theorem d_LW_law_366 : decode b_LW_law 366 = .ok (.ireturn, 1) := by decide +kernel
theorem d_LW_law_367 : decode b_LW_law 367 = .ok (.iload 5, 2) := by decide +kernel
theorem d_LW_law_369 : decode b_LW_law 369 = .ok (.ifCond .ne 22, 3) := by decide +kernel
theorem d_LW_law_372 : decode b_LW_law 372 = .ok (.aload_n 3, 1) := by decide +kernel
theorem d_LW_law_373 : decode b_LW_law 373 = .ok (.iconst 0, 1) := by decide +kernel
theorem d_LW_law_374 : decode b_LW_law 374 = .ok (.laload, 1) := by decide +kernel
theorem d_LW_law_375 : decode b_LW_law 375 = .ok (.iload 6, 2) := by decide +kernel
theorem d_LW_law_377 : decode b_LW_law 377 = .ok (.ifCond .eq 7, 3) := by decide +kernel
theorem d_LW_law_380 : decode b_LW_law 380 = .ok (.lconst 1, 1) := by decide +kernel
theorem d_LW_law_381 : decode b_LW_law 381 = .ok (.goto 4, 3) := by decide +kernel
theorem d_LW_law_384 : decode b_LW_law 384 = .ok (.lconst 0, 1) := by decide +kernel
theorem d_LW_law_385 : decode b_LW_law 385 = .ok (.lcmp, 1) := by decide +kernel
theorem d_LW_law_386 : decode b_LW_law 386 = .ok (.ifCond .eq 5, 3) := by decide +kernel
theorem d_LW_law_389 : decode b_LW_law 389 = .ok (.iconst 0, 1) := by decide +kernel
theorem d_LW_law_390 : decode b_LW_law 390 = .ok (.ireturn, 1) := by decide +kernel
theorem d_LW_law_391 : decode b_LW_law 391 = .ok (.goto 455, 3) := by decide +kernel
theorem d_LW_law_394 : decode b_LW_law 394 = .ok (.aload_n 1, 1) := by decide +kernel
theorem d_LW_law_395 : decode b_LW_law 395 = .ok (.invokevirtual 75, 3) := by decide +kernel
theorem d_LW_law_398 : decode b_LW_law 398 = .ok (.aload_n 2, 1) := by decide +kernel
theorem d_LW_law_399 : decode b_LW_law 399 = .ok (.invokevirtual 78, 3) := by decide +kernel
theorem d_LW_law_402 : decode b_LW_law 402 = .ok (.if_icmp .eq 444, 3) := by decide +kernel
theorem d_LW_law_405 : decode b_LW_law 405 = .ok (.iconst 0, 1) := by decide +kernel
theorem d_LW_law_406 : decode b_LW_law 406 = .ok (.ireturn, 1) := by decide +kernel
theorem d_LW_law_407 : decode b_LW_law 407 = .ok (.aload_n 1, 1) := by decide +kernel
theorem d_LW_law_408 : decode b_LW_law 408 = .ok (.invokevirtual 79, 3) := by decide +kernel
theorem d_LW_law_411 : decode b_LW_law 411 = .ok (.aload_n 2, 1) := by decide +kernel
theorem d_LW_law_412 : decode b_LW_law 412 = .ok (.invokevirtual 82, 3) := by decide +kernel
theorem d_LW_law_415 : decode b_LW_law 415 = .ok (.if_icmp .eq 431, 3) := by decide +kernel
theorem d_LW_law_418 : decode b_LW_law 418 = .ok (.iconst 0, 1) := by decide +kernel
theorem d_LW_law_419 : decode b_LW_law 419 = .ok (.ireturn, 1) := by decide +kernel
theorem d_LW_law_420 : decode b_LW_law 420 = .ok (.aload_n 1, 1) := by decide +kernel
theorem d_LW_law_421 : decode b_LW_law 421 = .ok (.aload_n 0, 1) := by decide +kernel
theorem d_LW_law_422 : decode b_LW_law 422 = .ok (.iload 4, 2) := by decide +kernel
theorem d_LW_law_424 : decode b_LW_law 424 = .ok (.iconst 1, 1) := by decide +kernel
theorem d_LW_law_425 : decode b_LW_law 425 = .ok (.iadd, 1) := by decide +kernel
theorem d_LW_law_426 : decode b_LW_law 426 = .ok (.iaload, 1) := by decide +kernel
theorem d_LW_law_427 : decode b_LW_law 427 = .ok (.aload_n 0, 1) := by decide +kernel
theorem d_LW_law_428 : decode b_LW_law 428 = .ok (.iload 4, 2) := by decide +kernel
theorem d_LW_law_430 : decode b_LW_law 430 = .ok (.iconst 2, 1) := by decide +kernel
theorem d_LW_law_431 : decode b_LW_law 431 = .ok (.iadd, 1) := by decide +kernel
theorem d_LW_law_432 : decode b_LW_law 432 = .ok (.iaload, 1) := by decide +kernel
theorem d_LW_law_433 : decode b_LW_law 433 = .ok (.aload_n 3, 1) := by decide +kernel
theorem d_LW_law_434 : decode b_LW_law 434 = .ok (.invokestatic 83, 3) := by decide +kernel
theorem d_LW_law_437 : decode b_LW_law 437 = .ok (.istore 5, 2) := by decide +kernel
theorem d_LW_law_439 : decode b_LW_law 439 = .ok (.aload_n 2, 1) := by decide +kernel
theorem d_LW_law_440 : decode b_LW_law 440 = .ok (.aload_n 0, 1) := by decide +kernel
theorem d_LW_law_441 : decode b_LW_law 441 = .ok (.iload 4, 2) := by decide +kernel
theorem d_LW_law_443 : decode b_LW_law 443 = .ok (.iconst 1, 1) := by decide +kernel
theorem d_LW_law_444 : decode b_LW_law 444 = .ok (.iadd, 1) := by decide +kernel
theorem d_LW_law_445 : decode b_LW_law 445 = .ok (.iaload, 1) := by decide +kernel
theorem d_LW_law_446 : decode b_LW_law 446 = .ok (.aload_n 0, 1) := by decide +kernel
theorem d_LW_law_447 : decode b_LW_law 447 = .ok (.iload 4, 2) := by decide +kernel
theorem d_LW_law_449 : decode b_LW_law 449 = .ok (.iconst 2, 1) := by decide +kernel
theorem d_LW_law_450 : decode b_LW_law 450 = .ok (.iadd, 1) := by decide +kernel
theorem d_LW_law_451 : decode b_LW_law 451 = .ok (.iaload, 1) := by decide +kernel
theorem d_LW_law_452 : decode b_LW_law 452 = .ok (.invokevirtual 85, 3) := by decide +kernel
theorem d_LW_law_455 : decode b_LW_law 455 = .ok (.lstore 6, 2) := by decide +kernel
theorem d_LW_law_457 : decode b_LW_law 457 = .ok (.aload_n 2, 1) := by decide +kernel
theorem d_LW_law_458 : decode b_LW_law 458 = .ok (.invokevirtual 61, 3) := by decide +kernel
theorem d_LW_law_461 : decode b_LW_law 461 = .ok (.iload 5, 2) := by decide +kernel
theorem d_LW_law_463 : decode b_LW_law 463 = .ok (.if_icmp .eq 5, 3) := by decide +kernel
theorem d_LW_law_466 : decode b_LW_law 466 = .ok (.iconst 0, 1) := by decide +kernel
theorem d_LW_law_467 : decode b_LW_law 467 = .ok (.ireturn, 1) := by decide +kernel
theorem d_LW_law_468 : decode b_LW_law 468 = .ok (.iload 5, 2) := by decide +kernel
theorem d_LW_law_470 : decode b_LW_law 470 = .ok (.ifCond .ne 14, 3) := by decide +kernel
theorem d_LW_law_473 : decode b_LW_law 473 = .ok (.aload_n 3, 1) := by decide +kernel
theorem d_LW_law_474 : decode b_LW_law 474 = .ok (.iconst 0, 1) := by decide +kernel
theorem d_LW_law_475 : decode b_LW_law 475 = .ok (.laload, 1) := by decide +kernel
theorem d_LW_law_476 : decode b_LW_law 476 = .ok (.lload 6, 2) := by decide +kernel
theorem d_LW_law_478 : decode b_LW_law 478 = .ok (.lcmp, 1) := by decide +kernel
theorem d_LW_law_479 : decode b_LW_law 479 = .ok (.ifCond .eq 5, 3) := by decide +kernel
theorem d_LW_law_482 : decode b_LW_law 482 = .ok (.iconst 0, 1) := by decide +kernel
theorem d_LW_law_483 : decode b_LW_law 483 = .ok (.ireturn, 1) := by decide +kernel
theorem d_LW_law_484 : decode b_LW_law 484 = .ok (.goto 362, 3) := by decide +kernel
theorem d_LW_law_487 : decode b_LW_law 487 = .ok (.aload_n 1, 1) := by decide +kernel
theorem d_LW_law_488 : decode b_LW_law 488 = .ok (.aload_n 0, 1) := by decide +kernel
theorem d_LW_law_489 : decode b_LW_law 489 = .ok (.iload 4, 2) := by decide +kernel
theorem d_LW_law_491 : decode b_LW_law 491 = .ok (.iconst 1, 1) := by decide +kernel
theorem d_LW_law_492 : decode b_LW_law 492 = .ok (.iadd, 1) := by decide +kernel
theorem d_LW_law_493 : decode b_LW_law 493 = .ok (.iaload, 1) := by decide +kernel
theorem d_LW_law_494 : decode b_LW_law 494 = .ok (.aload_n 0, 1) := by decide +kernel
theorem d_LW_law_495 : decode b_LW_law 495 = .ok (.iload 4, 2) := by decide +kernel
theorem d_LW_law_497 : decode b_LW_law 497 = .ok (.iconst 2, 1) := by decide +kernel
theorem d_LW_law_498 : decode b_LW_law 498 = .ok (.iadd, 1) := by decide +kernel
theorem d_LW_law_499 : decode b_LW_law 499 = .ok (.iaload, 1) := by decide +kernel
theorem d_LW_law_500 : decode b_LW_law 500 = .ok (.aload_n 3, 1) := by decide +kernel
theorem d_LW_law_501 : decode b_LW_law 501 = .ok (.invokestatic 86, 3) := by decide +kernel
theorem d_LW_law_504 : decode b_LW_law 504 = .ok (.istore 5, 2) := by decide +kernel
theorem d_LW_law_506 : decode b_LW_law 506 = .ok (.aload_n 2, 1) := by decide +kernel
theorem d_LW_law_507 : decode b_LW_law 507 = .ok (.aload_n 0, 1) := by decide +kernel
theorem d_LW_law_508 : decode b_LW_law 508 = .ok (.iload 4, 2) := by decide +kernel
theorem d_LW_law_510 : decode b_LW_law 510 = .ok (.iconst 1, 1) := by decide +kernel
theorem d_LW_law_511 : decode b_LW_law 511 = .ok (.iadd, 1) := by decide +kernel
theorem d_LW_law_512 : decode b_LW_law 512 = .ok (.iaload, 1) := by decide +kernel
theorem d_LW_law_513 : decode b_LW_law 513 = .ok (.aload_n 0, 1) := by decide +kernel
theorem d_LW_law_514 : decode b_LW_law 514 = .ok (.iload 4, 2) := by decide +kernel
theorem d_LW_law_516 : decode b_LW_law 516 = .ok (.iconst 2, 1) := by decide +kernel
theorem d_LW_law_517 : decode b_LW_law 517 = .ok (.iadd, 1) := by decide +kernel
theorem d_LW_law_518 : decode b_LW_law 518 = .ok (.iaload, 1) := by decide +kernel
theorem d_LW_law_519 : decode b_LW_law 519 = .ok (.invokevirtual 88, 3) := by decide +kernel
theorem d_LW_law_522 : decode b_LW_law 522 = .ok (.lstore 6, 2) := by decide +kernel
theorem d_LW_law_524 : decode b_LW_law 524 = .ok (.aload_n 2, 1) := by decide +kernel
theorem d_LW_law_525 : decode b_LW_law 525 = .ok (.invokevirtual 61, 3) := by decide +kernel
theorem d_LW_law_528 : decode b_LW_law 528 = .ok (.iload 5, 2) := by decide +kernel
theorem d_LW_law_530 : decode b_LW_law 530 = .ok (.if_icmp .eq 5, 3) := by decide +kernel
theorem d_LW_law_533 : decode b_LW_law 533 = .ok (.iconst 0, 1) := by decide +kernel
theorem d_LW_law_534 : decode b_LW_law 534 = .ok (.ireturn, 1) := by decide +kernel
theorem d_LW_law_535 : decode b_LW_law 535 = .ok (.iload 5, 2) := by decide +kernel
theorem d_LW_law_537 : decode b_LW_law 537 = .ok (.ifCond .ne 14, 3) := by decide +kernel
theorem d_LW_law_540 : decode b_LW_law 540 = .ok (.aload_n 3, 1) := by decide +kernel
theorem d_LW_law_541 : decode b_LW_law 541 = .ok (.iconst 0, 1) := by decide +kernel
theorem d_LW_law_542 : decode b_LW_law 542 = .ok (.laload, 1) := by decide +kernel
theorem d_LW_law_543 : decode b_LW_law 543 = .ok (.lload 6, 2) := by decide +kernel
theorem d_LW_law_545 : decode b_LW_law 545 = .ok (.lcmp, 1) := by decide +kernel
theorem d_LW_law_546 : decode b_LW_law 546 = .ok (.ifCond .eq 5, 3) := by decide +kernel
theorem d_LW_law_549 : decode b_LW_law 549 = .ok (.iconst 0, 1) := by decide +kernel
theorem d_LW_law_550 : decode b_LW_law 550 = .ok (.ireturn, 1) := by decide +kernel
theorem d_LW_law_551 : decode b_LW_law 551 = .ok (.goto 295, 3) := by decide +kernel
theorem d_LW_law_554 : decode b_LW_law 554 = .ok (.aload_n 1, 1) := by decide +kernel
theorem d_LW_law_555 : decode b_LW_law 555 = .ok (.aload_n 0, 1) := by decide +kernel
theorem d_LW_law_556 : decode b_LW_law 556 = .ok (.iload 4, 2) := by decide +kernel
theorem d_LW_law_558 : decode b_LW_law 558 = .ok (.iconst 1, 1) := by decide +kernel
theorem d_LW_law_559 : decode b_LW_law 559 = .ok (.iadd, 1) := by decide +kernel
theorem d_LW_law_560 : decode b_LW_law 560 = .ok (.iaload, 1) := by decide +kernel
theorem d_LW_law_561 : decode b_LW_law 561 = .ok (.aload_n 0, 1) := by decide +kernel
theorem d_LW_law_562 : decode b_LW_law 562 = .ok (.iload 4, 2) := by decide +kernel
theorem d_LW_law_564 : decode b_LW_law 564 = .ok (.iconst 2, 1) := by decide +kernel
theorem d_LW_law_565 : decode b_LW_law 565 = .ok (.iadd, 1) := by decide +kernel
theorem d_LW_law_566 : decode b_LW_law 566 = .ok (.iaload, 1) := by decide +kernel
theorem d_LW_law_567 : decode b_LW_law 567 = .ok (.aload_n 3, 1) := by decide +kernel
theorem d_LW_law_568 : decode b_LW_law 568 = .ok (.invokestatic 89, 3) := by decide +kernel
theorem d_LW_law_571 : decode b_LW_law 571 = .ok (.istore 5, 2) := by decide +kernel
theorem d_LW_law_573 : decode b_LW_law 573 = .ok (.aload_n 2, 1) := by decide +kernel
theorem d_LW_law_574 : decode b_LW_law 574 = .ok (.aload_n 0, 1) := by decide +kernel
theorem d_LW_law_575 : decode b_LW_law 575 = .ok (.iload 4, 2) := by decide +kernel
theorem d_LW_law_577 : decode b_LW_law 577 = .ok (.iconst 1, 1) := by decide +kernel
theorem d_LW_law_578 : decode b_LW_law 578 = .ok (.iadd, 1) := by decide +kernel
theorem d_LW_law_579 : decode b_LW_law 579 = .ok (.iaload, 1) := by decide +kernel
theorem d_LW_law_580 : decode b_LW_law 580 = .ok (.aload_n 0, 1) := by decide +kernel
theorem d_LW_law_581 : decode b_LW_law 581 = .ok (.iload 4, 2) := by decide +kernel
theorem d_LW_law_583 : decode b_LW_law 583 = .ok (.iconst 2, 1) := by decide +kernel
theorem d_LW_law_584 : decode b_LW_law 584 = .ok (.iadd, 1) := by decide +kernel
theorem d_LW_law_585 : decode b_LW_law 585 = .ok (.iaload, 1) := by decide +kernel
theorem d_LW_law_586 : decode b_LW_law 586 = .ok (.invokevirtual 91, 3) := by decide +kernel
theorem d_LW_law_589 : decode b_LW_law 589 = .ok (.lstore 6, 2) := by decide +kernel
theorem d_LW_law_591 : decode b_LW_law 591 = .ok (.aload_n 2, 1) := by decide +kernel
theorem d_LW_law_592 : decode b_LW_law 592 = .ok (.invokevirtual 61, 3) := by decide +kernel
theorem d_LW_law_595 : decode b_LW_law 595 = .ok (.iload 5, 2) := by decide +kernel
theorem d_LW_law_597 : decode b_LW_law 597 = .ok (.if_icmp .eq 5, 3) := by decide +kernel
theorem d_LW_law_600 : decode b_LW_law 600 = .ok (.iconst 0, 1) := by decide +kernel
theorem d_LW_law_601 : decode b_LW_law 601 = .ok (.ireturn, 1) := by decide +kernel
theorem d_LW_law_602 : decode b_LW_law 602 = .ok (.iload 5, 2) := by decide +kernel
theorem d_LW_law_604 : decode b_LW_law 604 = .ok (.ifCond .ne 14, 3) := by decide +kernel
theorem d_LW_law_607 : decode b_LW_law 607 = .ok (.aload_n 3, 1) := by decide +kernel
theorem d_LW_law_608 : decode b_LW_law 608 = .ok (.iconst 0, 1) := by decide +kernel
