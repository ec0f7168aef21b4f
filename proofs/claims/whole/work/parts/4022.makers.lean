theorem dX8_init_340 : decode cX8_init 340 = .ok (.bipush 33, 2) := by decide +kernel
theorem dX8_init_342 : decode cX8_init 342 = .ok (.bipush 102, 2) := by decide +kernel
theorem dX8_init_344 : decode cX8_init 344 = .ok (.castore, 1) := by decide +kernel
theorem dX8_init_345 : decode cX8_init 345 = .ok (.dup, 1) := by decide +kernel
theorem dX8_init_346 : decode cX8_init 346 = .ok (.bipush 34, 2) := by decide +kernel
theorem dX8_init_348 : decode cX8_init 348 = .ok (.bipush 102, 2) := by decide +kernel
theorem dX8_init_350 : decode cX8_init 350 = .ok (.castore, 1) := by decide +kernel
theorem dX8_init_351 : decode cX8_init 351 = .ok (.dup, 1) := by decide +kernel
theorem dX8_init_352 : decode cX8_init 352 = .ok (.bipush 35, 2) := by decide +kernel
theorem dX8_init_354 : decode cX8_init 354 = .ok (.bipush 32, 2) := by decide +kernel
theorem dX8_init_356 : decode cX8_init 356 = .ok (.castore, 1) := by decide +kernel
theorem dX8_init_357 : decode cX8_init 357 = .ok (.dup, 1) := by decide +kernel
theorem dX8_init_358 : decode cX8_init 358 = .ok (.bipush 36, 2) := by decide +kernel
theorem dX8_init_360 : decode cX8_init 360 = .ok (.bipush 32, 2) := by decide +kernel
theorem dX8_init_362 : decode cX8_init 362 = .ok (.castore, 1) := by decide +kernel
theorem dX8_init_363 : decode cX8_init 363 = .ok (.dup, 1) := by decide +kernel
theorem dX8_init_364 : decode cX8_init 364 = .ok (.bipush 37, 2) := by decide +kernel
theorem dX8_init_366 : decode cX8_init 366 = .ok (.bipush 32, 2) := by decide +kernel
theorem dX8_init_368 : decode cX8_init 368 = .ok (.castore, 1) := by decide +kernel
theorem dX8_init_369 : decode cX8_init 369 = .ok (.dup, 1) := by decide +kernel
theorem dX8_init_370 : decode cX8_init 370 = .ok (.bipush 38, 2) := by decide +kernel
theorem dX8_init_372 : decode cX8_init 372 = .ok (.bipush 32, 2) := by decide +kernel
theorem dX8_init_374 : decode cX8_init 374 = .ok (.castore, 1) := by decide +kernel
theorem dX8_init_375 : decode cX8_init 375 = .ok (.dup, 1) := by decide +kernel
theorem dX8_init_376 : decode cX8_init 376 = .ok (.bipush 39, 2) := by decide +kernel
theorem dX8_init_378 : decode cX8_init 378 = .ok (.bipush 32, 2) := by decide +kernel
theorem dX8_init_380 : decode cX8_init 380 = .ok (.castore, 1) := by decide +kernel
theorem dX8_init_381 : decode cX8_init 381 = .ok (.dup, 1) := by decide +kernel
theorem dX8_init_382 : decode cX8_init 382 = .ok (.bipush 40, 2) := by decide +kernel
theorem dX8_init_384 : decode cX8_init 384 = .ok (.bipush 108, 2) := by decide +kernel
theorem dX8_init_386 : decode cX8_init 386 = .ok (.castore, 1) := by decide +kernel
theorem dX8_init_387 : decode cX8_init 387 = .ok (.dup, 1) := by decide +kernel
theorem dX8_init_388 : decode cX8_init 388 = .ok (.bipush 41, 2) := by decide +kernel
theorem dX8_init_390 : decode cX8_init 390 = .ok (.bipush 101, 2) := by decide +kernel
theorem dX8_init_392 : decode cX8_init 392 = .ok (.castore, 1) := by decide +kernel
theorem dX8_init_393 : decode cX8_init 393 = .ok (.dup, 1) := by decide +kernel
theorem dX8_init_394 : decode cX8_init 394 = .ok (.bipush 42, 2) := by decide +kernel
theorem dX8_init_396 : decode cX8_init 396 = .ok (.bipush 97, 2) := by decide +kernel
theorem dX8_init_398 : decode cX8_init 398 = .ok (.castore, 1) := by decide +kernel
theorem dX8_init_399 : decode cX8_init 399 = .ok (.dup, 1) := by decide +kernel
theorem dX8_init_400 : decode cX8_init 400 = .ok (.bipush 43, 2) := by decide +kernel
theorem dX8_init_402 : decode cX8_init 402 = .ok (.bipush 115, 2) := by decide +kernel
theorem dX8_init_404 : decode cX8_init 404 = .ok (.castore, 1) := by decide +kernel
theorem dX8_init_405 : decode cX8_init 405 = .ok (.dup, 1) := by decide +kernel
theorem dX8_init_406 : decode cX8_init 406 = .ok (.bipush 44, 2) := by decide +kernel
theorem dX8_init_408 : decode cX8_init 408 = .ok (.bipush 116, 2) := by decide +kernel
theorem dX8_init_410 : decode cX8_init 410 = .ok (.castore, 1) := by decide +kernel
theorem dX8_init_411 : decode cX8_init 411 = .ok (.dup, 1) := by decide +kernel
theorem dX8_init_412 : decode cX8_init 412 = .ok (.bipush 45, 2) := by decide +kernel
theorem dX8_init_414 : decode cX8_init 414 = .ok (.bipush 32, 2) := by decide +kernel
theorem dX8_init_416 : decode cX8_init 416 = .ok (.castore, 1) := by decide +kernel
theorem dX8_init_417 : decode cX8_init 417 = .ok (.dup, 1) := by decide +kernel
theorem dX8_init_418 : decode cX8_init 418 = .ok (.bipush 46, 2) := by decide +kernel
theorem dX8_init_420 : decode cX8_init 420 = .ok (.bipush 32, 2) := by decide +kernel
theorem dX8_init_422 : decode cX8_init 422 = .ok (.castore, 1) := by decide +kernel
theorem dX8_init_423 : decode cX8_init 423 = .ok (.dup, 1) := by decide +kernel
theorem dX8_init_424 : decode cX8_init 424 = .ok (.bipush 47, 2) := by decide +kernel
theorem dX8_init_426 : decode cX8_init 426 = .ok (.bipush 32, 2) := by decide +kernel
theorem dX8_init_428 : decode cX8_init 428 = .ok (.castore, 1) := by decide +kernel
theorem dX8_init_429 : decode cX8_init 429 = .ok (.dup, 1) := by decide +kernel
theorem dX8_init_430 : decode cX8_init 430 = .ok (.bipush 48, 2) := by decide +kernel
theorem dX8_init_432 : decode cX8_init 432 = .ok (.bipush 108, 2) := by decide +kernel
theorem dX8_init_434 : decode cX8_init 434 = .ok (.castore, 1) := by decide +kernel
theorem dX8_init_435 : decode cX8_init 435 = .ok (.dup, 1) := by decide +kernel
theorem dX8_init_436 : decode cX8_init 436 = .ok (.bipush 49, 2) := by decide +kernel
theorem dX8_init_438 : decode cX8_init 438 = .ok (.bipush 101, 2) := by decide +kernel
theorem dX8_init_440 : decode cX8_init 440 = .ok (.castore, 1) := by decide +kernel
theorem dX8_init_441 : decode cX8_init 441 = .ok (.dup, 1) := by decide +kernel
theorem dX8_init_442 : decode cX8_init 442 = .ok (.bipush 50, 2) := by decide +kernel
theorem dX8_init_444 : decode cX8_init 444 = .ok (.bipush 116, 2) := by decide +kernel
theorem dX8_init_446 : decode cX8_init 446 = .ok (.castore, 1) := by decide +kernel
theorem dX8_init_447 : decode cX8_init 447 = .ok (.dup, 1) := by decide +kernel
theorem dX8_init_448 : decode cX8_init 448 = .ok (.bipush 51, 2) := by decide +kernel
theorem dX8_init_450 : decode cX8_init 450 = .ok (.bipush 116, 2) := by decide +kernel
theorem dX8_init_452 : decode cX8_init 452 = .ok (.castore, 1) := by decide +kernel
theorem dX8_init_453 : decode cX8_init 453 = .ok (.dup, 1) := by decide +kernel
theorem dX8_init_454 : decode cX8_init 454 = .ok (.bipush 52, 2) := by decide +kernel
theorem dX8_init_456 : decode cX8_init 456 = .ok (.bipush 101, 2) := by decide +kernel
theorem dX8_init_458 : decode cX8_init 458 = .ok (.castore, 1) := by decide +kernel
theorem dX8_init_459 : decode cX8_init 459 = .ok (.dup, 1) := by decide +kernel
theorem dX8_init_460 : decode cX8_init 460 = .ok (.bipush 53, 2) := by decide +kernel
theorem dX8_init_462 : decode cX8_init 462 = .ok (.bipush 114, 2) := by decide +kernel
theorem dX8_init_464 : decode cX8_init 464 = .ok (.castore, 1) := by decide +kernel
theorem dX8_init_465 : decode cX8_init 465 = .ok (.dup, 1) := by decide +kernel
theorem dX8_init_466 : decode cX8_init 466 = .ok (.bipush 54, 2) := by decide +kernel
theorem dX8_init_468 : decode cX8_init 468 = .ok (.bipush 115, 2) := by decide +kernel
theorem dX8_init_470 : decode cX8_init 470 = .ok (.castore, 1) := by decide +kernel
theorem dX8_init_471 : decode cX8_init 471 = .ok (.dup, 1) := by decide +kernel
theorem dX8_init_472 : decode cX8_init 472 = .ok (.bipush 55, 2) := by decide +kernel
theorem dX8_init_474 : decode cX8_init 474 = .ok (.bipush 32, 2) := by decide +kernel
theorem dX8_init_476 : decode cX8_init 476 = .ok (.castore, 1) := by decide +kernel
theorem dX8_init_477 : decode cX8_init 477 = .ok (.dup, 1) := by decide +kernel
theorem dX8_init_478 : decode cX8_init 478 = .ok (.bipush 56, 2) := by decide +kernel
theorem dX8_init_480 : decode cX8_init 480 = .ok (.bipush 98, 2) := by decide +kernel
theorem dX8_init_482 : decode cX8_init 482 = .ok (.castore, 1) := by decide +kernel
theorem dX8_init_483 : decode cX8_init 483 = .ok (.dup, 1) := by decide +kernel
theorem dX8_init_484 : decode cX8_init 484 = .ok (.bipush 57, 2) := by decide +kernel
theorem dX8_init_486 : decode cX8_init 486 = .ok (.bipush 111, 2) := by decide +kernel
theorem dX8_init_488 : decode cX8_init 488 = .ok (.castore, 1) := by decide +kernel
theorem dX8_init_489 : decode cX8_init 489 = .ok (.dup, 1) := by decide +kernel
theorem dX8_init_490 : decode cX8_init 490 = .ok (.bipush 58, 2) := by decide +kernel
theorem dX8_init_492 : decode cX8_init 492 = .ok (.bipush 120, 2) := by decide +kernel
theorem dX8_init_494 : decode cX8_init 494 = .ok (.castore, 1) := by decide +kernel
theorem dX8_init_495 : decode cX8_init 495 = .ok (.dup, 1) := by decide +kernel
theorem dX8_init_496 : decode cX8_init 496 = .ok (.bipush 59, 2) := by decide +kernel
theorem dX8_init_498 : decode cX8_init 498 = .ok (.bipush 32, 2) := by decide +kernel
theorem dX8_init_500 : decode cX8_init 500 = .ok (.castore, 1) := by decide +kernel
theorem dX8_init_501 : decode cX8_init 501 = .ok (.dup, 1) := by decide +kernel
theorem dX8_init_502 : decode cX8_init 502 = .ok (.bipush 60, 2) := by decide +kernel
theorem dX8_init_504 : decode cX8_init 504 = .ok (.bipush 32, 2) := by decide +kernel
theorem dX8_init_506 : decode cX8_init 506 = .ok (.castore, 1) := by decide +kernel
theorem dX8_init_507 : decode cX8_init 507 = .ok (.dup, 1) := by decide +kernel
theorem dX8_init_508 : decode cX8_init 508 = .ok (.bipush 61, 2) := by decide +kernel
theorem dX8_init_510 : decode cX8_init 510 = .ok (.bipush 32, 2) := by decide +kernel
theorem dX8_init_512 : decode cX8_init 512 = .ok (.castore, 1) := by decide +kernel
theorem dX8_init_513 : decode cX8_init 513 = .ok (.dup, 1) := by decide +kernel
theorem dX8_init_514 : decode cX8_init 514 = .ok (.bipush 62, 2) := by decide +kernel
theorem dX8_init_516 : decode cX8_init 516 = .ok (.bipush 32, 2) := by decide +kernel
theorem dX8_init_518 : decode cX8_init 518 = .ok (.castore, 1) := by decide +kernel
theorem dX8_init_519 : decode cX8_init 519 = .ok (.dup, 1) := by decide +kernel
theorem dX8_init_520 : decode cX8_init 520 = .ok (.bipush 63, 2) := by decide +kernel
theorem dX8_init_522 : decode cX8_init 522 = .ok (.bipush 32, 2) := by decide +kernel
theorem dX8_init_524 : decode cX8_init 524 = .ok (.castore, 1) := by decide +kernel
theorem dX8_init_525 : decode cX8_init 525 = .ok (.dup, 1) := by decide +kernel
theorem dX8_init_526 : decode cX8_init 526 = .ok (.bipush 64, 2) := by decide +kernel
theorem dX8_init_528 : decode cX8_init 528 = .ok (.bipush 98, 2) := by decide +kernel
theorem dX8_init_530 : decode cX8_init 530 = .ok (.castore, 1) := by decide +kernel
theorem dX8_init_531 : decode cX8_init 531 = .ok (.dup, 1) := by decide +kernel
theorem dX8_init_532 : decode cX8_init 532 = .ok (.bipush 65, 2) := by decide +kernel
theorem dX8_init_534 : decode cX8_init 534 = .ok (.bipush 111, 2) := by decide +kernel
theorem dX8_init_536 : decode cX8_init 536 = .ok (.castore, 1) := by decide +kernel
theorem dX8_init_537 : decode cX8_init 537 = .ok (.dup, 1) := by decide +kernel
theorem dX8_init_538 : decode cX8_init 538 = .ok (.bipush 66, 2) := by decide +kernel
theorem dX8_init_540 : decode cX8_init 540 = .ok (.bipush 117, 2) := by decide +kernel
theorem dX8_init_542 : decode cX8_init 542 = .ok (.castore, 1) := by decide +kernel
theorem dX8_init_543 : decode cX8_init 543 = .ok (.dup, 1) := by decide +kernel
theorem dX8_init_544 : decode cX8_init 544 = .ok (.bipush 67, 2) := by decide +kernel
theorem dX8_init_546 : decode cX8_init 546 = .ok (.bipush 110, 2) := by decide +kernel
theorem dX8_init_548 : decode cX8_init 548 = .ok (.castore, 1) := by decide +kernel
theorem dX8_init_549 : decode cX8_init 549 = .ok (.dup, 1) := by decide +kernel
theorem dX8_init_550 : decode cX8_init 550 = .ok (.bipush 68, 2) := by decide +kernel
theorem dX8_init_552 : decode cX8_init 552 = .ok (.bipush 100, 2) := by decide +kernel
theorem dX8_init_554 : decode cX8_init 554 = .ok (.castore, 1) := by decide +kernel
theorem dX8_init_555 : decode cX8_init 555 = .ok (.dup, 1) := by decide +kernel
theorem dX8_init_556 : decode cX8_init 556 = .ok (.bipush 69, 2) := by decide +kernel
theorem dX8_init_558 : decode cX8_init 558 = .ok (.bipush 32, 2) := by decide +kernel
theorem dX8_init_560 : decode cX8_init 560 = .ok (.castore, 1) := by decide +kernel
theorem dX8_init_561 : decode cX8_init 561 = .ok (.dup, 1) := by decide +kernel
theorem dX8_init_562 : decode cX8_init 562 = .ok (.bipush 70, 2) := by decide +kernel
theorem dX8_init_564 : decode cX8_init 564 = .ok (.bipush 32, 2) := by decide +kernel
theorem dX8_init_566 : decode cX8_init 566 = .ok (.castore, 1) := by decide +kernel
theorem dX8_init_567 : decode cX8_init 567 = .ok (.dup, 1) := by decide +kernel
theorem dX8_init_568 : decode cX8_init 568 = .ok (.bipush 71, 2) := by decide +kernel
theorem dX8_init_570 : decode cX8_init 570 = .ok (.bipush 32, 2) := by decide +kernel
theorem dX8_init_572 : decode cX8_init 572 = .ok (.castore, 1) := by decide +kernel
theorem dX8_init_573 : decode cX8_init 573 = .ok (.dup, 1) := by decide +kernel
theorem dX8_init_574 : decode cX8_init 574 = .ok (.bipush 72, 2) := by decide +kernel
theorem dX8_init_576 : decode cX8_init 576 = .ok (.bipush 119, 2) := by decide +kernel
theorem dX8_init_578 : decode cX8_init 578 = .ok (.castore, 1) := by decide +kernel
theorem dX8_init_579 : decode cX8_init 579 = .ok (.dup, 1) := by decide +kernel
theorem dX8_init_580 : decode cX8_init 580 = .ok (.bipush 73, 2) := by decide +kernel
theorem dX8_init_582 : decode cX8_init 582 = .ok (.bipush 105, 2) := by decide +kernel
theorem dX8_init_584 : decode cX8_init 584 = .ok (.castore, 1) := by decide +kernel
theorem dX8_init_585 : decode cX8_init 585 = .ok (.dup, 1) := by decide +kernel
theorem dX8_init_586 : decode cX8_init 586 = .ok (.bipush 74, 2) := by decide +kernel
theorem dX8_init_588 : decode cX8_init 588 = .ok (.bipush 116, 2) := by decide +kernel
theorem dX8_init_590 : decode cX8_init 590 = .ok (.castore, 1) := by decide +kernel
theorem dX8_init_591 : decode cX8_init 591 = .ok (.dup, 1) := by decide +kernel
theorem dX8_init_592 : decode cX8_init 592 = .ok (.bipush 75, 2) := by decide +kernel
theorem dX8_init_594 : decode cX8_init 594 = .ok (.bipush 104, 2) := by decide +kernel
theorem dX8_init_596 : decode cX8_init 596 = .ok (.castore, 1) := by decide +kernel
theorem dX8_init_597 : decode cX8_init 597 = .ok (.dup, 1) := by decide +kernel
theorem dX8_init_598 : decode cX8_init 598 = .ok (.bipush 76, 2) := by decide +kernel
theorem dX8_init_600 : decode cX8_init 600 = .ok (.bipush 105, 2) := by decide +kernel
theorem dX8_init_602 : decode cX8_init 602 = .ok (.castore, 1) := by decide +kernel
theorem dX8_init_603 : decode cX8_init 603 = .ok (.dup, 1) := by decide +kernel
theorem dX8_init_604 : decode cX8_init 604 = .ok (.bipush 77, 2) := by decide +kernel
theorem dX8_init_606 : decode cX8_init 606 = .ok (.bipush 110, 2) := by decide +kernel
theorem dX8_init_608 : decode cX8_init 608 = .ok (.castore, 1) := by decide +kernel
theorem dX8_init_609 : decode cX8_init 609 = .ok (.dup, 1) := by decide +kernel
theorem dX8_init_610 : decode cX8_init 610 = .ok (.bipush 78, 2) := by decide +kernel
theorem dX8_init_612 : decode cX8_init 612 = .ok (.bipush 32, 2) := by decide +kernel
theorem dX8_init_614 : decode cX8_init 614 = .ok (.castore, 1) := by decide +kernel
theorem dX8_init_615 : decode cX8_init 615 = .ok (.dup, 1) := by decide +kernel
theorem dX8_init_616 : decode cX8_init 616 = .ok (.bipush 79, 2) := by decide +kernel
theorem dX8_init_618 : decode cX8_init 618 = .ok (.bipush 32, 2) := by decide +kernel
theorem dX8_init_620 : decode cX8_init 620 = .ok (.castore, 1) := by decide +kernel
theorem dX8_init_621 : decode cX8_init 621 = .ok (.putfield 67, 3) := by decide +kernel
theorem dX8_init_624 : decode cX8_init 624 = .ok (.aload_n 0, 1) := by decide +kernel
theorem dX8_init_625 : decode cX8_init 625 = .ok (.iconst 4, 1) := by decide +kernel
theorem dX8_init_626 : decode cX8_init 626 = .ok (.newarray .int, 2) := by decide +kernel
theorem dX8_init_628 : decode cX8_init 628 = .ok (.putfield 71, 3) := by decide +kernel
theorem dX8_init_631 : decode cX8_init 631 = .ok (.aload_n 0, 1) := by decide +kernel
theorem dX8_init_632 : decode cX8_init 632 = .ok (.iconst 4, 1) := by decide +kernel
theorem dX8_init_633 : decode cX8_init 633 = .ok (.newarray .int, 2) := by decide +kernel
theorem dX8_init_635 : decode cX8_init 635 = .ok (.putfield 74, 3) := by decide +kernel
theorem dX8_init_638 : decode cX8_init 638 = .ok (.aload_n 0, 1) := by decide +kernel
theorem dX8_init_639 : decode cX8_init 639 = .ok (.sipush 160, 3) := by decide +kernel
theorem dX8_init_642 : decode cX8_init 642 = .ok (.newarray .long, 2) := by decide +kernel
theorem dX8_init_644 : decode cX8_init 644 = .ok (.putfield 77, 3) := by decide +kernel
theorem dX8_init_647 : decode cX8_init 647 = .ok (.aload_n 0, 1) := by decide +kernel
theorem dX8_init_648 : decode cX8_init 648 = .ok (.bipush 40, 2) := by decide +kernel
theorem dX8_init_650 : decode cX8_init 650 = .ok (.newarray .long, 2) := by decide +kernel
theorem dX8_init_652 : decode cX8_init 652 = .ok (.putfield 80, 3) := by decide +kernel
theorem dX8_init_655 : decode cX8_init 655 = .ok (.aload_n 0, 1) := by decide +kernel
theorem dX8_init_656 : decode cX8_init 656 = .ok (.bipush 82, 2) := by decide +kernel
theorem dX8_init_658 : decode cX8_init 658 = .ok (.newarray .int, 2) := by decide +kernel
theorem dX8_init_660 : decode cX8_init 660 = .ok (.putfield 83, 3) := by decide +kernel
theorem dX8_init_663 : decode cX8_init 663 = .ok (.aload_n 0, 1) := by decide +kernel
theorem dX8_init_664 : decode cX8_init 664 = .ok (.bipush 82, 2) := by decide +kernel
theorem dX8_init_666 : decode cX8_init 666 = .ok (.newarray .int, 2) := by decide +kernel
theorem dX8_init_668 : decode cX8_init 668 = .ok (.putfield 86, 3) := by decide +kernel
theorem dX8_init_671 : decode cX8_init 671 = .ok (.iconst 0, 1) := by decide +kernel
theorem dX8_init_672 : decode cX8_init 672 = .ok (.istore_n 1, 1) := by decide +kernel
theorem dX8_init_673 : decode cX8_init 673 = .ok (.iload_n 1, 1) := by decide +kernel
theorem dX8_init_674 : decode cX8_init 674 = .ok (.iconst 4, 1) := by decide +kernel
theorem dX8_init_675 : decode cX8_init 675 = .ok (.if_icmp .ge 16, 3) := by decide +kernel
theorem dX8_init_678 : decode cX8_init 678 = .ok (.aload_n 0, 1) := by decide +kernel
theorem dX8_init_679 : decode cX8_init 679 = .ok (.getfield 20, 3) := by decide +kernel
theorem dX8_init_682 : decode cX8_init 682 = .ok (.iload_n 1, 1) := by decide +kernel
theorem dX8_init_683 : decode cX8_init 683 = .ok (.iconst 3, 1) := by decide +kernel
theorem dX8_init_684 : decode cX8_init 684 = .ok (.iastore, 1) := by decide +kernel
theorem dX8_init_685 : decode cX8_init 685 = .ok (.iinc 1 1, 3) := by decide +kernel
theorem dX8_init_688 : decode cX8_init 688 = .ok (.goto (-15), 3) := by decide +kernel
theorem dX8_init_691 : decode cX8_init 691 = .ok (.aload_n 0, 1) := by decide +kernel
theorem dX8_init_692 : decode cX8_init 692 = .ok (.invokevirtual 89, 3) := by decide +kernel
theorem dX8_init_695 : decode cX8_init 695 = .ok (.return_, 1) := by decide +kernel
