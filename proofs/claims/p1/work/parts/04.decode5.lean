theorem dX12_init_310 : decode cX12_init 310 = .ok (.iconst 5, 1) := by decide +kernel
theorem dX12_init_311 : decode cX12_init 311 = .ok (.newarray .char, 2) := by decide +kernel
theorem dX12_init_313 : decode cX12_init 313 = .ok (.dup, 1) := by decide +kernel
theorem dX12_init_314 : decode cX12_init 314 = .ok (.iconst 0, 1) := by decide +kernel
theorem dX12_init_315 : decode cX12_init 315 = .ok (.bipush 115, 2) := by decide +kernel
theorem dX12_init_317 : decode cX12_init 317 = .ok (.castore, 1) := by decide +kernel
theorem dX12_init_318 : decode cX12_init 318 = .ok (.dup, 1) := by decide +kernel
theorem dX12_init_319 : decode cX12_init 319 = .ok (.iconst 1, 1) := by decide +kernel
theorem dX12_init_320 : decode cX12_init 320 = .ok (.bipush 108, 2) := by decide +kernel
theorem dX12_init_322 : decode cX12_init 322 = .ok (.castore, 1) := by decide +kernel
theorem dX12_init_323 : decode cX12_init 323 = .ok (.dup, 1) := by decide +kernel
theorem dX12_init_324 : decode cX12_init 324 = .ok (.iconst 2, 1) := by decide +kernel
theorem dX12_init_325 : decode cX12_init 325 = .ok (.bipush 105, 2) := by decide +kernel
theorem dX12_init_327 : decode cX12_init 327 = .ok (.castore, 1) := by decide +kernel
theorem dX12_init_328 : decode cX12_init 328 = .ok (.dup, 1) := by decide +kernel
theorem dX12_init_329 : decode cX12_init 329 = .ok (.iconst 3, 1) := by decide +kernel
theorem dX12_init_330 : decode cX12_init 330 = .ok (.bipush 100, 2) := by decide +kernel
theorem dX12_init_332 : decode cX12_init 332 = .ok (.castore, 1) := by decide +kernel
theorem dX12_init_333 : decode cX12_init 333 = .ok (.dup, 1) := by decide +kernel
theorem dX12_init_334 : decode cX12_init 334 = .ok (.iconst 4, 1) := by decide +kernel
theorem dX12_init_335 : decode cX12_init 335 = .ok (.bipush 101, 2) := by decide +kernel
theorem dX12_init_337 : decode cX12_init 337 = .ok (.castore, 1) := by decide +kernel
theorem dX12_init_338 : decode cX12_init 338 = .ok (.putfield 54, 3) := by decide +kernel
theorem dX12_init_341 : decode cX12_init 341 = .ok (.aload_n 0, 1) := by decide +kernel
theorem dX12_init_342 : decode cX12_init 342 = .ok (.bipush 6, 2) := by decide +kernel
theorem dX12_init_344 : decode cX12_init 344 = .ok (.newarray .char, 2) := by decide +kernel
theorem dX12_init_346 : decode cX12_init 346 = .ok (.dup, 1) := by decide +kernel
theorem dX12_init_347 : decode cX12_init 347 = .ok (.iconst 0, 1) := by decide +kernel
theorem dX12_init_348 : decode cX12_init 348 = .ok (.bipush 114, 2) := by decide +kernel
theorem dX12_init_350 : decode cX12_init 350 = .ok (.castore, 1) := by decide +kernel
theorem dX12_init_351 : decode cX12_init 351 = .ok (.dup, 1) := by decide +kernel
theorem dX12_init_352 : decode cX12_init 352 = .ok (.iconst 1, 1) := by decide +kernel
theorem dX12_init_353 : decode cX12_init 353 = .ok (.bipush 101, 2) := by decide +kernel
theorem dX12_init_355 : decode cX12_init 355 = .ok (.castore, 1) := by decide +kernel
theorem dX12_init_356 : decode cX12_init 356 = .ok (.dup, 1) := by decide +kernel
theorem dX12_init_357 : decode cX12_init 357 = .ok (.iconst 2, 1) := by decide +kernel
theorem dX12_init_358 : decode cX12_init 358 = .ok (.bipush 112, 2) := by decide +kernel
theorem dX12_init_360 : decode cX12_init 360 = .ok (.castore, 1) := by decide +kernel
theorem dX12_init_361 : decode cX12_init 361 = .ok (.dup, 1) := by decide +kernel
theorem dX12_init_362 : decode cX12_init 362 = .ok (.iconst 3, 1) := by decide +kernel
theorem dX12_init_363 : decode cX12_init 363 = .ok (.bipush 101, 2) := by decide +kernel
theorem dX12_init_365 : decode cX12_init 365 = .ok (.castore, 1) := by decide +kernel
theorem dX12_init_366 : decode cX12_init 366 = .ok (.dup, 1) := by decide +kernel
theorem dX12_init_367 : decode cX12_init 367 = .ok (.iconst 4, 1) := by decide +kernel
theorem dX12_init_368 : decode cX12_init 368 = .ok (.bipush 97, 2) := by decide +kernel
theorem dX12_init_370 : decode cX12_init 370 = .ok (.castore, 1) := by decide +kernel
theorem dX12_init_371 : decode cX12_init 371 = .ok (.dup, 1) := by decide +kernel
theorem dX12_init_372 : decode cX12_init 372 = .ok (.iconst 5, 1) := by decide +kernel
theorem dX12_init_373 : decode cX12_init 373 = .ok (.bipush 116, 2) := by decide +kernel
theorem dX12_init_375 : decode cX12_init 375 = .ok (.castore, 1) := by decide +kernel
theorem dX12_init_376 : decode cX12_init 376 = .ok (.putfield 57, 3) := by decide +kernel
theorem dX12_init_379 : decode cX12_init 379 = .ok (.aload_n 0, 1) := by decide +kernel
theorem dX12_init_380 : decode cX12_init 380 = .ok (.iconst 4, 1) := by decide +kernel
theorem dX12_init_381 : decode cX12_init 381 = .ok (.newarray .char, 2) := by decide +kernel
theorem dX12_init_383 : decode cX12_init 383 = .ok (.dup, 1) := by decide +kernel
theorem dX12_init_384 : decode cX12_init 384 = .ok (.iconst 0, 1) := by decide +kernel
theorem dX12_init_385 : decode cX12_init 385 = .ok (.bipush 119, 2) := by decide +kernel
theorem dX12_init_387 : decode cX12_init 387 = .ok (.castore, 1) := by decide +kernel
theorem dX12_init_388 : decode cX12_init 388 = .ok (.dup, 1) := by decide +kernel
theorem dX12_init_389 : decode cX12_init 389 = .ok (.iconst 1, 1) := by decide +kernel
theorem dX12_init_390 : decode cX12_init 390 = .ok (.bipush 104, 2) := by decide +kernel
theorem dX12_init_392 : decode cX12_init 392 = .ok (.castore, 1) := by decide +kernel
theorem dX12_init_393 : decode cX12_init 393 = .ok (.dup, 1) := by decide +kernel
theorem dX12_init_394 : decode cX12_init 394 = .ok (.iconst 2, 1) := by decide +kernel
theorem dX12_init_395 : decode cX12_init 395 = .ok (.bipush 101, 2) := by decide +kernel
theorem dX12_init_397 : decode cX12_init 397 = .ok (.castore, 1) := by decide +kernel
theorem dX12_init_398 : decode cX12_init 398 = .ok (.dup, 1) := by decide +kernel
theorem dX12_init_399 : decode cX12_init 399 = .ok (.iconst 3, 1) := by decide +kernel
theorem dX12_init_400 : decode cX12_init 400 = .ok (.bipush 110, 2) := by decide +kernel
theorem dX12_init_402 : decode cX12_init 402 = .ok (.castore, 1) := by decide +kernel
theorem dX12_init_403 : decode cX12_init 403 = .ok (.putfield 60, 3) := by decide +kernel
theorem dX12_init_406 : decode cX12_init 406 = .ok (.aload_n 0, 1) := by decide +kernel
theorem dX12_init_407 : decode cX12_init 407 = .ok (.bipush 12, 2) := by decide +kernel
theorem dX12_init_409 : decode cX12_init 409 = .ok (.newarray .int, 2) := by decide +kernel
theorem dX12_init_411 : decode cX12_init 411 = .ok (.putfield 63, 3) := by decide +kernel
theorem dX12_init_414 : decode cX12_init 414 = .ok (.aload_n 0, 1) := by decide +kernel
theorem dX12_init_415 : decode cX12_init 415 = .ok (.bipush 72, 2) := by decide +kernel
theorem dX12_init_417 : decode cX12_init 417 = .ok (.newarray .int, 2) := by decide +kernel
theorem dX12_init_419 : decode cX12_init 419 = .ok (.putfield 66, 3) := by decide +kernel
theorem dX12_init_422 : decode cX12_init 422 = .ok (.aload_n 0, 1) := by decide +kernel
theorem dX12_init_423 : decode cX12_init 423 = .ok (.bipush 12, 2) := by decide +kernel
theorem dX12_init_425 : decode cX12_init 425 = .ok (.newarray .int, 2) := by decide +kernel
theorem dX12_init_427 : decode cX12_init 427 = .ok (.putfield 69, 3) := by decide +kernel
theorem dX12_init_430 : decode cX12_init 430 = .ok (.aload_n 0, 1) := by decide +kernel
theorem dX12_init_431 : decode cX12_init 431 = .ok (.bipush 60, 2) := by decide +kernel
theorem dX12_init_433 : decode cX12_init 433 = .ok (.newarray .int, 2) := by decide +kernel
theorem dX12_init_435 : decode cX12_init 435 = .ok (.putfield 72, 3) := by decide +kernel
theorem dX12_init_438 : decode cX12_init 438 = .ok (.aload_n 0, 1) := by decide +kernel
theorem dX12_init_439 : decode cX12_init 439 = .ok (.bipush 60, 2) := by decide +kernel
theorem dX12_init_441 : decode cX12_init 441 = .ok (.newarray .int, 2) := by decide +kernel
theorem dX12_init_443 : decode cX12_init 443 = .ok (.putfield 75, 3) := by decide +kernel
theorem dX12_init_446 : decode cX12_init 446 = .ok (.aload_n 0, 1) := by decide +kernel
theorem dX12_init_447 : decode cX12_init 447 = .ok (.sipush 422, 3) := by decide +kernel
theorem dX12_init_450 : decode cX12_init 450 = .ok (.newarray .int, 2) := by decide +kernel
theorem dX12_init_452 : decode cX12_init 452 = .ok (.putfield 78, 3) := by decide +kernel
theorem dX12_init_455 : decode cX12_init 455 = .ok (.aload_n 0, 1) := by decide +kernel
theorem dX12_init_456 : decode cX12_init 456 = .ok (.sipush 422, 3) := by decide +kernel
theorem dX12_init_459 : decode cX12_init 459 = .ok (.newarray .int, 2) := by decide +kernel
theorem dX12_init_461 : decode cX12_init 461 = .ok (.putfield 81, 3) := by decide +kernel
theorem dX12_init_464 : decode cX12_init 464 = .ok (.aload_n 0, 1) := by decide +kernel
theorem dX12_init_465 : decode cX12_init 465 = .ok (.sipush 422, 3) := by decide +kernel
theorem dX12_init_468 : decode cX12_init 468 = .ok (.newarray .int, 2) := by decide +kernel
theorem dX12_init_470 : decode cX12_init 470 = .ok (.putfield 84, 3) := by decide +kernel
theorem dX12_init_473 : decode cX12_init 473 = .ok (.aload_n 0, 1) := by decide +kernel
theorem dX12_init_474 : decode cX12_init 474 = .ok (.bipush 80, 2) := by decide +kernel
theorem dX12_init_476 : decode cX12_init 476 = .ok (.newarray .int, 2) := by decide +kernel
theorem dX12_init_478 : decode cX12_init 478 = .ok (.putfield 87, 3) := by decide +kernel
theorem dX12_init_481 : decode cX12_init 481 = .ok (.aload_n 0, 1) := by decide +kernel
theorem dX12_init_482 : decode cX12_init 482 = .ok (.sipush 160, 3) := by decide +kernel
theorem dX12_init_485 : decode cX12_init 485 = .ok (.newarray .int, 2) := by decide +kernel
theorem dX12_init_487 : decode cX12_init 487 = .ok (.putfield 90, 3) := by decide +kernel
theorem dX12_init_490 : decode cX12_init 490 = .ok (.aload_n 0, 1) := by decide +kernel
theorem dX12_init_491 : decode cX12_init 491 = .ok (.bipush 80, 2) := by decide +kernel
theorem dX12_init_493 : decode cX12_init 493 = .ok (.newarray .boolean, 2) := by decide +kernel
theorem dX12_init_495 : decode cX12_init 495 = .ok (.putfield 93, 3) := by decide +kernel
theorem dX12_init_498 : decode cX12_init 498 = .ok (.aload_n 0, 1) := by decide +kernel
theorem dX12_init_499 : decode cX12_init 499 = .ok (.sipush 160, 3) := by decide +kernel
theorem dX12_init_502 : decode cX12_init 502 = .ok (.newarray .int, 2) := by decide +kernel
theorem dX12_init_504 : decode cX12_init 504 = .ok (.putfield 97, 3) := by decide +kernel
theorem dX12_init_507 : decode cX12_init 507 = .ok (.aload_n 0, 1) := by decide +kernel
theorem dX12_init_508 : decode cX12_init 508 = .ok (.sipush 160, 3) := by decide +kernel
theorem dX12_init_511 : decode cX12_init 511 = .ok (.newarray .int, 2) := by decide +kernel
theorem dX12_init_513 : decode cX12_init 513 = .ok (.putfield 100, 3) := by decide +kernel
theorem dX12_init_516 : decode cX12_init 516 = .ok (.aload_n 0, 1) := by decide +kernel
theorem dX12_init_517 : decode cX12_init 517 = .ok (.bipush 80, 2) := by decide +kernel
theorem dX12_init_519 : decode cX12_init 519 = .ok (.newarray .int, 2) := by decide +kernel
theorem dX12_init_521 : decode cX12_init 521 = .ok (.putfield 103, 3) := by decide +kernel
theorem dX12_init_524 : decode cX12_init 524 = .ok (.aload_n 0, 1) := by decide +kernel
theorem dX12_init_525 : decode cX12_init 525 = .ok (.bipush 80, 2) := by decide +kernel
theorem dX12_init_527 : decode cX12_init 527 = .ok (.newarray .int, 2) := by decide +kernel
theorem dX12_init_529 : decode cX12_init 529 = .ok (.putfield 106, 3) := by decide +kernel
theorem dX12_init_532 : decode cX12_init 532 = .ok (.aload_n 0, 1) := by decide +kernel
theorem dX12_init_533 : decode cX12_init 533 = .ok (.bipush 80, 2) := by decide +kernel
theorem dX12_init_535 : decode cX12_init 535 = .ok (.newarray .int, 2) := by decide +kernel
theorem dX12_init_537 : decode cX12_init 537 = .ok (.putfield 109, 3) := by decide +kernel
theorem dX12_init_540 : decode cX12_init 540 = .ok (.aload_n 0, 1) := by decide +kernel
theorem dX12_init_541 : decode cX12_init 541 = .ok (.bipush 80, 2) := by decide +kernel
theorem dX12_init_543 : decode cX12_init 543 = .ok (.newarray .int, 2) := by decide +kernel
theorem dX12_init_545 : decode cX12_init 545 = .ok (.putfield 112, 3) := by decide +kernel
theorem dX12_init_548 : decode cX12_init 548 = .ok (.aload_n 0, 1) := by decide +kernel
theorem dX12_init_549 : decode cX12_init 549 = .ok (.bipush 80, 2) := by decide +kernel
theorem dX12_init_551 : decode cX12_init 551 = .ok (.newarray .int, 2) := by decide +kernel
theorem dX12_init_553 : decode cX12_init 553 = .ok (.putfield 115, 3) := by decide +kernel
theorem dX12_init_556 : decode cX12_init 556 = .ok (.aload_n 0, 1) := by decide +kernel
theorem dX12_init_557 : decode cX12_init 557 = .ok (.bipush 80, 2) := by decide +kernel
theorem dX12_init_559 : decode cX12_init 559 = .ok (.newarray .int, 2) := by decide +kernel
theorem dX12_init_561 : decode cX12_init 561 = .ok (.putfield 118, 3) := by decide +kernel
theorem dX12_init_564 : decode cX12_init 564 = .ok (.aload_n 0, 1) := by decide +kernel
theorem dX12_init_565 : decode cX12_init 565 = .ok (.sipush 600, 3) := by decide +kernel
theorem dX12_init_568 : decode cX12_init 568 = .ok (.newarray .int, 2) := by decide +kernel
theorem dX12_init_570 : decode cX12_init 570 = .ok (.putfield 121, 3) := by decide +kernel
theorem dX12_init_573 : decode cX12_init 573 = .ok (.aload_n 0, 1) := by decide +kernel
theorem dX12_init_574 : decode cX12_init 574 = .ok (.sipush 600, 3) := by decide +kernel
theorem dX12_init_577 : decode cX12_init 577 = .ok (.newarray .int, 2) := by decide +kernel
theorem dX12_init_579 : decode cX12_init 579 = .ok (.putfield 124, 3) := by decide +kernel
theorem dX12_init_582 : decode cX12_init 582 = .ok (.aload_n 0, 1) := by decide +kernel
theorem dX12_init_583 : decode cX12_init 583 = .ok (.bipush 48, 2) := by decide +kernel
theorem dX12_init_585 : decode cX12_init 585 = .ok (.newarray .int, 2) := by decide +kernel
theorem dX12_init_587 : decode cX12_init 587 = .ok (.putfield 127, 3) := by decide +kernel
theorem dX12_init_590 : decode cX12_init 590 = .ok (.aload_n 0, 1) := by decide +kernel
theorem dX12_init_591 : decode cX12_init 591 = .ok (.sipush 332, 3) := by decide +kernel
theorem dX12_init_594 : decode cX12_init 594 = .ok (.newarray .boolean, 2) := by decide +kernel
theorem dX12_init_596 : decode cX12_init 596 = .ok (.putfield 130, 3) := by decide +kernel
theorem dX12_init_599 : decode cX12_init 599 = .ok (.aload_n 0, 1) := by decide +kernel
theorem dX12_init_600 : decode cX12_init 600 = .ok (.ldc 133, 2) := by decide +kernel
theorem dX12_init_602 : decode cX12_init 602 = .ok (.newarray .int, 2) := by decide +kernel
theorem dX12_init_604 : decode cX12_init 604 = .ok (.putfield 134, 3) := by decide +kernel
theorem dX12_init_607 : decode cX12_init 607 = .ok (.aload_n 0, 1) := by decide +kernel
theorem dX12_init_608 : decode cX12_init 608 = .ok (.sipush 9600, 3) := by decide +kernel
theorem dX12_init_611 : decode cX12_init 611 = .ok (.newarray .int, 2) := by decide +kernel
theorem dX12_init_613 : decode cX12_init 613 = .ok (.putfield 137, 3) := by decide +kernel
theorem dX12_init_616 : decode cX12_init 616 = .ok (.aload_n 0, 1) := by decide +kernel
theorem dX12_init_617 : decode cX12_init 617 = .ok (.sipush 8440, 3) := by decide +kernel
theorem dX12_init_620 : decode cX12_init 620 = .ok (.newarray .int, 2) := by decide +kernel
theorem dX12_init_622 : decode cX12_init 622 = .ok (.putfield 140, 3) := by decide +kernel
theorem dX12_init_625 : decode cX12_init 625 = .ok (.aload_n 0, 1) := by decide +kernel
theorem dX12_init_626 : decode cX12_init 626 = .ok (.lconst 1, 1) := by decide +kernel
theorem dX12_init_627 : decode cX12_init 627 = .ok (.putfield 143, 3) := by decide +kernel
theorem dX12_init_630 : decode cX12_init 630 = .ok (.aload_n 0, 1) := by decide +kernel
theorem dX12_init_631 : decode cX12_init 631 = .ok (.iconst 1, 1) := by decide +kernel
theorem dX12_init_632 : decode cX12_init 632 = .ok (.newarray .char, 2) := by decide +kernel
theorem dX12_init_634 : decode cX12_init 634 = .ok (.dup, 1) := by decide +kernel
theorem dX12_init_635 : decode cX12_init 635 = .ok (.iconst 0, 1) := by decide +kernel
theorem dX12_init_636 : decode cX12_init 636 = .ok (.bipush 97, 2) := by decide +kernel
theorem dX12_init_638 : decode cX12_init 638 = .ok (.castore, 1) := by decide +kernel
theorem dX12_init_639 : decode cX12_init 639 = .ok (.putfield 147, 3) := by decide +kernel
theorem dX12_init_642 : decode cX12_init 642 = .ok (.aload_n 0, 1) := by decide +kernel
theorem dX12_init_643 : decode cX12_init 643 = .ok (.iconst (-1), 1) := by decide +kernel
theorem dX12_init_644 : decode cX12_init 644 = .ok (.putfield 150, 3) := by decide +kernel
theorem dX12_init_647 : decode cX12_init 647 = .ok (.aload_n 0, 1) := by decide +kernel
theorem dX12_init_648 : decode cX12_init 648 = .ok (.iconst 4, 1) := by decide +kernel
theorem dX12_init_649 : decode cX12_init 649 = .ok (.newarray .int, 2) := by decide +kernel
theorem dX12_init_651 : decode cX12_init 651 = .ok (.putfield 153, 3) := by decide +kernel
theorem dX12_init_654 : decode cX12_init 654 = .ok (.aload_n 0, 1) := by decide +kernel
theorem dX12_init_655 : decode cX12_init 655 = .ok (.iconst 4, 1) := by decide +kernel
theorem dX12_init_656 : decode cX12_init 656 = .ok (.newarray .int, 2) := by decide +kernel
theorem dX12_init_658 : decode cX12_init 658 = .ok (.putfield 156, 3) := by decide +kernel
theorem dX12_init_661 : decode cX12_init 661 = .ok (.aload_n 0, 1) := by decide +kernel
theorem dX12_init_662 : decode cX12_init 662 = .ok (.iconst 4, 1) := by decide +kernel
theorem dX12_init_663 : decode cX12_init 663 = .ok (.newarray .int, 2) := by decide +kernel
theorem dX12_init_665 : decode cX12_init 665 = .ok (.putfield 159, 3) := by decide +kernel
theorem dX12_init_668 : decode cX12_init 668 = .ok (.aload_n 0, 1) := by decide +kernel
theorem dX12_init_669 : decode cX12_init 669 = .ok (.sipush 507, 3) := by decide +kernel
theorem dX12_init_672 : decode cX12_init 672 = .ok (.newarray .int, 2) := by decide +kernel
theorem dX12_init_674 : decode cX12_init 674 = .ok (.putfield 162, 3) := by decide +kernel
theorem dX12_init_677 : decode cX12_init 677 = .ok (.return_, 1) := by decide +kernel
theorem dX12_isAsked_0 : decode cX12_isAsked 0 = .ok (.aload_n 0, 1) := by decide +kernel
theorem dX12_isAsked_1 : decode cX12_isAsked 1 = .ok (.getfield 321, 3) := by decide +kernel
theorem dX12_isAsked_4 : decode cX12_isAsked 4 = .ok (.ifCond .eq 13, 3) := by decide +kernel
theorem dX12_isAsked_17 : decode cX12_isAsked 17 = .ok (.iconst 0, 1) := by decide +kernel
theorem dX12_isAsked_18 : decode cX12_isAsked 18 = .ok (.ireturn, 1) := by decide +kernel
theorem dX12_isAskedOf_0 : decode cX12_isAskedOf 0 = .ok (.aload_n 0, 1) := by decide +kernel
theorem dX12_isAskedOf_1 : decode cX12_isAskedOf 1 = .ok (.invokevirtual 452, 3) := by decide +kernel
theorem dX12_isAskedOf_4 : decode cX12_isAskedOf 4 = .ok (.ifCond .eq 23, 3) := by decide +kernel
theorem dX12_isAskedOf_27 : decode cX12_isAskedOf 27 = .ok (.iconst 0, 1) := by decide +kernel
theorem dX12_isAskedOf_28 : decode cX12_isAskedOf 28 = .ok (.ireturn, 1) := by decide +kernel
theorem dX12_isHere_0 : decode cX12_isHere 0 = .ok (.aload_n 0, 1) := by decide +kernel
theorem dX12_isHere_1 : decode cX12_isHere 1 = .ok (.getfield 194, 3) := by decide +kernel
theorem dX12_isHere_4 : decode cX12_isHere 4 = .ok (.ifCond .ne 24, 3) := by decide +kernel
theorem dX12_isHere_7 : decode cX12_isHere 7 = .ok (.aload_n 0, 1) := by decide +kernel
theorem dX12_isHere_8 : decode cX12_isHere 8 = .ok (.invokevirtual 200, 3) := by decide +kernel
theorem dX12_isHere_11 : decode cX12_isHere 11 = .ok (.invokestatic 204, 3) := by decide +kernel
theorem dX12_isHere_14 : decode cX12_isHere 14 = .ok (.ifCond .eq 14, 3) := by decide +kernel
theorem dX12_isHere_28 : decode cX12_isHere 28 = .ok (.iconst 0, 1) := by decide +kernel
theorem dX12_isHere_29 : decode cX12_isHere 29 = .ok (.ireturn, 1) := by decide +kernel
theorem dX12_isImage_0 : decode cX12_isImage 0 = .ok (.aload_n 0, 1) := by decide +kernel
theorem dX12_isImage_1 : decode cX12_isImage 1 = .ok (.getfield 321, 3) := by decide +kernel
theorem dX12_isImage_4 : decode cX12_isImage 4 = .ok (.ifCond .eq 73, 3) := by decide +kernel
theorem dX12_isImage_77 : decode cX12_isImage 77 = .ok (.iconst 0, 1) := by decide +kernel
theorem dX12_isImage_78 : decode cX12_isImage 78 = .ok (.ireturn, 1) := by decide +kernel
theorem dX12_isIn_0 : decode cX12_isIn 0 = .ok (.lload_n 0, 1) := by decide +kernel
theorem dX12_isIn_1 : decode cX12_isIn 1 = .ok (.lload_n 2, 1) := by decide +kernel
theorem dX12_isIn_2 : decode cX12_isIn 2 = .ok (.lcmp, 1) := by decide +kernel
theorem dX12_isIn_3 : decode cX12_isIn 3 = .ok (.ifCond .lt 14, 3) := by decide +kernel
theorem dX12_isIn_6 : decode cX12_isIn 6 = .ok (.lload_n 0, 1) := by decide +kernel
theorem dX12_isIn_7 : decode cX12_isIn 7 = .ok (.lload 4, 2) := by decide +kernel
theorem dX12_isIn_9 : decode cX12_isIn 9 = .ok (.lcmp, 1) := by decide +kernel
theorem dX12_isIn_10 : decode cX12_isIn 10 = .ok (.ifCond .gt 7, 3) := by decide +kernel
theorem dX12_isIn_13 : decode cX12_isIn 13 = .ok (.iconst 1, 1) := by decide +kernel
theorem dX12_isIn_14 : decode cX12_isIn 14 = .ok (.goto 4, 3) := by decide +kernel
theorem dX12_isIn_17 : decode cX12_isIn 17 = .ok (.iconst 0, 1) := by decide +kernel
theorem dX12_isIn_18 : decode cX12_isIn 18 = .ok (.ireturn, 1) := by decide +kernel
theorem dX12_isLetter_0 : decode cX12_isLetter 0 = .ok (.iload_n 0, 1) := by decide +kernel
theorem dX12_isLetter_1 : decode cX12_isLetter 1 = .ok (.bipush 97, 2) := by decide +kernel
theorem dX12_isLetter_3 : decode cX12_isLetter 3 = .ok (.if_icmp .lt 13, 3) := by decide +kernel
theorem dX12_isLetter_16 : decode cX12_isLetter 16 = .ok (.iconst 0, 1) := by decide +kernel
theorem dX12_isLetter_17 : decode cX12_isLetter 17 = .ok (.ireturn, 1) := by decide +kernel
theorem dX12_isRefused_0 : decode cX12_isRefused 0 = .ok (.aload_n 0, 1) := by decide +kernel
theorem dX12_isRefused_1 : decode cX12_isRefused 1 = .ok (.getfield 17, 3) := by decide +kernel
theorem dX12_isRefused_4 : decode cX12_isRefused 4 = .ok (.iload_n 1, 1) := by decide +kernel
theorem dX12_isRefused_5 : decode cX12_isRefused 5 = .ok (.dup2, 1) := by decide +kernel
theorem dX12_isRefused_6 : decode cX12_isRefused 6 = .ok (.iaload, 1) := by decide +kernel
theorem dX12_isRefused_7 : decode cX12_isRefused 7 = .ok (.iconst 1, 1) := by decide +kernel
theorem dX12_isRefused_8 : decode cX12_isRefused 8 = .ok (.iadd, 1) := by decide +kernel
theorem dX12_isRefused_9 : decode cX12_isRefused 9 = .ok (.iastore, 1) := by decide +kernel
theorem dX12_isRefused_10 : decode cX12_isRefused 10 = .ok (.iconst 0, 1) := by decide +kernel
theorem dX12_isRefused_11 : decode cX12_isRefused 11 = .ok (.ireturn, 1) := by decide +kernel
theorem dX12_isStill_0 : decode cX12_isStill 0 = .ok (.aload_n 0, 1) := by decide +kernel
theorem dX12_isStill_1 : decode cX12_isStill 1 = .ok (.getfield 321, 3) := by decide +kernel
theorem dX12_isStill_4 : decode cX12_isStill 4 = .ok (.ifCond .eq 16, 3) := by decide +kernel
theorem dX12_isStill_20 : decode cX12_isStill 20 = .ok (.iconst 0, 1) := by decide +kernel
theorem dX12_isStill_21 : decode cX12_isStill 21 = .ok (.ireturn, 1) := by decide +kernel
theorem dX12_keeps_0 : decode cX12_keeps 0 = .ok (.aload_n 0, 1) := by decide +kernel
theorem dX12_keeps_1 : decode cX12_keeps 1 = .ok (.invokevirtual 452, 3) := by decide +kernel
theorem dX12_keeps_4 : decode cX12_keeps 4 = .ok (.ifCond .eq 24, 3) := by decide +kernel
theorem dX12_keeps_28 : decode cX12_keeps 28 = .ok (.iconst (-1), 1) := by decide +kernel
theorem dX12_keeps_29 : decode cX12_keeps 29 = .ok (.ireturn, 1) := by decide +kernel
theorem dX12_kept_0 : decode cX12_kept 0 = .ok (.iload_n 1, 1) := by decide +kernel
theorem dX12_kept_1 : decode cX12_kept 1 = .ok (.i2l, 1) := by decide +kernel
theorem dX12_kept_2 : decode cX12_kept 2 = .ok (.lconst 0, 1) := by decide +kernel
theorem dX12_kept_3 : decode cX12_kept 3 = .ok (.aload_n 0, 1) := by decide +kernel
theorem dX12_kept_4 : decode cX12_kept 4 = .ok (.getfield 78, 3) := by decide +kernel
theorem dX12_kept_7 : decode cX12_kept 7 = .ok (.iconst 5, 1) := by decide +kernel
theorem dX12_kept_8 : decode cX12_kept 8 = .ok (.iaload, 1) := by decide +kernel
theorem dX12_kept_9 : decode cX12_kept 9 = .ok (.iconst 1, 1) := by decide +kernel
theorem dX12_kept_10 : decode cX12_kept 10 = .ok (.isub, 1) := by decide +kernel
theorem dX12_kept_11 : decode cX12_kept 11 = .ok (.i2l, 1) := by decide +kernel
theorem dX12_kept_12 : decode cX12_kept 12 = .ok (.invokestatic 178, 3) := by decide +kernel
theorem dX12_kept_15 : decode cX12_kept 15 = .ok (.ifCond .eq 31, 3) := by decide +kernel
theorem dX12_kept_46 : decode cX12_kept 46 = .ok (.iconst (-1), 1) := by decide +kernel
theorem dX12_kept_47 : decode cX12_kept 47 = .ok (.ireturn, 1) := by decide +kernel
theorem dX12_laysCells_0 : decode cX12_laysCells 0 = .ok (.aload_n 0, 1) := by decide +kernel
theorem dX12_laysCells_1 : decode cX12_laysCells 1 = .ok (.iconst 0, 1) := by decide +kernel
theorem dX12_laysCells_2 : decode cX12_laysCells 2 = .ok (.putfield 343, 3) := by decide +kernel
theorem dX12_laysCells_5 : decode cX12_laysCells 5 = .ok (.iconst 0, 1) := by decide +kernel
theorem dX12_laysCells_6 : decode cX12_laysCells 6 = .ok (.istore_n 1, 1) := by decide +kernel
theorem dX12_laysCells_7 : decode cX12_laysCells 7 = .ok (.iload_n 1, 1) := by decide +kernel
theorem dX12_laysCells_8 : decode cX12_laysCells 8 = .ok (.aload_n 0, 1) := by decide +kernel
theorem dX12_laysCells_9 : decode cX12_laysCells 9 = .ok (.getfield 325, 3) := by decide +kernel
theorem dX12_laysCells_12 : decode cX12_laysCells 12 = .ok (.if_icmp .ge 16, 3) := by decide +kernel
theorem dX12_laysCells_28 : decode cX12_laysCells 28 = .ok (.aload_n 0, 1) := by decide +kernel
theorem dX12_laysCells_29 : decode cX12_laysCells 29 = .ok (.getfield 78, 3) := by decide +kernel
theorem dX12_laysCells_32 : decode cX12_laysCells 32 = .ok (.iconst 1, 1) := by decide +kernel
theorem dX12_laysCells_33 : decode cX12_laysCells 33 = .ok (.iaload, 1) := by decide +kernel
theorem dX12_laysCells_34 : decode cX12_laysCells 34 = .ok (.istore_n 1, 1) := by decide +kernel
theorem dX12_laysCells_35 : decode cX12_laysCells 35 = .ok (.iload_n 1, 1) := by decide +kernel
theorem dX12_laysCells_36 : decode cX12_laysCells 36 = .ok (.aload_n 0, 1) := by decide +kernel
theorem dX12_laysCells_37 : decode cX12_laysCells 37 = .ok (.getfield 325, 3) := by decide +kernel
theorem dX12_laysCells_40 : decode cX12_laysCells 40 = .ok (.if_icmp .ge 68, 3) := by decide +kernel
theorem dX12_laysCells_108 : decode cX12_laysCells 108 = .ok (.return_, 1) := by decide +kernel
theorem dX12_longest_0 : decode cX12_longest 0 = .ok (.aload_n 0, 1) := by decide +kernel
theorem dX12_longest_1 : decode cX12_longest 1 = .ok (.invokevirtual 452, 3) := by decide +kernel
theorem dX12_longest_4 : decode cX12_longest 4 = .ok (.ifCond .eq 13, 3) := by decide +kernel
theorem dX12_longest_17 : decode cX12_longest 17 = .ok (.iconst (-1), 1) := by decide +kernel
theorem dX12_longest_18 : decode cX12_longest 18 = .ok (.ireturn, 1) := by decide +kernel
theorem dX12_look_0 : decode cX12_look 0 = .ok (.aload_n 0, 1) := by decide +kernel
theorem dX12_look_1 : decode cX12_look 1 = .ok (.getfield 188, 3) := by decide +kernel
theorem dX12_look_4 : decode cX12_look 4 = .ok (.aload_n 0, 1) := by decide +kernel
theorem dX12_look_5 : decode cX12_look 5 = .ok (.getfield 185, 3) := by decide +kernel
theorem dX12_look_8 : decode cX12_look 8 = .ok (.if_icmp .ge 44, 3) := by decide +kernel
theorem dX12_look_52 : decode cX12_look 52 = .ok (.aload_n 0, 1) := by decide +kernel
theorem dX12_look_53 : decode cX12_look 53 = .ok (.getfield 188, 3) := by decide +kernel
theorem dX12_look_56 : decode cX12_look 56 = .ok (.aload_n 0, 1) := by decide +kernel
theorem dX12_look_57 : decode cX12_look 57 = .ok (.getfield 185, 3) := by decide +kernel
theorem dX12_look_60 : decode cX12_look 60 = .ok (.if_icmp .ge 15, 3) := by decide +kernel
theorem dX12_look_75 : decode cX12_look 75 = .ok (.iconst (-1), 1) := by decide +kernel
theorem dX12_look_76 : decode cX12_look 76 = .ok (.ireturn, 1) := by decide +kernel
theorem dX12_method_0 : decode cX12_method 0 = .ok (.aload_n 0, 1) := by decide +kernel
theorem dX12_method_1 : decode cX12_method 1 = .ok (.invokevirtual 541, 3) := by decide +kernel
theorem dX12_method_4 : decode cX12_method 4 = .ok (.ifCond .eq 23, 3) := by decide +kernel
theorem dX12_method_27 : decode cX12_method 27 = .ok (.aload_n 0, 1) := by decide +kernel
theorem dX12_method_28 : decode cX12_method 28 = .ok (.iconst 3, 1) := by decide +kernel
theorem dX12_method_29 : decode cX12_method 29 = .ok (.invokevirtual 172, 3) := by decide +kernel
theorem dX12_method_32 : decode cX12_method 32 = .ok (.ireturn, 1) := by decide +kernel
theorem dX12_number_0 : decode cX12_number 0 = .ok (.aload_n 0, 1) := by decide +kernel
theorem dX12_number_1 : decode cX12_number 1 = .ok (.getfield 194, 3) := by decide +kernel
theorem dX12_number_4 : decode cX12_number 4 = .ok (.ifCond .eq 5, 3) := by decide +kernel
theorem dX12_number_7 : decode cX12_number 7 = .ok (.iconst 0, 1) := by decide +kernel
theorem dX12_number_8 : decode cX12_number 8 = .ok (.ireturn, 1) := by decide +kernel
theorem dX12_octet_0 : decode cX12_octet 0 = .ok (.iload_n 1, 1) := by decide +kernel
theorem dX12_octet_1 : decode cX12_octet 1 = .ok (.ifCond .lt 20, 3) := by decide +kernel
theorem dX12_octet_4 : decode cX12_octet 4 = .ok (.iload_n 1, 1) := by decide +kernel
theorem dX12_octet_5 : decode cX12_octet 5 = .ok (.aload_n 0, 1) := by decide +kernel
theorem dX12_octet_6 : decode cX12_octet 6 = .ok (.getfield 667, 3) := by decide +kernel
theorem dX12_octet_9 : decode cX12_octet 9 = .ok (.if_icmp .ge 12, 3) := by decide +kernel
theorem dX12_octet_21 : decode cX12_octet 21 = .ok (.iconst (-1), 1) := by decide +kernel
theorem dX12_octet_22 : decode cX12_octet 22 = .ok (.ireturn, 1) := by decide +kernel
theorem dX12_on_0 : decode cX12_on 0 = .ok (.aload_n 0, 1) := by decide +kernel
theorem dX12_on_1 : decode cX12_on 1 = .ok (.getfield 165, 3) := by decide +kernel
theorem dX12_on_4 : decode cX12_on 4 = .ok (.istore_n 1, 1) := by decide +kernel
theorem dX12_on_5 : decode cX12_on 5 = .ok (.aload_n 0, 1) := by decide +kernel
theorem dX12_on_6 : decode cX12_on 6 = .ok (.iconst 0, 1) := by decide +kernel
theorem dX12_on_7 : decode cX12_on 7 = .ok (.putfield 165, 3) := by decide +kernel
theorem dX12_on_10 : decode cX12_on 10 = .ok (.aload_n 0, 1) := by decide +kernel
theorem dX12_on_11 : decode cX12_on 11 = .ok (.iload_n 1, 1) := by decide +kernel
theorem dX12_on_12 : decode cX12_on 12 = .ok (.invokevirtual 688, 3) := by decide +kernel
theorem dX12_on_15 : decode cX12_on 15 = .ok (.ifCond .ne 10, 3) := by decide +kernel
theorem dX12_on_18 : decode cX12_on 18 = .ok (.aload_n 0, 1) := by decide +kernel
theorem dX12_on_19 : decode cX12_on 19 = .ok (.bipush 6, 2) := by decide +kernel
theorem dX12_on_21 : decode cX12_on 21 = .ok (.invokevirtual 172, 3) := by decide +kernel
theorem dX12_on_24 : decode cX12_on 24 = .ok (.ireturn, 1) := by decide +kernel
theorem dX12_refuses_0 : decode cX12_refuses 0 = .ok (.aload_n 0, 1) := by decide +kernel
theorem dX12_refuses_1 : decode cX12_refuses 1 = .ok (.getfield 17, 3) := by decide +kernel
theorem dX12_refuses_4 : decode cX12_refuses 4 = .ok (.iload_n 1, 1) := by decide +kernel
theorem dX12_refuses_5 : decode cX12_refuses 5 = .ok (.dup2, 1) := by decide +kernel
theorem dX12_refuses_6 : decode cX12_refuses 6 = .ok (.iaload, 1) := by decide +kernel
theorem dX12_refuses_7 : decode cX12_refuses 7 = .ok (.iconst 1, 1) := by decide +kernel
theorem dX12_refuses_8 : decode cX12_refuses 8 = .ok (.iadd, 1) := by decide +kernel
theorem dX12_refuses_9 : decode cX12_refuses 9 = .ok (.iastore, 1) := by decide +kernel
theorem dX12_refuses_10 : decode cX12_refuses 10 = .ok (.iconst (-1), 1) := by decide +kernel
theorem dX12_refuses_11 : decode cX12_refuses 11 = .ok (.ireturn, 1) := by decide +kernel
theorem dX12_remember_0 : decode cX12_remember 0 = .ok (.aload_n 0, 1) := by decide +kernel
theorem dX12_remember_1 : decode cX12_remember 1 = .ok (.invokevirtual 452, 3) := by decide +kernel
theorem dX12_remember_4 : decode cX12_remember 4 = .ok (.ifCond .ne 9, 3) := by decide +kernel
theorem dX12_remember_7 : decode cX12_remember 7 = .ok (.aload_n 0, 1) := by decide +kernel
theorem dX12_remember_8 : decode cX12_remember 8 = .ok (.iconst 2, 1) := by decide +kernel
theorem dX12_remember_9 : decode cX12_remember 9 = .ok (.invokevirtual 168, 3) := by decide +kernel
theorem dX12_remember_12 : decode cX12_remember 12 = .ok (.ireturn, 1) := by decide +kernel
theorem dX12_retains_0 : decode cX12_retains 0 = .ok (.aload_n 0, 1) := by decide +kernel
theorem dX12_retains_1 : decode cX12_retains 1 = .ok (.iload_n 1, 1) := by decide +kernel
theorem dX12_retains_2 : decode cX12_retains 2 = .ok (.invokevirtual 455, 3) := by decide +kernel
theorem dX12_retains_5 : decode cX12_retains 5 = .ok (.ifCond .eq 13, 3) := by decide +kernel
theorem dX12_retains_18 : decode cX12_retains 18 = .ok (.iconst (-1), 1) := by decide +kernel
theorem dX12_retains_19 : decode cX12_retains 19 = .ok (.ireturn, 1) := by decide +kernel
theorem dX12_room_0 : decode cX12_room 0 = .ok (.aload_n 0, 1) := by decide +kernel
theorem dX12_room_1 : decode cX12_room 1 = .ok (.invokevirtual 452, 3) := by decide +kernel
theorem dX12_room_4 : decode cX12_room 4 = .ok (.ifCond .eq 29, 3) := by decide +kernel
theorem dX12_room_33 : decode cX12_room 33 = .ok (.iconst (-1), 1) := by decide +kernel
theorem dX12_room_34 : decode cX12_room 34 = .ok (.ireturn, 1) := by decide +kernel
theorem dX12_run_0 : decode cX12_run 0 = .ok (.aload_n 0, 1) := by decide +kernel
theorem dX12_run_1 : decode cX12_run 1 = .ok (.invokevirtual 541, 3) := by decide +kernel
theorem dX12_run_4 : decode cX12_run 4 = .ok (.ifCond .ne 14, 3) := by decide +kernel
theorem dX12_run_7 : decode cX12_run 7 = .ok (.aload_n 0, 1) := by decide +kernel
theorem dX12_run_8 : decode cX12_run 8 = .ok (.iconst 0, 1) := by decide +kernel
theorem dX12_run_9 : decode cX12_run 9 = .ok (.putfield 165, 3) := by decide +kernel
theorem dX12_run_12 : decode cX12_run 12 = .ok (.aload_n 0, 1) := by decide +kernel
theorem dX12_run_13 : decode cX12_run 13 = .ok (.iconst 2, 1) := by decide +kernel
theorem dX12_run_14 : decode cX12_run 14 = .ok (.invokevirtual 168, 3) := by decide +kernel
theorem dX12_run_17 : decode cX12_run 17 = .ok (.ireturn, 1) := by decide +kernel
theorem dX12_see_0 : decode cX12_see 0 = .ok (.aload_n 0, 1) := by decide +kernel
theorem dX12_see_1 : decode cX12_see 1 = .ok (.getfield 165, 3) := by decide +kernel
theorem dX12_see_4 : decode cX12_see 4 = .ok (.istore_n 1, 1) := by decide +kernel
theorem dX12_see_5 : decode cX12_see 5 = .ok (.aload_n 0, 1) := by decide +kernel
theorem dX12_see_6 : decode cX12_see 6 = .ok (.iconst 0, 1) := by decide +kernel
theorem dX12_see_7 : decode cX12_see 7 = .ok (.putfield 165, 3) := by decide +kernel
theorem dX12_see_10 : decode cX12_see 10 = .ok (.aload_n 0, 1) := by decide +kernel
theorem dX12_see_11 : decode cX12_see 11 = .ok (.getfield 321, 3) := by decide +kernel
theorem dX12_see_14 : decode cX12_see 14 = .ok (.ifCond .eq 34, 3) := by decide +kernel
theorem dX12_see_48 : decode cX12_see 48 = .ok (.iconst 0, 1) := by decide +kernel
theorem dX12_see_49 : decode cX12_see 49 = .ok (.istore_n 2, 1) := by decide +kernel
