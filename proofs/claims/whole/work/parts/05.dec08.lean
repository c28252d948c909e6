/-! decode rows (written by wip/gen) -/
theorem d_La_law_357 : decode code 357 = .ok (.iconst 0, 1) := by decide +kernel
theorem d_La_law_358 : decode code 358 = .ok (.ireturn, 1) := by decide +kernel
theorem d_La_law_359 : decode code 359 = .ok (.aload_n 1, 1) := by decide +kernel
theorem d_La_law_360 : decode code 360 = .ok (.invokevirtual 62, 3) := by decide +kernel
theorem d_La_law_363 : decode code 363 = .ok (.aload_n 2, 1) := by decide +kernel
theorem d_La_law_364 : decode code 364 = .ok (.invokevirtual 65, 3) := by decide +kernel
theorem d_La_law_367 : decode code 367 = .ok (.goto (155), 3) := by decide +kernel
theorem d_La_law_370 : decode code 370 = .ok (.aload_n 1, 1) := by decide +kernel
theorem d_La_law_371 : decode code 371 = .ok (.aload_n 0, 1) := by decide +kernel
theorem d_La_law_372 : decode code 372 = .ok (.iload_n 3, 1) := by decide +kernel
theorem d_La_law_373 : decode code 373 = .ok (.iconst 1, 1) := by decide +kernel
theorem d_La_law_374 : decode code 374 = .ok (.iadd, 1) := by decide +kernel
theorem d_La_law_375 : decode code 375 = .ok (.iaload, 1) := by decide +kernel
theorem d_La_law_376 : decode code 376 = .ok (.aload_n 0, 1) := by decide +kernel
theorem d_La_law_377 : decode code 377 = .ok (.iload_n 3, 1) := by decide +kernel
theorem d_La_law_378 : decode code 378 = .ok (.iconst 2, 1) := by decide +kernel
theorem d_La_law_379 : decode code 379 = .ok (.iadd, 1) := by decide +kernel
theorem d_La_law_380 : decode code 380 = .ok (.iaload, 1) := by decide +kernel
theorem d_La_law_381 : decode code 381 = .ok (.aload_n 0, 1) := by decide +kernel
theorem d_La_law_382 : decode code 382 = .ok (.iload_n 3, 1) := by decide +kernel
theorem d_La_law_383 : decode code 383 = .ok (.iconst 3, 1) := by decide +kernel
theorem d_La_law_384 : decode code 384 = .ok (.iadd, 1) := by decide +kernel
theorem d_La_law_385 : decode code 385 = .ok (.iaload, 1) := by decide +kernel
theorem d_La_law_386 : decode code 386 = .ok (.invokevirtual 66, 3) := by decide +kernel
theorem d_La_law_389 : decode code 389 = .ok (.aload_n 2, 1) := by decide +kernel
theorem d_La_law_390 : decode code 390 = .ok (.aload_n 0, 1) := by decide +kernel
theorem d_La_law_391 : decode code 391 = .ok (.iload_n 3, 1) := by decide +kernel
theorem d_La_law_392 : decode code 392 = .ok (.iconst 1, 1) := by decide +kernel
theorem d_La_law_393 : decode code 393 = .ok (.iadd, 1) := by decide +kernel
theorem d_La_law_394 : decode code 394 = .ok (.iaload, 1) := by decide +kernel
theorem d_La_law_395 : decode code 395 = .ok (.aload_n 0, 1) := by decide +kernel
theorem d_La_law_396 : decode code 396 = .ok (.iload_n 3, 1) := by decide +kernel
theorem d_La_law_397 : decode code 397 = .ok (.iconst 2, 1) := by decide +kernel
theorem d_La_law_398 : decode code 398 = .ok (.iadd, 1) := by decide +kernel
theorem d_La_law_399 : decode code 399 = .ok (.iaload, 1) := by decide +kernel
theorem d_La_law_400 : decode code 400 = .ok (.aload_n 0, 1) := by decide +kernel
theorem d_La_law_401 : decode code 401 = .ok (.iload_n 3, 1) := by decide +kernel
theorem d_La_law_402 : decode code 402 = .ok (.iconst 3, 1) := by decide +kernel
theorem d_La_law_403 : decode code 403 = .ok (.iadd, 1) := by decide +kernel
theorem d_La_law_404 : decode code 404 = .ok (.iaload, 1) := by decide +kernel
theorem d_La_law_405 : decode code 405 = .ok (.invokevirtual 69, 3) := by decide +kernel
theorem d_La_law_408 : decode code 408 = .ok (.if_icmp .eq (114), 3) := by decide +kernel
theorem d_La_law_411 : decode code 411 = .ok (.iconst 0, 1) := by decide +kernel
theorem d_La_law_412 : decode code 412 = .ok (.ireturn, 1) := by decide +kernel
theorem d_La_law_413 : decode code 413 = .ok (.aload_n 1, 1) := by decide +kernel
theorem d_La_law_414 : decode code 414 = .ok (.aload_n 0, 1) := by decide +kernel
theorem d_La_law_415 : decode code 415 = .ok (.iload_n 3, 1) := by decide +kernel
theorem d_La_law_416 : decode code 416 = .ok (.iconst 1, 1) := by decide +kernel
theorem d_La_law_417 : decode code 417 = .ok (.iadd, 1) := by decide +kernel
theorem d_La_law_418 : decode code 418 = .ok (.iaload, 1) := by decide +kernel
theorem d_La_law_419 : decode code 419 = .ok (.aload_n 0, 1) := by decide +kernel
theorem d_La_law_420 : decode code 420 = .ok (.iload_n 3, 1) := by decide +kernel
theorem d_La_law_421 : decode code 421 = .ok (.iconst 2, 1) := by decide +kernel
theorem d_La_law_422 : decode code 422 = .ok (.iadd, 1) := by decide +kernel
theorem d_La_law_423 : decode code 423 = .ok (.iaload, 1) := by decide +kernel
theorem d_La_law_424 : decode code 424 = .ok (.invokevirtual 70, 3) := by decide +kernel
theorem d_La_law_427 : decode code 427 = .ok (.aload_n 2, 1) := by decide +kernel
theorem d_La_law_428 : decode code 428 = .ok (.aload_n 0, 1) := by decide +kernel
theorem d_La_law_429 : decode code 429 = .ok (.iload_n 3, 1) := by decide +kernel
theorem d_La_law_430 : decode code 430 = .ok (.iconst 1, 1) := by decide +kernel
theorem d_La_law_431 : decode code 431 = .ok (.iadd, 1) := by decide +kernel
theorem d_La_law_432 : decode code 432 = .ok (.iaload, 1) := by decide +kernel
theorem d_La_law_433 : decode code 433 = .ok (.aload_n 0, 1) := by decide +kernel
theorem d_La_law_434 : decode code 434 = .ok (.iload_n 3, 1) := by decide +kernel
theorem d_La_law_435 : decode code 435 = .ok (.iconst 2, 1) := by decide +kernel
theorem d_La_law_436 : decode code 436 = .ok (.iadd, 1) := by decide +kernel
theorem d_La_law_437 : decode code 437 = .ok (.iaload, 1) := by decide +kernel
theorem d_La_law_438 : decode code 438 = .ok (.invokevirtual 73, 3) := by decide +kernel
theorem d_La_law_441 : decode code 441 = .ok (.if_icmp .eq (81), 3) := by decide +kernel
theorem d_La_law_444 : decode code 444 = .ok (.iconst 0, 1) := by decide +kernel
theorem d_La_law_445 : decode code 445 = .ok (.ireturn, 1) := by decide +kernel
theorem d_La_law_446 : decode code 446 = .ok (.aload_n 1, 1) := by decide +kernel
theorem d_La_law_447 : decode code 447 = .ok (.aload_n 0, 1) := by decide +kernel
theorem d_La_law_448 : decode code 448 = .ok (.iload_n 3, 1) := by decide +kernel
theorem d_La_law_449 : decode code 449 = .ok (.iconst 1, 1) := by decide +kernel
theorem d_La_law_450 : decode code 450 = .ok (.iadd, 1) := by decide +kernel
theorem d_La_law_451 : decode code 451 = .ok (.iaload, 1) := by decide +kernel
theorem d_La_law_452 : decode code 452 = .ok (.aload_n 0, 1) := by decide +kernel
theorem d_La_law_453 : decode code 453 = .ok (.iload_n 3, 1) := by decide +kernel
theorem d_La_law_454 : decode code 454 = .ok (.iconst 2, 1) := by decide +kernel
theorem d_La_law_455 : decode code 455 = .ok (.iadd, 1) := by decide +kernel
theorem d_La_law_456 : decode code 456 = .ok (.iaload, 1) := by decide +kernel
theorem d_La_law_457 : decode code 457 = .ok (.invokevirtual 74, 3) := by decide +kernel
theorem d_La_law_460 : decode code 460 = .ok (.aload_n 2, 1) := by decide +kernel
theorem d_La_law_461 : decode code 461 = .ok (.aload_n 0, 1) := by decide +kernel
theorem d_La_law_462 : decode code 462 = .ok (.iload_n 3, 1) := by decide +kernel
theorem d_La_law_463 : decode code 463 = .ok (.iconst 1, 1) := by decide +kernel
theorem d_La_law_464 : decode code 464 = .ok (.iadd, 1) := by decide +kernel
theorem d_La_law_465 : decode code 465 = .ok (.iaload, 1) := by decide +kernel
theorem d_La_law_466 : decode code 466 = .ok (.aload_n 0, 1) := by decide +kernel
theorem d_La_law_467 : decode code 467 = .ok (.iload_n 3, 1) := by decide +kernel
theorem d_La_law_468 : decode code 468 = .ok (.iconst 2, 1) := by decide +kernel
theorem d_La_law_469 : decode code 469 = .ok (.iadd, 1) := by decide +kernel
theorem d_La_law_470 : decode code 470 = .ok (.iaload, 1) := by decide +kernel
theorem d_La_law_471 : decode code 471 = .ok (.invokevirtual 77, 3) := by decide +kernel
theorem d_La_law_474 : decode code 474 = .ok (.if_icmp .eq (48), 3) := by decide +kernel
theorem d_La_law_477 : decode code 477 = .ok (.iconst 0, 1) := by decide +kernel
theorem d_La_law_478 : decode code 478 = .ok (.ireturn, 1) := by decide +kernel
theorem d_La_law_479 : decode code 479 = .ok (.aload_n 1, 1) := by decide +kernel
theorem d_La_law_480 : decode code 480 = .ok (.aload_n 0, 1) := by decide +kernel
theorem d_La_law_481 : decode code 481 = .ok (.iload_n 3, 1) := by decide +kernel
theorem d_La_law_482 : decode code 482 = .ok (.iconst 1, 1) := by decide +kernel
theorem d_La_law_483 : decode code 483 = .ok (.iadd, 1) := by decide +kernel
theorem d_La_law_484 : decode code 484 = .ok (.iaload, 1) := by decide +kernel
theorem d_La_law_485 : decode code 485 = .ok (.aload_n 0, 1) := by decide +kernel
theorem d_La_law_486 : decode code 486 = .ok (.iload_n 3, 1) := by decide +kernel
theorem d_La_law_487 : decode code 487 = .ok (.iconst 2, 1) := by decide +kernel
theorem d_La_law_488 : decode code 488 = .ok (.iadd, 1) := by decide +kernel
theorem d_La_law_489 : decode code 489 = .ok (.iaload, 1) := by decide +kernel
theorem d_La_law_490 : decode code 490 = .ok (.aload_n 0, 1) := by decide +kernel
theorem d_La_law_491 : decode code 491 = .ok (.iload_n 3, 1) := by decide +kernel
theorem d_La_law_492 : decode code 492 = .ok (.iconst 3, 1) := by decide +kernel
theorem d_La_law_493 : decode code 493 = .ok (.iadd, 1) := by decide +kernel
theorem d_La_law_494 : decode code 494 = .ok (.iaload, 1) := by decide +kernel
theorem d_La_law_495 : decode code 495 = .ok (.invokevirtual 78, 3) := by decide +kernel
theorem d_La_law_498 : decode code 498 = .ok (.aload_n 2, 1) := by decide +kernel
theorem d_La_law_499 : decode code 499 = .ok (.aload_n 0, 1) := by decide +kernel
theorem d_La_law_500 : decode code 500 = .ok (.iload_n 3, 1) := by decide +kernel
theorem d_La_law_501 : decode code 501 = .ok (.iconst 1, 1) := by decide +kernel
theorem d_La_law_502 : decode code 502 = .ok (.iadd, 1) := by decide +kernel
theorem d_La_law_503 : decode code 503 = .ok (.iaload, 1) := by decide +kernel
theorem d_La_law_504 : decode code 504 = .ok (.aload_n 0, 1) := by decide +kernel
theorem d_La_law_505 : decode code 505 = .ok (.iload_n 3, 1) := by decide +kernel
theorem d_La_law_506 : decode code 506 = .ok (.iconst 2, 1) := by decide +kernel
theorem d_La_law_507 : decode code 507 = .ok (.iadd, 1) := by decide +kernel
theorem d_La_law_508 : decode code 508 = .ok (.iaload, 1) := by decide +kernel
theorem d_La_law_509 : decode code 509 = .ok (.aload_n 0, 1) := by decide +kernel
theorem d_La_law_510 : decode code 510 = .ok (.iload_n 3, 1) := by decide +kernel
theorem d_La_law_511 : decode code 511 = .ok (.iconst 3, 1) := by decide +kernel
theorem d_La_law_512 : decode code 512 = .ok (.iadd, 1) := by decide +kernel
theorem d_La_law_513 : decode code 513 = .ok (.iaload, 1) := by decide +kernel
theorem d_La_law_514 : decode code 514 = .ok (.invokevirtual 81, 3) := by decide +kernel
theorem d_La_law_517 : decode code 517 = .ok (.if_icmp .eq (5), 3) := by decide +kernel
theorem d_La_law_520 : decode code 520 = .ok (.iconst 0, 1) := by decide +kernel
theorem d_La_law_521 : decode code 521 = .ok (.ireturn, 1) := by decide +kernel
theorem d_La_law_522 : decode code 522 = .ok (.iinc 3 (4), 3) := by decide +kernel
theorem d_La_law_525 : decode code 525 = .ok (.goto (-497), 3) := by decide +kernel
theorem d_La_law_528 : decode code 528 = .ok (.iconst 1, 1) := by decide +kernel
theorem d_La_law_529 : decode code 529 = .ok (.ireturn, 1) := by decide +kernel
theorem d_La_cell_0 : decode method_2_code 0 = .ok (.iload_n 1, 1) := by decide +kernel
theorem d_La_cell_1 : decode method_2_code 1 = .ok (.aload_n 0, 1) := by decide +kernel
theorem d_La_cell_2 : decode method_2_code 2 = .ok (.arraylength, 1) := by decide +kernel
theorem d_La_cell_3 : decode method_2_code 3 = .ok (.if_icmp .ge (9), 3) := by decide +kernel
theorem d_La_cell_6 : decode method_2_code 6 = .ok (.aload_n 0, 1) := by decide +kernel
theorem d_La_cell_7 : decode method_2_code 7 = .ok (.iload_n 1, 1) := by decide +kernel
theorem d_La_cell_8 : decode method_2_code 8 = .ok (.iaload, 1) := by decide +kernel
theorem d_La_cell_9 : decode method_2_code 9 = .ok (.goto (4), 3) := by decide +kernel
theorem d_La_cell_12 : decode method_2_code 12 = .ok (.iconst 0, 1) := by decide +kernel
theorem d_La_cell_13 : decode method_2_code 13 = .ok (.ireturn, 1) := by decide +kernel
