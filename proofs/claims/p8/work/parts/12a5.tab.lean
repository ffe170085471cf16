/-! ===== code tables (by program), further ===== -/
def mm_fL : Nat → mm_E := fun pc => (bif Nat.ble 353 pc then
  (bif Nat.ble 493 pc then
  (bif Nat.ble 576 pc then
  (bif Nat.ble 613 pc then
  (bif Nat.ble 628 pc then
  (bif Nat.ble 641 pc then
  (bif Nat.ble 648 pc then
  (bif Nat.ble 654 pc then
  (bif Nat.ble 655 pc then (.ireturn, 1, [], [], 0, 0, 0, 655) else (.iconst 1, 1, [], [], 0, 1, 0, 654)) else (bif Nat.ble 651 pc then
  (bif Nat.beq 651 pc then (.goto (-633), 3, [(0, 18)], [], 0, 0, 0, 651) else mm_nop) else (bif Nat.beq 648 pc then (.iinc 3 6, 3, [], [], 3, 6, 0, 648) else mm_nop))) else (bif Nat.ble 644 pc then
  (bif Nat.ble 645 pc then
  (bif Nat.beq 645 pc then (.goto 3, 3, [(0, 648)], [], 0, 0, 0, 645) else mm_nop) else (.pop2, 1, [], [], 0, 0, 0, 644)) else (bif Nat.beq 641 pc then (.invokevirtual 98, 3, [(10, 235)], [[8095, 8096, 8097, 2015]], 0, 0, 0, 641) else mm_nop))) else (bif Nat.ble 635 pc then
  (bif Nat.ble 639 pc then
  (bif Nat.ble 640 pc then (.aload_n 2, 1, [], [], 2, 0, 0, 640) else (.pop2, 1, [], [], 0, 0, 0, 639)) else (bif Nat.ble 636 pc then
  (bif Nat.beq 636 pc then (.invokevirtual 94, 3, [(9, 163)], [[6070, 6071, 6072, 2001]], 0, 0, 0, 636) else mm_nop) else (.aload_n 1, 1, [], [], 1, 0, 0, 635))) else (bif Nat.ble 631 pc then
  (bif Nat.ble 632 pc then
  (bif Nat.beq 632 pc then (.goto 16, 3, [(0, 648)], [], 0, 0, 0, 632) else mm_nop) else (.pop, 1, [], [], 0, 0, 0, 631)) else (bif Nat.beq 628 pc then (.invokevirtual 93, 3, [(10, 233)], [[8091, 8092, 8093, 2015]], 1, 0, 0, 628) else mm_nop)))) else (bif Nat.ble 621 pc then
  (bif Nat.ble 624 pc then
  (bif Nat.ble 626 pc then
  (bif Nat.ble 627 pc then (.iaload, 1, [], [], 0, 0, 0, 627) else (.iadd, 1, [], [], 0, 0, 0, 626)) else (bif Nat.ble 625 pc then (.iconst 1, 1, [], [], 0, 1, 0, 625) else (.iload_n 3, 1, [], [], 3, 0, 0, 624))) else (bif Nat.ble 622 pc then
  (bif Nat.ble 623 pc then (.aload_n 0, 1, [], [], 0, 0, 0, 623) else (.aload_n 2, 1, [], [], 2, 0, 0, 622)) else (.pop, 1, [], [], 0, 0, 0, 621))) else (bif Nat.ble 616 pc then
  (bif Nat.ble 617 pc then
  (bif Nat.ble 618 pc then
  (bif Nat.beq 618 pc then (.invokevirtual 90, 3, [(9, 162)], [[6057, 6058, 6059, 2001]], 1, 0, 0, 618) else mm_nop) else (.iaload, 1, [], [], 0, 0, 0, 617)) else (.iadd, 1, [], [], 0, 0, 0, 616)) else (bif Nat.ble 614 pc then
  (bif Nat.ble 615 pc then (.iconst 1, 1, [], [], 0, 1, 0, 615) else (.iload_n 3, 1, [], [], 3, 0, 0, 614)) else (.aload_n 0, 1, [], [], 0, 0, 0, 613))))) else (bif Nat.ble 593 pc then
  (bif Nat.ble 602 pc then
  (bif Nat.ble 605 pc then
  (bif Nat.ble 609 pc then
  (bif Nat.ble 612 pc then (.aload_n 1, 1, [], [], 1, 0, 0, 612) else (bif Nat.beq 609 pc then (.goto 39, 3, [(0, 648)], [], 0, 0, 0, 609) else mm_nop)) else (bif Nat.ble 608 pc then (.pop, 1, [], [], 0, 0, 0, 608) else (bif Nat.beq 605 pc then (.invokevirtual 89, 3, [(10, 232)], [[8087, 8088, 8089, 2015]], 1, 0, 0, 605) else mm_nop))) else (bif Nat.ble 603 pc then
  (bif Nat.ble 604 pc then (.iaload, 1, [], [], 0, 0, 0, 604) else (.iadd, 1, [], [], 0, 0, 0, 603)) else (.iconst 1, 1, [], [], 0, 1, 0, 602))) else (bif Nat.ble 598 pc then
  (bif Nat.ble 600 pc then
  (bif Nat.ble 601 pc then (.iload_n 3, 1, [], [], 3, 0, 0, 601) else (.aload_n 0, 1, [], [], 0, 0, 0, 600)) else (bif Nat.ble 599 pc then (.aload_n 2, 1, [], [], 2, 0, 0, 599) else (.pop, 1, [], [], 0, 0, 0, 598))) else (bif Nat.ble 594 pc then
  (bif Nat.ble 595 pc then
  (bif Nat.beq 595 pc then (.invokevirtual 86, 3, [(9, 161)], [[6049, 6050, 6051, 2001]], 1, 0, 0, 595) else mm_nop) else (.iaload, 1, [], [], 0, 0, 0, 594)) else (.iadd, 1, [], [], 0, 0, 0, 593)))) else (bif Nat.ble 582 pc then
  (bif Nat.ble 589 pc then
  (bif Nat.ble 591 pc then
  (bif Nat.ble 592 pc then (.iconst 1, 1, [], [], 0, 1, 0, 592) else (.iload_n 3, 1, [], [], 3, 0, 0, 591)) else (bif Nat.ble 590 pc then (.aload_n 0, 1, [], [], 0, 0, 0, 590) else (.aload_n 1, 1, [], [], 1, 0, 0, 589))) else (bif Nat.ble 585 pc then
  (bif Nat.ble 586 pc then
  (bif Nat.beq 586 pc then (.goto 62, 3, [(0, 648)], [], 0, 0, 0, 586) else mm_nop) else (.pop, 1, [], [], 0, 0, 0, 585)) else (bif Nat.beq 582 pc then (.invokevirtual 85, 3, [(10, 231)], [[8083, 8084, 8085, 2015]], 1, 0, 0, 582) else mm_nop))) else (bif Nat.ble 579 pc then
  (bif Nat.ble 580 pc then
  (bif Nat.ble 581 pc then (.iaload, 1, [], [], 0, 0, 0, 581) else (.iadd, 1, [], [], 0, 0, 0, 580)) else (.iconst 1, 1, [], [], 0, 1, 0, 579)) else (bif Nat.ble 577 pc then
  (bif Nat.ble 578 pc then (.iload_n 3, 1, [], [], 3, 0, 0, 578) else (.aload_n 0, 1, [], [], 0, 0, 0, 577)) else (.aload_n 2, 1, [], [], 2, 0, 0, 576)))))) else (bif Nat.ble 531 pc then
  (bif Nat.ble 554 pc then
  (bif Nat.ble 567 pc then
  (bif Nat.ble 570 pc then
  (bif Nat.ble 572 pc then
  (bif Nat.ble 575 pc then (.pop, 1, [], [], 0, 0, 0, 575) else (bif Nat.beq 572 pc then (.invokevirtual 82, 3, [(9, 160)], [[6041, 6042, 6043, 2001]], 1, 0, 0, 572) else mm_nop)) else (bif Nat.ble 571 pc then (.iaload, 1, [], [], 0, 0, 0, 571) else (.iadd, 1, [], [], 0, 0, 0, 570))) else (bif Nat.ble 568 pc then
  (bif Nat.ble 569 pc then (.iconst 1, 1, [], [], 0, 1, 0, 569) else (.iload_n 3, 1, [], [], 3, 0, 0, 568)) else (.aload_n 0, 1, [], [], 0, 0, 0, 567))) else (bif Nat.ble 559 pc then
  (bif Nat.ble 563 pc then
  (bif Nat.ble 566 pc then (.aload_n 1, 1, [], [], 1, 0, 0, 566) else (bif Nat.beq 563 pc then (.goto 85, 3, [(0, 648)], [], 0, 0, 0, 563) else mm_nop)) else (bif Nat.ble 562 pc then (.pop, 1, [], [], 0, 0, 0, 562) else (bif Nat.beq 559 pc then (.invokevirtual 81, 3, [(10, 230)], [[8079, 8080, 8081, 2015]], 0, 0, 0, 559) else mm_nop))) else (bif Nat.ble 557 pc then
  (bif Nat.ble 558 pc then (.aload_n 2, 1, [], [], 2, 0, 0, 558) else (.pop, 1, [], [], 0, 0, 0, 557)) else (bif Nat.beq 554 pc then (.invokevirtual 78, 3, [(9, 159)], [[6037, 6038, 6039, 2001]], 0, 0, 0, 554) else mm_nop)))) else (bif Nat.ble 541 pc then
  (bif Nat.ble 546 pc then
  (bif Nat.ble 550 pc then
  (bif Nat.ble 553 pc then (.aload_n 1, 1, [], [], 1, 0, 0, 553) else (bif Nat.beq 550 pc then (.goto 98, 3, [(0, 648)], [], 0, 0, 0, 550) else mm_nop)) else (bif Nat.ble 549 pc then (.pop, 1, [], [], 0, 0, 0, 549) else (bif Nat.beq 546 pc then (.invokevirtual 77, 3, [(10, 229)], [[8011, 8012, 8013, 2015]], 0, 0, 0, 546) else mm_nop))) else (bif Nat.ble 544 pc then
  (bif Nat.ble 545 pc then (.aload_n 2, 1, [], [], 2, 0, 0, 545) else (.pop, 1, [], [], 0, 0, 0, 544)) else (bif Nat.beq 541 pc then (.invokevirtual 74, 3, [(9, 158)], [[4224, 4225, 4226, 2001]], 0, 0, 0, 541) else mm_nop))) else (bif Nat.ble 536 pc then
  (bif Nat.ble 537 pc then
  (bif Nat.ble 540 pc then (.aload_n 1, 1, [], [], 1, 0, 0, 540) else (bif Nat.beq 537 pc then (.goto 111, 3, [(0, 648)], [], 0, 0, 0, 537) else mm_nop)) else (.pop, 1, [], [], 0, 0, 0, 536)) else (bif Nat.ble 532 pc then
  (bif Nat.ble 533 pc then
  (bif Nat.beq 533 pc then (.invokevirtual 73, 3, [(10, 212)], [[8007, 8008, 8009, 2015]], 0, 0, 0, 533) else mm_nop) else (.aload_n 2, 1, [], [], 2, 0, 0, 532)) else (.pop, 1, [], [], 0, 0, 0, 531))))) else (bif Nat.ble 510 pc then
  (bif Nat.ble 518 pc then
  (bif Nat.ble 523 pc then
  (bif Nat.ble 527 pc then
  (bif Nat.ble 528 pc then
  (bif Nat.beq 528 pc then (.invokevirtual 70, 3, [(9, 157)], [[4216, 4217, 4218, 2001]], 0, 0, 0, 528) else mm_nop) else (.aload_n 1, 1, [], [], 1, 0, 0, 527)) else (bif Nat.ble 524 pc then
  (bif Nat.beq 524 pc then (.goto 124, 3, [(0, 648)], [], 0, 0, 0, 524) else mm_nop) else (.pop, 1, [], [], 0, 0, 0, 523))) else (bif Nat.ble 519 pc then
  (bif Nat.ble 520 pc then
  (bif Nat.beq 520 pc then (.invokevirtual 69, 3, [(10, 211)], [[8003, 8004, 8005, 2015]], 1, 0, 0, 520) else mm_nop) else (.iaload, 1, [], [], 0, 0, 0, 519)) else (.iadd, 1, [], [], 0, 0, 0, 518))) else (bif Nat.ble 515 pc then
  (bif Nat.ble 516 pc then
  (bif Nat.ble 517 pc then (.iconst 1, 1, [], [], 0, 1, 0, 517) else (.iload_n 3, 1, [], [], 3, 0, 0, 516)) else (.aload_n 0, 1, [], [], 0, 0, 0, 515)) else (bif Nat.ble 513 pc then
  (bif Nat.ble 514 pc then (.aload_n 2, 1, [], [], 2, 0, 0, 514) else (.pop, 1, [], [], 0, 0, 0, 513)) else (bif Nat.beq 510 pc then (.invokevirtual 66, 3, [(9, 156)], [[4208, 4209, 4210, 2001]], 1, 0, 0, 510) else mm_nop)))) else (bif Nat.ble 501 pc then
  (bif Nat.ble 506 pc then
  (bif Nat.ble 508 pc then
  (bif Nat.ble 509 pc then (.iaload, 1, [], [], 0, 0, 0, 509) else (.iadd, 1, [], [], 0, 0, 0, 508)) else (bif Nat.ble 507 pc then (.iconst 1, 1, [], [], 0, 1, 0, 507) else (.iload_n 3, 1, [], [], 3, 0, 0, 506))) else (bif Nat.ble 504 pc then
  (bif Nat.ble 505 pc then (.aload_n 0, 1, [], [], 0, 0, 0, 505) else (.aload_n 1, 1, [], [], 1, 0, 0, 504)) else (bif Nat.beq 501 pc then (.goto 147, 3, [(0, 648)], [], 0, 0, 0, 501) else mm_nop))) else (bif Nat.ble 496 pc then
  (bif Nat.ble 497 pc then
  (bif Nat.ble 500 pc then (.pop, 1, [], [], 0, 0, 0, 500) else (bif Nat.beq 497 pc then (.invokevirtual 65, 3, [(10, 210)], [[7239, 8000, 8001, 2015]], 2, 0, 0, 497) else mm_nop)) else (.iaload, 1, [], [], 0, 0, 0, 496)) else (bif Nat.ble 494 pc then
  (bif Nat.ble 495 pc then (.iadd, 1, [], [], 0, 0, 0, 495) else (.iconst 2, 1, [], [], 0, 2, 0, 494)) else (.iload_n 3, 1, [], [], 3, 0, 0, 493))))))) else (bif Nat.ble 420 pc then
  (bif Nat.ble 458 pc then
  (bif Nat.ble 477 pc then
  (bif Nat.ble 486 pc then
  (bif Nat.ble 489 pc then
  (bif Nat.ble 491 pc then
  (bif Nat.ble 492 pc then (.aload_n 0, 1, [], [], 0, 0, 0, 492) else (.iaload, 1, [], [], 0, 0, 0, 491)) else (bif Nat.ble 490 pc then (.iadd, 1, [], [], 0, 0, 0, 490) else (.iconst 1, 1, [], [], 0, 1, 0, 489))) else (bif Nat.ble 487 pc then
  (bif Nat.ble 488 pc then (.iload_n 3, 1, [], [], 3, 0, 0, 488) else (.aload_n 0, 1, [], [], 0, 0, 0, 487)) else (.aload_n 2, 1, [], [], 2, 0, 0, 486))) else (bif Nat.ble 480 pc then
  (bif Nat.ble 482 pc then
  (bif Nat.ble 485 pc then (.pop, 1, [], [], 0, 0, 0, 485) else (bif Nat.beq 482 pc then (.invokevirtual 62, 3, [(9, 155)], [[4199, 4200, 4201, 2001]], 2, 0, 0, 482) else mm_nop)) else (bif Nat.ble 481 pc then (.iaload, 1, [], [], 0, 0, 0, 481) else (.iadd, 1, [], [], 0, 0, 0, 480))) else (bif Nat.ble 478 pc then
  (bif Nat.ble 479 pc then (.iconst 2, 1, [], [], 0, 2, 0, 479) else (.iload_n 3, 1, [], [], 3, 0, 0, 478)) else (.aload_n 0, 1, [], [], 0, 0, 0, 477)))) else (bif Nat.ble 468 pc then
  (bif Nat.ble 473 pc then
  (bif Nat.ble 475 pc then
  (bif Nat.ble 476 pc then (.iaload, 1, [], [], 0, 0, 0, 476) else (.iadd, 1, [], [], 0, 0, 0, 475)) else (bif Nat.ble 474 pc then (.iconst 1, 1, [], [], 0, 1, 0, 474) else (.iload_n 3, 1, [], [], 3, 0, 0, 473))) else (bif Nat.ble 471 pc then
  (bif Nat.ble 472 pc then (.aload_n 0, 1, [], [], 0, 0, 0, 472) else (.aload_n 1, 1, [], [], 1, 0, 0, 471)) else (bif Nat.beq 468 pc then (.goto 180, 3, [(0, 648)], [], 0, 0, 0, 468) else mm_nop))) else (bif Nat.ble 463 pc then
  (bif Nat.ble 464 pc then
  (bif Nat.ble 467 pc then (.pop, 1, [], [], 0, 0, 0, 467) else (bif Nat.beq 464 pc then (.invokevirtual 61, 3, [(10, 209)], [[7210, 7211, 7212, 2015]], 0, 0, 0, 464) else mm_nop)) else (.aload_n 2, 1, [], [], 2, 0, 0, 463)) else (bif Nat.ble 459 pc then
  (bif Nat.ble 462 pc then (.pop, 1, [], [], 0, 0, 0, 462) else (bif Nat.beq 459 pc then (.invokevirtual 58, 3, [(9, 154)], [[4195, 4196, 4197, 2001]], 0, 0, 0, 459) else mm_nop)) else (.aload_n 1, 1, [], [], 1, 0, 0, 458))))) else (bif Nat.ble 435 pc then
  (bif Nat.ble 445 pc then
  (bif Nat.ble 450 pc then
  (bif Nat.ble 454 pc then
  (bif Nat.ble 455 pc then
  (bif Nat.beq 455 pc then (.goto 193, 3, [(0, 648)], [], 0, 0, 0, 455) else mm_nop) else (.pop, 1, [], [], 0, 0, 0, 454)) else (bif Nat.ble 451 pc then
  (bif Nat.beq 451 pc then (.invokevirtual 57, 3, [(10, 202)], [[7198, 7199, 7200, 2015]], 0, 0, 0, 451) else mm_nop) else (.aload_n 2, 1, [], [], 2, 0, 0, 450))) else (bif Nat.ble 446 pc then
  (bif Nat.ble 449 pc then (.pop, 1, [], [], 0, 0, 0, 449) else (bif Nat.beq 446 pc then (.invokevirtual 53, 3, [(9, 153)], [[4191, 4192, 4193, 2001]], 0, 0, 0, 446) else mm_nop)) else (.aload_n 1, 1, [], [], 1, 0, 0, 445))) else (bif Nat.ble 438 pc then
  (bif Nat.ble 441 pc then
  (bif Nat.ble 442 pc then
  (bif Nat.beq 442 pc then (.goto 206, 3, [(0, 648)], [], 0, 0, 0, 442) else mm_nop) else (.pop, 1, [], [], 0, 0, 0, 441)) else (bif Nat.beq 438 pc then (.invokevirtual 52, 3, [(10, 199)], [[7190, 7191, 7192, 2015]], 2, 0, 0, 438) else mm_nop)) else (bif Nat.ble 436 pc then
  (bif Nat.ble 437 pc then (.iaload, 1, [], [], 0, 0, 0, 437) else (.iadd, 1, [], [], 0, 0, 0, 436)) else (.iconst 2, 1, [], [], 0, 2, 0, 435)))) else (bif Nat.ble 428 pc then
  (bif Nat.ble 431 pc then
  (bif Nat.ble 433 pc then
  (bif Nat.ble 434 pc then (.iload_n 3, 1, [], [], 3, 0, 0, 434) else (.aload_n 0, 1, [], [], 0, 0, 0, 433)) else (bif Nat.ble 432 pc then (.iaload, 1, [], [], 0, 0, 0, 432) else (.iadd, 1, [], [], 0, 0, 0, 431))) else (bif Nat.ble 429 pc then
  (bif Nat.ble 430 pc then (.iconst 1, 1, [], [], 0, 1, 0, 430) else (.iload_n 3, 1, [], [], 3, 0, 0, 429)) else (.aload_n 0, 1, [], [], 0, 0, 0, 428))) else (bif Nat.ble 423 pc then
  (bif Nat.ble 426 pc then
  (bif Nat.ble 427 pc then (.aload_n 2, 1, [], [], 2, 0, 0, 427) else (.pop, 1, [], [], 0, 0, 0, 426)) else (bif Nat.beq 423 pc then (.invokevirtual 49, 3, [(9, 152)], [[4186, 4187, 4188, 2001]], 2, 0, 0, 423) else mm_nop)) else (bif Nat.ble 421 pc then
  (bif Nat.ble 422 pc then (.iaload, 1, [], [], 0, 0, 0, 422) else (.iadd, 1, [], [], 0, 0, 0, 421)) else (.iconst 2, 1, [], [], 0, 2, 0, 420)))))) else (bif Nat.ble 387 pc then
  (bif Nat.ble 402 pc then
  (bif Nat.ble 413 pc then
  (bif Nat.ble 416 pc then
  (bif Nat.ble 418 pc then
  (bif Nat.ble 419 pc then (.iload_n 3, 1, [], [], 3, 0, 0, 419) else (.aload_n 0, 1, [], [], 0, 0, 0, 418)) else (bif Nat.ble 417 pc then (.iaload, 1, [], [], 0, 0, 0, 417) else (.iadd, 1, [], [], 0, 0, 0, 416))) else (bif Nat.ble 414 pc then
  (bif Nat.ble 415 pc then (.iconst 1, 1, [], [], 0, 1, 0, 415) else (.iload_n 3, 1, [], [], 3, 0, 0, 414)) else (.aload_n 0, 1, [], [], 0, 0, 0, 413))) else (bif Nat.ble 405 pc then
  (bif Nat.ble 409 pc then
  (bif Nat.ble 412 pc then (.aload_n 1, 1, [], [], 1, 0, 0, 412) else (bif Nat.beq 409 pc then (.goto 239, 3, [(0, 648)], [], 0, 0, 0, 409) else mm_nop)) else (bif Nat.ble 408 pc then (.pop, 1, [], [], 0, 0, 0, 408) else (bif Nat.beq 405 pc then (.invokevirtual 48, 3, [(10, 197)], [[7182, 7183, 7184, 2015]], 1, 0, 0, 405) else mm_nop))) else (bif Nat.ble 403 pc then
  (bif Nat.ble 404 pc then (.iaload, 1, [], [], 0, 0, 0, 404) else (.iadd, 1, [], [], 0, 0, 0, 403)) else (.iconst 1, 1, [], [], 0, 1, 0, 402)))) else (bif Nat.ble 393 pc then
  (bif Nat.ble 398 pc then
  (bif Nat.ble 400 pc then
  (bif Nat.ble 401 pc then (.iload_n 3, 1, [], [], 3, 0, 0, 401) else (.aload_n 0, 1, [], [], 0, 0, 0, 400)) else (bif Nat.ble 399 pc then (.aload_n 2, 1, [], [], 2, 0, 0, 399) else (.pop, 1, [], [], 0, 0, 0, 398))) else (bif Nat.ble 394 pc then
  (bif Nat.ble 395 pc then
  (bif Nat.beq 395 pc then (.invokevirtual 45, 3, [(9, 151)], [[4177, 4178, 4179, 2001]], 1, 0, 0, 395) else mm_nop) else (.iaload, 1, [], [], 0, 0, 0, 394)) else (.iadd, 1, [], [], 0, 0, 0, 393))) else (bif Nat.ble 390 pc then
  (bif Nat.ble 391 pc then
  (bif Nat.ble 392 pc then (.iconst 1, 1, [], [], 0, 1, 0, 392) else (.iload_n 3, 1, [], [], 3, 0, 0, 391)) else (.aload_n 0, 1, [], [], 0, 0, 0, 390)) else (bif Nat.ble 388 pc then
  (bif Nat.ble 389 pc then (.aload_n 1, 1, [], [], 1, 0, 0, 389) else (.ireturn, 1, [], [], 0, 0, 0, 388)) else (.iconst 0, 1, [], [], 0, 0, 0, 387))))) else (bif Nat.ble 370 pc then
  (bif Nat.ble 376 pc then
  (bif Nat.ble 379 pc then
  (bif Nat.ble 381 pc then
  (bif Nat.ble 384 pc then
  (bif Nat.beq 384 pc then (.if_icmp .eq 264, 3, [(0, 648)], [], 0, 0, 0, 384) else mm_nop) else (bif Nat.beq 381 pc then (.invokevirtual 44, 3, [(10, 195)], [[7150, 7151, 7152, 2015]], 2, 0, 0, 381) else mm_nop)) else (bif Nat.ble 380 pc then (.iaload, 1, [], [], 0, 0, 0, 380) else (.iadd, 1, [], [], 0, 0, 0, 379))) else (bif Nat.ble 377 pc then
  (bif Nat.ble 378 pc then (.iconst 2, 1, [], [], 0, 2, 0, 378) else (.iload_n 3, 1, [], [], 3, 0, 0, 377)) else (.aload_n 0, 1, [], [], 0, 0, 0, 376))) else (bif Nat.ble 373 pc then
  (bif Nat.ble 374 pc then
  (bif Nat.ble 375 pc then (.iaload, 1, [], [], 0, 0, 0, 375) else (.iadd, 1, [], [], 0, 0, 0, 374)) else (.iconst 1, 1, [], [], 0, 1, 0, 373)) else (bif Nat.ble 371 pc then
  (bif Nat.ble 372 pc then (.iload_n 3, 1, [], [], 3, 0, 0, 372) else (.aload_n 0, 1, [], [], 0, 0, 0, 371)) else (.aload_n 2, 1, [], [], 2, 0, 0, 370)))) else (bif Nat.ble 361 pc then
  (bif Nat.ble 364 pc then
  (bif Nat.ble 366 pc then
  (bif Nat.ble 367 pc then
  (bif Nat.beq 367 pc then (.invokevirtual 41, 3, [(9, 150)], [[4171, 4172, 4173, 2001]], 2, 0, 0, 367) else mm_nop) else (.iaload, 1, [], [], 0, 0, 0, 366)) else (bif Nat.ble 365 pc then (.iadd, 1, [], [], 0, 0, 0, 365) else (.iconst 2, 1, [], [], 0, 2, 0, 364))) else (bif Nat.ble 362 pc then
  (bif Nat.ble 363 pc then (.iload_n 3, 1, [], [], 3, 0, 0, 363) else (.aload_n 0, 1, [], [], 0, 0, 0, 362)) else (.iaload, 1, [], [], 0, 0, 0, 361))) else (bif Nat.ble 358 pc then
  (bif Nat.ble 359 pc then
  (bif Nat.ble 360 pc then (.iadd, 1, [], [], 0, 0, 0, 360) else (.iconst 1, 1, [], [], 0, 1, 0, 359)) else (.iload_n 3, 1, [], [], 3, 0, 0, 358)) else (bif Nat.ble 356 pc then
  (bif Nat.ble 357 pc then (.aload_n 0, 1, [], [], 0, 0, 0, 357) else (.aload_n 1, 1, [], [], 1, 0, 0, 356)) else (bif Nat.beq 353 pc then (.goto 295, 3, [(0, 648)], [], 0, 0, 0, 353) else mm_nop)))))))) else (bif Nat.ble 230 pc then
  (bif Nat.ble 289 pc then
  (bif Nat.ble 320 pc then
  (bif Nat.ble 337 pc then
  (bif Nat.ble 344 pc then
  (bif Nat.ble 347 pc then
  (bif Nat.ble 349 pc then
  (bif Nat.ble 352 pc then (.pop, 1, [], [], 0, 0, 0, 352) else (bif Nat.beq 349 pc then (.invokevirtual 40, 3, [(10, 191)], [[7142, 7143, 7144, 2015]], 2, 0, 0, 349) else mm_nop)) else (bif Nat.ble 348 pc then (.iaload, 1, [], [], 0, 0, 0, 348) else (.iadd, 1, [], [], 0, 0, 0, 347))) else (bif Nat.ble 345 pc then
  (bif Nat.ble 346 pc then (.iconst 2, 1, [], [], 0, 2, 0, 346) else (.iload_n 3, 1, [], [], 3, 0, 0, 345)) else (.aload_n 0, 1, [], [], 0, 0, 0, 344))) else (bif Nat.ble 340 pc then
  (bif Nat.ble 342 pc then
  (bif Nat.ble 343 pc then (.iaload, 1, [], [], 0, 0, 0, 343) else (.iadd, 1, [], [], 0, 0, 0, 342)) else (bif Nat.ble 341 pc then (.iconst 1, 1, [], [], 0, 1, 0, 341) else (.iload_n 3, 1, [], [], 3, 0, 0, 340))) else (bif Nat.ble 338 pc then
  (bif Nat.ble 339 pc then (.aload_n 0, 1, [], [], 0, 0, 0, 339) else (.aload_n 2, 1, [], [], 2, 0, 0, 338)) else (.pop, 1, [], [], 0, 0, 0, 337)))) else (bif Nat.ble 328 pc then
  (bif Nat.ble 331 pc then
  (bif Nat.ble 333 pc then
  (bif Nat.ble 334 pc then
  (bif Nat.beq 334 pc then (.invokevirtual 37, 3, [(9, 148)], [[4154, 4155, 4156, 2001]], 2, 0, 0, 334) else mm_nop) else (.iaload, 1, [], [], 0, 0, 0, 333)) else (bif Nat.ble 332 pc then (.iadd, 1, [], [], 0, 0, 0, 332) else (.iconst 2, 1, [], [], 0, 2, 0, 331))) else (bif Nat.ble 329 pc then
  (bif Nat.ble 330 pc then (.iload_n 3, 1, [], [], 3, 0, 0, 330) else (.aload_n 0, 1, [], [], 0, 0, 0, 329)) else (.iaload, 1, [], [], 0, 0, 0, 328))) else (bif Nat.ble 325 pc then
  (bif Nat.ble 326 pc then
  (bif Nat.ble 327 pc then (.iadd, 1, [], [], 0, 0, 0, 327) else (.iconst 1, 1, [], [], 0, 1, 0, 326)) else (.iload_n 3, 1, [], [], 3, 0, 0, 325)) else (bif Nat.ble 323 pc then
  (bif Nat.ble 324 pc then (.aload_n 0, 1, [], [], 0, 0, 0, 324) else (.aload_n 1, 1, [], [], 1, 0, 0, 323)) else (bif Nat.beq 320 pc then (.goto 328, 3, [(0, 648)], [], 0, 0, 0, 320) else mm_nop))))) else (bif Nat.ble 304 pc then
  (bif Nat.ble 311 pc then
  (bif Nat.ble 314 pc then
  (bif Nat.ble 316 pc then
  (bif Nat.ble 319 pc then (.pop, 1, [], [], 0, 0, 0, 319) else (bif Nat.beq 316 pc then (.invokevirtual 36, 3, [(10, 190)], [[7134, 7135, 7136, 2015]], 3, 0, 0, 316) else mm_nop)) else (bif Nat.ble 315 pc then (.iaload, 1, [], [], 0, 0, 0, 315) else (.iadd, 1, [], [], 0, 0, 0, 314))) else (bif Nat.ble 312 pc then
  (bif Nat.ble 313 pc then (.iconst 3, 1, [], [], 0, 3, 0, 313) else (.iload_n 3, 1, [], [], 3, 0, 0, 312)) else (.aload_n 0, 1, [], [], 0, 0, 0, 311))) else (bif Nat.ble 307 pc then
  (bif Nat.ble 309 pc then
  (bif Nat.ble 310 pc then (.iaload, 1, [], [], 0, 0, 0, 310) else (.iadd, 1, [], [], 0, 0, 0, 309)) else (bif Nat.ble 308 pc then (.iconst 2, 1, [], [], 0, 2, 0, 308) else (.iload_n 3, 1, [], [], 3, 0, 0, 307))) else (bif Nat.ble 305 pc then
  (bif Nat.ble 306 pc then (.aload_n 0, 1, [], [], 0, 0, 0, 306) else (.iaload, 1, [], [], 0, 0, 0, 305)) else (.iadd, 1, [], [], 0, 0, 0, 304)))) else (bif Nat.ble 295 pc then
  (bif Nat.ble 300 pc then
  (bif Nat.ble 302 pc then
  (bif Nat.ble 303 pc then (.iconst 1, 1, [], [], 0, 1, 0, 303) else (.iload_n 3, 1, [], [], 3, 0, 0, 302)) else (bif Nat.ble 301 pc then (.aload_n 0, 1, [], [], 0, 0, 0, 301) else (.aload_n 2, 1, [], [], 2, 0, 0, 300))) else (bif Nat.ble 296 pc then
  (bif Nat.ble 299 pc then (.pop, 1, [], [], 0, 0, 0, 299) else (bif Nat.beq 296 pc then (.invokevirtual 32, 3, [(9, 147)], [[4141, 4142, 4143, 2001]], 3, 0, 0, 296) else mm_nop)) else (.iaload, 1, [], [], 0, 0, 0, 295))) else (bif Nat.ble 292 pc then
  (bif Nat.ble 293 pc then
  (bif Nat.ble 294 pc then (.iadd, 1, [], [], 0, 0, 0, 294) else (.iconst 3, 1, [], [], 0, 3, 0, 293)) else (.iload_n 3, 1, [], [], 3, 0, 0, 292)) else (bif Nat.ble 290 pc then
  (bif Nat.ble 291 pc then (.aload_n 0, 1, [], [], 0, 0, 0, 291) else (.iaload, 1, [], [], 0, 0, 0, 290)) else (.iadd, 1, [], [], 0, 0, 0, 289)))))) else (bif Nat.ble 258 pc then
  (bif Nat.ble 271 pc then
  (bif Nat.ble 282 pc then
  (bif Nat.ble 285 pc then
  (bif Nat.ble 287 pc then
  (bif Nat.ble 288 pc then (.iconst 2, 1, [], [], 0, 2, 0, 288) else (.iload_n 3, 1, [], [], 3, 0, 0, 287)) else (bif Nat.ble 286 pc then (.aload_n 0, 1, [], [], 0, 0, 0, 286) else (.iaload, 1, [], [], 0, 0, 0, 285))) else (bif Nat.ble 283 pc then
  (bif Nat.ble 284 pc then (.iadd, 1, [], [], 0, 0, 0, 284) else (.iconst 1, 1, [], [], 0, 1, 0, 283)) else (.iload_n 3, 1, [], [], 3, 0, 0, 282))) else (bif Nat.ble 276 pc then
  (bif Nat.ble 280 pc then
  (bif Nat.ble 281 pc then (.aload_n 0, 1, [], [], 0, 0, 0, 281) else (.aload_n 1, 1, [], [], 1, 0, 0, 280)) else (bif Nat.ble 277 pc then
  (bif Nat.beq 277 pc then (.goto 371, 3, [(0, 648)], [], 0, 0, 0, 277) else mm_nop) else (.pop, 1, [], [], 0, 0, 0, 276))) else (bif Nat.ble 272 pc then
  (bif Nat.ble 273 pc then
  (bif Nat.beq 273 pc then (.invokevirtual 31, 3, [(10, 189)], [[7115, 7116, 7117, 2015]], 5, 0, 0, 273) else mm_nop) else (.iaload, 1, [], [], 0, 0, 0, 272)) else (.iadd, 1, [], [], 0, 0, 0, 271)))) else (bif Nat.ble 264 pc then
  (bif Nat.ble 267 pc then
  (bif Nat.ble 269 pc then
  (bif Nat.ble 270 pc then (.iconst 5, 1, [], [], 0, 5, 0, 270) else (.iload_n 3, 1, [], [], 3, 0, 0, 269)) else (bif Nat.ble 268 pc then (.aload_n 0, 1, [], [], 0, 0, 0, 268) else (.iaload, 1, [], [], 0, 0, 0, 267))) else (bif Nat.ble 265 pc then
  (bif Nat.ble 266 pc then (.iadd, 1, [], [], 0, 0, 0, 266) else (.iconst 4, 1, [], [], 0, 4, 0, 265)) else (.iload_n 3, 1, [], [], 3, 0, 0, 264))) else (bif Nat.ble 261 pc then
  (bif Nat.ble 262 pc then
  (bif Nat.ble 263 pc then (.aload_n 0, 1, [], [], 0, 0, 0, 263) else (.iaload, 1, [], [], 0, 0, 0, 262)) else (.iadd, 1, [], [], 0, 0, 0, 261)) else (bif Nat.ble 259 pc then
  (bif Nat.ble 260 pc then (.iconst 3, 1, [], [], 0, 3, 0, 260) else (.iload_n 3, 1, [], [], 3, 0, 0, 259)) else (.aload_n 0, 1, [], [], 0, 0, 0, 258))))) else (bif Nat.ble 243 pc then
  (bif Nat.ble 251 pc then
  (bif Nat.ble 254 pc then
  (bif Nat.ble 256 pc then
  (bif Nat.ble 257 pc then (.iaload, 1, [], [], 0, 0, 0, 257) else (.iadd, 1, [], [], 0, 0, 0, 256)) else (bif Nat.ble 255 pc then (.iconst 2, 1, [], [], 0, 2, 0, 255) else (.iload_n 3, 1, [], [], 3, 0, 0, 254))) else (bif Nat.ble 252 pc then
  (bif Nat.ble 253 pc then (.aload_n 0, 1, [], [], 0, 0, 0, 253) else (.iaload, 1, [], [], 0, 0, 0, 252)) else (.iadd, 1, [], [], 0, 0, 0, 251))) else (bif Nat.ble 248 pc then
  (bif Nat.ble 249 pc then
  (bif Nat.ble 250 pc then (.iconst 1, 1, [], [], 0, 1, 0, 250) else (.iload_n 3, 1, [], [], 3, 0, 0, 249)) else (.aload_n 0, 1, [], [], 0, 0, 0, 248)) else (bif Nat.ble 246 pc then
  (bif Nat.ble 247 pc then (.aload_n 2, 1, [], [], 2, 0, 0, 247) else (.pop, 1, [], [], 0, 0, 0, 246)) else (bif Nat.beq 243 pc then (.invokevirtual 27, 3, [(9, 144)], [[4059, 4060, 4061, 2001]], 5, 0, 0, 243) else mm_nop)))) else (bif Nat.ble 236 pc then
  (bif Nat.ble 239 pc then
  (bif Nat.ble 241 pc then
  (bif Nat.ble 242 pc then (.iaload, 1, [], [], 0, 0, 0, 242) else (.iadd, 1, [], [], 0, 0, 0, 241)) else (bif Nat.ble 240 pc then (.iconst 5, 1, [], [], 0, 5, 0, 240) else (.iload_n 3, 1, [], [], 3, 0, 0, 239))) else (bif Nat.ble 237 pc then
  (bif Nat.ble 238 pc then (.aload_n 0, 1, [], [], 0, 0, 0, 238) else (.iaload, 1, [], [], 0, 0, 0, 237)) else (.iadd, 1, [], [], 0, 0, 0, 236))) else (bif Nat.ble 233 pc then
  (bif Nat.ble 234 pc then
  (bif Nat.ble 235 pc then (.iconst 4, 1, [], [], 0, 4, 0, 235) else (.iload_n 3, 1, [], [], 3, 0, 0, 234)) else (.aload_n 0, 1, [], [], 0, 0, 0, 233)) else (bif Nat.ble 231 pc then
  (bif Nat.ble 232 pc then (.iaload, 1, [], [], 0, 0, 0, 232) else (.iadd, 1, [], [], 0, 0, 0, 231)) else (.iconst 3, 1, [], [], 0, 3, 0, 230))))))) else (bif Nat.ble 165 pc then
  (bif Nat.ble 199 pc then
  (bif Nat.ble 214 pc then
  (bif Nat.ble 223 pc then
  (bif Nat.ble 226 pc then
  (bif Nat.ble 228 pc then
  (bif Nat.ble 229 pc then (.iload_n 3, 1, [], [], 3, 0, 0, 229) else (.aload_n 0, 1, [], [], 0, 0, 0, 228)) else (bif Nat.ble 227 pc then (.iaload, 1, [], [], 0, 0, 0, 227) else (.iadd, 1, [], [], 0, 0, 0, 226))) else (bif Nat.ble 224 pc then
  (bif Nat.ble 225 pc then (.iconst 2, 1, [], [], 0, 2, 0, 225) else (.iload_n 3, 1, [], [], 3, 0, 0, 224)) else (.aload_n 0, 1, [], [], 0, 0, 0, 223))) else (bif Nat.ble 219 pc then
  (bif Nat.ble 221 pc then
  (bif Nat.ble 222 pc then (.iaload, 1, [], [], 0, 0, 0, 222) else (.iadd, 1, [], [], 0, 0, 0, 221)) else (bif Nat.ble 220 pc then (.iconst 1, 1, [], [], 0, 1, 0, 220) else (.iload_n 3, 1, [], [], 3, 0, 0, 219))) else (bif Nat.ble 217 pc then
  (bif Nat.ble 218 pc then (.aload_n 0, 1, [], [], 0, 0, 0, 218) else (.aload_n 1, 1, [], [], 1, 0, 0, 217)) else (bif Nat.beq 214 pc then (.goto 434, 3, [(0, 648)], [], 0, 0, 0, 214) else mm_nop)))) else (bif Nat.ble 205 pc then
  (bif Nat.ble 208 pc then
  (bif Nat.ble 210 pc then
  (bif Nat.ble 213 pc then (.pop, 1, [], [], 0, 0, 0, 213) else (bif Nat.beq 210 pc then (.invokevirtual 26, 3, [(10, 179)], [[7107, 7108, 7109, 2015]], 2, 0, 0, 210) else mm_nop)) else (bif Nat.ble 209 pc then (.iaload, 1, [], [], 0, 0, 0, 209) else (.iadd, 1, [], [], 0, 0, 0, 208))) else (bif Nat.ble 206 pc then
  (bif Nat.ble 207 pc then (.iconst 2, 1, [], [], 0, 2, 0, 207) else (.iload_n 3, 1, [], [], 3, 0, 0, 206)) else (.aload_n 0, 1, [], [], 0, 0, 0, 205))) else (bif Nat.ble 202 pc then
  (bif Nat.ble 203 pc then
  (bif Nat.ble 204 pc then (.iaload, 1, [], [], 0, 0, 0, 204) else (.iadd, 1, [], [], 0, 0, 0, 203)) else (.iconst 1, 1, [], [], 0, 1, 0, 202)) else (bif Nat.ble 200 pc then
  (bif Nat.ble 201 pc then (.iload_n 3, 1, [], [], 3, 0, 0, 201) else (.aload_n 0, 1, [], [], 0, 0, 0, 200)) else (.aload_n 2, 1, [], [], 2, 0, 0, 199))))) else (bif Nat.ble 184 pc then
  (bif Nat.ble 190 pc then
  (bif Nat.ble 193 pc then
  (bif Nat.ble 195 pc then
  (bif Nat.ble 198 pc then (.pop, 1, [], [], 0, 0, 0, 198) else (bif Nat.beq 195 pc then (.invokevirtual 23, 3, [(9, 143)], [[4044, 4045, 4046, 2001]], 2, 0, 0, 195) else mm_nop)) else (bif Nat.ble 194 pc then (.iaload, 1, [], [], 0, 0, 0, 194) else (.iadd, 1, [], [], 0, 0, 0, 193))) else (bif Nat.ble 191 pc then
  (bif Nat.ble 192 pc then (.iconst 2, 1, [], [], 0, 2, 0, 192) else (.iload_n 3, 1, [], [], 3, 0, 0, 191)) else (.aload_n 0, 1, [], [], 0, 0, 0, 190))) else (bif Nat.ble 187 pc then
  (bif Nat.ble 188 pc then
  (bif Nat.ble 189 pc then (.iaload, 1, [], [], 0, 0, 0, 189) else (.iadd, 1, [], [], 0, 0, 0, 188)) else (.iconst 1, 1, [], [], 0, 1, 0, 187)) else (bif Nat.ble 185 pc then
  (bif Nat.ble 186 pc then (.iload_n 3, 1, [], [], 3, 0, 0, 186) else (.aload_n 0, 1, [], [], 0, 0, 0, 185)) else (.aload_n 1, 1, [], [], 1, 0, 0, 184)))) else (bif Nat.ble 173 pc then
  (bif Nat.ble 176 pc then
  (bif Nat.ble 180 pc then
  (bif Nat.ble 181 pc then
  (bif Nat.beq 181 pc then (.goto 467, 3, [(0, 648)], [], 0, 0, 0, 181) else mm_nop) else (.pop, 1, [], [], 0, 0, 0, 180)) else (bif Nat.ble 177 pc then
  (bif Nat.beq 177 pc then (.invokevirtual 22, 3, [(10, 177)], [[7103, 7104, 7105, 2015]], 1, 0, 0, 177) else mm_nop) else (.iaload, 1, [], [], 0, 0, 0, 176))) else (bif Nat.ble 174 pc then
  (bif Nat.ble 175 pc then (.iadd, 1, [], [], 0, 0, 0, 175) else (.iconst 1, 1, [], [], 0, 1, 0, 174)) else (.iload_n 3, 1, [], [], 3, 0, 0, 173))) else (bif Nat.ble 170 pc then
  (bif Nat.ble 171 pc then
  (bif Nat.ble 172 pc then (.aload_n 0, 1, [], [], 0, 0, 0, 172) else (.aload_n 2, 1, [], [], 2, 0, 0, 171)) else (.pop, 1, [], [], 0, 0, 0, 170)) else (bif Nat.ble 166 pc then
  (bif Nat.ble 167 pc then
  (bif Nat.beq 167 pc then (.invokevirtual 18, 3, [(9, 142)], [[4039, 4040, 4041, 2001]], 1, 0, 0, 167) else mm_nop) else (.iaload, 1, [], [], 0, 0, 0, 166)) else (.iadd, 1, [], [], 0, 0, 0, 165)))))) else (bif Nat.ble 132 pc then
  (bif Nat.ble 147 pc then
  (bif Nat.ble 154 pc then
  (bif Nat.ble 161 pc then
  (bif Nat.ble 163 pc then
  (bif Nat.ble 164 pc then (.iconst 1, 1, [], [], 0, 1, 0, 164) else (.iload_n 3, 1, [], [], 3, 0, 0, 163)) else (bif Nat.ble 162 pc then (.aload_n 0, 1, [], [], 0, 0, 0, 162) else (.aload_n 1, 1, [], [], 1, 0, 0, 161))) else (bif Nat.ble 157 pc then
  (bif Nat.ble 158 pc then
  (bif Nat.beq 158 pc then (.goto 490, 3, [(0, 648)], [], 0, 0, 0, 158) else mm_nop) else (.pop, 1, [], [], 0, 0, 0, 157)) else (bif Nat.beq 154 pc then (.invokevirtual 17, 3, [(10, 176)], [[7061, 7062, 7063, 2015]], 2, 0, 0, 154) else mm_nop))) else (bif Nat.ble 150 pc then
  (bif Nat.ble 152 pc then
  (bif Nat.ble 153 pc then (.iaload, 1, [], [], 0, 0, 0, 153) else (.iadd, 1, [], [], 0, 0, 0, 152)) else (bif Nat.ble 151 pc then (.iconst 2, 1, [], [], 0, 2, 0, 151) else (.iload_n 3, 1, [], [], 3, 0, 0, 150))) else (bif Nat.ble 148 pc then
  (bif Nat.ble 149 pc then (.aload_n 0, 1, [], [], 0, 0, 0, 149) else (.iaload, 1, [], [], 0, 0, 0, 148)) else (.iadd, 1, [], [], 0, 0, 0, 147)))) else (bif Nat.ble 138 pc then
  (bif Nat.ble 143 pc then
  (bif Nat.ble 145 pc then
  (bif Nat.ble 146 pc then (.iconst 1, 1, [], [], 0, 1, 0, 146) else (.iload_n 3, 1, [], [], 3, 0, 0, 145)) else (bif Nat.ble 144 pc then (.aload_n 0, 1, [], [], 0, 0, 0, 144) else (.aload_n 2, 1, [], [], 2, 0, 0, 143))) else (bif Nat.ble 139 pc then
  (bif Nat.ble 142 pc then (.pop, 1, [], [], 0, 0, 0, 142) else (bif Nat.beq 139 pc then (.invokevirtual 13, 3, [(9, 141)], [[4024, 4025, 4026, 2001]], 2, 0, 0, 139) else mm_nop)) else (.iaload, 1, [], [], 0, 0, 0, 138))) else (bif Nat.ble 135 pc then
  (bif Nat.ble 136 pc then
  (bif Nat.ble 137 pc then (.iadd, 1, [], [], 0, 0, 0, 137) else (.iconst 2, 1, [], [], 0, 2, 0, 136)) else (.iload_n 3, 1, [], [], 3, 0, 0, 135)) else (bif Nat.ble 133 pc then
  (bif Nat.ble 134 pc then (.aload_n 0, 1, [], [], 0, 0, 0, 134) else (.iaload, 1, [], [], 0, 0, 0, 133)) else (.iadd, 1, [], [], 0, 0, 0, 132))))) else (bif Nat.ble 21 pc then
  (bif Nat.ble 30 pc then
  (bif Nat.ble 128 pc then
  (bif Nat.ble 130 pc then
  (bif Nat.ble 131 pc then (.iconst 1, 1, [], [], 0, 1, 0, 131) else (.iload_n 3, 1, [], [], 3, 0, 0, 130)) else (bif Nat.ble 129 pc then (.aload_n 0, 1, [], [], 0, 0, 0, 129) else (.aload_n 1, 1, [], [], 1, 0, 0, 128))) else (bif Nat.ble 32 pc then
  (bif Nat.ble 33 pc then
  (bif Nat.beq 33 pc then (.tableswitch 615 0 19 #[95, 128, 151, 184, 247, 290, 323, 356, 379, 412, 425, 438, 471, 494, 507, 520, 533, 556, 579, 602], 95, [(0, 648), (0, 128), (1, 161), (2, 184), (3, 217), (4, 280), (5, 323), (6, 356), (7, 389), (8, 412), (9, 445), (10, 458), (11, 471), (12, 504), (13, 527), (14, 540), (15, 553), (16, 566), (17, 589), (18, 612), (19, 635)], [], 0, 0, 0, 33) else mm_nop) else (.iand, 1, [], [], 0, 0, 0, 32)) else (bif Nat.beq 30 pc then (.bipush 31, 2, [], [], 0, 31, 0, 30) else mm_nop))) else (bif Nat.ble 27 pc then
  (bif Nat.ble 28 pc then
  (bif Nat.ble 29 pc then (.iaload, 1, [], [], 0, 0, 0, 29) else (.iload_n 3, 1, [], [], 3, 0, 0, 28)) else (.aload_n 0, 1, [], [], 0, 0, 0, 27)) else (bif Nat.ble 23 pc then
  (bif Nat.ble 24 pc then
  (bif Nat.beq 24 pc then (.if_icmp .gt 630, 3, [(0, 654)], [], 0, 0, 0, 24) else mm_nop) else (.isub, 1, [], [], 0, 0, 0, 23)) else (bif Nat.beq 21 pc then (.bipush 6, 2, [], [], 0, 6, 0, 21) else mm_nop)))) else (bif Nat.ble 12 pc then
  (bif Nat.ble 17 pc then
  (bif Nat.ble 19 pc then
  (bif Nat.ble 20 pc then (.arraylength, 1, [], [], 0, 0, 0, 20) else (.aload_n 0, 1, [], [], 0, 0, 0, 19)) else (bif Nat.ble 18 pc then (.iload_n 3, 1, [], [], 3, 0, 0, 18) else (.istore_n 3, 1, [], [], 3, 0, 0, 17))) else (bif Nat.ble 15 pc then
  (bif Nat.ble 16 pc then (.iconst 0, 1, [], [], 0, 0, 0, 16) else (.astore_n 2, 1, [], [], 2, 0, 0, 15)) else (bif Nat.beq 12 pc then (.invokespecial 12, 3, [(0, 165)], [[6094, 6095, 2015]], 0, 0, 0, 12) else mm_nop))) else (bif Nat.ble 7 pc then
  (bif Nat.ble 8 pc then
  (bif Nat.ble 11 pc then (.dup, 1, [], [], 0, 0, 0, 11) else (bif Nat.beq 8 pc then (.new 10, 3, [(0, 10)], [[6092, 6093, 2015]], 0, 0, 0, 8) else mm_nop)) else (.astore_n 1, 1, [], [], 1, 0, 0, 7)) else (bif Nat.ble 3 pc then
  (bif Nat.ble 4 pc then
  (bif Nat.beq 4 pc then (.invokespecial 9, 3, [(0, 140)], [[2018, 2019, 2001]], 0, 0, 0, 4) else mm_nop) else (.dup, 1, [], [], 0, 0, 0, 3)) else (bif Nat.beq 0 pc then (.new 7, 3, [(0, 9)], [[2016, 2017, 2001]], 0, 0, 0, 0) else mm_nop)))))))))
def mm_kL : List mm_E := (List.range 656).map mm_fL
def mm_ms : List mm_M := [mm_m0, mm_m1, mm_m2, mm_m3, mm_m4, mm_m5, mm_m6, mm_m7, mm_m8, mm_m9, mm_m10, mm_m11, mm_m12, mm_m13, mm_m14, mm_m15, mm_m16, mm_m17, mm_m18, mm_m19, mm_m20, mm_m21, mm_m22, mm_m23, mm_m24, mm_m25, mm_m26, mm_m27, mm_m28, mm_m29, mm_m30, mm_m31, mm_m32, mm_m33, mm_m34, mm_m35, mm_m36, mm_m37, mm_m38, mm_m39, mm_m40, mm_m41, mm_m42, mm_m43, mm_m44, mm_m45, mm_m46, mm_m47, mm_m48, mm_m49, mm_m50, mm_m51, mm_m52, mm_m53, mm_m54, mm_m55, mm_m56, mm_m57, mm_m58, mm_m59, mm_m60, mm_m61, mm_m62, mm_m63, mm_m64, mm_m65, mm_m66, mm_m67, mm_m68, mm_m69, mm_m70, mm_m71, mm_m72, mm_m73, mm_m74, mm_m75, mm_m76, mm_m77, mm_m78, mm_m79, mm_m80, mm_m81, mm_m82, mm_m83, mm_m84, mm_m85, mm_m86, mm_m87, mm_m88, mm_m89, mm_m90, mm_m91, mm_m92, mm_m93, mm_m94, mm_m95, mm_m96, mm_m97, mm_m98, mm_m99, mm_m100, mm_m101, mm_m102, mm_m103, mm_m104, mm_m105, mm_m106, mm_m107, mm_m108, mm_m109, mm_m110, mm_m111, mm_m112, mm_m113, mm_m114, mm_m115, mm_m116, mm_m117, mm_m118, mm_m119, mm_m120, mm_m121, mm_m122, mm_m123, mm_m124, mm_m125, mm_m126, mm_m127, mm_m128, mm_m129, mm_m130, mm_m131, mm_m132, mm_m133, mm_m134, mm_m135, mm_m136, mm_m137, mm_m138, mm_m139, mm_m140, mm_m141, mm_m142, mm_m143, mm_m144, mm_m145, mm_m146, mm_m147, mm_m148, mm_m149, mm_m150, mm_m151, mm_m152, mm_m153, mm_m154, mm_m155, mm_m156, mm_m157, mm_m158, mm_m159, mm_m160, mm_m161, mm_m162, mm_m163, mm_m164, mm_m165, mm_m166, mm_m167, mm_m168, mm_m169, mm_m170, mm_m171, mm_m172, mm_m173, mm_m174, mm_m175, mm_m176, mm_m177, mm_m178, mm_m179, mm_m180, mm_m181, mm_m182, mm_m183, mm_m184, mm_m185, mm_m186, mm_m187, mm_m188, mm_m189, mm_m190, mm_m191, mm_m192, mm_m193, mm_m194, mm_m195, mm_m196, mm_m197, mm_m198, mm_m199, mm_m200, mm_m201, mm_m202, mm_m203, mm_m204, mm_m205, mm_m206, mm_m207, mm_m208, mm_m209, mm_m210, mm_m211, mm_m212, mm_m213, mm_m214, mm_m215, mm_m216, mm_m217, mm_m218, mm_m219, mm_m220, mm_m221, mm_m222, mm_m223, mm_m224, mm_m225, mm_m226, mm_m227, mm_m228, mm_m229, mm_m230, mm_m231, mm_m232, mm_m233, mm_m234, mm_m235, mm_m236]
def mm_ips : List Nat := [2120, 3022, 2068, 2168, 2099, 2209, 2039, 2025, 2184, 2017, 6093]
def mm_cps : List (List Nat) := [[2140, 2142, 2144, 2146, 2148, 2150, 2152, 2154, 2156, 2158, 2160, 2162, 2164], [3033, 3034, 3035, 3036, 3037, 3038, 3039, 3040, 3041, 3042, 3043, 3044, 3029, 3031], [2081, 2083, 2085, 2087, 2089, 2091, 2093, 2095], [2176, 2178, 2180], [2110, 2112, 2114, 2116], [2236, 2238, 3000, 3002, 3004, 3006, 3008, 3010, 3012, 3014, 3016, 3018, 2234], [2051, 2053, 2055, 2057, 2059, 2061, 2063], [2032, 2034], [2195, 2197, 2199, 2201, 2203, 2205], [3239, 4001, 4003, 4005, 4007, 4009, 4011, 4013, 4015, 4017, 4019, 4021], [6165, 6167, 6169, 6171, 6173, 6175, 6177, 6179, 6181, 6183, 6185, 6187, 6189, 6191, 6193, 6195, 6197, 6199, 6201, 6203, 6205, 6207, 6209, 6211, 6213, 6215, 6217, 6219, 6221, 6223, 6225, 6227, 6229, 6231, 6233, 6235, 6237, 6239, 7001, 7003, 7005, 7007, 7009, 7011, 7013, 7015, 7017, 7019, 7021, 7023, 7025, 7027, 7029, 7031, 7033, 7035, 7037, 7039, 7041, 7043, 7045, 7047, 7049, 7051, 7053, 7055, 7057]]
