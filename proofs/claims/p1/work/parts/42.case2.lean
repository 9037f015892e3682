theorem dL_law_429 : decode cL_law 429 = .ok (.aload_n 1, 1) := by decide +kernel
theorem dL_law_430 : decode cL_law 430 = .ok (.aload_n 0, 1) := by decide +kernel
theorem dL_law_431 : decode cL_law 431 = .ok (.iload_n 3, 1) := by decide +kernel
theorem dL_law_432 : decode cL_law 432 = .ok (.iconst 1, 1) := by decide +kernel
theorem dL_law_433 : decode cL_law 433 = .ok (.iadd, 1) := by decide +kernel
theorem dL_law_434 : decode cL_law 434 = .ok (.iaload, 1) := by decide +kernel
theorem dL_law_435 : decode cL_law 435 = .ok (.aload_n 0, 1) := by decide +kernel
theorem dL_law_436 : decode cL_law 436 = .ok (.iload_n 3, 1) := by decide +kernel
theorem dL_law_437 : decode cL_law 437 = .ok (.iconst 2, 1) := by decide +kernel
theorem dL_law_438 : decode cL_law 438 = .ok (.iadd, 1) := by decide +kernel
theorem dL_law_439 : decode cL_law 439 = .ok (.iaload, 1) := by decide +kernel
theorem dL_law_440 : decode cL_law 440 = .ok (.invokevirtual 54, 3) := by decide +kernel
theorem dL_law_443 : decode cL_law 443 = .ok (.aload_n 2, 1) := by decide +kernel
theorem dL_law_444 : decode cL_law 444 = .ok (.aload_n 0, 1) := by decide +kernel
theorem dL_law_445 : decode cL_law 445 = .ok (.iload_n 3, 1) := by decide +kernel
theorem dL_law_446 : decode cL_law 446 = .ok (.iconst 1, 1) := by decide +kernel
theorem dL_law_447 : decode cL_law 447 = .ok (.iadd, 1) := by decide +kernel
theorem dL_law_448 : decode cL_law 448 = .ok (.iaload, 1) := by decide +kernel
theorem dL_law_449 : decode cL_law 449 = .ok (.aload_n 0, 1) := by decide +kernel
theorem dL_law_450 : decode cL_law 450 = .ok (.iload_n 3, 1) := by decide +kernel
theorem dL_law_451 : decode cL_law 451 = .ok (.iconst 2, 1) := by decide +kernel
theorem dL_law_452 : decode cL_law 452 = .ok (.iadd, 1) := by decide +kernel
theorem dL_law_453 : decode cL_law 453 = .ok (.iaload, 1) := by decide +kernel
theorem dL_law_454 : decode cL_law 454 = .ok (.invokevirtual 57, 3) := by decide +kernel
theorem dL_law_457 : decode cL_law 457 = .ok (.if_icmp .eq 526, 3) := by decide +kernel
theorem dL_law_462 : decode cL_law 462 = .ok (.aload_n 1, 1) := by decide +kernel
theorem dL_law_463 : decode cL_law 463 = .ok (.aload_n 0, 1) := by decide +kernel
theorem dL_law_464 : decode cL_law 464 = .ok (.iload_n 3, 1) := by decide +kernel
theorem dL_law_465 : decode cL_law 465 = .ok (.iconst 1, 1) := by decide +kernel
theorem dL_law_466 : decode cL_law 466 = .ok (.iadd, 1) := by decide +kernel
theorem dL_law_467 : decode cL_law 467 = .ok (.iaload, 1) := by decide +kernel
theorem dL_law_468 : decode cL_law 468 = .ok (.aload_n 0, 1) := by decide +kernel
theorem dL_law_469 : decode cL_law 469 = .ok (.iload_n 3, 1) := by decide +kernel
theorem dL_law_470 : decode cL_law 470 = .ok (.iconst 2, 1) := by decide +kernel
theorem dL_law_471 : decode cL_law 471 = .ok (.iadd, 1) := by decide +kernel
theorem dL_law_472 : decode cL_law 472 = .ok (.iaload, 1) := by decide +kernel
theorem dL_law_473 : decode cL_law 473 = .ok (.invokevirtual 58, 3) := by decide +kernel
theorem dL_law_476 : decode cL_law 476 = .ok (.aload_n 2, 1) := by decide +kernel
theorem dL_law_477 : decode cL_law 477 = .ok (.aload_n 0, 1) := by decide +kernel
theorem dL_law_478 : decode cL_law 478 = .ok (.iload_n 3, 1) := by decide +kernel
theorem dL_law_479 : decode cL_law 479 = .ok (.iconst 1, 1) := by decide +kernel
theorem dL_law_480 : decode cL_law 480 = .ok (.iadd, 1) := by decide +kernel
theorem dL_law_481 : decode cL_law 481 = .ok (.iaload, 1) := by decide +kernel
theorem dL_law_482 : decode cL_law 482 = .ok (.aload_n 0, 1) := by decide +kernel
theorem dL_law_483 : decode cL_law 483 = .ok (.iload_n 3, 1) := by decide +kernel
theorem dL_law_484 : decode cL_law 484 = .ok (.iconst 2, 1) := by decide +kernel
theorem dL_law_485 : decode cL_law 485 = .ok (.iadd, 1) := by decide +kernel
theorem dL_law_486 : decode cL_law 486 = .ok (.iaload, 1) := by decide +kernel
theorem dL_law_487 : decode cL_law 487 = .ok (.invokevirtual 61, 3) := by decide +kernel
theorem dL_law_490 : decode cL_law 490 = .ok (.if_icmp .eq 493, 3) := by decide +kernel
theorem dL_law_495 : decode cL_law 495 = .ok (.aload_n 1, 1) := by decide +kernel
theorem dL_law_496 : decode cL_law 496 = .ok (.aload_n 0, 1) := by decide +kernel
theorem dL_law_497 : decode cL_law 497 = .ok (.iload_n 3, 1) := by decide +kernel
theorem dL_law_498 : decode cL_law 498 = .ok (.iconst 1, 1) := by decide +kernel
theorem dL_law_499 : decode cL_law 499 = .ok (.iadd, 1) := by decide +kernel
theorem dL_law_500 : decode cL_law 500 = .ok (.iaload, 1) := by decide +kernel
theorem dL_law_501 : decode cL_law 501 = .ok (.aload_n 0, 1) := by decide +kernel
theorem dL_law_502 : decode cL_law 502 = .ok (.iload_n 3, 1) := by decide +kernel
theorem dL_law_503 : decode cL_law 503 = .ok (.iconst 2, 1) := by decide +kernel
theorem dL_law_504 : decode cL_law 504 = .ok (.iadd, 1) := by decide +kernel
theorem dL_law_505 : decode cL_law 505 = .ok (.iaload, 1) := by decide +kernel
theorem dL_law_506 : decode cL_law 506 = .ok (.aload_n 0, 1) := by decide +kernel
theorem dL_law_507 : decode cL_law 507 = .ok (.iload_n 3, 1) := by decide +kernel
theorem dL_law_508 : decode cL_law 508 = .ok (.iconst 3, 1) := by decide +kernel
theorem dL_law_509 : decode cL_law 509 = .ok (.iadd, 1) := by decide +kernel
theorem dL_law_510 : decode cL_law 510 = .ok (.iaload, 1) := by decide +kernel
theorem dL_law_511 : decode cL_law 511 = .ok (.invokevirtual 62, 3) := by decide +kernel
theorem dL_law_514 : decode cL_law 514 = .ok (.aload_n 2, 1) := by decide +kernel
theorem dL_law_515 : decode cL_law 515 = .ok (.aload_n 0, 1) := by decide +kernel
theorem dL_law_516 : decode cL_law 516 = .ok (.iload_n 3, 1) := by decide +kernel
theorem dL_law_517 : decode cL_law 517 = .ok (.iconst 1, 1) := by decide +kernel
theorem dL_law_518 : decode cL_law 518 = .ok (.iadd, 1) := by decide +kernel
theorem dL_law_519 : decode cL_law 519 = .ok (.iaload, 1) := by decide +kernel
theorem dL_law_520 : decode cL_law 520 = .ok (.aload_n 0, 1) := by decide +kernel
theorem dL_law_521 : decode cL_law 521 = .ok (.iload_n 3, 1) := by decide +kernel
theorem dL_law_522 : decode cL_law 522 = .ok (.iconst 2, 1) := by decide +kernel
theorem dL_law_523 : decode cL_law 523 = .ok (.iadd, 1) := by decide +kernel
theorem dL_law_524 : decode cL_law 524 = .ok (.iaload, 1) := by decide +kernel
theorem dL_law_525 : decode cL_law 525 = .ok (.aload_n 0, 1) := by decide +kernel
theorem dL_law_526 : decode cL_law 526 = .ok (.iload_n 3, 1) := by decide +kernel
theorem dL_law_527 : decode cL_law 527 = .ok (.iconst 3, 1) := by decide +kernel
theorem dL_law_528 : decode cL_law 528 = .ok (.iadd, 1) := by decide +kernel
theorem dL_law_529 : decode cL_law 529 = .ok (.iaload, 1) := by decide +kernel
theorem dL_law_530 : decode cL_law 530 = .ok (.invokevirtual 66, 3) := by decide +kernel
theorem dL_law_533 : decode cL_law 533 = .ok (.if_icmp .eq 450, 3) := by decide +kernel
theorem dL_law_538 : decode cL_law 538 = .ok (.aload_n 1, 1) := by decide +kernel
theorem dL_law_539 : decode cL_law 539 = .ok (.aload_n 0, 1) := by decide +kernel
theorem dL_law_540 : decode cL_law 540 = .ok (.iload_n 3, 1) := by decide +kernel
theorem dL_law_541 : decode cL_law 541 = .ok (.iconst 1, 1) := by decide +kernel
theorem dL_law_542 : decode cL_law 542 = .ok (.iadd, 1) := by decide +kernel
theorem dL_law_543 : decode cL_law 543 = .ok (.iaload, 1) := by decide +kernel
theorem dL_law_544 : decode cL_law 544 = .ok (.aload_n 0, 1) := by decide +kernel
theorem dL_law_545 : decode cL_law 545 = .ok (.iload_n 3, 1) := by decide +kernel
theorem dL_law_546 : decode cL_law 546 = .ok (.iconst 2, 1) := by decide +kernel
theorem dL_law_547 : decode cL_law 547 = .ok (.iadd, 1) := by decide +kernel
theorem dL_law_548 : decode cL_law 548 = .ok (.iaload, 1) := by decide +kernel
theorem dL_law_549 : decode cL_law 549 = .ok (.aload_n 0, 1) := by decide +kernel
theorem dL_law_550 : decode cL_law 550 = .ok (.iload_n 3, 1) := by decide +kernel
theorem dL_law_551 : decode cL_law 551 = .ok (.iconst 3, 1) := by decide +kernel
theorem dL_law_552 : decode cL_law 552 = .ok (.iadd, 1) := by decide +kernel
theorem dL_law_553 : decode cL_law 553 = .ok (.iaload, 1) := by decide +kernel
theorem dL_law_554 : decode cL_law 554 = .ok (.invokevirtual 67, 3) := by decide +kernel
theorem dL_law_557 : decode cL_law 557 = .ok (.aload_n 2, 1) := by decide +kernel
theorem dL_law_558 : decode cL_law 558 = .ok (.aload_n 0, 1) := by decide +kernel
theorem dL_law_559 : decode cL_law 559 = .ok (.iload_n 3, 1) := by decide +kernel
theorem dL_law_560 : decode cL_law 560 = .ok (.iconst 1, 1) := by decide +kernel
theorem dL_law_561 : decode cL_law 561 = .ok (.iadd, 1) := by decide +kernel
theorem dL_law_562 : decode cL_law 562 = .ok (.iaload, 1) := by decide +kernel
theorem dL_law_563 : decode cL_law 563 = .ok (.aload_n 0, 1) := by decide +kernel
theorem dL_law_564 : decode cL_law 564 = .ok (.iload_n 3, 1) := by decide +kernel
theorem dL_law_565 : decode cL_law 565 = .ok (.iconst 2, 1) := by decide +kernel
theorem dL_law_566 : decode cL_law 566 = .ok (.iadd, 1) := by decide +kernel
theorem dL_law_567 : decode cL_law 567 = .ok (.iaload, 1) := by decide +kernel
theorem dL_law_568 : decode cL_law 568 = .ok (.aload_n 0, 1) := by decide +kernel
theorem dL_law_569 : decode cL_law 569 = .ok (.iload_n 3, 1) := by decide +kernel
theorem dL_law_570 : decode cL_law 570 = .ok (.iconst 3, 1) := by decide +kernel
theorem dL_law_571 : decode cL_law 571 = .ok (.iadd, 1) := by decide +kernel
theorem dL_law_572 : decode cL_law 572 = .ok (.iaload, 1) := by decide +kernel
theorem dL_law_573 : decode cL_law 573 = .ok (.invokevirtual 70, 3) := by decide +kernel
theorem dL_law_576 : decode cL_law 576 = .ok (.if_icmp .eq 407, 3) := by decide +kernel
theorem dL_law_581 : decode cL_law 581 = .ok (.aload_n 1, 1) := by decide +kernel
theorem dL_law_582 : decode cL_law 582 = .ok (.aload_n 0, 1) := by decide +kernel
theorem dL_law_583 : decode cL_law 583 = .ok (.iload_n 3, 1) := by decide +kernel
theorem dL_law_584 : decode cL_law 584 = .ok (.iconst 1, 1) := by decide +kernel
theorem dL_law_585 : decode cL_law 585 = .ok (.iadd, 1) := by decide +kernel
theorem dL_law_586 : decode cL_law 586 = .ok (.iaload, 1) := by decide +kernel
theorem dL_law_587 : decode cL_law 587 = .ok (.aload_n 0, 1) := by decide +kernel
theorem dL_law_588 : decode cL_law 588 = .ok (.iload_n 3, 1) := by decide +kernel
theorem dL_law_589 : decode cL_law 589 = .ok (.iconst 2, 1) := by decide +kernel
theorem dL_law_590 : decode cL_law 590 = .ok (.iadd, 1) := by decide +kernel
theorem dL_law_591 : decode cL_law 591 = .ok (.iaload, 1) := by decide +kernel
theorem dL_law_592 : decode cL_law 592 = .ok (.invokevirtual 71, 3) := by decide +kernel
theorem dL_law_595 : decode cL_law 595 = .ok (.aload_n 2, 1) := by decide +kernel
theorem dL_law_596 : decode cL_law 596 = .ok (.aload_n 0, 1) := by decide +kernel
theorem dL_law_597 : decode cL_law 597 = .ok (.iload_n 3, 1) := by decide +kernel
theorem dL_law_598 : decode cL_law 598 = .ok (.iconst 1, 1) := by decide +kernel
theorem dL_law_599 : decode cL_law 599 = .ok (.iadd, 1) := by decide +kernel
theorem dL_law_600 : decode cL_law 600 = .ok (.iaload, 1) := by decide +kernel
theorem dL_law_601 : decode cL_law 601 = .ok (.aload_n 0, 1) := by decide +kernel
theorem dL_law_602 : decode cL_law 602 = .ok (.iload_n 3, 1) := by decide +kernel
theorem dL_law_603 : decode cL_law 603 = .ok (.iconst 2, 1) := by decide +kernel
theorem dL_law_604 : decode cL_law 604 = .ok (.iadd, 1) := by decide +kernel
theorem dL_law_605 : decode cL_law 605 = .ok (.iaload, 1) := by decide +kernel
theorem dL_law_606 : decode cL_law 606 = .ok (.invokevirtual 74, 3) := by decide +kernel
theorem dL_law_609 : decode cL_law 609 = .ok (.if_icmp .eq 374, 3) := by decide +kernel
theorem dL_law_614 : decode cL_law 614 = .ok (.aload_n 1, 1) := by decide +kernel
theorem dL_law_615 : decode cL_law 615 = .ok (.aload_n 0, 1) := by decide +kernel
theorem dL_law_616 : decode cL_law 616 = .ok (.iload_n 3, 1) := by decide +kernel
theorem dL_law_617 : decode cL_law 617 = .ok (.iconst 1, 1) := by decide +kernel
theorem dL_law_618 : decode cL_law 618 = .ok (.iadd, 1) := by decide +kernel
theorem dL_law_619 : decode cL_law 619 = .ok (.iaload, 1) := by decide +kernel
theorem dL_law_620 : decode cL_law 620 = .ok (.invokevirtual 75, 3) := by decide +kernel
theorem dL_law_623 : decode cL_law 623 = .ok (.aload_n 2, 1) := by decide +kernel
theorem dL_law_624 : decode cL_law 624 = .ok (.aload_n 0, 1) := by decide +kernel
theorem dL_law_625 : decode cL_law 625 = .ok (.iload_n 3, 1) := by decide +kernel
theorem dL_law_626 : decode cL_law 626 = .ok (.iconst 1, 1) := by decide +kernel
theorem dL_law_627 : decode cL_law 627 = .ok (.iadd, 1) := by decide +kernel
theorem dL_law_628 : decode cL_law 628 = .ok (.iaload, 1) := by decide +kernel
theorem dL_law_629 : decode cL_law 629 = .ok (.invokevirtual 78, 3) := by decide +kernel
theorem dL_law_632 : decode cL_law 632 = .ok (.if_icmp .eq 351, 3) := by decide +kernel
theorem dL_law_637 : decode cL_law 637 = .ok (.aload_n 1, 1) := by decide +kernel
theorem dL_law_638 : decode cL_law 638 = .ok (.aload_n 0, 1) := by decide +kernel
theorem dL_law_639 : decode cL_law 639 = .ok (.iload_n 3, 1) := by decide +kernel
theorem dL_law_640 : decode cL_law 640 = .ok (.iconst 1, 1) := by decide +kernel
theorem dL_law_641 : decode cL_law 641 = .ok (.iadd, 1) := by decide +kernel
theorem dL_law_642 : decode cL_law 642 = .ok (.iaload, 1) := by decide +kernel
theorem dL_law_643 : decode cL_law 643 = .ok (.aload_n 0, 1) := by decide +kernel
theorem dL_law_644 : decode cL_law 644 = .ok (.iload_n 3, 1) := by decide +kernel
theorem dL_law_645 : decode cL_law 645 = .ok (.iconst 2, 1) := by decide +kernel
theorem dL_law_646 : decode cL_law 646 = .ok (.iadd, 1) := by decide +kernel
theorem dL_law_647 : decode cL_law 647 = .ok (.iaload, 1) := by decide +kernel
theorem dL_law_648 : decode cL_law 648 = .ok (.invokevirtual 79, 3) := by decide +kernel
theorem dL_law_651 : decode cL_law 651 = .ok (.aload_n 2, 1) := by decide +kernel
theorem dL_law_652 : decode cL_law 652 = .ok (.aload_n 0, 1) := by decide +kernel
theorem dL_law_653 : decode cL_law 653 = .ok (.iload_n 3, 1) := by decide +kernel
theorem dL_law_654 : decode cL_law 654 = .ok (.iconst 1, 1) := by decide +kernel
theorem dL_law_655 : decode cL_law 655 = .ok (.iadd, 1) := by decide +kernel
theorem dL_law_656 : decode cL_law 656 = .ok (.iaload, 1) := by decide +kernel
theorem dL_law_657 : decode cL_law 657 = .ok (.aload_n 0, 1) := by decide +kernel
theorem dL_law_658 : decode cL_law 658 = .ok (.iload_n 3, 1) := by decide +kernel
theorem dL_law_659 : decode cL_law 659 = .ok (.iconst 2, 1) := by decide +kernel
theorem dL_law_660 : decode cL_law 660 = .ok (.iadd, 1) := by decide +kernel
theorem dL_law_661 : decode cL_law 661 = .ok (.iaload, 1) := by decide +kernel
theorem dL_law_662 : decode cL_law 662 = .ok (.invokevirtual 82, 3) := by decide +kernel
theorem dL_law_665 : decode cL_law 665 = .ok (.if_icmp .eq 318, 3) := by decide +kernel
theorem dL_law_670 : decode cL_law 670 = .ok (.aload_n 1, 1) := by decide +kernel
theorem dL_law_671 : decode cL_law 671 = .ok (.aload_n 0, 1) := by decide +kernel
theorem dL_law_672 : decode cL_law 672 = .ok (.iload_n 3, 1) := by decide +kernel
theorem dL_law_673 : decode cL_law 673 = .ok (.iconst 1, 1) := by decide +kernel
theorem dL_law_674 : decode cL_law 674 = .ok (.iadd, 1) := by decide +kernel
theorem dL_law_675 : decode cL_law 675 = .ok (.iaload, 1) := by decide +kernel
theorem dL_law_676 : decode cL_law 676 = .ok (.aload_n 0, 1) := by decide +kernel
theorem dL_law_677 : decode cL_law 677 = .ok (.iload_n 3, 1) := by decide +kernel
theorem dL_law_678 : decode cL_law 678 = .ok (.iconst 2, 1) := by decide +kernel
theorem dL_law_679 : decode cL_law 679 = .ok (.iadd, 1) := by decide +kernel
theorem dL_law_680 : decode cL_law 680 = .ok (.iaload, 1) := by decide +kernel
theorem dL_law_681 : decode cL_law 681 = .ok (.invokevirtual 83, 3) := by decide +kernel
theorem dL_law_684 : decode cL_law 684 = .ok (.aload_n 2, 1) := by decide +kernel
theorem dL_law_685 : decode cL_law 685 = .ok (.aload_n 0, 1) := by decide +kernel
theorem dL_law_686 : decode cL_law 686 = .ok (.iload_n 3, 1) := by decide +kernel
theorem dL_law_687 : decode cL_law 687 = .ok (.iconst 1, 1) := by decide +kernel
theorem dL_law_688 : decode cL_law 688 = .ok (.iadd, 1) := by decide +kernel
theorem dL_law_689 : decode cL_law 689 = .ok (.iaload, 1) := by decide +kernel
theorem dL_law_690 : decode cL_law 690 = .ok (.aload_n 0, 1) := by decide +kernel
theorem dL_law_691 : decode cL_law 691 = .ok (.iload_n 3, 1) := by decide +kernel
theorem dL_law_692 : decode cL_law 692 = .ok (.iconst 2, 1) := by decide +kernel
theorem dL_law_693 : decode cL_law 693 = .ok (.iadd, 1) := by decide +kernel
theorem dL_law_694 : decode cL_law 694 = .ok (.iaload, 1) := by decide +kernel
theorem dL_law_695 : decode cL_law 695 = .ok (.invokevirtual 86, 3) := by decide +kernel
theorem dL_law_698 : decode cL_law 698 = .ok (.if_icmp .eq 285, 3) := by decide +kernel
theorem dL_law_703 : decode cL_law 703 = .ok (.aload_n 1, 1) := by decide +kernel
theorem dL_law_704 : decode cL_law 704 = .ok (.aload_n 0, 1) := by decide +kernel
theorem dL_law_705 : decode cL_law 705 = .ok (.iload_n 3, 1) := by decide +kernel
theorem dL_law_706 : decode cL_law 706 = .ok (.iconst 1, 1) := by decide +kernel
theorem dL_law_707 : decode cL_law 707 = .ok (.iadd, 1) := by decide +kernel
theorem dL_law_708 : decode cL_law 708 = .ok (.iaload, 1) := by decide +kernel
theorem dL_law_709 : decode cL_law 709 = .ok (.invokevirtual 87, 3) := by decide +kernel
theorem dL_law_712 : decode cL_law 712 = .ok (.aload_n 2, 1) := by decide +kernel
theorem dL_law_713 : decode cL_law 713 = .ok (.aload_n 0, 1) := by decide +kernel
theorem dL_law_714 : decode cL_law 714 = .ok (.iload_n 3, 1) := by decide +kernel
theorem dL_law_715 : decode cL_law 715 = .ok (.iconst 1, 1) := by decide +kernel
theorem dL_law_716 : decode cL_law 716 = .ok (.iadd, 1) := by decide +kernel
theorem dL_law_717 : decode cL_law 717 = .ok (.iaload, 1) := by decide +kernel
theorem dL_law_718 : decode cL_law 718 = .ok (.invokevirtual 90, 3) := by decide +kernel
theorem dL_law_721 : decode cL_law 721 = .ok (.if_icmp .eq 262, 3) := by decide +kernel
set_option maxHeartbeats 4000000 in
set_option maxRecDepth 100000 in
theorem lc_9 {p : Program} {e : Env} {s : State} {m : MethodId} {below : List Frame} {meth : Method} {c : Code} (l : Launch) {b : Nat} {xs : Nat → Int32} {dC : Nat → ClassId} {dI : Nat → Nat → Nat} {x0 : Nat} {xq_1 : Nat} {xq_20 : Nat} {xq_24 : Nat} {xq_32 : Nat} {xq_36 : Nat} {xq_48 : Nat} {xa_3 : Nat} {xa_5 : Nat} {xa_7 : Nat} {xa_9 : Nat} {xa_11 : Nat} {xq_13 : Nat} {m0 : Nat} {ma_1 : Nat} {ma_3 : Nat} {ma_5 : Nat} {ma_7 : Nat} {ma_9 : Nat} {ma_11 : Nat} {ma_13 : Nat} {ma_15 : Nat} {ma_17 : Nat} {ma_19 : Nat} {ma_21 : Nat} {ma_23 : Nat} {ma_25 : Nat} {ma_27 : Nat} {ma_29 : Nat} {ma_31 : Nat} {ma_33 : Nat} {ma_35 : Nat} {ma_37 : Nat} {ma_39 : Nat} {ma_41 : Nat} {ma_43 : Nat} {ma_45 : Nat} {ma_47 : Nat} {ma_49 : Nat} (C0 : lw_At p s m meth c b 5 xs) {H : Heap} {locs : List Loc} (hK : va_K (dC, dI) vwCl [] s) (hP : va_P (dC, dI) vwCl [(x0, .inr (7, [.ref xq_1, .ref xq_20, .ref xq_24, .ref xq_32, .ref xq_36, .ref xq_48])), (xq_1, .inr (1, [.ref xa_3, .ref xa_5, .ref xa_7, .ref xa_9, .ref xa_11, .ref xq_13, .int 0, .int 0])), (m0, .inr (8, [.ref ma_1, .ref ma_3, .ref ma_5, .ref ma_7, .int 0, .ref ma_9, .ref ma_11, .ref ma_13, .ref ma_15, .ref ma_17, .ref ma_19, .int 0, .ref ma_21, .ref ma_23, .ref ma_25, .ref ma_27, .ref ma_29, .ref ma_31, .int 0, .int 0, .ref ma_33, .int 0, .int 0, .ref ma_35, .ref ma_37, .int 0, .ref ma_39, .ref ma_41, .int 0, .ref ma_43, .ref ma_45, .int 0, .ref ma_47, .ref ma_49, .int 0]))] H) (hD : va_D (fun q : Nat => s.heap.size ≤ q) [(x0, .inr (7, [.ref xq_1, .ref xq_20, .ref xq_24, .ref xq_32, .ref xq_36, .ref xq_48])), (xq_1, .inr (1, [.ref xa_3, .ref xa_5, .ref xa_7, .ref xa_9, .ref xa_11, .ref xq_13, .int 0, .int 0])), (m0, .inr (8, [.ref ma_1, .ref ma_3, .ref ma_5, .ref ma_7, .int 0, .ref ma_9, .ref ma_11, .ref ma_13, .ref ma_15, .ref ma_17, .ref ma_19, .int 0, .ref ma_21, .ref ma_23, .ref ma_25, .ref ma_27, .ref ma_29, .ref ma_31, .int 0, .int 0, .ref ma_33, .int 0, .int 0, .ref ma_35, .ref ma_37, .int 0, .ref ma_39, .ref ma_41, .int 0, .ref ma_43, .ref ma_45, .int 0, .ref ma_47, .ref ma_49, .int 0]))]) (hS : va_S (fun q : Nat => s.heap.size ≤ q) s.heap H locs) (ls : Array Slot) (hl : lv_has ls 4 [(3, .int 0), (2, .ref m0), (1, .ref x0), (0, .ref b)]) : W p l e room_1 s m #[Value.ref b] below meth c H locs 56 3153 (lw_Z below #[Value.ref b] s) (F0 m 429 ls []) := by
  obtain ⟨hx, hb, hr, hml, hown, hts, hX, hbl, hlocks, hgv⟩ := id C0
  have hN := nw_start hts
  have hts : ∀ w ∈ BG, w.before _ s = true := fun w h => hts w (BG_lw h)
  have hown : s.vm.findClass RL = some m.cls := hown
  have hA : ∀ q : Nat, s.heap.size ≤ q → (fun q : Nat => s.heap.size ≤ q) q := fun _ h => h
  have hbA : ¬ (fun q : Nat => s.heap.size ≤ q) b := Nat.not_le.mpr hbl
  refine lv_aload_n hx hb dL_law_429 rfl (lv_at hl 2 rfl) ?_
  refine lv_aload_n hx hb dL_law_430 rfl (lv_at hl 3 rfl) ?_
  refine lv_iload_n hx hb dL_law_431 rfl (lv_at hl 0 rfl) ?_
  refine lv_iconst (v := 1) hx hb dL_law_432 (by decide) ?_
  refine lv_iadd hx hb dL_law_433 ?_
  refine hx_top (y := 1) (by decide) ?_
  refine va_sld hx hb hX hbl hbA hS (show vp_in 1 5 by unfold vp_in; decide) dL_law_434 ?_
  refine hx_top (y := (xs 1)) rfl ?_
  refine lv_aload_n hx hb dL_law_435 rfl (lv_at hl 3 rfl) ?_
  refine lv_iload_n hx hb dL_law_436 rfl (lv_at hl 0 rfl) ?_
  refine lv_iconst (v := 2) hx hb dL_law_437 (by decide) ?_
  refine lv_iadd hx hb dL_law_438 ?_
  refine hx_top (y := 2) (by decide) ?_
  refine va_sld hx hb hX hbl hbA hS (show vp_in 2 5 by unfold vp_in; decide) dL_law_439 ?_
  refine hx_top (y := (xs 2)) rfl ?_
  have hPc := hP.sub (ws' := [(x0, .inr (7, [.ref xq_1, .ref xq_20, .ref xq_24, .ref xq_32, .ref xq_36, .ref xq_48])), (xq_1, .inr (1, [.ref xa_3, .ref xa_5, .ref xa_7, .ref xa_9, .ref xa_11, .ref xq_13, .int 0, .int 0]))]) [0, 1] rfl
  have hDc := hD.sub (ws' := [(x0, .inr (7, [.ref xq_1, .ref xq_20, .ref xq_24, .ref xq_32, .ref xq_36, .ref xq_48])), (xq_1, .inr (1, [.ref xa_3, .ref xa_5, .ref xa_7, .ref xa_9, .ref xa_11, .ref xq_13, .int 0, .int 0]))]) [0, 1] (by decide) rfl
  have hKc := hK.sub (tys' := []) [] rfl
  refine va_calli (va_runV (As := [.int (xs 1), .int (xs 2)]) (rest := []) ⟨hx, hb, hml, hown, hts⟩ (x_drop l dC dI H.size x0 xq_1 (.ref xq_20) (.ref xq_24) (.ref xq_32) (.ref xq_36) (.ref xq_48) (.ref xa_3) (.ref xa_5) (.ref xa_7) (.ref xa_9) (.ref xa_11) (.ref xq_13) (.int 0) (xs 1) (xs 2)) (cwV 2 hts (gV mw_2_128 mw_2_129 mw_2_130 mw_1_1 mw_2_131) rfl rfl rfl (by decide +kernel) ⟨Nat.le_of_ble_eq_true rfl, Nat.le_of_ble_eq_true rfl⟩) ⟨pcW_blind, va_recv hKc hPc (ci := 7) (q0 := 0) rfl rfl, pcW_at hPc hKc hDc hN⟩ rfl rfl hl.1 rfl (lv_room (Nat.le_of_ble_eq_true rfl)) dL_law_440 ⟨Nat.le_of_ble_eq_true rfl, Nat.le_of_ble_eq_true rfl⟩) hS (fun q h1 h2 => absurd h2 (Nat.not_le.mpr h1)) (fun q h => hA q (Nat.le_trans hS.1 h)) (fun r_1 u t H1 locs ht hvm hw_1 hB hz1 hk1 hS => ?_)
  have hP := keepP hP hk1
  clear hz1 hk1 hB ht hvm hPc hDc hKc
  generalize H1 = H at hP hS ⊢
  obtain rfl : r_1 = (-1) := hw_1
  refine lv_aload_n hx hb dL_law_443 rfl (lv_at hl 1 rfl) ?_
  refine lv_aload_n hx hb dL_law_444 rfl (lv_at hl 3 rfl) ?_
  refine lv_iload_n hx hb dL_law_445 rfl (lv_at hl 0 rfl) ?_
  refine lv_iconst (v := 1) hx hb dL_law_446 (by decide) ?_
  refine lv_iadd hx hb dL_law_447 ?_
  refine hx_top (y := 1) (by decide) ?_
  refine va_sld hx hb hX hbl hbA hS (show vp_in 1 5 by unfold vp_in; decide) dL_law_448 ?_
  refine hx_top (y := (xs 1)) rfl ?_
  refine lv_aload_n hx hb dL_law_449 rfl (lv_at hl 3 rfl) ?_
  refine lv_iload_n hx hb dL_law_450 rfl (lv_at hl 0 rfl) ?_
  refine lv_iconst (v := 2) hx hb dL_law_451 (by decide) ?_
  refine lv_iadd hx hb dL_law_452 ?_
  refine hx_top (y := 2) (by decide) ?_
  refine va_sld hx hb hX hbl hbA hS (show vp_in 2 5 by unfold vp_in; decide) dL_law_453 ?_
  refine hx_top (y := (xs 2)) rfl ?_
  have hPc := hP.sub (ws' := [(m0, .inr (8, [.ref ma_1, .ref ma_3, .ref ma_5, .ref ma_7, .int 0, .ref ma_9, .ref ma_11, .ref ma_13, .ref ma_15, .ref ma_17, .ref ma_19, .int 0, .ref ma_21, .ref ma_23, .ref ma_25, .ref ma_27, .ref ma_29, .ref ma_31, .int 0, .int 0, .ref ma_33, .int 0, .int 0, .ref ma_35, .ref ma_37, .int 0, .ref ma_39, .ref ma_41, .int 0, .ref ma_43, .ref ma_45, .int 0, .ref ma_47, .ref ma_49, .int 0]))]) [2] rfl
  have hDc := hD.sub (ws' := [(m0, .inr (8, [.ref ma_1, .ref ma_3, .ref ma_5, .ref ma_7, .int 0, .ref ma_9, .ref ma_11, .ref ma_13, .ref ma_15, .ref ma_17, .ref ma_19, .int 0, .ref ma_21, .ref ma_23, .ref ma_25, .ref ma_27, .ref ma_29, .ref ma_31, .int 0, .int 0, .ref ma_33, .int 0, .int 0, .ref ma_35, .ref ma_37, .int 0, .ref ma_39, .ref ma_41, .int 0, .ref ma_43, .ref ma_45, .int 0, .ref ma_47, .ref ma_49, .int 0]))]) [2] (by decide) rfl
  have hKc := hK.sub (tys' := []) [] rfl
  refine va_calli (va_runV (As := [.int (xs 1), .int (xs 2)]) (rest := [.int (-1)]) ⟨hx, hb, hml, hown, hts⟩ (m_drop l dC dI H.size m0 (.ref ma_1) (.ref ma_3) (.ref ma_5) (.ref ma_7) (.ref ma_9) (.ref ma_11) (.ref ma_13) (.ref ma_15) (.ref ma_17) (.ref ma_19) (.int 0) (.ref ma_21) (.ref ma_23) (.ref ma_25) (.ref ma_27) (.ref ma_29) (.ref ma_31) (.int 0) (.int 0) (.ref ma_33) (.int 0) (.int 0) (.ref ma_35) (.ref ma_37) (.int 0) (.ref ma_39) (.ref ma_41) (.int 0) (.ref ma_43) (.ref ma_45) (.int 0) (.ref ma_47) (.ref ma_49) (.int 0) (xs 1) (xs 2)) (cwV 2 hts (gV mw_4_127 mw_4_128 mw_4_129 mw_1_9 mw_4_130) rfl rfl rfl (by decide +kernel) ⟨Nat.le_of_ble_eq_true rfl, Nat.le_of_ble_eq_true rfl⟩) ⟨pcW_blind, va_recv hKc hPc (ci := 8) (q0 := 0) rfl rfl, pcW_at hPc hKc hDc hN⟩ rfl rfl hl.1 rfl (lv_room (Nat.le_of_ble_eq_true rfl)) dL_law_454 ⟨Nat.le_of_ble_eq_true rfl, Nat.le_of_ble_eq_true rfl⟩) hS (fun q h1 h2 => absurd h2 (Nat.not_le.mpr h1)) (fun q h => hA q (Nat.le_trans hS.1 h)) (fun r_2 u t H1 locs ht hvm hw_2 hB hz1 hk1 hS => ?_)
  have hP := keepP hP hk1
  clear hz1 hk1 hB ht hvm hPc hDc hKc
  generalize H1 = H at hP hS ⊢
  obtain rfl : r_2 = (-1) := hw_2
  refine lv_icmp_eq (tgt := 983) hx hb dL_law_457 (by decide) (fun _ => ?_) (fun h => absurd (by decide) h)
  exact law_end l C0 hS ls (lv_sub hl [0, 3] rfl)
set_option maxHeartbeats 4000000 in
set_option maxRecDepth 100000 in
theorem lc_10 {p : Program} {e : Env} {s : State} {m : MethodId} {below : List Frame} {meth : Method} {c : Code} (l : Launch) {b : Nat} {xs : Nat → Int32} {dC : Nat → ClassId} {dI : Nat → Nat → Nat} {x0 : Nat} {xq_1 : Nat} {xq_20 : Nat} {xq_24 : Nat} {xq_32 : Nat} {xq_36 : Nat} {xq_48 : Nat} {xa_3 : Nat} {xa_5 : Nat} {xa_7 : Nat} {xa_9 : Nat} {xa_11 : Nat} {xq_13 : Nat} {m0 : Nat} {ma_1 : Nat} {ma_3 : Nat} {ma_5 : Nat} {ma_7 : Nat} {ma_9 : Nat} {ma_11 : Nat} {ma_13 : Nat} {ma_15 : Nat} {ma_17 : Nat} {ma_19 : Nat} {ma_21 : Nat} {ma_23 : Nat} {ma_25 : Nat} {ma_27 : Nat} {ma_29 : Nat} {ma_31 : Nat} {ma_33 : Nat} {ma_35 : Nat} {ma_37 : Nat} {ma_39 : Nat} {ma_41 : Nat} {ma_43 : Nat} {ma_45 : Nat} {ma_47 : Nat} {ma_49 : Nat} (C0 : lw_At p s m meth c b 5 xs) {H : Heap} {locs : List Loc} (hK : va_K (dC, dI) vwCl [] s) (hP : va_P (dC, dI) vwCl [(x0, .inr (7, [.ref xq_1, .ref xq_20, .ref xq_24, .ref xq_32, .ref xq_36, .ref xq_48])), (xq_1, .inr (1, [.ref xa_3, .ref xa_5, .ref xa_7, .ref xa_9, .ref xa_11, .ref xq_13, .int 0, .int 0])), (m0, .inr (8, [.ref ma_1, .ref ma_3, .ref ma_5, .ref ma_7, .int 0, .ref ma_9, .ref ma_11, .ref ma_13, .ref ma_15, .ref ma_17, .ref ma_19, .int 0, .ref ma_21, .ref ma_23, .ref ma_25, .ref ma_27, .ref ma_29, .ref ma_31, .int 0, .int 0, .ref ma_33, .int 0, .int 0, .ref ma_35, .ref ma_37, .int 0, .ref ma_39, .ref ma_41, .int 0, .ref ma_43, .ref ma_45, .int 0, .ref ma_47, .ref ma_49, .int 0]))] H) (hD : va_D (fun q : Nat => s.heap.size ≤ q) [(x0, .inr (7, [.ref xq_1, .ref xq_20, .ref xq_24, .ref xq_32, .ref xq_36, .ref xq_48])), (xq_1, .inr (1, [.ref xa_3, .ref xa_5, .ref xa_7, .ref xa_9, .ref xa_11, .ref xq_13, .int 0, .int 0])), (m0, .inr (8, [.ref ma_1, .ref ma_3, .ref ma_5, .ref ma_7, .int 0, .ref ma_9, .ref ma_11, .ref ma_13, .ref ma_15, .ref ma_17, .ref ma_19, .int 0, .ref ma_21, .ref ma_23, .ref ma_25, .ref ma_27, .ref ma_29, .ref ma_31, .int 0, .int 0, .ref ma_33, .int 0, .int 0, .ref ma_35, .ref ma_37, .int 0, .ref ma_39, .ref ma_41, .int 0, .ref ma_43, .ref ma_45, .int 0, .ref ma_47, .ref ma_49, .int 0]))]) (hS : va_S (fun q : Nat => s.heap.size ≤ q) s.heap H locs) (ls : Array Slot) (hl : lv_has ls 4 [(3, .int 0), (2, .ref m0), (1, .ref x0), (0, .ref b)]) : W p l e room_1 s m #[Value.ref b] below meth c H locs 56 3153 (lw_Z below #[Value.ref b] s) (F0 m 462 ls []) := by
  obtain ⟨hx, hb, hr, hml, hown, hts, hX, hbl, hlocks, hgv⟩ := id C0
  have hN := nw_start hts
  have hts : ∀ w ∈ BG, w.before _ s = true := fun w h => hts w (BG_lw h)
  have hown : s.vm.findClass RL = some m.cls := hown
  have hA : ∀ q : Nat, s.heap.size ≤ q → (fun q : Nat => s.heap.size ≤ q) q := fun _ h => h
  have hbA : ¬ (fun q : Nat => s.heap.size ≤ q) b := Nat.not_le.mpr hbl
  refine lv_aload_n hx hb dL_law_462 rfl (lv_at hl 2 rfl) ?_
  refine lv_aload_n hx hb dL_law_463 rfl (lv_at hl 3 rfl) ?_
  refine lv_iload_n hx hb dL_law_464 rfl (lv_at hl 0 rfl) ?_
  refine lv_iconst (v := 1) hx hb dL_law_465 (by decide) ?_
  refine lv_iadd hx hb dL_law_466 ?_
  refine hx_top (y := 1) (by decide) ?_
  refine va_sld hx hb hX hbl hbA hS (show vp_in 1 5 by unfold vp_in; decide) dL_law_467 ?_
  refine hx_top (y := (xs 1)) rfl ?_
  refine lv_aload_n hx hb dL_law_468 rfl (lv_at hl 3 rfl) ?_
  refine lv_iload_n hx hb dL_law_469 rfl (lv_at hl 0 rfl) ?_
  refine lv_iconst (v := 2) hx hb dL_law_470 (by decide) ?_
  refine lv_iadd hx hb dL_law_471 ?_
  refine hx_top (y := 2) (by decide) ?_
  refine va_sld hx hb hX hbl hbA hS (show vp_in 2 5 by unfold vp_in; decide) dL_law_472 ?_
  refine hx_top (y := (xs 2)) rfl ?_
  have hPc := hP.sub (ws' := [(x0, .inr (7, [.ref xq_1, .ref xq_20, .ref xq_24, .ref xq_32, .ref xq_36, .ref xq_48])), (xq_1, .inr (1, [.ref xa_3, .ref xa_5, .ref xa_7, .ref xa_9, .ref xa_11, .ref xq_13, .int 0, .int 0]))]) [0, 1] rfl
  have hDc := hD.sub (ws' := [(x0, .inr (7, [.ref xq_1, .ref xq_20, .ref xq_24, .ref xq_32, .ref xq_36, .ref xq_48])), (xq_1, .inr (1, [.ref xa_3, .ref xa_5, .ref xa_7, .ref xa_9, .ref xa_11, .ref xq_13, .int 0, .int 0]))]) [0, 1] (by decide) rfl
  have hKc := hK.sub (tys' := []) [] rfl
  refine va_calli (va_runV (As := [.int (xs 1), .int (xs 2)]) (rest := []) ⟨hx, hb, hml, hown, hts⟩ (x_answer l dC dI H.size x0 xq_1 (.ref xq_20) (.ref xq_24) (.ref xq_32) (.ref xq_36) (.ref xq_48) (.ref xa_3) (.ref xa_5) (.ref xa_7) (.ref xa_9) (.ref xa_11) (.ref xq_13) (.int 0) (xs 1) (xs 2)) (cwV 2 hts (gV mw_2_136 mw_2_137 mw_2_138 mw_1_1 mw_2_139) rfl rfl rfl (by decide +kernel) ⟨Nat.le_of_ble_eq_true rfl, Nat.le_of_ble_eq_true rfl⟩) ⟨pcW_blind, va_recv hKc hPc (ci := 7) (q0 := 0) rfl rfl, pcW_at hPc hKc hDc hN⟩ rfl rfl hl.1 rfl (lv_room (Nat.le_of_ble_eq_true rfl)) dL_law_473 ⟨Nat.le_of_ble_eq_true rfl, Nat.le_of_ble_eq_true rfl⟩) hS (fun q h1 h2 => absurd h2 (Nat.not_le.mpr h1)) (fun q h => hA q (Nat.le_trans hS.1 h)) (fun r_1 u t H1 locs ht hvm hw_1 hB hz1 hk1 hS => ?_)
  have hP := keepP hP hk1
  clear hz1 hk1 hB ht hvm hPc hDc hKc
  generalize H1 = H at hP hS ⊢
  obtain rfl : r_1 = (-1) := hw_1
  refine lv_aload_n hx hb dL_law_476 rfl (lv_at hl 1 rfl) ?_
  refine lv_aload_n hx hb dL_law_477 rfl (lv_at hl 3 rfl) ?_
  refine lv_iload_n hx hb dL_law_478 rfl (lv_at hl 0 rfl) ?_
  refine lv_iconst (v := 1) hx hb dL_law_479 (by decide) ?_
  refine lv_iadd hx hb dL_law_480 ?_
  refine hx_top (y := 1) (by decide) ?_
  refine va_sld hx hb hX hbl hbA hS (show vp_in 1 5 by unfold vp_in; decide) dL_law_481 ?_
  refine hx_top (y := (xs 1)) rfl ?_
  refine lv_aload_n hx hb dL_law_482 rfl (lv_at hl 3 rfl) ?_
  refine lv_iload_n hx hb dL_law_483 rfl (lv_at hl 0 rfl) ?_
  refine lv_iconst (v := 2) hx hb dL_law_484 (by decide) ?_
  refine lv_iadd hx hb dL_law_485 ?_
  refine hx_top (y := 2) (by decide) ?_
  refine va_sld hx hb hX hbl hbA hS (show vp_in 2 5 by unfold vp_in; decide) dL_law_486 ?_
  refine hx_top (y := (xs 2)) rfl ?_
  have hPc := hP.sub (ws' := [(m0, .inr (8, [.ref ma_1, .ref ma_3, .ref ma_5, .ref ma_7, .int 0, .ref ma_9, .ref ma_11, .ref ma_13, .ref ma_15, .ref ma_17, .ref ma_19, .int 0, .ref ma_21, .ref ma_23, .ref ma_25, .ref ma_27, .ref ma_29, .ref ma_31, .int 0, .int 0, .ref ma_33, .int 0, .int 0, .ref ma_35, .ref ma_37, .int 0, .ref ma_39, .ref ma_41, .int 0, .ref ma_43, .ref ma_45, .int 0, .ref ma_47, .ref ma_49, .int 0]))]) [2] rfl
  have hDc := hD.sub (ws' := [(m0, .inr (8, [.ref ma_1, .ref ma_3, .ref ma_5, .ref ma_7, .int 0, .ref ma_9, .ref ma_11, .ref ma_13, .ref ma_15, .ref ma_17, .ref ma_19, .int 0, .ref ma_21, .ref ma_23, .ref ma_25, .ref ma_27, .ref ma_29, .ref ma_31, .int 0, .int 0, .ref ma_33, .int 0, .int 0, .ref ma_35, .ref ma_37, .int 0, .ref ma_39, .ref ma_41, .int 0, .ref ma_43, .ref ma_45, .int 0, .ref ma_47, .ref ma_49, .int 0]))]) [2] (by decide) rfl
  have hKc := hK.sub (tys' := []) [] rfl
  refine va_calli (va_runV (As := [.int (xs 1), .int (xs 2)]) (rest := [.int (-1)]) ⟨hx, hb, hml, hown, hts⟩ (m_answer l dC dI H.size m0 (.ref ma_1) (.ref ma_3) (.ref ma_5) (.ref ma_7) (.ref ma_9) (.ref ma_11) (.ref ma_13) (.ref ma_15) (.ref ma_17) (.ref ma_19) (.int 0) (.ref ma_21) (.ref ma_23) (.ref ma_25) (.ref ma_27) (.ref ma_29) (.ref ma_31) (.int 0) (.int 0) (.ref ma_33) (.int 0) (.int 0) (.ref ma_35) (.ref ma_37) (.int 0) (.ref ma_39) (.ref ma_41) (.int 0) (.ref ma_43) (.ref ma_45) (.int 0) (.ref ma_47) (.ref ma_49) (.int 0) (xs 1) (xs 2)) (cwV 2 hts (gV mw_4_131 mw_4_132 mw_4_133 mw_1_9 mw_4_134) rfl rfl rfl (by decide +kernel) ⟨Nat.le_of_ble_eq_true rfl, Nat.le_of_ble_eq_true rfl⟩) ⟨pcW_blind, va_recv hKc hPc (ci := 8) (q0 := 0) rfl rfl, pcW_at hPc hKc hDc hN⟩ rfl rfl hl.1 rfl (lv_room (Nat.le_of_ble_eq_true rfl)) dL_law_487 ⟨Nat.le_of_ble_eq_true rfl, Nat.le_of_ble_eq_true rfl⟩) hS (fun q h1 h2 => absurd h2 (Nat.not_le.mpr h1)) (fun q h => hA q (Nat.le_trans hS.1 h)) (fun r_2 u t H1 locs ht hvm hw_2 hB hz1 hk1 hS => ?_)
  have hP := keepP hP hk1
  clear hz1 hk1 hB ht hvm hPc hDc hKc
  generalize H1 = H at hP hS ⊢
  obtain rfl : r_2 = (-1) := hw_2
  refine lv_icmp_eq (tgt := 983) hx hb dL_law_490 (by decide) (fun _ => ?_) (fun h => absurd (by decide) h)
  exact law_end l C0 hS ls (lv_sub hl [0, 3] rfl)
set_option maxHeartbeats 4000000 in
set_option maxRecDepth 100000 in
theorem lc_11 {p : Program} {e : Env} {s : State} {m : MethodId} {below : List Frame} {meth : Method} {c : Code} (l : Launch) {b : Nat} {xs : Nat → Int32} {dC : Nat → ClassId} {dI : Nat → Nat → Nat} {x0 : Nat} {xq_1 : Nat} {xq_20 : Nat} {xq_24 : Nat} {xq_32 : Nat} {xq_36 : Nat} {xq_48 : Nat} {xa_3 : Nat} {xa_5 : Nat} {xa_7 : Nat} {xa_9 : Nat} {xa_11 : Nat} {xq_13 : Nat} {m0 : Nat} {ma_1 : Nat} {ma_3 : Nat} {ma_5 : Nat} {ma_7 : Nat} {ma_9 : Nat} {ma_11 : Nat} {ma_13 : Nat} {ma_15 : Nat} {ma_17 : Nat} {ma_19 : Nat} {ma_21 : Nat} {ma_23 : Nat} {ma_25 : Nat} {ma_27 : Nat} {ma_29 : Nat} {ma_31 : Nat} {ma_33 : Nat} {ma_35 : Nat} {ma_37 : Nat} {ma_39 : Nat} {ma_41 : Nat} {ma_43 : Nat} {ma_45 : Nat} {ma_47 : Nat} {ma_49 : Nat} (C0 : lw_At p s m meth c b 5 xs) {H : Heap} {locs : List Loc} (hK : va_K (dC, dI) vwCl [] s) (hP : va_P (dC, dI) vwCl [(x0, .inr (7, [.ref xq_1, .ref xq_20, .ref xq_24, .ref xq_32, .ref xq_36, .ref xq_48])), (xq_1, .inr (1, [.ref xa_3, .ref xa_5, .ref xa_7, .ref xa_9, .ref xa_11, .ref xq_13, .int 0, .int 0])), (m0, .inr (8, [.ref ma_1, .ref ma_3, .ref ma_5, .ref ma_7, .int 0, .ref ma_9, .ref ma_11, .ref ma_13, .ref ma_15, .ref ma_17, .ref ma_19, .int 0, .ref ma_21, .ref ma_23, .ref ma_25, .ref ma_27, .ref ma_29, .ref ma_31, .int 0, .int 0, .ref ma_33, .int 0, .int 0, .ref ma_35, .ref ma_37, .int 0, .ref ma_39, .ref ma_41, .int 0, .ref ma_43, .ref ma_45, .int 0, .ref ma_47, .ref ma_49, .int 0]))] H) (hD : va_D (fun q : Nat => s.heap.size ≤ q) [(x0, .inr (7, [.ref xq_1, .ref xq_20, .ref xq_24, .ref xq_32, .ref xq_36, .ref xq_48])), (xq_1, .inr (1, [.ref xa_3, .ref xa_5, .ref xa_7, .ref xa_9, .ref xa_11, .ref xq_13, .int 0, .int 0])), (m0, .inr (8, [.ref ma_1, .ref ma_3, .ref ma_5, .ref ma_7, .int 0, .ref ma_9, .ref ma_11, .ref ma_13, .ref ma_15, .ref ma_17, .ref ma_19, .int 0, .ref ma_21, .ref ma_23, .ref ma_25, .ref ma_27, .ref ma_29, .ref ma_31, .int 0, .int 0, .ref ma_33, .int 0, .int 0, .ref ma_35, .ref ma_37, .int 0, .ref ma_39, .ref ma_41, .int 0, .ref ma_43, .ref ma_45, .int 0, .ref ma_47, .ref ma_49, .int 0]))]) (hS : va_S (fun q : Nat => s.heap.size ≤ q) s.heap H locs) (ls : Array Slot) (hl : lv_has ls 4 [(3, .int 0), (2, .ref m0), (1, .ref x0), (0, .ref b)]) : W p l e room_1 s m #[Value.ref b] below meth c H locs 56 3153 (lw_Z below #[Value.ref b] s) (F0 m 495 ls []) := by
  obtain ⟨hx, hb, hr, hml, hown, hts, hX, hbl, hlocks, hgv⟩ := id C0
  have hN := nw_start hts
  have hts : ∀ w ∈ BG, w.before _ s = true := fun w h => hts w (BG_lw h)
  have hown : s.vm.findClass RL = some m.cls := hown
  have hA : ∀ q : Nat, s.heap.size ≤ q → (fun q : Nat => s.heap.size ≤ q) q := fun _ h => h
  have hbA : ¬ (fun q : Nat => s.heap.size ≤ q) b := Nat.not_le.mpr hbl
  refine lv_aload_n hx hb dL_law_495 rfl (lv_at hl 2 rfl) ?_
  refine lv_aload_n hx hb dL_law_496 rfl (lv_at hl 3 rfl) ?_
  refine lv_iload_n hx hb dL_law_497 rfl (lv_at hl 0 rfl) ?_
  refine lv_iconst (v := 1) hx hb dL_law_498 (by decide) ?_
  refine lv_iadd hx hb dL_law_499 ?_
  refine hx_top (y := 1) (by decide) ?_
  refine va_sld hx hb hX hbl hbA hS (show vp_in 1 5 by unfold vp_in; decide) dL_law_500 ?_
  refine hx_top (y := (xs 1)) rfl ?_
  refine lv_aload_n hx hb dL_law_501 rfl (lv_at hl 3 rfl) ?_
  refine lv_iload_n hx hb dL_law_502 rfl (lv_at hl 0 rfl) ?_
  refine lv_iconst (v := 2) hx hb dL_law_503 (by decide) ?_
  refine lv_iadd hx hb dL_law_504 ?_
  refine hx_top (y := 2) (by decide) ?_
  refine va_sld hx hb hX hbl hbA hS (show vp_in 2 5 by unfold vp_in; decide) dL_law_505 ?_
  refine hx_top (y := (xs 2)) rfl ?_
  refine lv_aload_n hx hb dL_law_506 rfl (lv_at hl 3 rfl) ?_
  refine lv_iload_n hx hb dL_law_507 rfl (lv_at hl 0 rfl) ?_
  refine lv_iconst (v := 3) hx hb dL_law_508 (by decide) ?_
  refine lv_iadd hx hb dL_law_509 ?_
  refine hx_top (y := 3) (by decide) ?_
  refine va_sld hx hb hX hbl hbA hS (show vp_in 3 5 by unfold vp_in; decide) dL_law_510 ?_
  refine hx_top (y := (xs 3)) rfl ?_
  have hPc := hP.sub (ws' := [(x0, .inr (7, [.ref xq_1, .ref xq_20, .ref xq_24, .ref xq_32, .ref xq_36, .ref xq_48])), (xq_1, .inr (1, [.ref xa_3, .ref xa_5, .ref xa_7, .ref xa_9, .ref xa_11, .ref xq_13, .int 0, .int 0]))]) [0, 1] rfl
  have hDc := hD.sub (ws' := [(x0, .inr (7, [.ref xq_1, .ref xq_20, .ref xq_24, .ref xq_32, .ref xq_36, .ref xq_48])), (xq_1, .inr (1, [.ref xa_3, .ref xa_5, .ref xa_7, .ref xa_9, .ref xa_11, .ref xq_13, .int 0, .int 0]))]) [0, 1] (by decide) rfl
  have hKc := hK.sub (tys' := []) [] rfl
  refine va_calli (va_runV (As := [.int (xs 1), .int (xs 2), .int (xs 3)]) (rest := []) ⟨hx, hb, hml, hown, hts⟩ (x_next l dC dI H.size x0 xq_1 (.ref xq_20) (.ref xq_24) (.ref xq_32) (.ref xq_36) (.ref xq_48) (.ref xa_3) (.ref xa_5) (.ref xa_7) (.ref xa_9) (.ref xa_11) (.ref xq_13) (.int 0) (xs 1) (xs 2) (xs 3)) (cwV 3 hts (gV mw_2_152 mw_2_153 mw_2_154 mw_1_1 mw_2_155) rfl rfl rfl (by decide +kernel) ⟨Nat.le_of_ble_eq_true rfl, Nat.le_of_ble_eq_true rfl⟩) ⟨pcW_blind, va_recv hKc hPc (ci := 7) (q0 := 0) rfl rfl, pcW_at hPc hKc hDc hN⟩ rfl rfl hl.1 rfl (lv_room (Nat.le_of_ble_eq_true rfl)) dL_law_511 ⟨Nat.le_of_ble_eq_true rfl, Nat.le_of_ble_eq_true rfl⟩) hS (fun q h1 h2 => absurd h2 (Nat.not_le.mpr h1)) (fun q h => hA q (Nat.le_trans hS.1 h)) (fun r_1 u t H1 locs ht hvm hw_1 hB hz1 hk1 hS => ?_)
  have hP := keepP hP hk1
  clear hz1 hk1 hB ht hvm hPc hDc hKc
  generalize H1 = H at hP hS ⊢
  obtain rfl : r_1 = (-1) := hw_1
  refine lv_aload_n hx hb dL_law_514 rfl (lv_at hl 1 rfl) ?_
  refine lv_aload_n hx hb dL_law_515 rfl (lv_at hl 3 rfl) ?_
  refine lv_iload_n hx hb dL_law_516 rfl (lv_at hl 0 rfl) ?_
  refine lv_iconst (v := 1) hx hb dL_law_517 (by decide) ?_
  refine lv_iadd hx hb dL_law_518 ?_
  refine hx_top (y := 1) (by decide) ?_
  refine va_sld hx hb hX hbl hbA hS (show vp_in 1 5 by unfold vp_in; decide) dL_law_519 ?_
  refine hx_top (y := (xs 1)) rfl ?_
  refine lv_aload_n hx hb dL_law_520 rfl (lv_at hl 3 rfl) ?_
  refine lv_iload_n hx hb dL_law_521 rfl (lv_at hl 0 rfl) ?_
  refine lv_iconst (v := 2) hx hb dL_law_522 (by decide) ?_
  refine lv_iadd hx hb dL_law_523 ?_
  refine hx_top (y := 2) (by decide) ?_
  refine va_sld hx hb hX hbl hbA hS (show vp_in 2 5 by unfold vp_in; decide) dL_law_524 ?_
  refine hx_top (y := (xs 2)) rfl ?_
  refine lv_aload_n hx hb dL_law_525 rfl (lv_at hl 3 rfl) ?_
  refine lv_iload_n hx hb dL_law_526 rfl (lv_at hl 0 rfl) ?_
  refine lv_iconst (v := 3) hx hb dL_law_527 (by decide) ?_
  refine lv_iadd hx hb dL_law_528 ?_
  refine hx_top (y := 3) (by decide) ?_
  refine va_sld hx hb hX hbl hbA hS (show vp_in 3 5 by unfold vp_in; decide) dL_law_529 ?_
  refine hx_top (y := (xs 3)) rfl ?_
  have hPc := hP.sub (ws' := [(m0, .inr (8, [.ref ma_1, .ref ma_3, .ref ma_5, .ref ma_7, .int 0, .ref ma_9, .ref ma_11, .ref ma_13, .ref ma_15, .ref ma_17, .ref ma_19, .int 0, .ref ma_21, .ref ma_23, .ref ma_25, .ref ma_27, .ref ma_29, .ref ma_31, .int 0, .int 0, .ref ma_33, .int 0, .int 0, .ref ma_35, .ref ma_37, .int 0, .ref ma_39, .ref ma_41, .int 0, .ref ma_43, .ref ma_45, .int 0, .ref ma_47, .ref ma_49, .int 0]))]) [2] rfl
  have hDc := hD.sub (ws' := [(m0, .inr (8, [.ref ma_1, .ref ma_3, .ref ma_5, .ref ma_7, .int 0, .ref ma_9, .ref ma_11, .ref ma_13, .ref ma_15, .ref ma_17, .ref ma_19, .int 0, .ref ma_21, .ref ma_23, .ref ma_25, .ref ma_27, .ref ma_29, .ref ma_31, .int 0, .int 0, .ref ma_33, .int 0, .int 0, .ref ma_35, .ref ma_37, .int 0, .ref ma_39, .ref ma_41, .int 0, .ref ma_43, .ref ma_45, .int 0, .ref ma_47, .ref ma_49, .int 0]))]) [2] (by decide) rfl
  have hKc := hK.sub (tys' := []) [] rfl
  refine va_calli (va_runV (As := [.int (xs 1), .int (xs 2), .int (xs 3)]) (rest := [.int (-1)]) ⟨hx, hb, hml, hown, hts⟩ (m_next l dC dI H.size m0 (.ref ma_1) (.ref ma_3) (.ref ma_5) (.ref ma_7) (.ref ma_9) (.ref ma_11) (.ref ma_13) (.ref ma_15) (.ref ma_17) (.ref ma_19) (.int 0) (.ref ma_21) (.ref ma_23) (.ref ma_25) (.ref ma_27) (.ref ma_29) (.ref ma_31) (.int 0) (.int 0) (.ref ma_33) (.int 0) (.int 0) (.ref ma_35) (.ref ma_37) (.int 0) (.ref ma_39) (.ref ma_41) (.int 0) (.ref ma_43) (.ref ma_45) (.int 0) (.ref ma_47) (.ref ma_49) (.int 0) (xs 1) (xs 2) (xs 3)) (cwV 3 hts (gV mw_4_143 mw_4_144 mw_4_145 mw_1_9 mw_4_146) rfl rfl rfl (by decide +kernel) ⟨Nat.le_of_ble_eq_true rfl, Nat.le_of_ble_eq_true rfl⟩) ⟨pcW_blind, va_recv hKc hPc (ci := 8) (q0 := 0) rfl rfl, pcW_at hPc hKc hDc hN⟩ rfl rfl hl.1 rfl (lv_room (Nat.le_of_ble_eq_true rfl)) dL_law_530 ⟨Nat.le_of_ble_eq_true rfl, Nat.le_of_ble_eq_true rfl⟩) hS (fun q h1 h2 => absurd h2 (Nat.not_le.mpr h1)) (fun q h => hA q (Nat.le_trans hS.1 h)) (fun r_2 u t H1 locs ht hvm hw_2 hB hz1 hk1 hS => ?_)
  have hP := keepP hP hk1
  clear hz1 hk1 hB ht hvm hPc hDc hKc
  generalize H1 = H at hP hS ⊢
  obtain rfl : r_2 = (-1) := hw_2
  refine lv_icmp_eq (tgt := 983) hx hb dL_law_533 (by decide) (fun _ => ?_) (fun h => absurd (by decide) h)
  exact law_end l C0 hS ls (lv_sub hl [0, 3] rfl)
set_option maxHeartbeats 4000000 in
set_option maxRecDepth 100000 in
theorem lc_12 {p : Program} {e : Env} {s : State} {m : MethodId} {below : List Frame} {meth : Method} {c : Code} (l : Launch) {b : Nat} {xs : Nat → Int32} {dC : Nat → ClassId} {dI : Nat → Nat → Nat} {x0 : Nat} {xq_1 : Nat} {xq_20 : Nat} {xq_24 : Nat} {xq_32 : Nat} {xq_36 : Nat} {xq_48 : Nat} {xa_3 : Nat} {xa_5 : Nat} {xa_7 : Nat} {xa_9 : Nat} {xa_11 : Nat} {xq_13 : Nat} {m0 : Nat} {ma_1 : Nat} {ma_3 : Nat} {ma_5 : Nat} {ma_7 : Nat} {ma_9 : Nat} {ma_11 : Nat} {ma_13 : Nat} {ma_15 : Nat} {ma_17 : Nat} {ma_19 : Nat} {ma_21 : Nat} {ma_23 : Nat} {ma_25 : Nat} {ma_27 : Nat} {ma_29 : Nat} {ma_31 : Nat} {ma_33 : Nat} {ma_35 : Nat} {ma_37 : Nat} {ma_39 : Nat} {ma_41 : Nat} {ma_43 : Nat} {ma_45 : Nat} {ma_47 : Nat} {ma_49 : Nat} (C0 : lw_At p s m meth c b 5 xs) {H : Heap} {locs : List Loc} (hK : va_K (dC, dI) vwCl [] s) (hP : va_P (dC, dI) vwCl [(x0, .inr (7, [.ref xq_1, .ref xq_20, .ref xq_24, .ref xq_32, .ref xq_36, .ref xq_48])), (xq_1, .inr (1, [.ref xa_3, .ref xa_5, .ref xa_7, .ref xa_9, .ref xa_11, .ref xq_13, .int 0, .int 0])), (m0, .inr (8, [.ref ma_1, .ref ma_3, .ref ma_5, .ref ma_7, .int 0, .ref ma_9, .ref ma_11, .ref ma_13, .ref ma_15, .ref ma_17, .ref ma_19, .int 0, .ref ma_21, .ref ma_23, .ref ma_25, .ref ma_27, .ref ma_29, .ref ma_31, .int 0, .int 0, .ref ma_33, .int 0, .int 0, .ref ma_35, .ref ma_37, .int 0, .ref ma_39, .ref ma_41, .int 0, .ref ma_43, .ref ma_45, .int 0, .ref ma_47, .ref ma_49, .int 0]))] H) (hD : va_D (fun q : Nat => s.heap.size ≤ q) [(x0, .inr (7, [.ref xq_1, .ref xq_20, .ref xq_24, .ref xq_32, .ref xq_36, .ref xq_48])), (xq_1, .inr (1, [.ref xa_3, .ref xa_5, .ref xa_7, .ref xa_9, .ref xa_11, .ref xq_13, .int 0, .int 0])), (m0, .inr (8, [.ref ma_1, .ref ma_3, .ref ma_5, .ref ma_7, .int 0, .ref ma_9, .ref ma_11, .ref ma_13, .ref ma_15, .ref ma_17, .ref ma_19, .int 0, .ref ma_21, .ref ma_23, .ref ma_25, .ref ma_27, .ref ma_29, .ref ma_31, .int 0, .int 0, .ref ma_33, .int 0, .int 0, .ref ma_35, .ref ma_37, .int 0, .ref ma_39, .ref ma_41, .int 0, .ref ma_43, .ref ma_45, .int 0, .ref ma_47, .ref ma_49, .int 0]))]) (hS : va_S (fun q : Nat => s.heap.size ≤ q) s.heap H locs) (ls : Array Slot) (hl : lv_has ls 4 [(3, .int 0), (2, .ref m0), (1, .ref x0), (0, .ref b)]) : W p l e room_1 s m #[Value.ref b] below meth c H locs 56 3153 (lw_Z below #[Value.ref b] s) (F0 m 538 ls []) := by
  obtain ⟨hx, hb, hr, hml, hown, hts, hX, hbl, hlocks, hgv⟩ := id C0
  have hN := nw_start hts
  have hts : ∀ w ∈ BG, w.before _ s = true := fun w h => hts w (BG_lw h)
  have hown : s.vm.findClass RL = some m.cls := hown
  have hA : ∀ q : Nat, s.heap.size ≤ q → (fun q : Nat => s.heap.size ≤ q) q := fun _ h => h
  have hbA : ¬ (fun q : Nat => s.heap.size ≤ q) b := Nat.not_le.mpr hbl
  refine lv_aload_n hx hb dL_law_538 rfl (lv_at hl 2 rfl) ?_
  refine lv_aload_n hx hb dL_law_539 rfl (lv_at hl 3 rfl) ?_
  refine lv_iload_n hx hb dL_law_540 rfl (lv_at hl 0 rfl) ?_
  refine lv_iconst (v := 1) hx hb dL_law_541 (by decide) ?_
  refine lv_iadd hx hb dL_law_542 ?_
  refine hx_top (y := 1) (by decide) ?_
  refine va_sld hx hb hX hbl hbA hS (show vp_in 1 5 by unfold vp_in; decide) dL_law_543 ?_
  refine hx_top (y := (xs 1)) rfl ?_
  refine lv_aload_n hx hb dL_law_544 rfl (lv_at hl 3 rfl) ?_
  refine lv_iload_n hx hb dL_law_545 rfl (lv_at hl 0 rfl) ?_
  refine lv_iconst (v := 2) hx hb dL_law_546 (by decide) ?_
  refine lv_iadd hx hb dL_law_547 ?_
  refine hx_top (y := 2) (by decide) ?_
  refine va_sld hx hb hX hbl hbA hS (show vp_in 2 5 by unfold vp_in; decide) dL_law_548 ?_
  refine hx_top (y := (xs 2)) rfl ?_
  refine lv_aload_n hx hb dL_law_549 rfl (lv_at hl 3 rfl) ?_
  refine lv_iload_n hx hb dL_law_550 rfl (lv_at hl 0 rfl) ?_
  refine lv_iconst (v := 3) hx hb dL_law_551 (by decide) ?_
  refine lv_iadd hx hb dL_law_552 ?_
  refine hx_top (y := 3) (by decide) ?_
  refine va_sld hx hb hX hbl hbA hS (show vp_in 3 5 by unfold vp_in; decide) dL_law_553 ?_
  refine hx_top (y := (xs 3)) rfl ?_
  have hPc := hP.sub (ws' := [(x0, .inr (7, [.ref xq_1, .ref xq_20, .ref xq_24, .ref xq_32, .ref xq_36, .ref xq_48])), (xq_1, .inr (1, [.ref xa_3, .ref xa_5, .ref xa_7, .ref xa_9, .ref xa_11, .ref xq_13, .int 0, .int 0]))]) [0, 1] rfl
  have hDc := hD.sub (ws' := [(x0, .inr (7, [.ref xq_1, .ref xq_20, .ref xq_24, .ref xq_32, .ref xq_36, .ref xq_48])), (xq_1, .inr (1, [.ref xa_3, .ref xa_5, .ref xa_7, .ref xa_9, .ref xa_11, .ref xq_13, .int 0, .int 0]))]) [0, 1] (by decide) rfl
  have hKc := hK.sub (tys' := []) [] rfl
  refine va_calli (va_runV (As := [.int (xs 1), .int (xs 2), .int (xs 3)]) (rest := []) ⟨hx, hb, hml, hown, hts⟩ (x_run l dC dI H.size x0 xq_1 (.ref xq_20) (.ref xq_24) (.ref xq_32) (.ref xq_36) (.ref xq_48) (.ref xa_3) (.ref xa_5) (.ref xa_7) (.ref xa_9) (.ref xa_11) (.ref xq_13) (.int 0) (xs 1) (xs 2) (xs 3)) (cwV 3 hts (gV mw_2_157 mw_2_158 mw_2_159 mw_1_1 mw_2_160) rfl rfl rfl (by decide +kernel) ⟨Nat.le_of_ble_eq_true rfl, Nat.le_of_ble_eq_true rfl⟩) ⟨pcW_blind, va_recv hKc hPc (ci := 7) (q0 := 0) rfl rfl, pcW_at hPc hKc hDc hN⟩ rfl rfl hl.1 rfl (lv_room (Nat.le_of_ble_eq_true rfl)) dL_law_554 ⟨Nat.le_of_ble_eq_true rfl, Nat.le_of_ble_eq_true rfl⟩) hS (fun q h1 h2 => absurd h2 (Nat.not_le.mpr h1)) (fun q h => hA q (Nat.le_trans hS.1 h)) (fun r_1 u t H1 locs ht hvm hw_1 hB hz1 hk1 hS => ?_)
  have hP := keepP hP hk1
  clear hz1 hk1 hB ht hvm hPc hDc hKc
  generalize H1 = H at hP hS ⊢
  obtain rfl : r_1 = (-1) := hw_1
  refine lv_aload_n hx hb dL_law_557 rfl (lv_at hl 1 rfl) ?_
  refine lv_aload_n hx hb dL_law_558 rfl (lv_at hl 3 rfl) ?_
  refine lv_iload_n hx hb dL_law_559 rfl (lv_at hl 0 rfl) ?_
  refine lv_iconst (v := 1) hx hb dL_law_560 (by decide) ?_
  refine lv_iadd hx hb dL_law_561 ?_
  refine hx_top (y := 1) (by decide) ?_
  refine va_sld hx hb hX hbl hbA hS (show vp_in 1 5 by unfold vp_in; decide) dL_law_562 ?_
  refine hx_top (y := (xs 1)) rfl ?_
  refine lv_aload_n hx hb dL_law_563 rfl (lv_at hl 3 rfl) ?_
  refine lv_iload_n hx hb dL_law_564 rfl (lv_at hl 0 rfl) ?_
  refine lv_iconst (v := 2) hx hb dL_law_565 (by decide) ?_
  refine lv_iadd hx hb dL_law_566 ?_
  refine hx_top (y := 2) (by decide) ?_
  refine va_sld hx hb hX hbl hbA hS (show vp_in 2 5 by unfold vp_in; decide) dL_law_567 ?_
  refine hx_top (y := (xs 2)) rfl ?_
  refine lv_aload_n hx hb dL_law_568 rfl (lv_at hl 3 rfl) ?_
  refine lv_iload_n hx hb dL_law_569 rfl (lv_at hl 0 rfl) ?_
  refine lv_iconst (v := 3) hx hb dL_law_570 (by decide) ?_
  refine lv_iadd hx hb dL_law_571 ?_
  refine hx_top (y := 3) (by decide) ?_
  refine va_sld hx hb hX hbl hbA hS (show vp_in 3 5 by unfold vp_in; decide) dL_law_572 ?_
  refine hx_top (y := (xs 3)) rfl ?_
  have hPc := hP.sub (ws' := [(m0, .inr (8, [.ref ma_1, .ref ma_3, .ref ma_5, .ref ma_7, .int 0, .ref ma_9, .ref ma_11, .ref ma_13, .ref ma_15, .ref ma_17, .ref ma_19, .int 0, .ref ma_21, .ref ma_23, .ref ma_25, .ref ma_27, .ref ma_29, .ref ma_31, .int 0, .int 0, .ref ma_33, .int 0, .int 0, .ref ma_35, .ref ma_37, .int 0, .ref ma_39, .ref ma_41, .int 0, .ref ma_43, .ref ma_45, .int 0, .ref ma_47, .ref ma_49, .int 0]))]) [2] rfl
  have hDc := hD.sub (ws' := [(m0, .inr (8, [.ref ma_1, .ref ma_3, .ref ma_5, .ref ma_7, .int 0, .ref ma_9, .ref ma_11, .ref ma_13, .ref ma_15, .ref ma_17, .ref ma_19, .int 0, .ref ma_21, .ref ma_23, .ref ma_25, .ref ma_27, .ref ma_29, .ref ma_31, .int 0, .int 0, .ref ma_33, .int 0, .int 0, .ref ma_35, .ref ma_37, .int 0, .ref ma_39, .ref ma_41, .int 0, .ref ma_43, .ref ma_45, .int 0, .ref ma_47, .ref ma_49, .int 0]))]) [2] (by decide) rfl
  have hKc := hK.sub (tys' := []) [] rfl
  refine va_calli (va_runV (As := [.int (xs 1), .int (xs 2), .int (xs 3)]) (rest := [.int (-1)]) ⟨hx, hb, hml, hown, hts⟩ (m_run l dC dI H.size m0 (.ref ma_1) (.ref ma_3) (.ref ma_5) (.ref ma_7) (.ref ma_9) (.ref ma_11) (.ref ma_13) (.ref ma_15) (.ref ma_17) (.ref ma_19) (.int 0) (.ref ma_21) (.ref ma_23) (.ref ma_25) (.ref ma_27) (.ref ma_29) (.ref ma_31) (.int 0) (.int 0) (.ref ma_33) (.int 0) (.int 0) (.ref ma_35) (.ref ma_37) (.int 0) (.ref ma_39) (.ref ma_41) (.int 0) (.ref ma_43) (.ref ma_45) (.int 0) (.ref ma_47) (.ref ma_49) (.int 0) (xs 1) (xs 2) (xs 3)) (cwV 3 hts (gV mw_4_147 mw_4_148 mw_4_149 mw_1_9 mw_4_150) rfl rfl rfl (by decide +kernel) ⟨Nat.le_of_ble_eq_true rfl, Nat.le_of_ble_eq_true rfl⟩) ⟨pcW_blind, va_recv hKc hPc (ci := 8) (q0 := 0) rfl rfl, pcW_at hPc hKc hDc hN⟩ rfl rfl hl.1 rfl (lv_room (Nat.le_of_ble_eq_true rfl)) dL_law_573 ⟨Nat.le_of_ble_eq_true rfl, Nat.le_of_ble_eq_true rfl⟩) hS (fun q h1 h2 => absurd h2 (Nat.not_le.mpr h1)) (fun q h => hA q (Nat.le_trans hS.1 h)) (fun r_2 u t H1 locs ht hvm hw_2 hB hz1 hk1 hS => ?_)
  have hP := keepP hP hk1
  clear hz1 hk1 hB ht hvm hPc hDc hKc
  generalize H1 = H at hP hS ⊢
  obtain rfl : r_2 = (-1) := hw_2
  refine lv_icmp_eq (tgt := 983) hx hb dL_law_576 (by decide) (fun _ => ?_) (fun h => absurd (by decide) h)
  exact law_end l C0 hS ls (lv_sub hl [0, 3] rfl)
set_option maxHeartbeats 4000000 in
set_option maxRecDepth 100000 in
theorem lc_13 {p : Program} {e : Env} {s : State} {m : MethodId} {below : List Frame} {meth : Method} {c : Code} (l : Launch) {b : Nat} {xs : Nat → Int32} {dC : Nat → ClassId} {dI : Nat → Nat → Nat} {x0 : Nat} {xq_1 : Nat} {xq_20 : Nat} {xq_24 : Nat} {xq_32 : Nat} {xq_36 : Nat} {xq_48 : Nat} {xa_3 : Nat} {xa_5 : Nat} {xa_7 : Nat} {xa_9 : Nat} {xa_11 : Nat} {xq_13 : Nat} {m0 : Nat} {ma_1 : Nat} {ma_3 : Nat} {ma_5 : Nat} {ma_7 : Nat} {ma_9 : Nat} {ma_11 : Nat} {ma_13 : Nat} {ma_15 : Nat} {ma_17 : Nat} {ma_19 : Nat} {ma_21 : Nat} {ma_23 : Nat} {ma_25 : Nat} {ma_27 : Nat} {ma_29 : Nat} {ma_31 : Nat} {ma_33 : Nat} {ma_35 : Nat} {ma_37 : Nat} {ma_39 : Nat} {ma_41 : Nat} {ma_43 : Nat} {ma_45 : Nat} {ma_47 : Nat} {ma_49 : Nat} (C0 : lw_At p s m meth c b 5 xs) {H : Heap} {locs : List Loc} (hK : va_K (dC, dI) vwCl [] s) (hP : va_P (dC, dI) vwCl [(x0, .inr (7, [.ref xq_1, .ref xq_20, .ref xq_24, .ref xq_32, .ref xq_36, .ref xq_48])), (xq_1, .inr (1, [.ref xa_3, .ref xa_5, .ref xa_7, .ref xa_9, .ref xa_11, .ref xq_13, .int 0, .int 0])), (m0, .inr (8, [.ref ma_1, .ref ma_3, .ref ma_5, .ref ma_7, .int 0, .ref ma_9, .ref ma_11, .ref ma_13, .ref ma_15, .ref ma_17, .ref ma_19, .int 0, .ref ma_21, .ref ma_23, .ref ma_25, .ref ma_27, .ref ma_29, .ref ma_31, .int 0, .int 0, .ref ma_33, .int 0, .int 0, .ref ma_35, .ref ma_37, .int 0, .ref ma_39, .ref ma_41, .int 0, .ref ma_43, .ref ma_45, .int 0, .ref ma_47, .ref ma_49, .int 0]))] H) (hD : va_D (fun q : Nat => s.heap.size ≤ q) [(x0, .inr (7, [.ref xq_1, .ref xq_20, .ref xq_24, .ref xq_32, .ref xq_36, .ref xq_48])), (xq_1, .inr (1, [.ref xa_3, .ref xa_5, .ref xa_7, .ref xa_9, .ref xa_11, .ref xq_13, .int 0, .int 0])), (m0, .inr (8, [.ref ma_1, .ref ma_3, .ref ma_5, .ref ma_7, .int 0, .ref ma_9, .ref ma_11, .ref ma_13, .ref ma_15, .ref ma_17, .ref ma_19, .int 0, .ref ma_21, .ref ma_23, .ref ma_25, .ref ma_27, .ref ma_29, .ref ma_31, .int 0, .int 0, .ref ma_33, .int 0, .int 0, .ref ma_35, .ref ma_37, .int 0, .ref ma_39, .ref ma_41, .int 0, .ref ma_43, .ref ma_45, .int 0, .ref ma_47, .ref ma_49, .int 0]))]) (hS : va_S (fun q : Nat => s.heap.size ≤ q) s.heap H locs) (ls : Array Slot) (hl : lv_has ls 4 [(3, .int 0), (2, .ref m0), (1, .ref x0), (0, .ref b)]) : W p l e room_1 s m #[Value.ref b] below meth c H locs 56 3153 (lw_Z below #[Value.ref b] s) (F0 m 581 ls []) := by
  obtain ⟨hx, hb, hr, hml, hown, hts, hX, hbl, hlocks, hgv⟩ := id C0
  have hN := nw_start hts
  have hts : ∀ w ∈ BG, w.before _ s = true := fun w h => hts w (BG_lw h)
  have hown : s.vm.findClass RL = some m.cls := hown
  have hA : ∀ q : Nat, s.heap.size ≤ q → (fun q : Nat => s.heap.size ≤ q) q := fun _ h => h
  have hbA : ¬ (fun q : Nat => s.heap.size ≤ q) b := Nat.not_le.mpr hbl
  refine lv_aload_n hx hb dL_law_581 rfl (lv_at hl 2 rfl) ?_
  refine lv_aload_n hx hb dL_law_582 rfl (lv_at hl 3 rfl) ?_
  refine lv_iload_n hx hb dL_law_583 rfl (lv_at hl 0 rfl) ?_
  refine lv_iconst (v := 1) hx hb dL_law_584 (by decide) ?_
  refine lv_iadd hx hb dL_law_585 ?_
  refine hx_top (y := 1) (by decide) ?_
  refine va_sld hx hb hX hbl hbA hS (show vp_in 1 5 by unfold vp_in; decide) dL_law_586 ?_
  refine hx_top (y := (xs 1)) rfl ?_
  refine lv_aload_n hx hb dL_law_587 rfl (lv_at hl 3 rfl) ?_
  refine lv_iload_n hx hb dL_law_588 rfl (lv_at hl 0 rfl) ?_
  refine lv_iconst (v := 2) hx hb dL_law_589 (by decide) ?_
  refine lv_iadd hx hb dL_law_590 ?_
  refine hx_top (y := 2) (by decide) ?_
  refine va_sld hx hb hX hbl hbA hS (show vp_in 2 5 by unfold vp_in; decide) dL_law_591 ?_
  refine hx_top (y := (xs 2)) rfl ?_
  have hPc := hP.sub (ws' := [(x0, .inr (7, [.ref xq_1, .ref xq_20, .ref xq_24, .ref xq_32, .ref xq_36, .ref xq_48])), (xq_1, .inr (1, [.ref xa_3, .ref xa_5, .ref xa_7, .ref xa_9, .ref xa_11, .ref xq_13, .int 0, .int 0]))]) [0, 1] rfl
  have hDc := hD.sub (ws' := [(x0, .inr (7, [.ref xq_1, .ref xq_20, .ref xq_24, .ref xq_32, .ref xq_36, .ref xq_48])), (xq_1, .inr (1, [.ref xa_3, .ref xa_5, .ref xa_7, .ref xa_9, .ref xa_11, .ref xq_13, .int 0, .int 0]))]) [0, 1] (by decide) rfl
  have hKc := hK.sub (tys' := []) [] rfl
  refine va_calli (va_runV (As := [.int (xs 1), .int (xs 2)]) (rest := []) ⟨hx, hb, hml, hown, hts⟩ (x_nearest l dC dI H.size x0 xq_1 (.ref xq_20) (.ref xq_24) (.ref xq_32) (.ref xq_36) (.ref xq_48) (.ref xa_3) (.ref xa_5) (.ref xa_7) (.ref xa_9) (.ref xa_11) (.ref xq_13) (.int 0) (xs 1) (xs 2)) (cwV 2 hts (gV mw_2_193 mw_2_194 mw_2_195 mw_1_1 mw_2_196) rfl rfl rfl (by decide +kernel) ⟨Nat.le_of_ble_eq_true rfl, Nat.le_of_ble_eq_true rfl⟩) ⟨pcW_blind, va_recv hKc hPc (ci := 7) (q0 := 0) rfl rfl, pcW_at hPc hKc hDc hN⟩ rfl rfl hl.1 rfl (lv_room (Nat.le_of_ble_eq_true rfl)) dL_law_592 ⟨Nat.le_of_ble_eq_true rfl, Nat.le_of_ble_eq_true rfl⟩) hS (fun q h1 h2 => absurd h2 (Nat.not_le.mpr h1)) (fun q h => hA q (Nat.le_trans hS.1 h)) (fun r_1 u t H1 locs ht hvm hw_1 hB hz1 hk1 hS => ?_)
  have hP := keepP hP hk1
  clear hz1 hk1 hB ht hvm hPc hDc hKc
  generalize H1 = H at hP hS ⊢
  obtain rfl : r_1 = (-1) := hw_1
  refine lv_aload_n hx hb dL_law_595 rfl (lv_at hl 1 rfl) ?_
  refine lv_aload_n hx hb dL_law_596 rfl (lv_at hl 3 rfl) ?_
  refine lv_iload_n hx hb dL_law_597 rfl (lv_at hl 0 rfl) ?_
  refine lv_iconst (v := 1) hx hb dL_law_598 (by decide) ?_
  refine lv_iadd hx hb dL_law_599 ?_
  refine hx_top (y := 1) (by decide) ?_
  refine va_sld hx hb hX hbl hbA hS (show vp_in 1 5 by unfold vp_in; decide) dL_law_600 ?_
  refine hx_top (y := (xs 1)) rfl ?_
  refine lv_aload_n hx hb dL_law_601 rfl (lv_at hl 3 rfl) ?_
  refine lv_iload_n hx hb dL_law_602 rfl (lv_at hl 0 rfl) ?_
  refine lv_iconst (v := 2) hx hb dL_law_603 (by decide) ?_
  refine lv_iadd hx hb dL_law_604 ?_
  refine hx_top (y := 2) (by decide) ?_
  refine va_sld hx hb hX hbl hbA hS (show vp_in 2 5 by unfold vp_in; decide) dL_law_605 ?_
  refine hx_top (y := (xs 2)) rfl ?_
  have hPc := hP.sub (ws' := [(m0, .inr (8, [.ref ma_1, .ref ma_3, .ref ma_5, .ref ma_7, .int 0, .ref ma_9, .ref ma_11, .ref ma_13, .ref ma_15, .ref ma_17, .ref ma_19, .int 0, .ref ma_21, .ref ma_23, .ref ma_25, .ref ma_27, .ref ma_29, .ref ma_31, .int 0, .int 0, .ref ma_33, .int 0, .int 0, .ref ma_35, .ref ma_37, .int 0, .ref ma_39, .ref ma_41, .int 0, .ref ma_43, .ref ma_45, .int 0, .ref ma_47, .ref ma_49, .int 0]))]) [2] rfl
  have hDc := hD.sub (ws' := [(m0, .inr (8, [.ref ma_1, .ref ma_3, .ref ma_5, .ref ma_7, .int 0, .ref ma_9, .ref ma_11, .ref ma_13, .ref ma_15, .ref ma_17, .ref ma_19, .int 0, .ref ma_21, .ref ma_23, .ref ma_25, .ref ma_27, .ref ma_29, .ref ma_31, .int 0, .int 0, .ref ma_33, .int 0, .int 0, .ref ma_35, .ref ma_37, .int 0, .ref ma_39, .ref ma_41, .int 0, .ref ma_43, .ref ma_45, .int 0, .ref ma_47, .ref ma_49, .int 0]))]) [2] (by decide) rfl
  have hKc := hK.sub (tys' := []) [] rfl
  refine va_calli (va_runV (As := [.int (xs 1), .int (xs 2)]) (rest := [.int (-1)]) ⟨hx, hb, hml, hown, hts⟩ (m_nearest l dC dI H.size m0 (.ref ma_1) (.ref ma_3) (.ref ma_5) (.ref ma_7) (.ref ma_9) (.ref ma_11) (.ref ma_13) (.ref ma_15) (.ref ma_17) (.ref ma_19) (.int 0) (.ref ma_21) (.ref ma_23) (.ref ma_25) (.ref ma_27) (.ref ma_29) (.ref ma_31) (.int 0) (.int 0) (.ref ma_33) (.int 0) (.int 0) (.ref ma_35) (.ref ma_37) (.int 0) (.ref ma_39) (.ref ma_41) (.int 0) (.ref ma_43) (.ref ma_45) (.int 0) (.ref ma_47) (.ref ma_49) (.int 0) (xs 1) (xs 2)) (cwV 2 hts (gV mw_4_163 mw_4_164 mw_4_165 mw_1_9 mw_4_166) rfl rfl rfl (by decide +kernel) ⟨Nat.le_of_ble_eq_true rfl, Nat.le_of_ble_eq_true rfl⟩) ⟨pcW_blind, va_recv hKc hPc (ci := 8) (q0 := 0) rfl rfl, pcW_at hPc hKc hDc hN⟩ rfl rfl hl.1 rfl (lv_room (Nat.le_of_ble_eq_true rfl)) dL_law_606 ⟨Nat.le_of_ble_eq_true rfl, Nat.le_of_ble_eq_true rfl⟩) hS (fun q h1 h2 => absurd h2 (Nat.not_le.mpr h1)) (fun q h => hA q (Nat.le_trans hS.1 h)) (fun r_2 u t H1 locs ht hvm hw_2 hB hz1 hk1 hS => ?_)
  have hP := keepP hP hk1
  clear hz1 hk1 hB ht hvm hPc hDc hKc
  generalize H1 = H at hP hS ⊢
  obtain rfl : r_2 = (-1) := hw_2
  refine lv_icmp_eq (tgt := 983) hx hb dL_law_609 (by decide) (fun _ => ?_) (fun h => absurd (by decide) h)
  exact law_end l C0 hS ls (lv_sub hl [0, 3] rfl)
set_option maxHeartbeats 4000000 in
set_option maxRecDepth 100000 in
theorem lc_14 {p : Program} {e : Env} {s : State} {m : MethodId} {below : List Frame} {meth : Method} {c : Code} (l : Launch) {b : Nat} {xs : Nat → Int32} {dC : Nat → ClassId} {dI : Nat → Nat → Nat} {x0 : Nat} {xq_1 : Nat} {xq_20 : Nat} {xq_24 : Nat} {xq_32 : Nat} {xq_36 : Nat} {xq_48 : Nat} {xa_3 : Nat} {xa_5 : Nat} {xa_7 : Nat} {xa_9 : Nat} {xa_11 : Nat} {xq_13 : Nat} {xa_26 : Nat} {xa_28 : Nat} {xa_30 : Nat} {xk_27 : ClassId} {m0 : Nat} {ma_1 : Nat} {ma_3 : Nat} {ma_5 : Nat} {ma_7 : Nat} {ma_9 : Nat} {ma_11 : Nat} {ma_13 : Nat} {ma_15 : Nat} {ma_17 : Nat} {ma_19 : Nat} {ma_21 : Nat} {ma_23 : Nat} {ma_25 : Nat} {ma_27 : Nat} {ma_29 : Nat} {ma_31 : Nat} {ma_33 : Nat} {ma_35 : Nat} {ma_37 : Nat} {ma_39 : Nat} {ma_41 : Nat} {ma_43 : Nat} {ma_45 : Nat} {ma_47 : Nat} {ma_49 : Nat} (C0 : lw_At p s m meth c b 5 xs) {H : Heap} {locs : List Loc} (hK : va_K (dC, dI) vwCl [(xk_27, .int)] s) (hP : va_P (dC, dI) vwCl [(x0, .inr (7, [.ref xq_1, .ref xq_20, .ref xq_24, .ref xq_32, .ref xq_36, .ref xq_48])), (xq_1, .inr (1, [.ref xa_3, .ref xa_5, .ref xa_7, .ref xa_9, .ref xa_11, .ref xq_13, .int 0, .int 0])), (xq_24, .inr (0, [.ref xa_26, .ref xa_28, .ref xa_30])), (xa_26, .inl (xk_27, 8, .inl (fun _ => 0))), (m0, .inr (8, [.ref ma_1, .ref ma_3, .ref ma_5, .ref ma_7, .int 0, .ref ma_9, .ref ma_11, .ref ma_13, .ref ma_15, .ref ma_17, .ref ma_19, .int 0, .ref ma_21, .ref ma_23, .ref ma_25, .ref ma_27, .ref ma_29, .ref ma_31, .int 0, .int 0, .ref ma_33, .int 0, .int 0, .ref ma_35, .ref ma_37, .int 0, .ref ma_39, .ref ma_41, .int 0, .ref ma_43, .ref ma_45, .int 0, .ref ma_47, .ref ma_49, .int 0]))] H) (hD : va_D (fun q : Nat => s.heap.size ≤ q) [(x0, .inr (7, [.ref xq_1, .ref xq_20, .ref xq_24, .ref xq_32, .ref xq_36, .ref xq_48])), (xq_1, .inr (1, [.ref xa_3, .ref xa_5, .ref xa_7, .ref xa_9, .ref xa_11, .ref xq_13, .int 0, .int 0])), (xq_24, .inr (0, [.ref xa_26, .ref xa_28, .ref xa_30])), (xa_26, .inl (xk_27, 8, .inl (fun _ => 0))), (m0, .inr (8, [.ref ma_1, .ref ma_3, .ref ma_5, .ref ma_7, .int 0, .ref ma_9, .ref ma_11, .ref ma_13, .ref ma_15, .ref ma_17, .ref ma_19, .int 0, .ref ma_21, .ref ma_23, .ref ma_25, .ref ma_27, .ref ma_29, .ref ma_31, .int 0, .int 0, .ref ma_33, .int 0, .int 0, .ref ma_35, .ref ma_37, .int 0, .ref ma_39, .ref ma_41, .int 0, .ref ma_43, .ref ma_45, .int 0, .ref ma_47, .ref ma_49, .int 0]))]) (hS : va_S (fun q : Nat => s.heap.size ≤ q) s.heap H locs) (ls : Array Slot) (hl : lv_has ls 4 [(3, .int 0), (2, .ref m0), (1, .ref x0), (0, .ref b)]) : W p l e room_1 s m #[Value.ref b] below meth c H locs 56 3153 (lw_Z below #[Value.ref b] s) (F0 m 614 ls []) := by
  obtain ⟨hx, hb, hr, hml, hown, hts, hX, hbl, hlocks, hgv⟩ := id C0
  have hN := nw_start hts
  have hts : ∀ w ∈ BG, w.before _ s = true := fun w h => hts w (BG_lw h)
  have hown : s.vm.findClass RL = some m.cls := hown
  have hA : ∀ q : Nat, s.heap.size ≤ q → (fun q : Nat => s.heap.size ≤ q) q := fun _ h => h
  have hbA : ¬ (fun q : Nat => s.heap.size ≤ q) b := Nat.not_le.mpr hbl
  refine lv_aload_n hx hb dL_law_614 rfl (lv_at hl 2 rfl) ?_
  refine lv_aload_n hx hb dL_law_615 rfl (lv_at hl 3 rfl) ?_
  refine lv_iload_n hx hb dL_law_616 rfl (lv_at hl 0 rfl) ?_
  refine lv_iconst (v := 1) hx hb dL_law_617 (by decide) ?_
  refine lv_iadd hx hb dL_law_618 ?_
  refine hx_top (y := 1) (by decide) ?_
  refine va_sld hx hb hX hbl hbA hS (show vp_in 1 5 by unfold vp_in; decide) dL_law_619 ?_
  refine hx_top (y := (xs 1)) rfl ?_
  have hPc := hP.sub (ws' := [(x0, .inr (7, [.ref xq_1, .ref xq_20, .ref xq_24, .ref xq_32, .ref xq_36, .ref xq_48])), (xq_1, .inr (1, [.ref xa_3, .ref xa_5, .ref xa_7, .ref xa_9, .ref xa_11, .ref xq_13, .int 0, .int 0])), (xq_24, .inr (0, [.ref xa_26, .ref xa_28, .ref xa_30])), (xa_26, .inl (xk_27, 8, .inl (fun _ => 0)))]) [0, 1, 2, 3] rfl
  have hDc := hD.sub (ws' := [(x0, .inr (7, [.ref xq_1, .ref xq_20, .ref xq_24, .ref xq_32, .ref xq_36, .ref xq_48])), (xq_1, .inr (1, [.ref xa_3, .ref xa_5, .ref xa_7, .ref xa_9, .ref xa_11, .ref xq_13, .int 0, .int 0])), (xq_24, .inr (0, [.ref xa_26, .ref xa_28, .ref xa_30])), (xa_26, .inl (xk_27, 8, .inl (fun _ => 0)))]) [0, 1, 2, 3] (by decide) rfl
  have hKc := hK.sub (tys' := [(xk_27, .int)]) [0] rfl
  refine va_calli (va_runV (As := [.int (xs 1)]) (rest := []) ⟨hx, hb, hml, hown, hts⟩ (x_doubt l dC dI H.size x0 xq_1 (.ref xq_20) xq_24 (.ref xq_32) (.ref xq_36) (.ref xq_48) (.ref xa_3) (.ref xa_5) (.ref xa_7) (.ref xa_9) (.ref xa_11) (.ref xq_13) (.int 0) xa_26 (.ref xa_28) (.ref xa_30) xk_27 (xs 1)) (cwV 1 hts (gV mw_2_202 mw_2_203 mw_2_204 mw_1_1 mw_2_205) rfl rfl rfl (by decide +kernel) ⟨Nat.le_of_ble_eq_true rfl, Nat.le_of_ble_eq_true rfl⟩) ⟨pcW_blind, va_recv hKc hPc (ci := 7) (q0 := 0) rfl rfl, pcW_at hPc hKc hDc hN⟩ rfl rfl hl.1 rfl (lv_room (Nat.le_of_ble_eq_true rfl)) dL_law_620 ⟨Nat.le_of_ble_eq_true rfl, Nat.le_of_ble_eq_true rfl⟩) hS (fun q h1 h2 => absurd h2 (Nat.not_le.mpr h1)) (fun q h => hA q (Nat.le_trans hS.1 h)) (fun r_1 u t H1 locs ht hvm hw_1 hB hz1 hk1 hS => ?_)
  have hP := keepP hP hk1
  clear hz1 hk1 hB ht hvm hPc hDc hKc
  generalize H1 = H at hP hS ⊢
  refine lv_aload_n hx hb dL_law_623 rfl (lv_at hl 1 rfl) ?_
  refine lv_aload_n hx hb dL_law_624 rfl (lv_at hl 3 rfl) ?_
  refine lv_iload_n hx hb dL_law_625 rfl (lv_at hl 0 rfl) ?_
  refine lv_iconst (v := 1) hx hb dL_law_626 (by decide) ?_
  refine lv_iadd hx hb dL_law_627 ?_
  refine hx_top (y := 1) (by decide) ?_
  refine va_sld hx hb hX hbl hbA hS (show vp_in 1 5 by unfold vp_in; decide) dL_law_628 ?_
  refine hx_top (y := (xs 1)) rfl ?_
  have hPc := hP.sub (ws' := [(m0, .inr (8, [.ref ma_1, .ref ma_3, .ref ma_5, .ref ma_7, .int 0, .ref ma_9, .ref ma_11, .ref ma_13, .ref ma_15, .ref ma_17, .ref ma_19, .int 0, .ref ma_21, .ref ma_23, .ref ma_25, .ref ma_27, .ref ma_29, .ref ma_31, .int 0, .int 0, .ref ma_33, .int 0, .int 0, .ref ma_35, .ref ma_37, .int 0, .ref ma_39, .ref ma_41, .int 0, .ref ma_43, .ref ma_45, .int 0, .ref ma_47, .ref ma_49, .int 0]))]) [4] rfl
  have hDc := hD.sub (ws' := [(m0, .inr (8, [.ref ma_1, .ref ma_3, .ref ma_5, .ref ma_7, .int 0, .ref ma_9, .ref ma_11, .ref ma_13, .ref ma_15, .ref ma_17, .ref ma_19, .int 0, .ref ma_21, .ref ma_23, .ref ma_25, .ref ma_27, .ref ma_29, .ref ma_31, .int 0, .int 0, .ref ma_33, .int 0, .int 0, .ref ma_35, .ref ma_37, .int 0, .ref ma_39, .ref ma_41, .int 0, .ref ma_43, .ref ma_45, .int 0, .ref ma_47, .ref ma_49, .int 0]))]) [4] (by decide) rfl
  have hKc := hK.sub (tys' := []) [] rfl
  refine va_calli (va_runV (As := [.int (xs 1)]) (rest := [.int r_1]) ⟨hx, hb, hml, hown, hts⟩ (m_doubt l dC dI H.size m0 (.ref ma_1) (.ref ma_3) (.ref ma_5) (.ref ma_7) (.ref ma_9) (.ref ma_11) (.ref ma_13) (.ref ma_15) (.ref ma_17) (.ref ma_19) (.int 0) (.ref ma_21) (.ref ma_23) (.ref ma_25) (.ref ma_27) (.ref ma_29) (.ref ma_31) (.int 0) (.int 0) (.ref ma_33) (.int 0) (.int 0) (.ref ma_35) (.ref ma_37) (.int 0) (.ref ma_39) (.ref ma_41) (.int 0) (.ref ma_43) (.ref ma_45) (.int 0) (.ref ma_47) (.ref ma_49) (.int 0) (xs 1)) (cwV 1 hts (gV mw_4_175 mw_4_176 mw_4_177 mw_1_9 mw_4_178) rfl rfl rfl (by decide +kernel) ⟨Nat.le_of_ble_eq_true rfl, Nat.le_of_ble_eq_true rfl⟩) ⟨pcW_blind, va_recv hKc hPc (ci := 8) (q0 := 0) rfl rfl, pcW_at hPc hKc hDc hN⟩ rfl rfl hl.1 rfl (lv_room (Nat.le_of_ble_eq_true rfl)) dL_law_629 ⟨Nat.le_of_ble_eq_true rfl, Nat.le_of_ble_eq_true rfl⟩) hS (fun q h1 h2 => absurd h2 (Nat.not_le.mpr h1)) (fun q h => hA q (Nat.le_trans hS.1 h)) (fun r_2 u t H1 locs ht hvm hw_2 hB hz1 hk1 hS => ?_)
  have hP := keepP hP hk1
  clear hz1 hk1 hB ht hvm hPc hDc hKc
  generalize H1 = H at hP hS ⊢
  refine lv_icmp_eq (tgt := 983) hx hb dL_law_632 (by decide) (fun _ => ?_) (fun h => absurd (hw_1.trans hw_2.symm) h)
  exact law_end l C0 hS ls (lv_sub hl [0, 3] rfl)
set_option maxHeartbeats 4000000 in
set_option maxRecDepth 100000 in
theorem lc_15 {p : Program} {e : Env} {s : State} {m : MethodId} {below : List Frame} {meth : Method} {c : Code} (l : Launch) {b : Nat} {xs : Nat → Int32} {dC : Nat → ClassId} {dI : Nat → Nat → Nat} {x0 : Nat} {xq_1 : Nat} {xq_20 : Nat} {xq_24 : Nat} {xq_32 : Nat} {xq_36 : Nat} {xq_48 : Nat} {xa_3 : Nat} {xa_5 : Nat} {xa_7 : Nat} {xa_9 : Nat} {xa_11 : Nat} {xq_13 : Nat} {xa_26 : Nat} {xa_28 : Nat} {xa_30 : Nat} {xk_27 : ClassId} {m0 : Nat} {ma_1 : Nat} {ma_3 : Nat} {ma_5 : Nat} {ma_7 : Nat} {ma_9 : Nat} {ma_11 : Nat} {ma_13 : Nat} {ma_15 : Nat} {ma_17 : Nat} {ma_19 : Nat} {ma_21 : Nat} {ma_23 : Nat} {ma_25 : Nat} {ma_27 : Nat} {ma_29 : Nat} {ma_31 : Nat} {ma_33 : Nat} {ma_35 : Nat} {ma_37 : Nat} {ma_39 : Nat} {ma_41 : Nat} {ma_43 : Nat} {ma_45 : Nat} {ma_47 : Nat} {ma_49 : Nat} (C0 : lw_At p s m meth c b 5 xs) {H : Heap} {locs : List Loc} (hK : va_K (dC, dI) vwCl [(xk_27, .int)] s) (hP : va_P (dC, dI) vwCl [(x0, .inr (7, [.ref xq_1, .ref xq_20, .ref xq_24, .ref xq_32, .ref xq_36, .ref xq_48])), (xq_1, .inr (1, [.ref xa_3, .ref xa_5, .ref xa_7, .ref xa_9, .ref xa_11, .ref xq_13, .int 0, .int 0])), (xq_24, .inr (0, [.ref xa_26, .ref xa_28, .ref xa_30])), (xa_26, .inl (xk_27, 8, .inl (fun _ => 0))), (m0, .inr (8, [.ref ma_1, .ref ma_3, .ref ma_5, .ref ma_7, .int 0, .ref ma_9, .ref ma_11, .ref ma_13, .ref ma_15, .ref ma_17, .ref ma_19, .int 0, .ref ma_21, .ref ma_23, .ref ma_25, .ref ma_27, .ref ma_29, .ref ma_31, .int 0, .int 0, .ref ma_33, .int 0, .int 0, .ref ma_35, .ref ma_37, .int 0, .ref ma_39, .ref ma_41, .int 0, .ref ma_43, .ref ma_45, .int 0, .ref ma_47, .ref ma_49, .int 0]))] H) (hD : va_D (fun q : Nat => s.heap.size ≤ q) [(x0, .inr (7, [.ref xq_1, .ref xq_20, .ref xq_24, .ref xq_32, .ref xq_36, .ref xq_48])), (xq_1, .inr (1, [.ref xa_3, .ref xa_5, .ref xa_7, .ref xa_9, .ref xa_11, .ref xq_13, .int 0, .int 0])), (xq_24, .inr (0, [.ref xa_26, .ref xa_28, .ref xa_30])), (xa_26, .inl (xk_27, 8, .inl (fun _ => 0))), (m0, .inr (8, [.ref ma_1, .ref ma_3, .ref ma_5, .ref ma_7, .int 0, .ref ma_9, .ref ma_11, .ref ma_13, .ref ma_15, .ref ma_17, .ref ma_19, .int 0, .ref ma_21, .ref ma_23, .ref ma_25, .ref ma_27, .ref ma_29, .ref ma_31, .int 0, .int 0, .ref ma_33, .int 0, .int 0, .ref ma_35, .ref ma_37, .int 0, .ref ma_39, .ref ma_41, .int 0, .ref ma_43, .ref ma_45, .int 0, .ref ma_47, .ref ma_49, .int 0]))]) (hS : va_S (fun q : Nat => s.heap.size ≤ q) s.heap H locs) (ls : Array Slot) (hl : lv_has ls 4 [(3, .int 0), (2, .ref m0), (1, .ref x0), (0, .ref b)]) : W p l e room_1 s m #[Value.ref b] below meth c H locs 56 3153 (lw_Z below #[Value.ref b] s) (F0 m 637 ls []) := by
  obtain ⟨hx, hb, hr, hml, hown, hts, hX, hbl, hlocks, hgv⟩ := id C0
  have hN := nw_start hts
  have hts : ∀ w ∈ BG, w.before _ s = true := fun w h => hts w (BG_lw h)
  have hown : s.vm.findClass RL = some m.cls := hown
  have hA : ∀ q : Nat, s.heap.size ≤ q → (fun q : Nat => s.heap.size ≤ q) q := fun _ h => h
  have hbA : ¬ (fun q : Nat => s.heap.size ≤ q) b := Nat.not_le.mpr hbl
  refine lv_aload_n hx hb dL_law_637 rfl (lv_at hl 2 rfl) ?_
  refine lv_aload_n hx hb dL_law_638 rfl (lv_at hl 3 rfl) ?_
  refine lv_iload_n hx hb dL_law_639 rfl (lv_at hl 0 rfl) ?_
  refine lv_iconst (v := 1) hx hb dL_law_640 (by decide) ?_
  refine lv_iadd hx hb dL_law_641 ?_
  refine hx_top (y := 1) (by decide) ?_
  refine va_sld hx hb hX hbl hbA hS (show vp_in 1 5 by unfold vp_in; decide) dL_law_642 ?_
  refine hx_top (y := (xs 1)) rfl ?_
  refine lv_aload_n hx hb dL_law_643 rfl (lv_at hl 3 rfl) ?_
  refine lv_iload_n hx hb dL_law_644 rfl (lv_at hl 0 rfl) ?_
  refine lv_iconst (v := 2) hx hb dL_law_645 (by decide) ?_
  refine lv_iadd hx hb dL_law_646 ?_
  refine hx_top (y := 2) (by decide) ?_
  refine va_sld hx hb hX hbl hbA hS (show vp_in 2 5 by unfold vp_in; decide) dL_law_647 ?_
  refine hx_top (y := (xs 2)) rfl ?_
  have hPc := hP.sub (ws' := [(x0, .inr (7, [.ref xq_1, .ref xq_20, .ref xq_24, .ref xq_32, .ref xq_36, .ref xq_48])), (xq_1, .inr (1, [.ref xa_3, .ref xa_5, .ref xa_7, .ref xa_9, .ref xa_11, .ref xq_13, .int 0, .int 0])), (xq_24, .inr (0, [.ref xa_26, .ref xa_28, .ref xa_30])), (xa_26, .inl (xk_27, 8, .inl (fun _ => 0)))]) [0, 1, 2, 3] rfl
  have hDc := hD.sub (ws' := [(x0, .inr (7, [.ref xq_1, .ref xq_20, .ref xq_24, .ref xq_32, .ref xq_36, .ref xq_48])), (xq_1, .inr (1, [.ref xa_3, .ref xa_5, .ref xa_7, .ref xa_9, .ref xa_11, .ref xq_13, .int 0, .int 0])), (xq_24, .inr (0, [.ref xa_26, .ref xa_28, .ref xa_30])), (xa_26, .inl (xk_27, 8, .inl (fun _ => 0)))]) [0, 1, 2, 3] (by decide) rfl
  have hKc := hK.sub (tys' := [(xk_27, .int)]) [0] rfl
  refine va_calli (va_runV (As := [.int (xs 1), .int (xs 2)]) (rest := []) ⟨hx, hb, hml, hown, hts⟩ (x_settle l dC dI H.size x0 xq_1 (.ref xq_20) xq_24 (.ref xq_32) (.ref xq_36) (.ref xq_48) (.ref xa_3) (.ref xa_5) (.ref xa_7) (.ref xa_9) (.ref xa_11) (.ref xq_13) (.int 0) xa_26 (.ref xa_28) (.ref xa_30) xk_27 (xs 1) (xs 2)) (cwV 2 hts (gV mw_2_223 mw_2_224 mw_2_225 mw_1_1 mw_2_226) rfl rfl rfl (by decide +kernel) ⟨Nat.le_of_ble_eq_true rfl, Nat.le_of_ble_eq_true rfl⟩) ⟨pcW_blind, va_recv hKc hPc (ci := 7) (q0 := 0) rfl rfl, pcW_at hPc hKc hDc hN⟩ rfl rfl hl.1 rfl (lv_room (Nat.le_of_ble_eq_true rfl)) dL_law_648 ⟨Nat.le_of_ble_eq_true rfl, Nat.le_of_ble_eq_true rfl⟩) hS (fun q h1 h2 => absurd h2 (Nat.not_le.mpr h1)) (fun q h => hA q (Nat.le_trans hS.1 h)) (fun r_1 u t H1 locs ht hvm hw_1 hB hz1 hk1 hS => ?_)
  have hP := keepP hP hk1
  clear hz1 hk1 hB ht hvm hPc hDc hKc
  generalize H1 = H at hP hS ⊢
  refine lv_aload_n hx hb dL_law_651 rfl (lv_at hl 1 rfl) ?_
  refine lv_aload_n hx hb dL_law_652 rfl (lv_at hl 3 rfl) ?_
  refine lv_iload_n hx hb dL_law_653 rfl (lv_at hl 0 rfl) ?_
  refine lv_iconst (v := 1) hx hb dL_law_654 (by decide) ?_
  refine lv_iadd hx hb dL_law_655 ?_
  refine hx_top (y := 1) (by decide) ?_
  refine va_sld hx hb hX hbl hbA hS (show vp_in 1 5 by unfold vp_in; decide) dL_law_656 ?_
  refine hx_top (y := (xs 1)) rfl ?_
  refine lv_aload_n hx hb dL_law_657 rfl (lv_at hl 3 rfl) ?_
  refine lv_iload_n hx hb dL_law_658 rfl (lv_at hl 0 rfl) ?_
  refine lv_iconst (v := 2) hx hb dL_law_659 (by decide) ?_
  refine lv_iadd hx hb dL_law_660 ?_
  refine hx_top (y := 2) (by decide) ?_
  refine va_sld hx hb hX hbl hbA hS (show vp_in 2 5 by unfold vp_in; decide) dL_law_661 ?_
  refine hx_top (y := (xs 2)) rfl ?_
  have hPc := hP.sub (ws' := [(m0, .inr (8, [.ref ma_1, .ref ma_3, .ref ma_5, .ref ma_7, .int 0, .ref ma_9, .ref ma_11, .ref ma_13, .ref ma_15, .ref ma_17, .ref ma_19, .int 0, .ref ma_21, .ref ma_23, .ref ma_25, .ref ma_27, .ref ma_29, .ref ma_31, .int 0, .int 0, .ref ma_33, .int 0, .int 0, .ref ma_35, .ref ma_37, .int 0, .ref ma_39, .ref ma_41, .int 0, .ref ma_43, .ref ma_45, .int 0, .ref ma_47, .ref ma_49, .int 0]))]) [4] rfl
  have hDc := hD.sub (ws' := [(m0, .inr (8, [.ref ma_1, .ref ma_3, .ref ma_5, .ref ma_7, .int 0, .ref ma_9, .ref ma_11, .ref ma_13, .ref ma_15, .ref ma_17, .ref ma_19, .int 0, .ref ma_21, .ref ma_23, .ref ma_25, .ref ma_27, .ref ma_29, .ref ma_31, .int 0, .int 0, .ref ma_33, .int 0, .int 0, .ref ma_35, .ref ma_37, .int 0, .ref ma_39, .ref ma_41, .int 0, .ref ma_43, .ref ma_45, .int 0, .ref ma_47, .ref ma_49, .int 0]))]) [4] (by decide) rfl
  have hKc := hK.sub (tys' := []) [] rfl
  refine va_calli (va_runV (As := [.int (xs 1), .int (xs 2)]) (rest := [.int r_1]) ⟨hx, hb, hml, hown, hts⟩ (m_settle l dC dI H.size m0 (.ref ma_1) (.ref ma_3) (.ref ma_5) (.ref ma_7) (.ref ma_9) (.ref ma_11) (.ref ma_13) (.ref ma_15) (.ref ma_17) (.ref ma_19) (.int 0) (.ref ma_21) (.ref ma_23) (.ref ma_25) (.ref ma_27) (.ref ma_29) (.ref ma_31) (.int 0) (.int 0) (.ref ma_33) (.int 0) (.int 0) (.ref ma_35) (.ref ma_37) (.int 0) (.ref ma_39) (.ref ma_41) (.int 0) (.ref ma_43) (.ref ma_45) (.int 0) (.ref ma_47) (.ref ma_49) (.int 0) (xs 1) (xs 2)) (cwV 2 hts (gV mw_4_186 mw_4_187 mw_4_188 mw_1_9 mw_4_189) rfl rfl rfl (by decide +kernel) ⟨Nat.le_of_ble_eq_true rfl, Nat.le_of_ble_eq_true rfl⟩) ⟨pcW_blind, va_recv hKc hPc (ci := 8) (q0 := 0) rfl rfl, pcW_at hPc hKc hDc hN⟩ rfl rfl hl.1 rfl (lv_room (Nat.le_of_ble_eq_true rfl)) dL_law_662 ⟨Nat.le_of_ble_eq_true rfl, Nat.le_of_ble_eq_true rfl⟩) hS (fun q h1 h2 => absurd h2 (Nat.not_le.mpr h1)) (fun q h => hA q (Nat.le_trans hS.1 h)) (fun r_2 u t H1 locs ht hvm hw_2 hB hz1 hk1 hS => ?_)
  have hP := keepP hP hk1
  clear hz1 hk1 hB ht hvm hPc hDc hKc
  generalize H1 = H at hP hS ⊢
  refine lv_icmp_eq (tgt := 983) hx hb dL_law_665 (by decide) (fun _ => ?_) (fun h => absurd (hw_1.trans hw_2.symm) h)
  exact law_end l C0 hS ls (lv_sub hl [0, 3] rfl)
set_option maxHeartbeats 4000000 in
set_option maxRecDepth 100000 in
theorem lc_16 {p : Program} {e : Env} {s : State} {m : MethodId} {below : List Frame} {meth : Method} {c : Code} (l : Launch) {b : Nat} {xs : Nat → Int32} {dC : Nat → ClassId} {dI : Nat → Nat → Nat} {x0 : Nat} {xq_1 : Nat} {xq_20 : Nat} {xq_24 : Nat} {xq_32 : Nat} {xq_36 : Nat} {xq_48 : Nat} {xa_3 : Nat} {xa_5 : Nat} {xa_7 : Nat} {xa_9 : Nat} {xa_11 : Nat} {xq_13 : Nat} {m0 : Nat} {ma_1 : Nat} {ma_3 : Nat} {ma_5 : Nat} {ma_7 : Nat} {ma_9 : Nat} {ma_11 : Nat} {ma_13 : Nat} {ma_15 : Nat} {ma_17 : Nat} {ma_19 : Nat} {ma_21 : Nat} {ma_23 : Nat} {ma_25 : Nat} {ma_27 : Nat} {ma_29 : Nat} {ma_31 : Nat} {ma_33 : Nat} {ma_35 : Nat} {ma_37 : Nat} {ma_39 : Nat} {ma_41 : Nat} {ma_43 : Nat} {ma_45 : Nat} {ma_47 : Nat} {ma_49 : Nat} (C0 : lw_At p s m meth c b 5 xs) {H : Heap} {locs : List Loc} (hK : va_K (dC, dI) vwCl [] s) (hP : va_P (dC, dI) vwCl [(x0, .inr (7, [.ref xq_1, .ref xq_20, .ref xq_24, .ref xq_32, .ref xq_36, .ref xq_48])), (xq_1, .inr (1, [.ref xa_3, .ref xa_5, .ref xa_7, .ref xa_9, .ref xa_11, .ref xq_13, .int 0, .int 0])), (m0, .inr (8, [.ref ma_1, .ref ma_3, .ref ma_5, .ref ma_7, .int 0, .ref ma_9, .ref ma_11, .ref ma_13, .ref ma_15, .ref ma_17, .ref ma_19, .int 0, .ref ma_21, .ref ma_23, .ref ma_25, .ref ma_27, .ref ma_29, .ref ma_31, .int 0, .int 0, .ref ma_33, .int 0, .int 0, .ref ma_35, .ref ma_37, .int 0, .ref ma_39, .ref ma_41, .int 0, .ref ma_43, .ref ma_45, .int 0, .ref ma_47, .ref ma_49, .int 0]))] H) (hD : va_D (fun q : Nat => s.heap.size ≤ q) [(x0, .inr (7, [.ref xq_1, .ref xq_20, .ref xq_24, .ref xq_32, .ref xq_36, .ref xq_48])), (xq_1, .inr (1, [.ref xa_3, .ref xa_5, .ref xa_7, .ref xa_9, .ref xa_11, .ref xq_13, .int 0, .int 0])), (m0, .inr (8, [.ref ma_1, .ref ma_3, .ref ma_5, .ref ma_7, .int 0, .ref ma_9, .ref ma_11, .ref ma_13, .ref ma_15, .ref ma_17, .ref ma_19, .int 0, .ref ma_21, .ref ma_23, .ref ma_25, .ref ma_27, .ref ma_29, .ref ma_31, .int 0, .int 0, .ref ma_33, .int 0, .int 0, .ref ma_35, .ref ma_37, .int 0, .ref ma_39, .ref ma_41, .int 0, .ref ma_43, .ref ma_45, .int 0, .ref ma_47, .ref ma_49, .int 0]))]) (hS : va_S (fun q : Nat => s.heap.size ≤ q) s.heap H locs) (ls : Array Slot) (hl : lv_has ls 4 [(3, .int 0), (2, .ref m0), (1, .ref x0), (0, .ref b)]) : W p l e room_1 s m #[Value.ref b] below meth c H locs 56 3153 (lw_Z below #[Value.ref b] s) (F0 m 670 ls []) := by
  obtain ⟨hx, hb, hr, hml, hown, hts, hX, hbl, hlocks, hgv⟩ := id C0
  have hN := nw_start hts
  have hts : ∀ w ∈ BG, w.before _ s = true := fun w h => hts w (BG_lw h)
  have hown : s.vm.findClass RL = some m.cls := hown
  have hA : ∀ q : Nat, s.heap.size ≤ q → (fun q : Nat => s.heap.size ≤ q) q := fun _ h => h
  have hbA : ¬ (fun q : Nat => s.heap.size ≤ q) b := Nat.not_le.mpr hbl
  refine lv_aload_n hx hb dL_law_670 rfl (lv_at hl 2 rfl) ?_
  refine lv_aload_n hx hb dL_law_671 rfl (lv_at hl 3 rfl) ?_
  refine lv_iload_n hx hb dL_law_672 rfl (lv_at hl 0 rfl) ?_
  refine lv_iconst (v := 1) hx hb dL_law_673 (by decide) ?_
  refine lv_iadd hx hb dL_law_674 ?_
  refine hx_top (y := 1) (by decide) ?_
  refine va_sld hx hb hX hbl hbA hS (show vp_in 1 5 by unfold vp_in; decide) dL_law_675 ?_
  refine hx_top (y := (xs 1)) rfl ?_
  refine lv_aload_n hx hb dL_law_676 rfl (lv_at hl 3 rfl) ?_
  refine lv_iload_n hx hb dL_law_677 rfl (lv_at hl 0 rfl) ?_
  refine lv_iconst (v := 2) hx hb dL_law_678 (by decide) ?_
  refine lv_iadd hx hb dL_law_679 ?_
  refine hx_top (y := 2) (by decide) ?_
  refine va_sld hx hb hX hbl hbA hS (show vp_in 2 5 by unfold vp_in; decide) dL_law_680 ?_
  refine hx_top (y := (xs 2)) rfl ?_
  have hPc := hP.sub (ws' := [(x0, .inr (7, [.ref xq_1, .ref xq_20, .ref xq_24, .ref xq_32, .ref xq_36, .ref xq_48])), (xq_1, .inr (1, [.ref xa_3, .ref xa_5, .ref xa_7, .ref xa_9, .ref xa_11, .ref xq_13, .int 0, .int 0]))]) [0, 1] rfl
  have hDc := hD.sub (ws' := [(x0, .inr (7, [.ref xq_1, .ref xq_20, .ref xq_24, .ref xq_32, .ref xq_36, .ref xq_48])), (xq_1, .inr (1, [.ref xa_3, .ref xa_5, .ref xa_7, .ref xa_9, .ref xa_11, .ref xq_13, .int 0, .int 0]))]) [0, 1] (by decide) rfl
  have hKc := hK.sub (tys' := []) [] rfl
  refine va_calli (va_runV (As := [.int (xs 1), .int (xs 2)]) (rest := []) ⟨hx, hb, hml, hown, hts⟩ (x_shift l dC dI H.size x0 xq_1 (.ref xq_20) (.ref xq_24) (.ref xq_32) (.ref xq_36) (.ref xq_48) (.ref xa_3) (.ref xa_5) (.ref xa_7) (.ref xa_9) (.ref xa_11) (.ref xq_13) (.int 0) (xs 1) (xs 2)) (cwV 2 hts (gV mw_2_234 mw_2_235 mw_2_236 mw_1_1 mw_2_237) rfl rfl rfl (by decide +kernel) ⟨Nat.le_of_ble_eq_true rfl, Nat.le_of_ble_eq_true rfl⟩) ⟨pcW_blind, va_recv hKc hPc (ci := 7) (q0 := 0) rfl rfl, pcW_at hPc hKc hDc hN⟩ rfl rfl hl.1 rfl (lv_room (Nat.le_of_ble_eq_true rfl)) dL_law_681 ⟨Nat.le_of_ble_eq_true rfl, Nat.le_of_ble_eq_true rfl⟩) hS (fun q h1 h2 => absurd h2 (Nat.not_le.mpr h1)) (fun q h => hA q (Nat.le_trans hS.1 h)) (fun r_1 u t H1 locs ht hvm hw_1 hB hz1 hk1 hS => ?_)
  have hP := keepP hP hk1
  clear hz1 hk1 hB ht hvm hPc hDc hKc
  generalize H1 = H at hP hS ⊢
  obtain rfl : r_1 = (-1) := hw_1
  refine lv_aload_n hx hb dL_law_684 rfl (lv_at hl 1 rfl) ?_
  refine lv_aload_n hx hb dL_law_685 rfl (lv_at hl 3 rfl) ?_
  refine lv_iload_n hx hb dL_law_686 rfl (lv_at hl 0 rfl) ?_
  refine lv_iconst (v := 1) hx hb dL_law_687 (by decide) ?_
  refine lv_iadd hx hb dL_law_688 ?_
  refine hx_top (y := 1) (by decide) ?_
  refine va_sld hx hb hX hbl hbA hS (show vp_in 1 5 by unfold vp_in; decide) dL_law_689 ?_
  refine hx_top (y := (xs 1)) rfl ?_
  refine lv_aload_n hx hb dL_law_690 rfl (lv_at hl 3 rfl) ?_
  refine lv_iload_n hx hb dL_law_691 rfl (lv_at hl 0 rfl) ?_
  refine lv_iconst (v := 2) hx hb dL_law_692 (by decide) ?_
  refine lv_iadd hx hb dL_law_693 ?_
  refine hx_top (y := 2) (by decide) ?_
  refine va_sld hx hb hX hbl hbA hS (show vp_in 2 5 by unfold vp_in; decide) dL_law_694 ?_
  refine hx_top (y := (xs 2)) rfl ?_
  have hPc := hP.sub (ws' := [(m0, .inr (8, [.ref ma_1, .ref ma_3, .ref ma_5, .ref ma_7, .int 0, .ref ma_9, .ref ma_11, .ref ma_13, .ref ma_15, .ref ma_17, .ref ma_19, .int 0, .ref ma_21, .ref ma_23, .ref ma_25, .ref ma_27, .ref ma_29, .ref ma_31, .int 0, .int 0, .ref ma_33, .int 0, .int 0, .ref ma_35, .ref ma_37, .int 0, .ref ma_39, .ref ma_41, .int 0, .ref ma_43, .ref ma_45, .int 0, .ref ma_47, .ref ma_49, .int 0]))]) [2] rfl
  have hDc := hD.sub (ws' := [(m0, .inr (8, [.ref ma_1, .ref ma_3, .ref ma_5, .ref ma_7, .int 0, .ref ma_9, .ref ma_11, .ref ma_13, .ref ma_15, .ref ma_17, .ref ma_19, .int 0, .ref ma_21, .ref ma_23, .ref ma_25, .ref ma_27, .ref ma_29, .ref ma_31, .int 0, .int 0, .ref ma_33, .int 0, .int 0, .ref ma_35, .ref ma_37, .int 0, .ref ma_39, .ref ma_41, .int 0, .ref ma_43, .ref ma_45, .int 0, .ref ma_47, .ref ma_49, .int 0]))]) [2] (by decide) rfl
  have hKc := hK.sub (tys' := []) [] rfl
  refine va_calli (va_runV (As := [.int (xs 1), .int (xs 2)]) (rest := [.int (-1)]) ⟨hx, hb, hml, hown, hts⟩ (m_shift l dC dI H.size m0 (.ref ma_1) (.ref ma_3) (.ref ma_5) (.ref ma_7) (.ref ma_9) (.ref ma_11) (.ref ma_13) (.ref ma_15) (.ref ma_17) (.ref ma_19) (.int 0) (.ref ma_21) (.ref ma_23) (.ref ma_25) (.ref ma_27) (.ref ma_29) (.ref ma_31) (.int 0) (.int 0) (.ref ma_33) (.int 0) (.int 0) (.ref ma_35) (.ref ma_37) (.int 0) (.ref ma_39) (.ref ma_41) (.int 0) (.ref ma_43) (.ref ma_45) (.int 0) (.ref ma_47) (.ref ma_49) (.int 0) (xs 1) (xs 2)) (cwV 2 hts (gV mw_4_190 mw_4_191 mw_4_192 mw_1_9 mw_4_193) rfl rfl rfl (by decide +kernel) ⟨Nat.le_of_ble_eq_true rfl, Nat.le_of_ble_eq_true rfl⟩) ⟨pcW_blind, va_recv hKc hPc (ci := 8) (q0 := 0) rfl rfl, pcW_at hPc hKc hDc hN⟩ rfl rfl hl.1 rfl (lv_room (Nat.le_of_ble_eq_true rfl)) dL_law_695 ⟨Nat.le_of_ble_eq_true rfl, Nat.le_of_ble_eq_true rfl⟩) hS (fun q h1 h2 => absurd h2 (Nat.not_le.mpr h1)) (fun q h => hA q (Nat.le_trans hS.1 h)) (fun r_2 u t H1 locs ht hvm hw_2 hB hz1 hk1 hS => ?_)
  have hP := keepP hP hk1
  clear hz1 hk1 hB ht hvm hPc hDc hKc
  generalize H1 = H at hP hS ⊢
  obtain rfl : r_2 = (-1) := hw_2
  refine lv_icmp_eq (tgt := 983) hx hb dL_law_698 (by decide) (fun _ => ?_) (fun h => absurd (by decide) h)
  exact law_end l C0 hS ls (lv_sub hl [0, 3] rfl)
set_option maxHeartbeats 4000000 in
set_option maxRecDepth 100000 in
theorem lc_17 {p : Program} {e : Env} {s : State} {m : MethodId} {below : List Frame} {meth : Method} {c : Code} (l : Launch) {b : Nat} {xs : Nat → Int32} {dC : Nat → ClassId} {dI : Nat → Nat → Nat} {x0 : Nat} {xq_1 : Nat} {xq_20 : Nat} {xq_24 : Nat} {xq_32 : Nat} {xq_36 : Nat} {xq_48 : Nat} {xa_3 : Nat} {xa_5 : Nat} {xa_7 : Nat} {xa_9 : Nat} {xa_11 : Nat} {xq_13 : Nat} {xa_38 : Nat} {xa_40 : Nat} {xa_42 : Nat} {xa_44 : Nat} {xa_46 : Nat} {xk_39 : ClassId} {xk_41 : ClassId} {xk_43 : ClassId} {m0 : Nat} {ma_1 : Nat} {ma_3 : Nat} {ma_5 : Nat} {ma_7 : Nat} {ma_9 : Nat} {ma_11 : Nat} {ma_13 : Nat} {ma_15 : Nat} {ma_17 : Nat} {ma_19 : Nat} {ma_21 : Nat} {ma_23 : Nat} {ma_25 : Nat} {ma_27 : Nat} {ma_29 : Nat} {ma_31 : Nat} {ma_33 : Nat} {ma_35 : Nat} {ma_37 : Nat} {ma_39 : Nat} {ma_41 : Nat} {ma_43 : Nat} {ma_45 : Nat} {ma_47 : Nat} {ma_49 : Nat} {mk_36 : ClassId} {mk_38 : ClassId} (C0 : lw_At p s m meth c b 5 xs) {H : Heap} {locs : List Loc} (hK : va_K (dC, dI) vwCl [(xk_39, .int), (xk_41, .int), (xk_43, .int), (mk_36, .int), (mk_38, .int)] s) (hP : va_P (dC, dI) vwCl [(x0, .inr (7, [.ref xq_1, .ref xq_20, .ref xq_24, .ref xq_32, .ref xq_36, .ref xq_48])), (xq_1, .inr (1, [.ref xa_3, .ref xa_5, .ref xa_7, .ref xa_9, .ref xa_11, .ref xq_13, .int 0, .int 0])), (xq_36, .inr (6, [.ref xa_38, .ref xa_40, .ref xa_42, .ref xa_44, .ref xa_46])), (xa_38, .inl (xk_39, 10, .inl (fun _ => 0))), (xa_40, .inl (xk_41, 8, .inl (fun _ => 0))), (xa_42, .inl (xk_43, 8, .inl (fun _ => 0))), (m0, .inr (8, [.ref ma_1, .ref ma_3, .ref ma_5, .ref ma_7, .int 0, .ref ma_9, .ref ma_11, .ref ma_13, .ref ma_15, .ref ma_17, .ref ma_19, .int 0, .ref ma_21, .ref ma_23, .ref ma_25, .ref ma_27, .ref ma_29, .ref ma_31, .int 0, .int 0, .ref ma_33, .int 0, .int 0, .ref ma_35, .ref ma_37, .int 0, .ref ma_39, .ref ma_41, .int 0, .ref ma_43, .ref ma_45, .int 0, .ref ma_47, .ref ma_49, .int 0])), (ma_35, .inl (mk_36, 8, .inl (fun _ => 0))), (ma_37, .inl (mk_38, 8, .inl (fun _ => 0)))] H) (hD : va_D (fun q : Nat => s.heap.size ≤ q) [(x0, .inr (7, [.ref xq_1, .ref xq_20, .ref xq_24, .ref xq_32, .ref xq_36, .ref xq_48])), (xq_1, .inr (1, [.ref xa_3, .ref xa_5, .ref xa_7, .ref xa_9, .ref xa_11, .ref xq_13, .int 0, .int 0])), (xq_36, .inr (6, [.ref xa_38, .ref xa_40, .ref xa_42, .ref xa_44, .ref xa_46])), (xa_38, .inl (xk_39, 10, .inl (fun _ => 0))), (xa_40, .inl (xk_41, 8, .inl (fun _ => 0))), (xa_42, .inl (xk_43, 8, .inl (fun _ => 0))), (m0, .inr (8, [.ref ma_1, .ref ma_3, .ref ma_5, .ref ma_7, .int 0, .ref ma_9, .ref ma_11, .ref ma_13, .ref ma_15, .ref ma_17, .ref ma_19, .int 0, .ref ma_21, .ref ma_23, .ref ma_25, .ref ma_27, .ref ma_29, .ref ma_31, .int 0, .int 0, .ref ma_33, .int 0, .int 0, .ref ma_35, .ref ma_37, .int 0, .ref ma_39, .ref ma_41, .int 0, .ref ma_43, .ref ma_45, .int 0, .ref ma_47, .ref ma_49, .int 0])), (ma_35, .inl (mk_36, 8, .inl (fun _ => 0))), (ma_37, .inl (mk_38, 8, .inl (fun _ => 0)))]) (hS : va_S (fun q : Nat => s.heap.size ≤ q) s.heap H locs) (ls : Array Slot) (hl : lv_has ls 4 [(3, .int 0), (2, .ref m0), (1, .ref x0), (0, .ref b)]) : W p l e room_1 s m #[Value.ref b] below meth c H locs 56 3153 (lw_Z below #[Value.ref b] s) (F0 m 703 ls []) := by
  obtain ⟨hx, hb, hr, hml, hown, hts, hX, hbl, hlocks, hgv⟩ := id C0
  have hN := nw_start hts
  have hts : ∀ w ∈ BG, w.before _ s = true := fun w h => hts w (BG_lw h)
  have hown : s.vm.findClass RL = some m.cls := hown
  have hA : ∀ q : Nat, s.heap.size ≤ q → (fun q : Nat => s.heap.size ≤ q) q := fun _ h => h
  have hbA : ¬ (fun q : Nat => s.heap.size ≤ q) b := Nat.not_le.mpr hbl
  refine lv_aload_n hx hb dL_law_703 rfl (lv_at hl 2 rfl) ?_
  refine lv_aload_n hx hb dL_law_704 rfl (lv_at hl 3 rfl) ?_
  refine lv_iload_n hx hb dL_law_705 rfl (lv_at hl 0 rfl) ?_
  refine lv_iconst (v := 1) hx hb dL_law_706 (by decide) ?_
  refine lv_iadd hx hb dL_law_707 ?_
  refine hx_top (y := 1) (by decide) ?_
  refine va_sld hx hb hX hbl hbA hS (show vp_in 1 5 by unfold vp_in; decide) dL_law_708 ?_
  refine hx_top (y := (xs 1)) rfl ?_
  have hPc := hP.sub (ws' := [(x0, .inr (7, [.ref xq_1, .ref xq_20, .ref xq_24, .ref xq_32, .ref xq_36, .ref xq_48])), (xq_1, .inr (1, [.ref xa_3, .ref xa_5, .ref xa_7, .ref xa_9, .ref xa_11, .ref xq_13, .int 0, .int 0])), (xq_36, .inr (6, [.ref xa_38, .ref xa_40, .ref xa_42, .ref xa_44, .ref xa_46])), (xa_38, .inl (xk_39, 10, .inl (fun _ => 0))), (xa_40, .inl (xk_41, 8, .inl (fun _ => 0))), (xa_42, .inl (xk_43, 8, .inl (fun _ => 0)))]) [0, 1, 2, 3, 4, 5] rfl
  have hDc := hD.sub (ws' := [(x0, .inr (7, [.ref xq_1, .ref xq_20, .ref xq_24, .ref xq_32, .ref xq_36, .ref xq_48])), (xq_1, .inr (1, [.ref xa_3, .ref xa_5, .ref xa_7, .ref xa_9, .ref xa_11, .ref xq_13, .int 0, .int 0])), (xq_36, .inr (6, [.ref xa_38, .ref xa_40, .ref xa_42, .ref xa_44, .ref xa_46])), (xa_38, .inl (xk_39, 10, .inl (fun _ => 0))), (xa_40, .inl (xk_41, 8, .inl (fun _ => 0))), (xa_42, .inl (xk_43, 8, .inl (fun _ => 0)))]) [0, 1, 2, 3, 4, 5] (by decide) rfl
  have hKc := hK.sub (tys' := [(xk_39, .int), (xk_41, .int), (xk_43, .int)]) [0, 1, 2] rfl
  have hFc := va_free (wc := [(x0, .inr (7, [.ref xq_1, .ref xq_20, .ref xq_24, .ref xq_32, .ref xq_36, .ref xq_48])), (xq_1, .inr (1, [.ref xa_3, .ref xa_5, .ref xa_7, .ref xa_9, .ref xa_11, .ref xq_13, .int 0, .int 0])), (xq_36, .inr (6, [.ref xa_38, .ref xa_40, .ref xa_42, .ref xa_44, .ref xa_46])), (xa_38, .inl (xk_39, 10, .inl (fun _ => 0))), (xa_40, .inl (xk_41, 8, .inl (fun _ => 0))), (xa_42, .inl (xk_43, 8, .inl (fun _ => 0)))]) hD hS hA [0, 1, 2, 3, 4, 5] rfl
  refine va_calli (va_runV (As := [.int (xs 1)]) (rest := []) ⟨hx, hb, hml, hown, hts⟩ (x_column l dC dI H.size x0 xq_1 (.ref xq_20) xq_24 (.ref xq_32) xq_36 (.ref xq_48) (.ref xa_3) (.ref xa_5) (.ref xa_7) (.ref xa_9) (.ref xa_11) (.ref xq_13) (.int 0) xa_38 xa_40 xa_42 (.ref xa_44) (.ref xa_46) xk_39 xk_41 xk_43 (xs 1)) (cwV 1 hts (gV mw_3_2 mw_3_3 mw_3_4 mw_1_1 mw_3_5) rfl rfl rfl (by decide +kernel) ⟨Nat.le_of_ble_eq_true rfl, Nat.le_of_ble_eq_true rfl⟩) ⟨pcW_blind, va_recv hKc hPc (ci := 7) (q0 := 0) rfl rfl, pcW_at hPc hKc hDc hN⟩ rfl rfl hl.1 rfl (lv_room (Nat.le_of_ble_eq_true rfl)) dL_law_709 ⟨Nat.le_of_ble_eq_true rfl, Nat.le_of_ble_eq_true rfl⟩) hS (fun q _ h => hFc q h) hFc (fun r_1 u t H1 locs ht hvm hw_1 hB hz1 hk1 hS => ?_)
  obtain ⟨hP, hD⟩ := va_join (wr := [(m0, .inr (8, [.ref ma_1, .ref ma_3, .ref ma_5, .ref ma_7, .int 0, .ref ma_9, .ref ma_11, .ref ma_13, .ref ma_15, .ref ma_17, .ref ma_19, .int 0, .ref ma_21, .ref ma_23, .ref ma_25, .ref ma_27, .ref ma_29, .ref ma_31, .int 0, .int 0, .ref ma_33, .int 0, .int 0, .ref ma_35, .ref ma_37, .int 0, .ref ma_39, .ref ma_41, .int 0, .ref ma_43, .ref ma_45, .int 0, .ref ma_47, .ref ma_49, .int 0])), (ma_35, .inl (mk_36, 8, .inl (fun _ => 0))), (ma_37, .inl (mk_38, 8, .inl (fun _ => 0)))]) (w1 := []) hP hD [0, 1, 2, 3, 4, 5] [6, 7, 8] rfl rfl (by decide) (by decide) hk1 hFc nilP nilD
  rw [List.append_nil] at hP hD
  clear hz1 hk1 hPc hDc hKc hFc
  generalize H1 = H at hP hS ⊢
  have hK : va_K (dC, dI) vwCl [(xk_39, .int), (xk_41, .int), (xk_43, .int), (mk_36, .int), (mk_38, .int)] s := hK
  have hP : va_P (dC, dI) vwCl [(m0, .inr (8, [.ref ma_1, .ref ma_3, .ref ma_5, .ref ma_7, .int 0, .ref ma_9, .ref ma_11, .ref ma_13, .ref ma_15, .ref ma_17, .ref ma_19, .int 0, .ref ma_21, .ref ma_23, .ref ma_25, .ref ma_27, .ref ma_29, .ref ma_31, .int 0, .int 0, .ref ma_33, .int 0, .int 0, .ref ma_35, .ref ma_37, .int 0, .ref ma_39, .ref ma_41, .int 0, .ref ma_43, .ref ma_45, .int 0, .ref ma_47, .ref ma_49, .int 0])), (ma_35, .inl (mk_36, 8, .inl (fun _ => 0))), (ma_37, .inl (mk_38, 8, .inl (fun _ => 0)))] H := hP
  have hD : va_D (fun q : Nat => s.heap.size ≤ q) [(m0, .inr (8, [.ref ma_1, .ref ma_3, .ref ma_5, .ref ma_7, .int 0, .ref ma_9, .ref ma_11, .ref ma_13, .ref ma_15, .ref ma_17, .ref ma_19, .int 0, .ref ma_21, .ref ma_23, .ref ma_25, .ref ma_27, .ref ma_29, .ref ma_31, .int 0, .int 0, .ref ma_33, .int 0, .int 0, .ref ma_35, .ref ma_37, .int 0, .ref ma_39, .ref ma_41, .int 0, .ref ma_43, .ref ma_45, .int 0, .ref ma_47, .ref ma_49, .int 0])), (ma_35, .inl (mk_36, 8, .inl (fun _ => 0))), (ma_37, .inl (mk_38, 8, .inl (fun _ => 0)))] := hD
  refine lv_aload_n hx hb dL_law_712 rfl (lv_at hl 1 rfl) ?_
  refine lv_aload_n hx hb dL_law_713 rfl (lv_at hl 3 rfl) ?_
  refine lv_iload_n hx hb dL_law_714 rfl (lv_at hl 0 rfl) ?_
  refine lv_iconst (v := 1) hx hb dL_law_715 (by decide) ?_
  refine lv_iadd hx hb dL_law_716 ?_
  refine hx_top (y := 1) (by decide) ?_
  refine va_sld hx hb hX hbl hbA hS (show vp_in 1 5 by unfold vp_in; decide) dL_law_717 ?_
  refine hx_top (y := (xs 1)) rfl ?_
  have hPc := hP.sub (ws' := [(m0, .inr (8, [.ref ma_1, .ref ma_3, .ref ma_5, .ref ma_7, .int 0, .ref ma_9, .ref ma_11, .ref ma_13, .ref ma_15, .ref ma_17, .ref ma_19, .int 0, .ref ma_21, .ref ma_23, .ref ma_25, .ref ma_27, .ref ma_29, .ref ma_31, .int 0, .int 0, .ref ma_33, .int 0, .int 0, .ref ma_35, .ref ma_37, .int 0, .ref ma_39, .ref ma_41, .int 0, .ref ma_43, .ref ma_45, .int 0, .ref ma_47, .ref ma_49, .int 0])), (ma_35, .inl (mk_36, 8, .inl (fun _ => 0))), (ma_37, .inl (mk_38, 8, .inl (fun _ => 0)))]) [0, 1, 2] rfl
  have hDc := hD.sub (ws' := [(m0, .inr (8, [.ref ma_1, .ref ma_3, .ref ma_5, .ref ma_7, .int 0, .ref ma_9, .ref ma_11, .ref ma_13, .ref ma_15, .ref ma_17, .ref ma_19, .int 0, .ref ma_21, .ref ma_23, .ref ma_25, .ref ma_27, .ref ma_29, .ref ma_31, .int 0, .int 0, .ref ma_33, .int 0, .int 0, .ref ma_35, .ref ma_37, .int 0, .ref ma_39, .ref ma_41, .int 0, .ref ma_43, .ref ma_45, .int 0, .ref ma_47, .ref ma_49, .int 0])), (ma_35, .inl (mk_36, 8, .inl (fun _ => 0))), (ma_37, .inl (mk_38, 8, .inl (fun _ => 0)))]) [0, 1, 2] (by decide) rfl
  have hKc := hK.sub (tys' := [(mk_36, .int), (mk_38, .int)]) [3, 4] rfl
  have hFc := va_free (wc := [(m0, .inr (8, [.ref ma_1, .ref ma_3, .ref ma_5, .ref ma_7, .int 0, .ref ma_9, .ref ma_11, .ref ma_13, .ref ma_15, .ref ma_17, .ref ma_19, .int 0, .ref ma_21, .ref ma_23, .ref ma_25, .ref ma_27, .ref ma_29, .ref ma_31, .int 0, .int 0, .ref ma_33, .int 0, .int 0, .ref ma_35, .ref ma_37, .int 0, .ref ma_39, .ref ma_41, .int 0, .ref ma_43, .ref ma_45, .int 0, .ref ma_47, .ref ma_49, .int 0])), (ma_35, .inl (mk_36, 8, .inl (fun _ => 0))), (ma_37, .inl (mk_38, 8, .inl (fun _ => 0)))]) hD hS hA [0, 1, 2] rfl
  refine va_calli (va_runV (As := [.int (xs 1)]) (rest := [.int r_1]) ⟨hx, hb, hml, hown, hts⟩ (m_column l dC dI H.size m0 (.ref ma_1) (.ref ma_3) (.ref ma_5) (.ref ma_7) (.ref ma_9) (.ref ma_11) (.ref ma_13) (.ref ma_15) (.ref ma_17) (.ref ma_19) (.int 0) (.ref ma_21) (.ref ma_23) (.ref ma_25) (.ref ma_27) (.ref ma_29) (.ref ma_31) (.int 0) (.int 0) (.ref ma_33) (.int 0) (.int 0) ma_35 ma_37 (.ref ma_39) (.ref ma_41) (.int 0) (.ref ma_43) (.ref ma_45) (.int 0) (.ref ma_47) (.ref ma_49) (.int 0) mk_36 mk_38 (xs 1)) (cwV 1 hts (gV mw_4_194 mw_4_195 mw_4_196 mw_1_9 mw_4_197) rfl rfl rfl (by decide +kernel) ⟨Nat.le_of_ble_eq_true rfl, Nat.le_of_ble_eq_true rfl⟩) ⟨pcW_blind, va_recv hKc hPc (ci := 8) (q0 := 0) rfl rfl, pcW_at hPc hKc hDc hN⟩ rfl rfl hl.1 rfl (lv_room (Nat.le_of_ble_eq_true rfl)) dL_law_718 ⟨Nat.le_of_ble_eq_true rfl, Nat.le_of_ble_eq_true rfl⟩) hS (fun q _ h => hFc q h) hFc (fun r_2 u t H1 locs ht hvm hw_2 hB hz1 hk1 hS => ?_)
  obtain ⟨hP, hD⟩ := va_join (wr := []) (w1 := []) hP hD [0, 1, 2] [] rfl rfl (by decide) (by decide) hk1 hFc nilP nilD
  rw [List.append_nil] at hP hD
  clear hz1 hk1 hPc hDc hKc hFc
  generalize H1 = H at hP hS ⊢
  have hK : va_K (dC, dI) vwCl [(xk_39, .int), (xk_41, .int), (xk_43, .int), (mk_36, .int), (mk_38, .int)] s := hK
  have hP : va_P (dC, dI) vwCl [] H := hP
  have hD : va_D (fun q : Nat => s.heap.size ≤ q) [] := hD
  refine lv_icmp_eq (tgt := 983) hx hb dL_law_721 (by decide) (fun _ => ?_) (fun h => absurd (hw_1.trans hw_2.symm) h)
  exact law_end l C0 hS ls (lv_sub hl [0, 3] rfl)
