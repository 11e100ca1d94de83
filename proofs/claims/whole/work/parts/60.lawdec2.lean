/-! the law: its instructions, 2 -/
theorem dlaw_449 : decode code 449 = .ok (.invokevirtual 44, 3) := by decide +kernel
theorem dlaw_452 : decode code 452 = .ok (.aload_n 2, 1) := by decide +kernel
theorem dlaw_453 : decode code 453 = .ok (.aload_n 0, 1) := by decide +kernel
theorem dlaw_454 : decode code 454 = .ok (.iload_n 3, 1) := by decide +kernel
theorem dlaw_455 : decode code 455 = .ok (.iconst 1, 1) := by decide +kernel
theorem dlaw_456 : decode code 456 = .ok (.iadd, 1) := by decide +kernel
theorem dlaw_457 : decode code 457 = .ok (.iaload, 1) := by decide +kernel
theorem dlaw_458 : decode code 458 = .ok (.invokevirtual 47, 3) := by decide +kernel
theorem dlaw_461 : decode code 461 = .ok (.if_icmp .eq 859, 3) := by decide +kernel
theorem dlaw_466 : decode code 466 = .ok (.aload_n 1, 1) := by decide +kernel
theorem dlaw_467 : decode code 467 = .ok (.aload_n 0, 1) := by decide +kernel
theorem dlaw_468 : decode code 468 = .ok (.iload_n 3, 1) := by decide +kernel
theorem dlaw_469 : decode code 469 = .ok (.iconst 1, 1) := by decide +kernel
theorem dlaw_470 : decode code 470 = .ok (.iadd, 1) := by decide +kernel
theorem dlaw_471 : decode code 471 = .ok (.iaload, 1) := by decide +kernel
theorem dlaw_472 : decode code 472 = .ok (.aload_n 0, 1) := by decide +kernel
theorem dlaw_473 : decode code 473 = .ok (.iload_n 3, 1) := by decide +kernel
theorem dlaw_474 : decode code 474 = .ok (.iconst 2, 1) := by decide +kernel
theorem dlaw_475 : decode code 475 = .ok (.iadd, 1) := by decide +kernel
theorem dlaw_476 : decode code 476 = .ok (.iaload, 1) := by decide +kernel
theorem dlaw_477 : decode code 477 = .ok (.invokevirtual 48, 3) := by decide +kernel
theorem dlaw_480 : decode code 480 = .ok (.aload_n 2, 1) := by decide +kernel
theorem dlaw_481 : decode code 481 = .ok (.aload_n 0, 1) := by decide +kernel
theorem dlaw_482 : decode code 482 = .ok (.iload_n 3, 1) := by decide +kernel
theorem dlaw_483 : decode code 483 = .ok (.iconst 1, 1) := by decide +kernel
theorem dlaw_484 : decode code 484 = .ok (.iadd, 1) := by decide +kernel
theorem dlaw_485 : decode code 485 = .ok (.iaload, 1) := by decide +kernel
theorem dlaw_486 : decode code 486 = .ok (.aload_n 0, 1) := by decide +kernel
theorem dlaw_487 : decode code 487 = .ok (.iload_n 3, 1) := by decide +kernel
theorem dlaw_488 : decode code 488 = .ok (.iconst 2, 1) := by decide +kernel
theorem dlaw_489 : decode code 489 = .ok (.iadd, 1) := by decide +kernel
theorem dlaw_490 : decode code 490 = .ok (.iaload, 1) := by decide +kernel
theorem dlaw_491 : decode code 491 = .ok (.invokevirtual 51, 3) := by decide +kernel
theorem dlaw_494 : decode code 494 = .ok (.if_icmp .eq 826, 3) := by decide +kernel
theorem dlaw_499 : decode code 499 = .ok (.aload_n 1, 1) := by decide +kernel
theorem dlaw_500 : decode code 500 = .ok (.aload_n 0, 1) := by decide +kernel
theorem dlaw_501 : decode code 501 = .ok (.iload_n 3, 1) := by decide +kernel
theorem dlaw_502 : decode code 502 = .ok (.iconst 1, 1) := by decide +kernel
theorem dlaw_503 : decode code 503 = .ok (.iadd, 1) := by decide +kernel
theorem dlaw_504 : decode code 504 = .ok (.iaload, 1) := by decide +kernel
theorem dlaw_505 : decode code 505 = .ok (.aload_n 0, 1) := by decide +kernel
theorem dlaw_506 : decode code 506 = .ok (.iload_n 3, 1) := by decide +kernel
theorem dlaw_507 : decode code 507 = .ok (.iconst 2, 1) := by decide +kernel
theorem dlaw_508 : decode code 508 = .ok (.iadd, 1) := by decide +kernel
theorem dlaw_509 : decode code 509 = .ok (.iaload, 1) := by decide +kernel
theorem dlaw_510 : decode code 510 = .ok (.aload_n 0, 1) := by decide +kernel
theorem dlaw_511 : decode code 511 = .ok (.iload_n 3, 1) := by decide +kernel
theorem dlaw_512 : decode code 512 = .ok (.iconst 3, 1) := by decide +kernel
theorem dlaw_513 : decode code 513 = .ok (.iadd, 1) := by decide +kernel
theorem dlaw_514 : decode code 514 = .ok (.iaload, 1) := by decide +kernel
theorem dlaw_515 : decode code 515 = .ok (.invokevirtual 52, 3) := by decide +kernel
theorem dlaw_518 : decode code 518 = .ok (.aload_n 2, 1) := by decide +kernel
theorem dlaw_519 : decode code 519 = .ok (.aload_n 0, 1) := by decide +kernel
theorem dlaw_520 : decode code 520 = .ok (.iload_n 3, 1) := by decide +kernel
theorem dlaw_521 : decode code 521 = .ok (.iconst 1, 1) := by decide +kernel
theorem dlaw_522 : decode code 522 = .ok (.iadd, 1) := by decide +kernel
theorem dlaw_523 : decode code 523 = .ok (.iaload, 1) := by decide +kernel
theorem dlaw_524 : decode code 524 = .ok (.aload_n 0, 1) := by decide +kernel
theorem dlaw_525 : decode code 525 = .ok (.iload_n 3, 1) := by decide +kernel
theorem dlaw_526 : decode code 526 = .ok (.iconst 2, 1) := by decide +kernel
theorem dlaw_527 : decode code 527 = .ok (.iadd, 1) := by decide +kernel
theorem dlaw_528 : decode code 528 = .ok (.iaload, 1) := by decide +kernel
theorem dlaw_529 : decode code 529 = .ok (.aload_n 0, 1) := by decide +kernel
theorem dlaw_530 : decode code 530 = .ok (.iload_n 3, 1) := by decide +kernel
theorem dlaw_531 : decode code 531 = .ok (.iconst 3, 1) := by decide +kernel
theorem dlaw_532 : decode code 532 = .ok (.iadd, 1) := by decide +kernel
theorem dlaw_533 : decode code 533 = .ok (.iaload, 1) := by decide +kernel
theorem dlaw_534 : decode code 534 = .ok (.invokevirtual 56, 3) := by decide +kernel
theorem dlaw_537 : decode code 537 = .ok (.if_icmp .eq 783, 3) := by decide +kernel
theorem dlaw_542 : decode code 542 = .ok (.aload_n 1, 1) := by decide +kernel
theorem dlaw_543 : decode code 543 = .ok (.aload_n 0, 1) := by decide +kernel
theorem dlaw_544 : decode code 544 = .ok (.iload_n 3, 1) := by decide +kernel
theorem dlaw_545 : decode code 545 = .ok (.iconst 1, 1) := by decide +kernel
theorem dlaw_546 : decode code 546 = .ok (.iadd, 1) := by decide +kernel
theorem dlaw_547 : decode code 547 = .ok (.iaload, 1) := by decide +kernel
theorem dlaw_548 : decode code 548 = .ok (.aload_n 0, 1) := by decide +kernel
theorem dlaw_549 : decode code 549 = .ok (.iload_n 3, 1) := by decide +kernel
theorem dlaw_550 : decode code 550 = .ok (.iconst 2, 1) := by decide +kernel
theorem dlaw_551 : decode code 551 = .ok (.iadd, 1) := by decide +kernel
theorem dlaw_552 : decode code 552 = .ok (.iaload, 1) := by decide +kernel
theorem dlaw_553 : decode code 553 = .ok (.invokevirtual 57, 3) := by decide +kernel
theorem dlaw_556 : decode code 556 = .ok (.aload_n 2, 1) := by decide +kernel
theorem dlaw_557 : decode code 557 = .ok (.aload_n 0, 1) := by decide +kernel
theorem dlaw_558 : decode code 558 = .ok (.iload_n 3, 1) := by decide +kernel
theorem dlaw_559 : decode code 559 = .ok (.iconst 1, 1) := by decide +kernel
theorem dlaw_560 : decode code 560 = .ok (.iadd, 1) := by decide +kernel
theorem dlaw_561 : decode code 561 = .ok (.iaload, 1) := by decide +kernel
theorem dlaw_562 : decode code 562 = .ok (.aload_n 0, 1) := by decide +kernel
theorem dlaw_563 : decode code 563 = .ok (.iload_n 3, 1) := by decide +kernel
theorem dlaw_564 : decode code 564 = .ok (.iconst 2, 1) := by decide +kernel
theorem dlaw_565 : decode code 565 = .ok (.iadd, 1) := by decide +kernel
theorem dlaw_566 : decode code 566 = .ok (.iaload, 1) := by decide +kernel
theorem dlaw_567 : decode code 567 = .ok (.invokevirtual 60, 3) := by decide +kernel
theorem dlaw_570 : decode code 570 = .ok (.if_icmp .eq 750, 3) := by decide +kernel
theorem dlaw_575 : decode code 575 = .ok (.aload_n 1, 1) := by decide +kernel
theorem dlaw_576 : decode code 576 = .ok (.aload_n 0, 1) := by decide +kernel
theorem dlaw_577 : decode code 577 = .ok (.iload_n 3, 1) := by decide +kernel
theorem dlaw_578 : decode code 578 = .ok (.iconst 1, 1) := by decide +kernel
theorem dlaw_579 : decode code 579 = .ok (.iadd, 1) := by decide +kernel
theorem dlaw_580 : decode code 580 = .ok (.iaload, 1) := by decide +kernel
theorem dlaw_581 : decode code 581 = .ok (.aload_n 0, 1) := by decide +kernel
theorem dlaw_582 : decode code 582 = .ok (.iload_n 3, 1) := by decide +kernel
theorem dlaw_583 : decode code 583 = .ok (.iconst 2, 1) := by decide +kernel
theorem dlaw_584 : decode code 584 = .ok (.iadd, 1) := by decide +kernel
theorem dlaw_585 : decode code 585 = .ok (.iaload, 1) := by decide +kernel
theorem dlaw_586 : decode code 586 = .ok (.aload_n 0, 1) := by decide +kernel
theorem dlaw_587 : decode code 587 = .ok (.iload_n 3, 1) := by decide +kernel
theorem dlaw_588 : decode code 588 = .ok (.iconst 3, 1) := by decide +kernel
theorem dlaw_589 : decode code 589 = .ok (.iadd, 1) := by decide +kernel
theorem dlaw_590 : decode code 590 = .ok (.iaload, 1) := by decide +kernel
theorem dlaw_591 : decode code 591 = .ok (.invokevirtual 61, 3) := by decide +kernel
theorem dlaw_594 : decode code 594 = .ok (.aload_n 2, 1) := by decide +kernel
theorem dlaw_595 : decode code 595 = .ok (.aload_n 0, 1) := by decide +kernel
theorem dlaw_596 : decode code 596 = .ok (.iload_n 3, 1) := by decide +kernel
theorem dlaw_597 : decode code 597 = .ok (.iconst 1, 1) := by decide +kernel
theorem dlaw_598 : decode code 598 = .ok (.iadd, 1) := by decide +kernel
theorem dlaw_599 : decode code 599 = .ok (.iaload, 1) := by decide +kernel
theorem dlaw_600 : decode code 600 = .ok (.aload_n 0, 1) := by decide +kernel
theorem dlaw_601 : decode code 601 = .ok (.iload_n 3, 1) := by decide +kernel
theorem dlaw_602 : decode code 602 = .ok (.iconst 2, 1) := by decide +kernel
theorem dlaw_603 : decode code 603 = .ok (.iadd, 1) := by decide +kernel
theorem dlaw_604 : decode code 604 = .ok (.iaload, 1) := by decide +kernel
theorem dlaw_605 : decode code 605 = .ok (.aload_n 0, 1) := by decide +kernel
theorem dlaw_606 : decode code 606 = .ok (.iload_n 3, 1) := by decide +kernel
theorem dlaw_607 : decode code 607 = .ok (.iconst 3, 1) := by decide +kernel
theorem dlaw_608 : decode code 608 = .ok (.iadd, 1) := by decide +kernel
theorem dlaw_609 : decode code 609 = .ok (.iaload, 1) := by decide +kernel
theorem dlaw_610 : decode code 610 = .ok (.invokevirtual 64, 3) := by decide +kernel
theorem dlaw_613 : decode code 613 = .ok (.if_icmp .eq 707, 3) := by decide +kernel
theorem dlaw_618 : decode code 618 = .ok (.aload_n 1, 1) := by decide +kernel
theorem dlaw_619 : decode code 619 = .ok (.aload_n 0, 1) := by decide +kernel
theorem dlaw_620 : decode code 620 = .ok (.iload_n 3, 1) := by decide +kernel
theorem dlaw_621 : decode code 621 = .ok (.iconst 1, 1) := by decide +kernel
theorem dlaw_622 : decode code 622 = .ok (.iadd, 1) := by decide +kernel
theorem dlaw_623 : decode code 623 = .ok (.iaload, 1) := by decide +kernel
theorem dlaw_624 : decode code 624 = .ok (.invokevirtual 65, 3) := by decide +kernel
theorem dlaw_627 : decode code 627 = .ok (.aload_n 2, 1) := by decide +kernel
theorem dlaw_628 : decode code 628 = .ok (.aload_n 0, 1) := by decide +kernel
theorem dlaw_629 : decode code 629 = .ok (.iload_n 3, 1) := by decide +kernel
theorem dlaw_630 : decode code 630 = .ok (.iconst 1, 1) := by decide +kernel
theorem dlaw_631 : decode code 631 = .ok (.iadd, 1) := by decide +kernel
theorem dlaw_632 : decode code 632 = .ok (.iaload, 1) := by decide +kernel
theorem dlaw_633 : decode code 633 = .ok (.invokevirtual 68, 3) := by decide +kernel
theorem dlaw_636 : decode code 636 = .ok (.if_icmp .eq 684, 3) := by decide +kernel
theorem dlaw_641 : decode code 641 = .ok (.aload_n 1, 1) := by decide +kernel
theorem dlaw_642 : decode code 642 = .ok (.aload_n 0, 1) := by decide +kernel
theorem dlaw_643 : decode code 643 = .ok (.iload_n 3, 1) := by decide +kernel
theorem dlaw_644 : decode code 644 = .ok (.iconst 1, 1) := by decide +kernel
theorem dlaw_645 : decode code 645 = .ok (.iadd, 1) := by decide +kernel
theorem dlaw_646 : decode code 646 = .ok (.iaload, 1) := by decide +kernel
theorem dlaw_647 : decode code 647 = .ok (.aload_n 0, 1) := by decide +kernel
theorem dlaw_648 : decode code 648 = .ok (.iload_n 3, 1) := by decide +kernel
theorem dlaw_649 : decode code 649 = .ok (.iconst 2, 1) := by decide +kernel
theorem dlaw_650 : decode code 650 = .ok (.iadd, 1) := by decide +kernel
theorem dlaw_651 : decode code 651 = .ok (.iaload, 1) := by decide +kernel
theorem dlaw_652 : decode code 652 = .ok (.invokevirtual 69, 3) := by decide +kernel
theorem dlaw_655 : decode code 655 = .ok (.aload_n 2, 1) := by decide +kernel
theorem dlaw_656 : decode code 656 = .ok (.aload_n 0, 1) := by decide +kernel
theorem dlaw_657 : decode code 657 = .ok (.iload_n 3, 1) := by decide +kernel
theorem dlaw_658 : decode code 658 = .ok (.iconst 1, 1) := by decide +kernel
theorem dlaw_659 : decode code 659 = .ok (.iadd, 1) := by decide +kernel
theorem dlaw_660 : decode code 660 = .ok (.iaload, 1) := by decide +kernel
theorem dlaw_661 : decode code 661 = .ok (.aload_n 0, 1) := by decide +kernel
theorem dlaw_662 : decode code 662 = .ok (.iload_n 3, 1) := by decide +kernel
theorem dlaw_663 : decode code 663 = .ok (.iconst 2, 1) := by decide +kernel
theorem dlaw_664 : decode code 664 = .ok (.iadd, 1) := by decide +kernel
theorem dlaw_665 : decode code 665 = .ok (.iaload, 1) := by decide +kernel
theorem dlaw_666 : decode code 666 = .ok (.invokevirtual 72, 3) := by decide +kernel
theorem dlaw_669 : decode code 669 = .ok (.if_icmp .eq 651, 3) := by decide +kernel
theorem dlaw_674 : decode code 674 = .ok (.aload_n 1, 1) := by decide +kernel
theorem dlaw_675 : decode code 675 = .ok (.aload_n 0, 1) := by decide +kernel
theorem dlaw_676 : decode code 676 = .ok (.iload_n 3, 1) := by decide +kernel
theorem dlaw_677 : decode code 677 = .ok (.iconst 1, 1) := by decide +kernel
theorem dlaw_678 : decode code 678 = .ok (.iadd, 1) := by decide +kernel
theorem dlaw_679 : decode code 679 = .ok (.iaload, 1) := by decide +kernel
theorem dlaw_680 : decode code 680 = .ok (.aload_n 0, 1) := by decide +kernel
theorem dlaw_681 : decode code 681 = .ok (.iload_n 3, 1) := by decide +kernel
theorem dlaw_682 : decode code 682 = .ok (.iconst 2, 1) := by decide +kernel
theorem dlaw_683 : decode code 683 = .ok (.iadd, 1) := by decide +kernel
theorem dlaw_684 : decode code 684 = .ok (.iaload, 1) := by decide +kernel
theorem dlaw_685 : decode code 685 = .ok (.aload_n 0, 1) := by decide +kernel
theorem dlaw_686 : decode code 686 = .ok (.iload_n 3, 1) := by decide +kernel
theorem dlaw_687 : decode code 687 = .ok (.iconst 3, 1) := by decide +kernel
theorem dlaw_688 : decode code 688 = .ok (.iadd, 1) := by decide +kernel
theorem dlaw_689 : decode code 689 = .ok (.iaload, 1) := by decide +kernel
theorem dlaw_690 : decode code 690 = .ok (.invokevirtual 73, 3) := by decide +kernel
theorem dlaw_693 : decode code 693 = .ok (.aload_n 2, 1) := by decide +kernel
theorem dlaw_694 : decode code 694 = .ok (.aload_n 0, 1) := by decide +kernel
theorem dlaw_695 : decode code 695 = .ok (.iload_n 3, 1) := by decide +kernel
theorem dlaw_696 : decode code 696 = .ok (.iconst 1, 1) := by decide +kernel
theorem dlaw_697 : decode code 697 = .ok (.iadd, 1) := by decide +kernel
theorem dlaw_698 : decode code 698 = .ok (.iaload, 1) := by decide +kernel
theorem dlaw_699 : decode code 699 = .ok (.aload_n 0, 1) := by decide +kernel
theorem dlaw_700 : decode code 700 = .ok (.iload_n 3, 1) := by decide +kernel
theorem dlaw_701 : decode code 701 = .ok (.iconst 2, 1) := by decide +kernel
theorem dlaw_702 : decode code 702 = .ok (.iadd, 1) := by decide +kernel
theorem dlaw_703 : decode code 703 = .ok (.iaload, 1) := by decide +kernel
theorem dlaw_704 : decode code 704 = .ok (.aload_n 0, 1) := by decide +kernel
theorem dlaw_705 : decode code 705 = .ok (.iload_n 3, 1) := by decide +kernel
theorem dlaw_706 : decode code 706 = .ok (.iconst 3, 1) := by decide +kernel
theorem dlaw_707 : decode code 707 = .ok (.iadd, 1) := by decide +kernel
theorem dlaw_708 : decode code 708 = .ok (.iaload, 1) := by decide +kernel
theorem dlaw_709 : decode code 709 = .ok (.invokevirtual 76, 3) := by decide +kernel
theorem dlaw_712 : decode code 712 = .ok (.if_icmp .eq 608, 3) := by decide +kernel
theorem dlaw_717 : decode code 717 = .ok (.aload_n 1, 1) := by decide +kernel
theorem dlaw_718 : decode code 718 = .ok (.aload_n 0, 1) := by decide +kernel
theorem dlaw_719 : decode code 719 = .ok (.iload_n 3, 1) := by decide +kernel
theorem dlaw_720 : decode code 720 = .ok (.iconst 1, 1) := by decide +kernel
theorem dlaw_721 : decode code 721 = .ok (.iadd, 1) := by decide +kernel
theorem dlaw_722 : decode code 722 = .ok (.iaload, 1) := by decide +kernel
theorem dlaw_723 : decode code 723 = .ok (.aload_n 0, 1) := by decide +kernel
theorem dlaw_724 : decode code 724 = .ok (.iload_n 3, 1) := by decide +kernel
theorem dlaw_725 : decode code 725 = .ok (.iconst 2, 1) := by decide +kernel
theorem dlaw_726 : decode code 726 = .ok (.iadd, 1) := by decide +kernel
theorem dlaw_727 : decode code 727 = .ok (.iaload, 1) := by decide +kernel
