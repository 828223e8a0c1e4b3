/-! the law: what its instructions are -/
theorem dd_L_law_539 : decode Y_L_law.2.1 539 = .ok (.iadd, 1) := by decide +kernel
theorem dd_L_law_540 : decode Y_L_law.2.1 540 = .ok (.iaload, 1) := by decide +kernel
theorem dd_L_law_541 : decode Y_L_law.2.1 541 = .ok (.aload_n 3, 1) := by decide +kernel
theorem dd_L_law_542 : decode Y_L_law.2.1 542 = .ok (.invokestatic 135, 3) := by decide +kernel
theorem dd_L_law_545 : decode Y_L_law.2.1 545 = .ok (.istore 5, 2) := by decide +kernel
theorem dd_L_law_547 : decode Y_L_law.2.1 547 = .ok (.aload_n 2, 1) := by decide +kernel
theorem dd_L_law_548 : decode Y_L_law.2.1 548 = .ok (.aload_n 0, 1) := by decide +kernel
theorem dd_L_law_549 : decode Y_L_law.2.1 549 = .ok (.iload 4, 2) := by decide +kernel
theorem dd_L_law_551 : decode Y_L_law.2.1 551 = .ok (.iconst 1, 1) := by decide +kernel
theorem dd_L_law_552 : decode Y_L_law.2.1 552 = .ok (.iadd, 1) := by decide +kernel
theorem dd_L_law_553 : decode Y_L_law.2.1 553 = .ok (.iaload, 1) := by decide +kernel
theorem dd_L_law_554 : decode Y_L_law.2.1 554 = .ok (.invokevirtual 137, 3) := by decide +kernel
theorem dd_L_law_557 : decode Y_L_law.2.1 557 = .ok (.istore 6, 2) := by decide +kernel
theorem dd_L_law_559 : decode Y_L_law.2.1 559 = .ok (.aload_n 2, 1) := by decide +kernel
theorem dd_L_law_560 : decode Y_L_law.2.1 560 = .ok (.invokevirtual 117, 3) := by decide +kernel
theorem dd_L_law_563 : decode Y_L_law.2.1 563 = .ok (.iload 5, 2) := by decide +kernel
theorem dd_L_law_565 : decode Y_L_law.2.1 565 = .ok (.if_icmp .eq 5, 3) := by decide +kernel
theorem dd_L_law_568 : decode Y_L_law.2.1 568 = .ok (.iconst 0, 1) := by decide +kernel
theorem dd_L_law_569 : decode Y_L_law.2.1 569 = .ok (.ireturn, 1) := by decide +kernel
theorem dd_L_law_570 : decode Y_L_law.2.1 570 = .ok (.iload 5, 2) := by decide +kernel
theorem dd_L_law_572 : decode Y_L_law.2.1 572 = .ok (.ifCond .ne 15, 3) := by decide +kernel
theorem dd_L_law_575 : decode Y_L_law.2.1 575 = .ok (.aload_n 3, 1) := by decide +kernel
theorem dd_L_law_576 : decode Y_L_law.2.1 576 = .ok (.iconst 0, 1) := by decide +kernel
theorem dd_L_law_577 : decode Y_L_law.2.1 577 = .ok (.laload, 1) := by decide +kernel
theorem dd_L_law_578 : decode Y_L_law.2.1 578 = .ok (.iload 6, 2) := by decide +kernel
theorem dd_L_law_580 : decode Y_L_law.2.1 580 = .ok (.i2l, 1) := by decide +kernel
theorem dd_L_law_581 : decode Y_L_law.2.1 581 = .ok (.lcmp, 1) := by decide +kernel
theorem dd_L_law_582 : decode Y_L_law.2.1 582 = .ok (.ifCond .eq 5, 3) := by decide +kernel
theorem dd_L_law_585 : decode Y_L_law.2.1 585 = .ok (.iconst 0, 1) := by decide +kernel
theorem dd_L_law_586 : decode Y_L_law.2.1 586 = .ok (.ireturn, 1) := by decide +kernel
theorem dd_L_law_587 : decode Y_L_law.2.1 587 = .ok (.goto 1674, 3) := by decide +kernel
theorem dd_L_law_590 : decode Y_L_law.2.1 590 = .ok (.aload_n 1, 1) := by decide +kernel
theorem dd_L_law_591 : decode Y_L_law.2.1 591 = .ok (.aload_n 0, 1) := by decide +kernel
theorem dd_L_law_592 : decode Y_L_law.2.1 592 = .ok (.iload 4, 2) := by decide +kernel
theorem dd_L_law_594 : decode Y_L_law.2.1 594 = .ok (.iconst 1, 1) := by decide +kernel
theorem dd_L_law_595 : decode Y_L_law.2.1 595 = .ok (.iadd, 1) := by decide +kernel
theorem dd_L_law_596 : decode Y_L_law.2.1 596 = .ok (.iaload, 1) := by decide +kernel
theorem dd_L_law_597 : decode Y_L_law.2.1 597 = .ok (.aload_n 0, 1) := by decide +kernel
theorem dd_L_law_598 : decode Y_L_law.2.1 598 = .ok (.iload 4, 2) := by decide +kernel
theorem dd_L_law_600 : decode Y_L_law.2.1 600 = .ok (.iconst 2, 1) := by decide +kernel
theorem dd_L_law_601 : decode Y_L_law.2.1 601 = .ok (.iadd, 1) := by decide +kernel
theorem dd_L_law_602 : decode Y_L_law.2.1 602 = .ok (.iaload, 1) := by decide +kernel
theorem dd_L_law_603 : decode Y_L_law.2.1 603 = .ok (.aload_n 3, 1) := by decide +kernel
theorem dd_L_law_604 : decode Y_L_law.2.1 604 = .ok (.invokestatic 138, 3) := by decide +kernel
theorem dd_L_law_607 : decode Y_L_law.2.1 607 = .ok (.istore 5, 2) := by decide +kernel
theorem dd_L_law_609 : decode Y_L_law.2.1 609 = .ok (.aload_n 2, 1) := by decide +kernel
theorem dd_L_law_610 : decode Y_L_law.2.1 610 = .ok (.aload_n 0, 1) := by decide +kernel
theorem dd_L_law_611 : decode Y_L_law.2.1 611 = .ok (.iload 4, 2) := by decide +kernel
theorem dd_L_law_613 : decode Y_L_law.2.1 613 = .ok (.iconst 1, 1) := by decide +kernel
theorem dd_L_law_614 : decode Y_L_law.2.1 614 = .ok (.iadd, 1) := by decide +kernel
theorem dd_L_law_615 : decode Y_L_law.2.1 615 = .ok (.iaload, 1) := by decide +kernel
theorem dd_L_law_616 : decode Y_L_law.2.1 616 = .ok (.aload_n 0, 1) := by decide +kernel
theorem dd_L_law_617 : decode Y_L_law.2.1 617 = .ok (.iload 4, 2) := by decide +kernel
theorem dd_L_law_619 : decode Y_L_law.2.1 619 = .ok (.iconst 2, 1) := by decide +kernel
theorem dd_L_law_620 : decode Y_L_law.2.1 620 = .ok (.iadd, 1) := by decide +kernel
theorem dd_L_law_621 : decode Y_L_law.2.1 621 = .ok (.iaload, 1) := by decide +kernel
theorem dd_L_law_622 : decode Y_L_law.2.1 622 = .ok (.invokevirtual 140, 3) := by decide +kernel
theorem dd_L_law_625 : decode Y_L_law.2.1 625 = .ok (.istore 6, 2) := by decide +kernel
theorem dd_L_law_627 : decode Y_L_law.2.1 627 = .ok (.aload_n 2, 1) := by decide +kernel
theorem dd_L_law_628 : decode Y_L_law.2.1 628 = .ok (.invokevirtual 117, 3) := by decide +kernel
theorem dd_L_law_631 : decode Y_L_law.2.1 631 = .ok (.iload 5, 2) := by decide +kernel
theorem dd_L_law_633 : decode Y_L_law.2.1 633 = .ok (.if_icmp .eq 5, 3) := by decide +kernel
theorem dd_L_law_636 : decode Y_L_law.2.1 636 = .ok (.iconst 0, 1) := by decide +kernel
theorem dd_L_law_637 : decode Y_L_law.2.1 637 = .ok (.ireturn, 1) := by decide +kernel
theorem dd_L_law_638 : decode Y_L_law.2.1 638 = .ok (.iload 5, 2) := by decide +kernel
theorem dd_L_law_640 : decode Y_L_law.2.1 640 = .ok (.ifCond .ne 15, 3) := by decide +kernel
theorem dd_L_law_643 : decode Y_L_law.2.1 643 = .ok (.aload_n 3, 1) := by decide +kernel
theorem dd_L_law_644 : decode Y_L_law.2.1 644 = .ok (.iconst 0, 1) := by decide +kernel
theorem dd_L_law_645 : decode Y_L_law.2.1 645 = .ok (.laload, 1) := by decide +kernel
theorem dd_L_law_646 : decode Y_L_law.2.1 646 = .ok (.iload 6, 2) := by decide +kernel
theorem dd_L_law_648 : decode Y_L_law.2.1 648 = .ok (.i2l, 1) := by decide +kernel
theorem dd_L_law_649 : decode Y_L_law.2.1 649 = .ok (.lcmp, 1) := by decide +kernel
theorem dd_L_law_650 : decode Y_L_law.2.1 650 = .ok (.ifCond .eq 5, 3) := by decide +kernel
theorem dd_L_law_653 : decode Y_L_law.2.1 653 = .ok (.iconst 0, 1) := by decide +kernel
theorem dd_L_law_654 : decode Y_L_law.2.1 654 = .ok (.ireturn, 1) := by decide +kernel
theorem dd_L_law_655 : decode Y_L_law.2.1 655 = .ok (.goto 1606, 3) := by decide +kernel
theorem dd_L_law_658 : decode Y_L_law.2.1 658 = .ok (.aload_n 1, 1) := by decide +kernel
theorem dd_L_law_659 : decode Y_L_law.2.1 659 = .ok (.aload_n 0, 1) := by decide +kernel
theorem dd_L_law_660 : decode Y_L_law.2.1 660 = .ok (.iload 4, 2) := by decide +kernel
theorem dd_L_law_662 : decode Y_L_law.2.1 662 = .ok (.iconst 1, 1) := by decide +kernel
theorem dd_L_law_663 : decode Y_L_law.2.1 663 = .ok (.iadd, 1) := by decide +kernel
theorem dd_L_law_664 : decode Y_L_law.2.1 664 = .ok (.iaload, 1) := by decide +kernel
theorem dd_L_law_665 : decode Y_L_law.2.1 665 = .ok (.aload_n 0, 1) := by decide +kernel
theorem dd_L_law_666 : decode Y_L_law.2.1 666 = .ok (.iload 4, 2) := by decide +kernel
theorem dd_L_law_668 : decode Y_L_law.2.1 668 = .ok (.iconst 2, 1) := by decide +kernel
theorem dd_L_law_669 : decode Y_L_law.2.1 669 = .ok (.iadd, 1) := by decide +kernel
theorem dd_L_law_670 : decode Y_L_law.2.1 670 = .ok (.iaload, 1) := by decide +kernel
theorem dd_L_law_671 : decode Y_L_law.2.1 671 = .ok (.aload_n 3, 1) := by decide +kernel
theorem dd_L_law_672 : decode Y_L_law.2.1 672 = .ok (.invokestatic 141, 3) := by decide +kernel
theorem dd_L_law_675 : decode Y_L_law.2.1 675 = .ok (.istore 5, 2) := by decide +kernel
theorem dd_L_law_677 : decode Y_L_law.2.1 677 = .ok (.aload_n 2, 1) := by decide +kernel
theorem dd_L_law_678 : decode Y_L_law.2.1 678 = .ok (.aload_n 0, 1) := by decide +kernel
theorem dd_L_law_679 : decode Y_L_law.2.1 679 = .ok (.iload 4, 2) := by decide +kernel
theorem dd_L_law_681 : decode Y_L_law.2.1 681 = .ok (.iconst 1, 1) := by decide +kernel
theorem dd_L_law_682 : decode Y_L_law.2.1 682 = .ok (.iadd, 1) := by decide +kernel
theorem dd_L_law_683 : decode Y_L_law.2.1 683 = .ok (.iaload, 1) := by decide +kernel
theorem dd_L_law_684 : decode Y_L_law.2.1 684 = .ok (.aload_n 0, 1) := by decide +kernel
theorem dd_L_law_685 : decode Y_L_law.2.1 685 = .ok (.iload 4, 2) := by decide +kernel
theorem dd_L_law_687 : decode Y_L_law.2.1 687 = .ok (.iconst 2, 1) := by decide +kernel
theorem dd_L_law_688 : decode Y_L_law.2.1 688 = .ok (.iadd, 1) := by decide +kernel
theorem dd_L_law_689 : decode Y_L_law.2.1 689 = .ok (.iaload, 1) := by decide +kernel
theorem dd_L_law_690 : decode Y_L_law.2.1 690 = .ok (.invokevirtual 143, 3) := by decide +kernel
theorem dd_L_law_693 : decode Y_L_law.2.1 693 = .ok (.istore 6, 2) := by decide +kernel
theorem dd_L_law_695 : decode Y_L_law.2.1 695 = .ok (.aload_n 2, 1) := by decide +kernel
theorem dd_L_law_696 : decode Y_L_law.2.1 696 = .ok (.invokevirtual 117, 3) := by decide +kernel
theorem dd_L_law_699 : decode Y_L_law.2.1 699 = .ok (.iload 5, 2) := by decide +kernel
theorem dd_L_law_701 : decode Y_L_law.2.1 701 = .ok (.if_icmp .eq 5, 3) := by decide +kernel
theorem dd_L_law_704 : decode Y_L_law.2.1 704 = .ok (.iconst 0, 1) := by decide +kernel
theorem dd_L_law_705 : decode Y_L_law.2.1 705 = .ok (.ireturn, 1) := by decide +kernel
theorem dd_L_law_706 : decode Y_L_law.2.1 706 = .ok (.iload 5, 2) := by decide +kernel
theorem dd_L_law_708 : decode Y_L_law.2.1 708 = .ok (.ifCond .ne 22, 3) := by decide +kernel
theorem dd_L_law_711 : decode Y_L_law.2.1 711 = .ok (.aload_n 3, 1) := by decide +kernel
theorem dd_L_law_712 : decode Y_L_law.2.1 712 = .ok (.iconst 0, 1) := by decide +kernel
theorem dd_L_law_713 : decode Y_L_law.2.1 713 = .ok (.laload, 1) := by decide +kernel
theorem dd_L_law_714 : decode Y_L_law.2.1 714 = .ok (.iload 6, 2) := by decide +kernel
theorem dd_L_law_716 : decode Y_L_law.2.1 716 = .ok (.ifCond .eq 7, 3) := by decide +kernel
theorem dd_L_law_719 : decode Y_L_law.2.1 719 = .ok (.lconst 1, 1) := by decide +kernel
theorem dd_L_law_720 : decode Y_L_law.2.1 720 = .ok (.goto 4, 3) := by decide +kernel
theorem dd_L_law_723 : decode Y_L_law.2.1 723 = .ok (.lconst 0, 1) := by decide +kernel
theorem dd_L_law_724 : decode Y_L_law.2.1 724 = .ok (.lcmp, 1) := by decide +kernel
