theorem d_W_law_483 : decode (ab_bc mt_W_law) 483 = .ok (.iload 5, 2) := by decide +kernel
theorem d_W_law_485 : decode (ab_bc mt_W_law) 485 = .ok (.if_icmp .eq 5, 3) := by decide +kernel
theorem d_W_law_488 : decode (ab_bc mt_W_law) 488 = .ok (.iconst 0, 1) := by decide +kernel
theorem d_W_law_489 : decode (ab_bc mt_W_law) 489 = .ok (.ireturn, 1) := by decide +kernel
theorem d_W_law_490 : decode (ab_bc mt_W_law) 490 = .ok (.iload 5, 2) := by decide +kernel
theorem d_W_law_492 : decode (ab_bc mt_W_law) 492 = .ok (.ifCond .ne 15, 3) := by decide +kernel
theorem d_W_law_495 : decode (ab_bc mt_W_law) 495 = .ok (.aload_n 3, 1) := by decide +kernel
theorem d_W_law_496 : decode (ab_bc mt_W_law) 496 = .ok (.iconst 0, 1) := by decide +kernel
theorem d_W_law_497 : decode (ab_bc mt_W_law) 497 = .ok (.laload, 1) := by decide +kernel
theorem d_W_law_498 : decode (ab_bc mt_W_law) 498 = .ok (.iload 6, 2) := by decide +kernel
theorem d_W_law_500 : decode (ab_bc mt_W_law) 500 = .ok (.i2l, 1) := by decide +kernel
theorem d_W_law_501 : decode (ab_bc mt_W_law) 501 = .ok (.lcmp, 1) := by decide +kernel
theorem d_W_law_502 : decode (ab_bc mt_W_law) 502 = .ok (.ifCond .eq 5, 3) := by decide +kernel
theorem d_W_law_505 : decode (ab_bc mt_W_law) 505 = .ok (.iconst 0, 1) := by decide +kernel
theorem d_W_law_506 : decode (ab_bc mt_W_law) 506 = .ok (.ireturn, 1) := by decide +kernel
theorem d_W_law_507 : decode (ab_bc mt_W_law) 507 = .ok (.goto 1151, 3) := by decide +kernel
theorem d_W_law_510 : decode (ab_bc mt_W_law) 510 = .ok (.aload_n 1, 1) := by decide +kernel
theorem d_W_law_511 : decode (ab_bc mt_W_law) 511 = .ok (.aload_n 0, 1) := by decide +kernel
theorem d_W_law_512 : decode (ab_bc mt_W_law) 512 = .ok (.iload 4, 2) := by decide +kernel
theorem d_W_law_514 : decode (ab_bc mt_W_law) 514 = .ok (.iconst 1, 1) := by decide +kernel
theorem d_W_law_515 : decode (ab_bc mt_W_law) 515 = .ok (.iadd, 1) := by decide +kernel
theorem d_W_law_516 : decode (ab_bc mt_W_law) 516 = .ok (.iaload, 1) := by decide +kernel
theorem d_W_law_517 : decode (ab_bc mt_W_law) 517 = .ok (.aload_n 3, 1) := by decide +kernel
theorem d_W_law_518 : decode (ab_bc mt_W_law) 518 = .ok (.invokestatic 102, 3) := by decide +kernel
theorem d_W_law_521 : decode (ab_bc mt_W_law) 521 = .ok (.istore 5, 2) := by decide +kernel
theorem d_W_law_523 : decode (ab_bc mt_W_law) 523 = .ok (.aload_n 2, 1) := by decide +kernel
theorem d_W_law_524 : decode (ab_bc mt_W_law) 524 = .ok (.aload_n 0, 1) := by decide +kernel
theorem d_W_law_525 : decode (ab_bc mt_W_law) 525 = .ok (.iload 4, 2) := by decide +kernel
theorem d_W_law_527 : decode (ab_bc mt_W_law) 527 = .ok (.iconst 1, 1) := by decide +kernel
theorem d_W_law_528 : decode (ab_bc mt_W_law) 528 = .ok (.iadd, 1) := by decide +kernel
theorem d_W_law_529 : decode (ab_bc mt_W_law) 529 = .ok (.iaload, 1) := by decide +kernel
theorem d_W_law_530 : decode (ab_bc mt_W_law) 530 = .ok (.invokevirtual 104, 3) := by decide +kernel
theorem d_W_law_533 : decode (ab_bc mt_W_law) 533 = .ok (.istore 6, 2) := by decide +kernel
theorem d_W_law_535 : decode (ab_bc mt_W_law) 535 = .ok (.aload_n 2, 1) := by decide +kernel
theorem d_W_law_536 : decode (ab_bc mt_W_law) 536 = .ok (.invokevirtual 84, 3) := by decide +kernel
theorem d_W_law_539 : decode (ab_bc mt_W_law) 539 = .ok (.iload 5, 2) := by decide +kernel
theorem d_W_law_541 : decode (ab_bc mt_W_law) 541 = .ok (.if_icmp .eq 5, 3) := by decide +kernel
theorem d_W_law_544 : decode (ab_bc mt_W_law) 544 = .ok (.iconst 0, 1) := by decide +kernel
theorem d_W_law_545 : decode (ab_bc mt_W_law) 545 = .ok (.ireturn, 1) := by decide +kernel
theorem d_W_law_546 : decode (ab_bc mt_W_law) 546 = .ok (.iload 5, 2) := by decide +kernel
theorem d_W_law_548 : decode (ab_bc mt_W_law) 548 = .ok (.ifCond .ne 15, 3) := by decide +kernel
theorem d_W_law_551 : decode (ab_bc mt_W_law) 551 = .ok (.aload_n 3, 1) := by decide +kernel
theorem d_W_law_552 : decode (ab_bc mt_W_law) 552 = .ok (.iconst 0, 1) := by decide +kernel
theorem d_W_law_553 : decode (ab_bc mt_W_law) 553 = .ok (.laload, 1) := by decide +kernel
theorem d_W_law_554 : decode (ab_bc mt_W_law) 554 = .ok (.iload 6, 2) := by decide +kernel
theorem d_W_law_556 : decode (ab_bc mt_W_law) 556 = .ok (.i2l, 1) := by decide +kernel
theorem d_W_law_557 : decode (ab_bc mt_W_law) 557 = .ok (.lcmp, 1) := by decide +kernel
theorem d_W_law_558 : decode (ab_bc mt_W_law) 558 = .ok (.ifCond .eq 5, 3) := by decide +kernel
theorem d_W_law_561 : decode (ab_bc mt_W_law) 561 = .ok (.iconst 0, 1) := by decide +kernel
theorem d_W_law_562 : decode (ab_bc mt_W_law) 562 = .ok (.ireturn, 1) := by decide +kernel
theorem d_W_law_563 : decode (ab_bc mt_W_law) 563 = .ok (.goto 1095, 3) := by decide +kernel
theorem d_W_law_566 : decode (ab_bc mt_W_law) 566 = .ok (.aload_n 1, 1) := by decide +kernel
theorem d_W_law_567 : decode (ab_bc mt_W_law) 567 = .ok (.aload_n 0, 1) := by decide +kernel
theorem d_W_law_568 : decode (ab_bc mt_W_law) 568 = .ok (.iload 4, 2) := by decide +kernel
theorem d_W_law_570 : decode (ab_bc mt_W_law) 570 = .ok (.iconst 1, 1) := by decide +kernel
theorem d_W_law_571 : decode (ab_bc mt_W_law) 571 = .ok (.iadd, 1) := by decide +kernel
theorem d_W_law_572 : decode (ab_bc mt_W_law) 572 = .ok (.iaload, 1) := by decide +kernel
theorem d_W_law_573 : decode (ab_bc mt_W_law) 573 = .ok (.aload_n 0, 1) := by decide +kernel
theorem d_W_law_574 : decode (ab_bc mt_W_law) 574 = .ok (.iload 4, 2) := by decide +kernel
theorem d_W_law_576 : decode (ab_bc mt_W_law) 576 = .ok (.iconst 2, 1) := by decide +kernel
theorem d_W_law_577 : decode (ab_bc mt_W_law) 577 = .ok (.iadd, 1) := by decide +kernel
theorem d_W_law_578 : decode (ab_bc mt_W_law) 578 = .ok (.iaload, 1) := by decide +kernel
theorem d_W_law_579 : decode (ab_bc mt_W_law) 579 = .ok (.aload_n 3, 1) := by decide +kernel
theorem d_W_law_580 : decode (ab_bc mt_W_law) 580 = .ok (.invokestatic 105, 3) := by decide +kernel
theorem d_W_law_583 : decode (ab_bc mt_W_law) 583 = .ok (.istore 5, 2) := by decide +kernel
theorem d_W_law_585 : decode (ab_bc mt_W_law) 585 = .ok (.aload_n 2, 1) := by decide +kernel
theorem d_W_law_586 : decode (ab_bc mt_W_law) 586 = .ok (.aload_n 0, 1) := by decide +kernel
theorem d_W_law_587 : decode (ab_bc mt_W_law) 587 = .ok (.iload 4, 2) := by decide +kernel
theorem d_W_law_589 : decode (ab_bc mt_W_law) 589 = .ok (.iconst 1, 1) := by decide +kernel
theorem d_W_law_590 : decode (ab_bc mt_W_law) 590 = .ok (.iadd, 1) := by decide +kernel
theorem d_W_law_591 : decode (ab_bc mt_W_law) 591 = .ok (.iaload, 1) := by decide +kernel
theorem d_W_law_592 : decode (ab_bc mt_W_law) 592 = .ok (.aload_n 0, 1) := by decide +kernel
theorem d_W_law_593 : decode (ab_bc mt_W_law) 593 = .ok (.iload 4, 2) := by decide +kernel
theorem d_W_law_595 : decode (ab_bc mt_W_law) 595 = .ok (.iconst 2, 1) := by decide +kernel
theorem d_W_law_596 : decode (ab_bc mt_W_law) 596 = .ok (.iadd, 1) := by decide +kernel
theorem d_W_law_597 : decode (ab_bc mt_W_law) 597 = .ok (.iaload, 1) := by decide +kernel
theorem d_W_law_598 : decode (ab_bc mt_W_law) 598 = .ok (.invokevirtual 107, 3) := by decide +kernel
theorem d_W_law_601 : decode (ab_bc mt_W_law) 601 = .ok (.istore 6, 2) := by decide +kernel
theorem d_W_law_603 : decode (ab_bc mt_W_law) 603 = .ok (.aload_n 2, 1) := by decide +kernel
theorem d_W_law_604 : decode (ab_bc mt_W_law) 604 = .ok (.invokevirtual 84, 3) := by decide +kernel
theorem d_W_law_607 : decode (ab_bc mt_W_law) 607 = .ok (.iload 5, 2) := by decide +kernel
theorem d_W_law_609 : decode (ab_bc mt_W_law) 609 = .ok (.if_icmp .eq 5, 3) := by decide +kernel
theorem d_W_law_612 : decode (ab_bc mt_W_law) 612 = .ok (.iconst 0, 1) := by decide +kernel
theorem d_W_law_613 : decode (ab_bc mt_W_law) 613 = .ok (.ireturn, 1) := by decide +kernel
theorem d_W_law_614 : decode (ab_bc mt_W_law) 614 = .ok (.iload 5, 2) := by decide +kernel
theorem d_W_law_616 : decode (ab_bc mt_W_law) 616 = .ok (.ifCond .ne 15, 3) := by decide +kernel
theorem d_W_law_619 : decode (ab_bc mt_W_law) 619 = .ok (.aload_n 3, 1) := by decide +kernel
theorem d_W_law_620 : decode (ab_bc mt_W_law) 620 = .ok (.iconst 0, 1) := by decide +kernel
theorem d_W_law_621 : decode (ab_bc mt_W_law) 621 = .ok (.laload, 1) := by decide +kernel
theorem d_W_law_622 : decode (ab_bc mt_W_law) 622 = .ok (.iload 6, 2) := by decide +kernel
theorem d_W_law_624 : decode (ab_bc mt_W_law) 624 = .ok (.i2l, 1) := by decide +kernel
theorem d_W_law_625 : decode (ab_bc mt_W_law) 625 = .ok (.lcmp, 1) := by decide +kernel
theorem d_W_law_626 : decode (ab_bc mt_W_law) 626 = .ok (.ifCond .eq 5, 3) := by decide +kernel
theorem d_W_law_629 : decode (ab_bc mt_W_law) 629 = .ok (.iconst 0, 1) := by decide +kernel
theorem d_W_law_630 : decode (ab_bc mt_W_law) 630 = .ok (.ireturn, 1) := by decide +kernel
theorem d_W_law_631 : decode (ab_bc mt_W_law) 631 = .ok (.goto 1027, 3) := by decide +kernel
theorem d_W_law_634 : decode (ab_bc mt_W_law) 634 = .ok (.aload_n 1, 1) := by decide +kernel
theorem d_W_law_635 : decode (ab_bc mt_W_law) 635 = .ok (.aload_n 0, 1) := by decide +kernel
theorem d_W_law_636 : decode (ab_bc mt_W_law) 636 = .ok (.iload 4, 2) := by decide +kernel
theorem d_W_law_638 : decode (ab_bc mt_W_law) 638 = .ok (.iconst 1, 1) := by decide +kernel
theorem d_W_law_639 : decode (ab_bc mt_W_law) 639 = .ok (.iadd, 1) := by decide +kernel
theorem d_W_law_640 : decode (ab_bc mt_W_law) 640 = .ok (.iaload, 1) := by decide +kernel
theorem d_W_law_641 : decode (ab_bc mt_W_law) 641 = .ok (.aload_n 0, 1) := by decide +kernel
theorem d_W_law_642 : decode (ab_bc mt_W_law) 642 = .ok (.iload 4, 2) := by decide +kernel
theorem d_W_law_644 : decode (ab_bc mt_W_law) 644 = .ok (.iconst 2, 1) := by decide +kernel
theorem d_W_law_645 : decode (ab_bc mt_W_law) 645 = .ok (.iadd, 1) := by decide +kernel
theorem d_W_law_646 : decode (ab_bc mt_W_law) 646 = .ok (.iaload, 1) := by decide +kernel
theorem d_W_law_647 : decode (ab_bc mt_W_law) 647 = .ok (.aload_n 0, 1) := by decide +kernel
theorem d_W_law_648 : decode (ab_bc mt_W_law) 648 = .ok (.iload 4, 2) := by decide +kernel
theorem d_W_law_650 : decode (ab_bc mt_W_law) 650 = .ok (.iconst 3, 1) := by decide +kernel
theorem d_W_law_651 : decode (ab_bc mt_W_law) 651 = .ok (.iadd, 1) := by decide +kernel
theorem d_W_law_652 : decode (ab_bc mt_W_law) 652 = .ok (.iaload, 1) := by decide +kernel
theorem d_W_law_653 : decode (ab_bc mt_W_law) 653 = .ok (.aload_n 3, 1) := by decide +kernel
theorem d_W_law_654 : decode (ab_bc mt_W_law) 654 = .ok (.invokestatic 108, 3) := by decide +kernel
theorem d_W_law_657 : decode (ab_bc mt_W_law) 657 = .ok (.istore 5, 2) := by decide +kernel
theorem d_W_law_659 : decode (ab_bc mt_W_law) 659 = .ok (.aload_n 2, 1) := by decide +kernel
theorem d_W_law_660 : decode (ab_bc mt_W_law) 660 = .ok (.aload_n 0, 1) := by decide +kernel
theorem d_W_law_661 : decode (ab_bc mt_W_law) 661 = .ok (.iload 4, 2) := by decide +kernel
theorem d_W_law_663 : decode (ab_bc mt_W_law) 663 = .ok (.iconst 1, 1) := by decide +kernel
theorem d_W_law_664 : decode (ab_bc mt_W_law) 664 = .ok (.iadd, 1) := by decide +kernel
theorem d_W_law_665 : decode (ab_bc mt_W_law) 665 = .ok (.iaload, 1) := by decide +kernel
theorem d_W_law_666 : decode (ab_bc mt_W_law) 666 = .ok (.aload_n 0, 1) := by decide +kernel
theorem d_W_law_667 : decode (ab_bc mt_W_law) 667 = .ok (.iload 4, 2) := by decide +kernel
theorem d_W_law_669 : decode (ab_bc mt_W_law) 669 = .ok (.iconst 2, 1) := by decide +kernel
theorem d_W_law_670 : decode (ab_bc mt_W_law) 670 = .ok (.iadd, 1) := by decide +kernel
theorem d_W_law_671 : decode (ab_bc mt_W_law) 671 = .ok (.iaload, 1) := by decide +kernel
theorem d_W_law_672 : decode (ab_bc mt_W_law) 672 = .ok (.aload_n 0, 1) := by decide +kernel
theorem d_W_law_673 : decode (ab_bc mt_W_law) 673 = .ok (.iload 4, 2) := by decide +kernel
theorem d_W_law_675 : decode (ab_bc mt_W_law) 675 = .ok (.iconst 3, 1) := by decide +kernel
theorem d_W_law_676 : decode (ab_bc mt_W_law) 676 = .ok (.iadd, 1) := by decide +kernel
theorem d_W_law_677 : decode (ab_bc mt_W_law) 677 = .ok (.iaload, 1) := by decide +kernel
theorem d_W_law_678 : decode (ab_bc mt_W_law) 678 = .ok (.invokevirtual 111, 3) := by decide +kernel
theorem d_W_law_681 : decode (ab_bc mt_W_law) 681 = .ok (.istore 6, 2) := by decide +kernel
theorem d_W_law_683 : decode (ab_bc mt_W_law) 683 = .ok (.aload_n 2, 1) := by decide +kernel
theorem d_W_law_684 : decode (ab_bc mt_W_law) 684 = .ok (.invokevirtual 84, 3) := by decide +kernel
theorem d_W_law_687 : decode (ab_bc mt_W_law) 687 = .ok (.iload 5, 2) := by decide +kernel
theorem d_W_law_689 : decode (ab_bc mt_W_law) 689 = .ok (.if_icmp .eq 5, 3) := by decide +kernel
theorem d_W_law_692 : decode (ab_bc mt_W_law) 692 = .ok (.iconst 0, 1) := by decide +kernel
theorem d_W_law_693 : decode (ab_bc mt_W_law) 693 = .ok (.ireturn, 1) := by decide +kernel
theorem d_W_law_694 : decode (ab_bc mt_W_law) 694 = .ok (.iload 5, 2) := by decide +kernel
theorem d_W_law_696 : decode (ab_bc mt_W_law) 696 = .ok (.ifCond .ne 15, 3) := by decide +kernel
theorem d_W_law_699 : decode (ab_bc mt_W_law) 699 = .ok (.aload_n 3, 1) := by decide +kernel
theorem d_W_law_700 : decode (ab_bc mt_W_law) 700 = .ok (.iconst 0, 1) := by decide +kernel
theorem d_W_law_701 : decode (ab_bc mt_W_law) 701 = .ok (.laload, 1) := by decide +kernel
theorem d_W_law_702 : decode (ab_bc mt_W_law) 702 = .ok (.iload 6, 2) := by decide +kernel
theorem d_W_law_704 : decode (ab_bc mt_W_law) 704 = .ok (.i2l, 1) := by decide +kernel
theorem d_W_law_705 : decode (ab_bc mt_W_law) 705 = .ok (.lcmp, 1) := by decide +kernel
theorem d_W_law_706 : decode (ab_bc mt_W_law) 706 = .ok (.ifCond .eq 5, 3) := by decide +kernel
theorem d_W_law_709 : decode (ab_bc mt_W_law) 709 = .ok (.iconst 0, 1) := by decide +kernel
theorem d_W_law_710 : decode (ab_bc mt_W_law) 710 = .ok (.ireturn, 1) := by decide +kernel
theorem d_W_law_711 : decode (ab_bc mt_W_law) 711 = .ok (.goto 947, 3) := by decide +kernel
theorem d_W_law_714 : decode (ab_bc mt_W_law) 714 = .ok (.aload_n 1, 1) := by decide +kernel
theorem d_W_law_715 : decode (ab_bc mt_W_law) 715 = .ok (.aload_n 0, 1) := by decide +kernel
theorem d_W_law_716 : decode (ab_bc mt_W_law) 716 = .ok (.iload 4, 2) := by decide +kernel
theorem d_W_law_718 : decode (ab_bc mt_W_law) 718 = .ok (.iconst 1, 1) := by decide +kernel
theorem d_W_law_719 : decode (ab_bc mt_W_law) 719 = .ok (.iadd, 1) := by decide +kernel
theorem d_W_law_720 : decode (ab_bc mt_W_law) 720 = .ok (.iaload, 1) := by decide +kernel
theorem d_W_law_721 : decode (ab_bc mt_W_law) 721 = .ok (.aload_n 0, 1) := by decide +kernel
theorem d_W_law_722 : decode (ab_bc mt_W_law) 722 = .ok (.iload 4, 2) := by decide +kernel
theorem d_W_law_724 : decode (ab_bc mt_W_law) 724 = .ok (.iconst 2, 1) := by decide +kernel
theorem d_W_law_725 : decode (ab_bc mt_W_law) 725 = .ok (.iadd, 1) := by decide +kernel
theorem d_W_law_726 : decode (ab_bc mt_W_law) 726 = .ok (.iaload, 1) := by decide +kernel
theorem d_W_law_727 : decode (ab_bc mt_W_law) 727 = .ok (.aload_n 3, 1) := by decide +kernel
theorem d_W_law_728 : decode (ab_bc mt_W_law) 728 = .ok (.invokestatic 112, 3) := by decide +kernel
theorem d_W_law_731 : decode (ab_bc mt_W_law) 731 = .ok (.istore 5, 2) := by decide +kernel
theorem d_W_law_733 : decode (ab_bc mt_W_law) 733 = .ok (.aload_n 2, 1) := by decide +kernel
theorem d_W_law_734 : decode (ab_bc mt_W_law) 734 = .ok (.aload_n 0, 1) := by decide +kernel
theorem d_W_law_735 : decode (ab_bc mt_W_law) 735 = .ok (.iload 4, 2) := by decide +kernel
theorem d_W_law_737 : decode (ab_bc mt_W_law) 737 = .ok (.iconst 1, 1) := by decide +kernel
theorem d_W_law_738 : decode (ab_bc mt_W_law) 738 = .ok (.iadd, 1) := by decide +kernel
theorem d_W_law_739 : decode (ab_bc mt_W_law) 739 = .ok (.iaload, 1) := by decide +kernel
theorem d_W_law_740 : decode (ab_bc mt_W_law) 740 = .ok (.aload_n 0, 1) := by decide +kernel
theorem d_W_law_741 : decode (ab_bc mt_W_law) 741 = .ok (.iload 4, 2) := by decide +kernel
theorem d_W_law_743 : decode (ab_bc mt_W_law) 743 = .ok (.iconst 2, 1) := by decide +kernel
theorem d_W_law_744 : decode (ab_bc mt_W_law) 744 = .ok (.iadd, 1) := by decide +kernel
theorem d_W_law_745 : decode (ab_bc mt_W_law) 745 = .ok (.iaload, 1) := by decide +kernel
theorem d_W_law_746 : decode (ab_bc mt_W_law) 746 = .ok (.invokevirtual 114, 3) := by decide +kernel
theorem d_W_law_749 : decode (ab_bc mt_W_law) 749 = .ok (.istore 6, 2) := by decide +kernel
theorem d_W_law_751 : decode (ab_bc mt_W_law) 751 = .ok (.aload_n 2, 1) := by decide +kernel
theorem d_W_law_752 : decode (ab_bc mt_W_law) 752 = .ok (.invokevirtual 84, 3) := by decide +kernel
theorem d_W_law_755 : decode (ab_bc mt_W_law) 755 = .ok (.iload 5, 2) := by decide +kernel
theorem d_W_law_757 : decode (ab_bc mt_W_law) 757 = .ok (.if_icmp .eq 5, 3) := by decide +kernel
theorem d_W_law_760 : decode (ab_bc mt_W_law) 760 = .ok (.iconst 0, 1) := by decide +kernel
theorem d_W_law_761 : decode (ab_bc mt_W_law) 761 = .ok (.ireturn, 1) := by decide +kernel
theorem d_W_law_762 : decode (ab_bc mt_W_law) 762 = .ok (.iload 5, 2) := by decide +kernel
theorem d_W_law_764 : decode (ab_bc mt_W_law) 764 = .ok (.ifCond .ne 15, 3) := by decide +kernel
theorem d_W_law_767 : decode (ab_bc mt_W_law) 767 = .ok (.aload_n 3, 1) := by decide +kernel
theorem d_W_law_768 : decode (ab_bc mt_W_law) 768 = .ok (.iconst 0, 1) := by decide +kernel
theorem d_W_law_769 : decode (ab_bc mt_W_law) 769 = .ok (.laload, 1) := by decide +kernel
theorem d_W_law_770 : decode (ab_bc mt_W_law) 770 = .ok (.iload 6, 2) := by decide +kernel
theorem d_W_law_772 : decode (ab_bc mt_W_law) 772 = .ok (.i2l, 1) := by decide +kernel
theorem d_W_law_773 : decode (ab_bc mt_W_law) 773 = .ok (.lcmp, 1) := by decide +kernel
theorem d_W_law_774 : decode (ab_bc mt_W_law) 774 = .ok (.ifCond .eq 5, 3) := by decide +kernel
theorem d_W_law_777 : decode (ab_bc mt_W_law) 777 = .ok (.iconst 0, 1) := by decide +kernel
theorem d_W_law_778 : decode (ab_bc mt_W_law) 778 = .ok (.ireturn, 1) := by decide +kernel
theorem d_W_law_779 : decode (ab_bc mt_W_law) 779 = .ok (.goto 879, 3) := by decide +kernel
theorem d_W_law_782 : decode (ab_bc mt_W_law) 782 = .ok (.aload_n 1, 1) := by decide +kernel
theorem d_W_law_783 : decode (ab_bc mt_W_law) 783 = .ok (.aload_n 0, 1) := by decide +kernel
theorem d_W_law_784 : decode (ab_bc mt_W_law) 784 = .ok (.iload 4, 2) := by decide +kernel
theorem d_W_law_786 : decode (ab_bc mt_W_law) 786 = .ok (.iconst 1, 1) := by decide +kernel
theorem d_W_law_787 : decode (ab_bc mt_W_law) 787 = .ok (.iadd, 1) := by decide +kernel
theorem d_W_law_788 : decode (ab_bc mt_W_law) 788 = .ok (.iaload, 1) := by decide +kernel
theorem d_W_law_789 : decode (ab_bc mt_W_law) 789 = .ok (.aload_n 3, 1) := by decide +kernel
theorem d_W_law_790 : decode (ab_bc mt_W_law) 790 = .ok (.invokestatic 115, 3) := by decide +kernel
theorem d_W_law_793 : decode (ab_bc mt_W_law) 793 = .ok (.istore 5, 2) := by decide +kernel
theorem d_W_law_795 : decode (ab_bc mt_W_law) 795 = .ok (.aload_n 2, 1) := by decide +kernel
theorem d_W_law_796 : decode (ab_bc mt_W_law) 796 = .ok (.aload_n 0, 1) := by decide +kernel
theorem d_W_law_797 : decode (ab_bc mt_W_law) 797 = .ok (.iload 4, 2) := by decide +kernel
theorem d_W_law_799 : decode (ab_bc mt_W_law) 799 = .ok (.iconst 1, 1) := by decide +kernel
theorem d_W_law_800 : decode (ab_bc mt_W_law) 800 = .ok (.iadd, 1) := by decide +kernel
theorem d_W_law_801 : decode (ab_bc mt_W_law) 801 = .ok (.iaload, 1) := by decide +kernel
theorem d_W_law_802 : decode (ab_bc mt_W_law) 802 = .ok (.invokevirtual 117, 3) := by decide +kernel
theorem d_W_law_805 : decode (ab_bc mt_W_law) 805 = .ok (.istore 6, 2) := by decide +kernel
theorem d_W_law_807 : decode (ab_bc mt_W_law) 807 = .ok (.aload_n 2, 1) := by decide +kernel
theorem d_W_law_808 : decode (ab_bc mt_W_law) 808 = .ok (.invokevirtual 84, 3) := by decide +kernel
theorem d_W_law_811 : decode (ab_bc mt_W_law) 811 = .ok (.iload 5, 2) := by decide +kernel
theorem d_W_law_813 : decode (ab_bc mt_W_law) 813 = .ok (.if_icmp .eq 5, 3) := by decide +kernel
theorem d_W_law_816 : decode (ab_bc mt_W_law) 816 = .ok (.iconst 0, 1) := by decide +kernel
theorem d_W_law_817 : decode (ab_bc mt_W_law) 817 = .ok (.ireturn, 1) := by decide +kernel
theorem d_W_law_818 : decode (ab_bc mt_W_law) 818 = .ok (.iload 5, 2) := by decide +kernel
