theorem dL_bouts_522 : decode cL_bouts 522 = .ok (.invokevirtual 36, 3) := by decide +kernel
theorem dL_bouts_525 : decode cL_bouts 525 = .ok (.bipush 61, 2) := by decide +kernel
theorem dL_bouts_527 : decode cL_bouts 527 = .ok (.if_icmp .ne 49, 3) := by decide +kernel
theorem dL_bouts_530 : decode cL_bouts 530 = .ok (.aload_n 0, 1) := by decide +kernel
theorem dL_bouts_531 : decode cL_bouts 531 = .ok (.iconst 0, 1) := by decide +kernel
theorem dL_bouts_532 : decode cL_bouts 532 = .ok (.iconst 2, 1) := by decide +kernel
theorem dL_bouts_533 : decode cL_bouts 533 = .ok (.invokevirtual 32, 3) := by decide +kernel
theorem dL_bouts_536 : decode cL_bouts 536 = .ok (.iconst 2, 1) := by decide +kernel
theorem dL_bouts_537 : decode cL_bouts 537 = .ok (.if_icmp .ne 39, 3) := by decide +kernel
theorem dL_bouts_540 : decode cL_bouts 540 = .ok (.aload_n 0, 1) := by decide +kernel
theorem dL_bouts_541 : decode cL_bouts 541 = .ok (.bipush 59, 2) := by decide +kernel
theorem dL_bouts_543 : decode cL_bouts 543 = .ok (.invokevirtual 36, 3) := by decide +kernel
theorem dL_bouts_546 : decode cL_bouts 546 = .ok (.iconst 2, 1) := by decide +kernel
theorem dL_bouts_547 : decode cL_bouts 547 = .ok (.if_icmp .ne 29, 3) := by decide +kernel
theorem dL_bouts_550 : decode cL_bouts 550 = .ok (.aload_n 0, 1) := by decide +kernel
theorem dL_bouts_551 : decode cL_bouts 551 = .ok (.sipush 240, 3) := by decide +kernel
theorem dL_bouts_554 : decode cL_bouts 554 = .ok (.invokevirtual 36, 3) := by decide +kernel
theorem dL_bouts_557 : decode cL_bouts 557 = .ok (.ifCond .ne 19, 3) := by decide +kernel
theorem dL_bouts_560 : decode cL_bouts 560 = .ok (.aload_n 0, 1) := by decide +kernel
theorem dL_bouts_561 : decode cL_bouts 561 = .ok (.iconst 4, 1) := by decide +kernel
theorem dL_bouts_562 : decode cL_bouts 562 = .ok (.iconst 1, 1) := by decide +kernel
theorem dL_bouts_563 : decode cL_bouts 563 = .ok (.iconst 2, 1) := by decide +kernel
theorem dL_bouts_564 : decode cL_bouts 564 = .ok (.iconst 1, 1) := by decide +kernel
theorem dL_bouts_565 : decode cL_bouts 565 = .ok (.sipush 180, 3) := by decide +kernel
theorem dL_bouts_568 : decode cL_bouts 568 = .ok (.iconst 2, 1) := by decide +kernel
theorem dL_bouts_569 : decode cL_bouts 569 = .ok (.iconst (-1), 1) := by decide +kernel
theorem dL_bouts_570 : decode cL_bouts 570 = .ok (.invokestatic 126, 3) := by decide +kernel
theorem dL_bouts_573 : decode cL_bouts 573 = .ok (.ifCond .ne 5, 3) := by decide +kernel
theorem dL_bouts_576 : decode cL_bouts 576 = .ok (.iconst 0, 1) := by decide +kernel
theorem dL_bouts_577 : decode cL_bouts 577 = .ok (.ireturn, 1) := by decide +kernel
theorem dL_bouts_578 : decode cL_bouts 578 = .ok (.aload_n 0, 1) := by decide +kernel
theorem dL_bouts_579 : decode cL_bouts 579 = .ok (.iconst 1, 1) := by decide +kernel
theorem dL_bouts_580 : decode cL_bouts 580 = .ok (.iconst 2, 1) := by decide +kernel
theorem dL_bouts_581 : decode cL_bouts 581 = .ok (.iconst 1, 1) := by decide +kernel
theorem dL_bouts_582 : decode cL_bouts 582 = .ok (.bipush 45, 2) := by decide +kernel
theorem dL_bouts_584 : decode cL_bouts 584 = .ok (.iconst (-1), 1) := by decide +kernel
theorem dL_bouts_585 : decode cL_bouts 585 = .ok (.invokevirtual 17, 3) := by decide +kernel
theorem dL_bouts_588 : decode cL_bouts 588 = .ok (.iconst 5, 1) := by decide +kernel
theorem dL_bouts_589 : decode cL_bouts 589 = .ok (.if_icmp .ne 188, 3) := by decide +kernel
theorem dL_bouts_592 : decode cL_bouts 592 = .ok (.aload_n 0, 1) := by decide +kernel
theorem dL_bouts_593 : decode cL_bouts 593 = .ok (.iconst 3, 1) := by decide +kernel
theorem dL_bouts_594 : decode cL_bouts 594 = .ok (.invokestatic 166, 3) := by decide +kernel
theorem dL_bouts_597 : decode cL_bouts 597 = .ok (.ifCond .eq 180, 3) := by decide +kernel
theorem dL_bouts_600 : decode cL_bouts 600 = .ok (.aload_n 0, 1) := by decide +kernel
theorem dL_bouts_601 : decode cL_bouts 601 = .ok (.bipush 30, 2) := by decide +kernel
theorem dL_bouts_603 : decode cL_bouts 603 = .ok (.invokevirtual 36, 3) := by decide +kernel
theorem dL_bouts_606 : decode cL_bouts 606 = .ok (.bipush 60, 2) := by decide +kernel
theorem dL_bouts_608 : decode cL_bouts 608 = .ok (.if_icmp .ne 169, 3) := by decide +kernel
theorem dL_bouts_611 : decode cL_bouts 611 = .ok (.aload_n 0, 1) := by decide +kernel
theorem dL_bouts_612 : decode cL_bouts 612 = .ok (.iconst 5, 1) := by decide +kernel
theorem dL_bouts_613 : decode cL_bouts 613 = .ok (.iconst 3, 1) := by decide +kernel
theorem dL_bouts_614 : decode cL_bouts 614 = .ok (.iconst 3, 1) := by decide +kernel
theorem dL_bouts_615 : decode cL_bouts 615 = .ok (.iconst (-1), 1) := by decide +kernel
theorem dL_bouts_616 : decode cL_bouts 616 = .ok (.sipush 180, 3) := by decide +kernel
theorem dL_bouts_619 : decode cL_bouts 619 = .ok (.iconst 0, 1) := by decide +kernel
theorem dL_bouts_620 : decode cL_bouts 620 = .ok (.iconst 0, 1) := by decide +kernel
theorem dL_bouts_621 : decode cL_bouts 621 = .ok (.invokestatic 126, 3) := by decide +kernel
theorem dL_bouts_624 : decode cL_bouts 624 = .ok (.ifCond .eq 153, 3) := by decide +kernel
theorem dL_bouts_627 : decode cL_bouts 627 = .ok (.aload_n 0, 1) := by decide +kernel
theorem dL_bouts_628 : decode cL_bouts 628 = .ok (.ldc 157, 2) := by decide +kernel
theorem dL_bouts_630 : decode cL_bouts 630 = .ok (.ldc 162, 2) := by decide +kernel
theorem dL_bouts_632 : decode cL_bouts 632 = .ok (.iconst (-1), 1) := by decide +kernel
theorem dL_bouts_633 : decode cL_bouts 633 = .ok (.iconst (-1), 1) := by decide +kernel
theorem dL_bouts_634 : decode cL_bouts 634 = .ok (.invokestatic 108, 3) := by decide +kernel
theorem dL_bouts_637 : decode cL_bouts 637 = .ok (.ifCond .eq 140, 3) := by decide +kernel
theorem dL_bouts_640 : decode cL_bouts 640 = .ok (.aload_n 0, 1) := by decide +kernel
theorem dL_bouts_641 : decode cL_bouts 641 = .ok (.iconst (-1), 1) := by decide +kernel
theorem dL_bouts_642 : decode cL_bouts 642 = .ok (.iconst 0, 1) := by decide +kernel
theorem dL_bouts_643 : decode cL_bouts 643 = .ok (.iconst 0, 1) := by decide +kernel
theorem dL_bouts_644 : decode cL_bouts 644 = .ok (.iconst 3, 1) := by decide +kernel
theorem dL_bouts_645 : decode cL_bouts 645 = .ok (.iconst 3, 1) := by decide +kernel
theorem dL_bouts_646 : decode cL_bouts 646 = .ok (.invokestatic 102, 3) := by decide +kernel
theorem dL_bouts_649 : decode cL_bouts 649 = .ok (.ifCond .eq 128, 3) := by decide +kernel
theorem dL_bouts_652 : decode cL_bouts 652 = .ok (.aload_n 0, 1) := by decide +kernel
theorem dL_bouts_653 : decode cL_bouts 653 = .ok (.bipush 59, 2) := by decide +kernel
theorem dL_bouts_655 : decode cL_bouts 655 = .ok (.invokevirtual 36, 3) := by decide +kernel
theorem dL_bouts_658 : decode cL_bouts 658 = .ok (.iconst 1, 1) := by decide +kernel
theorem dL_bouts_659 : decode cL_bouts 659 = .ok (.if_icmp .ne 118, 3) := by decide +kernel
theorem dL_bouts_662 : decode cL_bouts 662 = .ok (.aload_n 0, 1) := by decide +kernel
theorem dL_bouts_663 : decode cL_bouts 663 = .ok (.iconst 5, 1) := by decide +kernel
theorem dL_bouts_664 : decode cL_bouts 664 = .ok (.iconst 2, 1) := by decide +kernel
theorem dL_bouts_665 : decode cL_bouts 665 = .ok (.invokevirtual 63, 3) := by decide +kernel
theorem dL_bouts_668 : decode cL_bouts 668 = .ok (.iconst (-1), 1) := by decide +kernel
theorem dL_bouts_669 : decode cL_bouts 669 = .ok (.if_icmp .ne 108, 3) := by decide +kernel
theorem dL_bouts_672 : decode cL_bouts 672 = .ok (.aload_n 0, 1) := by decide +kernel
theorem dL_bouts_673 : decode cL_bouts 673 = .ok (.iconst 1, 1) := by decide +kernel
theorem dL_bouts_674 : decode cL_bouts 674 = .ok (.invokevirtual 36, 3) := by decide +kernel
theorem dL_bouts_677 : decode cL_bouts 677 = .ok (.ifCond .ne 100, 3) := by decide +kernel
theorem dL_bouts_680 : decode cL_bouts 680 = .ok (.aload_n 0, 1) := by decide +kernel
theorem dL_bouts_681 : decode cL_bouts 681 = .ok (.iconst 5, 1) := by decide +kernel
theorem dL_bouts_682 : decode cL_bouts 682 = .ok (.iconst 4, 1) := by decide +kernel
theorem dL_bouts_683 : decode cL_bouts 683 = .ok (.iconst 4, 1) := by decide +kernel
theorem dL_bouts_684 : decode cL_bouts 684 = .ok (.iconst 0, 1) := by decide +kernel
theorem dL_bouts_685 : decode cL_bouts 685 = .ok (.sipush 240, 3) := by decide +kernel
theorem dL_bouts_688 : decode cL_bouts 688 = .ok (.iconst 1, 1) := by decide +kernel
theorem dL_bouts_689 : decode cL_bouts 689 = .ok (.iconst 0, 1) := by decide +kernel
theorem dL_bouts_690 : decode cL_bouts 690 = .ok (.invokestatic 126, 3) := by decide +kernel
theorem dL_bouts_693 : decode cL_bouts 693 = .ok (.ifCond .eq 84, 3) := by decide +kernel
theorem dL_bouts_696 : decode cL_bouts 696 = .ok (.aload_n 0, 1) := by decide +kernel
theorem dL_bouts_697 : decode cL_bouts 697 = .ok (.iconst 3, 1) := by decide +kernel
theorem dL_bouts_698 : decode cL_bouts 698 = .ok (.invokestatic 43, 3) := by decide +kernel
theorem dL_bouts_701 : decode cL_bouts 701 = .ok (.iconst 1, 1) := by decide +kernel
theorem dL_bouts_702 : decode cL_bouts 702 = .ok (.if_icmp .ne 75, 3) := by decide +kernel
theorem dL_bouts_705 : decode cL_bouts 705 = .ok (.aload_n 0, 1) := by decide +kernel
theorem dL_bouts_706 : decode cL_bouts 706 = .ok (.iconst 1, 1) := by decide +kernel
theorem dL_bouts_707 : decode cL_bouts 707 = .ok (.iconst 2, 1) := by decide +kernel
theorem dL_bouts_708 : decode cL_bouts 708 = .ok (.iconst 1, 1) := by decide +kernel
theorem dL_bouts_709 : decode cL_bouts 709 = .ok (.bipush 45, 2) := by decide +kernel
theorem dL_bouts_711 : decode cL_bouts 711 = .ok (.iconst (-1), 1) := by decide +kernel
theorem dL_bouts_712 : decode cL_bouts 712 = .ok (.invokevirtual 17, 3) := by decide +kernel
theorem dL_bouts_715 : decode cL_bouts 715 = .ok (.bipush 6, 2) := by decide +kernel
theorem dL_bouts_717 : decode cL_bouts 717 = .ok (.if_icmp .ne 60, 3) := by decide +kernel
theorem dL_bouts_720 : decode cL_bouts 720 = .ok (.aload_n 0, 1) := by decide +kernel
theorem dL_bouts_721 : decode cL_bouts 721 = .ok (.iconst 3, 1) := by decide +kernel
theorem dL_bouts_722 : decode cL_bouts 722 = .ok (.invokestatic 166, 3) := by decide +kernel
theorem dL_bouts_725 : decode cL_bouts 725 = .ok (.ifCond .eq 52, 3) := by decide +kernel
theorem dL_bouts_728 : decode cL_bouts 728 = .ok (.aload_n 0, 1) := by decide +kernel
theorem dL_bouts_729 : decode cL_bouts 729 = .ok (.bipush 31, 2) := by decide +kernel
theorem dL_bouts_731 : decode cL_bouts 731 = .ok (.invokevirtual 36, 3) := by decide +kernel
theorem dL_bouts_734 : decode cL_bouts 734 = .ok (.bipush 59, 2) := by decide +kernel
theorem dL_bouts_736 : decode cL_bouts 736 = .ok (.if_icmp .ne 41, 3) := by decide +kernel
theorem dL_bouts_739 : decode cL_bouts 739 = .ok (.aload_n 0, 1) := by decide +kernel
theorem dL_bouts_740 : decode cL_bouts 740 = .ok (.bipush 6, 2) := by decide +kernel
theorem dL_bouts_742 : decode cL_bouts 742 = .ok (.iconst 5, 1) := by decide +kernel
theorem dL_bouts_743 : decode cL_bouts 743 = .ok (.invokevirtual 63, 3) := by decide +kernel
theorem dL_bouts_746 : decode cL_bouts 746 = .ok (.iconst 1, 1) := by decide +kernel
theorem dL_bouts_747 : decode cL_bouts 747 = .ok (.if_icmp .ne 30, 3) := by decide +kernel
theorem dL_bouts_750 : decode cL_bouts 750 = .ok (.aload_n 0, 1) := by decide +kernel
theorem dL_bouts_751 : decode cL_bouts 751 = .ok (.iconst 1, 1) := by decide +kernel
theorem dL_bouts_752 : decode cL_bouts 752 = .ok (.iconst 3, 1) := by decide +kernel
theorem dL_bouts_753 : decode cL_bouts 753 = .ok (.invokevirtual 32, 3) := by decide +kernel
theorem dL_bouts_756 : decode cL_bouts 756 = .ok (.iconst 2, 1) := by decide +kernel
theorem dL_bouts_757 : decode cL_bouts 757 = .ok (.if_icmp .ne 20, 3) := by decide +kernel
theorem dL_bouts_760 : decode cL_bouts 760 = .ok (.aload_n 0, 1) := by decide +kernel
theorem dL_bouts_761 : decode cL_bouts 761 = .ok (.bipush 6, 2) := by decide +kernel
theorem dL_bouts_763 : decode cL_bouts 763 = .ok (.iconst 4, 1) := by decide +kernel
theorem dL_bouts_764 : decode cL_bouts 764 = .ok (.iconst 3, 1) := by decide +kernel
theorem dL_bouts_765 : decode cL_bouts 765 = .ok (.iconst 0, 1) := by decide +kernel
theorem dL_bouts_766 : decode cL_bouts 766 = .ok (.sipush 181, 3) := by decide +kernel
theorem dL_bouts_769 : decode cL_bouts 769 = .ok (.iconst 0, 1) := by decide +kernel
theorem dL_bouts_770 : decode cL_bouts 770 = .ok (.iconst 1, 1) := by decide +kernel
theorem dL_bouts_771 : decode cL_bouts 771 = .ok (.invokestatic 126, 3) := by decide +kernel
theorem dL_bouts_774 : decode cL_bouts 774 = .ok (.ifCond .ne 5, 3) := by decide +kernel
theorem dL_bouts_777 : decode cL_bouts 777 = .ok (.iconst 0, 1) := by decide +kernel
theorem dL_bouts_778 : decode cL_bouts 778 = .ok (.ireturn, 1) := by decide +kernel
theorem dL_bouts_779 : decode cL_bouts 779 = .ok (.aload_n 0, 1) := by decide +kernel
theorem dL_bouts_780 : decode cL_bouts 780 = .ok (.iconst 4, 1) := by decide +kernel
theorem dL_bouts_781 : decode cL_bouts 781 = .ok (.iconst 0, 1) := by decide +kernel
theorem dL_bouts_782 : decode cL_bouts 782 = .ok (.bipush 7, 2) := by decide +kernel
theorem dL_bouts_784 : decode cL_bouts 784 = .ok (.invokestatic 153, 3) := by decide +kernel
theorem dL_bouts_787 : decode cL_bouts 787 = .ok (.ireturn, 1) := by decide +kernel
theorem dL_doubles_0 : decode cL_doubles 0 = .ok (.iconst 0, 1) := by decide +kernel
theorem dL_doubles_1 : decode cL_doubles 1 = .ok (.istore_n 2, 1) := by decide +kernel
theorem dL_doubles_2 : decode cL_doubles 2 = .ok (.iload_n 2, 1) := by decide +kernel
theorem dL_doubles_3 : decode cL_doubles 3 = .ok (.iload_n 1, 1) := by decide +kernel
theorem dL_doubles_4 : decode cL_doubles 4 = .ok (.if_icmp .ge 49, 3) := by decide +kernel
theorem dL_doubles_7 : decode cL_doubles 7 = .ok (.aload_n 0, 1) := by decide +kernel
theorem dL_doubles_8 : decode cL_doubles 8 = .ok (.bipush 50, 2) := by decide +kernel
theorem dL_doubles_10 : decode cL_doubles 10 = .ok (.invokevirtual 36, 3) := by decide +kernel
theorem dL_doubles_13 : decode cL_doubles 13 = .ok (.sipush 130, 3) := by decide +kernel
theorem dL_doubles_16 : decode cL_doubles 16 = .ok (.bipush 50, 2) := by decide +kernel
theorem dL_doubles_18 : decode cL_doubles 18 = .ok (.iload_n 2, 1) := by decide +kernel
theorem dL_doubles_19 : decode cL_doubles 19 = .ok (.imul, 1) := by decide +kernel
theorem dL_doubles_20 : decode cL_doubles 20 = .ok (.isub, 1) := by decide +kernel
theorem dL_doubles_21 : decode cL_doubles 21 = .ok (.if_icmp .ne 24, 3) := by decide +kernel
theorem dL_doubles_24 : decode cL_doubles 24 = .ok (.aload_n 0, 1) := by decide +kernel
theorem dL_doubles_25 : decode cL_doubles 25 = .ok (.ldc 157, 2) := by decide +kernel
theorem dL_doubles_27 : decode cL_doubles 27 = .ok (.ldc 162, 2) := by decide +kernel
theorem dL_doubles_29 : decode cL_doubles 29 = .ok (.iconst (-1), 1) := by decide +kernel
theorem dL_doubles_30 : decode cL_doubles 30 = .ok (.iconst (-1), 1) := by decide +kernel
theorem dL_doubles_31 : decode cL_doubles 31 = .ok (.invokestatic 108, 3) := by decide +kernel
theorem dL_doubles_34 : decode cL_doubles 34 = .ok (.ifCond .eq 11, 3) := by decide +kernel
theorem dL_doubles_37 : decode cL_doubles 37 = .ok (.aload_n 0, 1) := by decide +kernel
theorem dL_doubles_38 : decode cL_doubles 38 = .ok (.invokevirtual 29, 3) := by decide +kernel
theorem dL_doubles_41 : decode cL_doubles 41 = .ok (.iconst 3, 1) := by decide +kernel
theorem dL_doubles_42 : decode cL_doubles 42 = .ok (.if_icmp .eq 5, 3) := by decide +kernel
theorem dL_doubles_45 : decode cL_doubles 45 = .ok (.iconst 0, 1) := by decide +kernel
theorem dL_doubles_46 : decode cL_doubles 46 = .ok (.ireturn, 1) := by decide +kernel
theorem dL_doubles_47 : decode cL_doubles 47 = .ok (.iinc 2 1, 3) := by decide +kernel
theorem dL_doubles_50 : decode cL_doubles 50 = .ok (.goto (-48), 3) := by decide +kernel
theorem dL_doubles_53 : decode cL_doubles 53 = .ok (.iconst 1, 1) := by decide +kernel
theorem dL_doubles_54 : decode cL_doubles 54 = .ok (.ireturn, 1) := by decide +kernel
theorem dL_quick_0 : decode cL_quick 0 = .ok (.aload_n 0, 1) := by decide +kernel
theorem dL_quick_1 : decode cL_quick 1 = .ok (.iload_n 1, 1) := by decide +kernel
theorem dL_quick_2 : decode cL_quick 2 = .ok (.iload_n 2, 1) := by decide +kernel
theorem dL_quick_3 : decode cL_quick 3 = .ok (.iconst 2, 1) := by decide +kernel
theorem dL_quick_4 : decode cL_quick 4 = .ok (.iconst 1, 1) := by decide +kernel
theorem dL_quick_5 : decode cL_quick 5 = .ok (.iload 4, 2) := by decide +kernel
theorem dL_quick_7 : decode cL_quick 7 = .ok (.invokevirtual 17, 3) := by decide +kernel
theorem dL_quick_10 : decode cL_quick 10 = .ok (.ifCond .lt 44, 3) := by decide +kernel
theorem dL_quick_13 : decode cL_quick 13 = .ok (.aload_n 0, 1) := by decide +kernel
theorem dL_quick_14 : decode cL_quick 14 = .ok (.iload_n 3, 1) := by decide +kernel
theorem dL_quick_15 : decode cL_quick 15 = .ok (.iconst 0, 1) := by decide +kernel
theorem dL_quick_16 : decode cL_quick 16 = .ok (.iconst 1, 1) := by decide +kernel
theorem dL_quick_17 : decode cL_quick 17 = .ok (.iconst 0, 1) := by decide +kernel
theorem dL_quick_18 : decode cL_quick 18 = .ok (.invokevirtual 25, 3) := by decide +kernel
theorem dL_quick_21 : decode cL_quick 21 = .ok (.iconst 1, 1) := by decide +kernel
theorem dL_quick_22 : decode cL_quick 22 = .ok (.if_icmp .ne 32, 3) := by decide +kernel
theorem dL_quick_25 : decode cL_quick 25 = .ok (.aload_n 0, 1) := by decide +kernel
theorem dL_quick_26 : decode cL_quick 26 = .ok (.invokevirtual 29, 3) := by decide +kernel
theorem dL_quick_29 : decode cL_quick 29 = .ok (.iconst 1, 1) := by decide +kernel
theorem dL_quick_30 : decode cL_quick 30 = .ok (.iload_n 3, 1) := by decide +kernel
theorem dL_quick_31 : decode cL_quick 31 = .ok (.ishl, 1) := by decide +kernel
theorem dL_quick_32 : decode cL_quick 32 = .ok (.if_icmp .ne 22, 3) := by decide +kernel
theorem dL_quick_35 : decode cL_quick 35 = .ok (.aload_n 0, 1) := by decide +kernel
theorem dL_quick_36 : decode cL_quick 36 = .ok (.iconst 4, 1) := by decide +kernel
theorem dL_quick_37 : decode cL_quick 37 = .ok (.iconst 0, 1) := by decide +kernel
theorem dL_quick_38 : decode cL_quick 38 = .ok (.iconst 0, 1) := by decide +kernel
theorem dL_quick_39 : decode cL_quick 39 = .ok (.iconst 0, 1) := by decide +kernel
theorem dL_quick_40 : decode cL_quick 40 = .ok (.iconst 0, 1) := by decide +kernel
theorem dL_quick_41 : decode cL_quick 41 = .ok (.iconst 0, 1) := by decide +kernel
theorem dL_quick_42 : decode cL_quick 42 = .ok (.invokestatic 92, 3) := by decide +kernel
theorem dL_quick_45 : decode cL_quick 45 = .ok (.bipush (-73), 2) := by decide +kernel
theorem dL_quick_47 : decode cL_quick 47 = .ok (.if_icmp .ne 7, 3) := by decide +kernel
theorem dL_quick_50 : decode cL_quick 50 = .ok (.iconst 1, 1) := by decide +kernel
theorem dL_quick_51 : decode cL_quick 51 = .ok (.goto 4, 3) := by decide +kernel
theorem dL_quick_54 : decode cL_quick 54 = .ok (.iconst 0, 1) := by decide +kernel
theorem dL_quick_55 : decode cL_quick 55 = .ok (.ireturn, 1) := by decide +kernel
theorem dL_table_0 : decode cL_table 0 = .ok (.iconst 0, 1) := by decide +kernel
theorem dL_table_1 : decode cL_table 1 = .ok (.istore 7, 2) := by decide +kernel
theorem dL_table_3 : decode cL_table 3 = .ok (.iload 7, 2) := by decide +kernel
theorem dL_table_5 : decode cL_table 5 = .ok (.iconst 4, 1) := by decide +kernel
theorem dL_table_6 : decode cL_table 6 = .ok (.if_icmp .ge 72, 3) := by decide +kernel
theorem dL_table_9 : decode cL_table 9 = .ok (.iload 7, 2) := by decide +kernel
theorem dL_table_11 : decode cL_table 11 = .ok (.ifCond .ne 7, 3) := by decide +kernel
theorem dL_table_14 : decode cL_table 14 = .ok (.iload_n 3, 1) := by decide +kernel
theorem dL_table_15 : decode cL_table 15 = .ok (.goto 27, 3) := by decide +kernel
theorem dL_table_18 : decode cL_table 18 = .ok (.iload 7, 2) := by decide +kernel
theorem dL_table_20 : decode cL_table 20 = .ok (.iconst 1, 1) := by decide +kernel
theorem dL_table_21 : decode cL_table 21 = .ok (.if_icmp .ne 8, 3) := by decide +kernel
theorem dL_table_24 : decode cL_table 24 = .ok (.iload 4, 2) := by decide +kernel
theorem dL_table_26 : decode cL_table 26 = .ok (.goto 16, 3) := by decide +kernel
theorem dL_table_29 : decode cL_table 29 = .ok (.iload 7, 2) := by decide +kernel
theorem dL_table_31 : decode cL_table 31 = .ok (.iconst 2, 1) := by decide +kernel
theorem dL_table_32 : decode cL_table 32 = .ok (.if_icmp .ne 8, 3) := by decide +kernel
theorem dL_table_35 : decode cL_table 35 = .ok (.iload 5, 2) := by decide +kernel
theorem dL_table_37 : decode cL_table 37 = .ok (.goto 5, 3) := by decide +kernel
theorem dL_table_40 : decode cL_table 40 = .ok (.iload 6, 2) := by decide +kernel
theorem dL_table_42 : decode cL_table 42 = .ok (.istore 8, 2) := by decide +kernel
theorem dL_table_44 : decode cL_table 44 = .ok (.aload_n 0, 1) := by decide +kernel
theorem dL_table_45 : decode cL_table 45 = .ok (.iload_n 1, 1) := by decide +kernel
theorem dL_table_46 : decode cL_table 46 = .ok (.iload_n 2, 1) := by decide +kernel
theorem dL_table_47 : decode cL_table 47 = .ok (.iload 7, 2) := by decide +kernel
theorem dL_table_49 : decode cL_table 49 = .ok (.invokevirtual 66, 3) := by decide +kernel
theorem dL_table_52 : decode cL_table 52 = .ok (.iload 8, 2) := by decide +kernel
theorem dL_table_54 : decode cL_table 54 = .ok (.if_icmp .ne 16, 3) := by decide +kernel
theorem dL_table_57 : decode cL_table 57 = .ok (.aload_n 0, 1) := by decide +kernel
theorem dL_table_58 : decode cL_table 58 = .ok (.iload_n 1, 1) := by decide +kernel
theorem dL_table_59 : decode cL_table 59 = .ok (.iload_n 2, 1) := by decide +kernel
theorem dL_table_60 : decode cL_table 60 = .ok (.iload 7, 2) := by decide +kernel
theorem dL_table_62 : decode cL_table 62 = .ok (.invokevirtual 69, 3) := by decide +kernel
theorem dL_table_65 : decode cL_table 65 = .ok (.iload 8, 2) := by decide +kernel
theorem dL_table_67 : decode cL_table 67 = .ok (.if_icmp .eq 5, 3) := by decide +kernel
theorem dL_table_70 : decode cL_table 70 = .ok (.iconst 0, 1) := by decide +kernel
theorem dL_table_71 : decode cL_table 71 = .ok (.ireturn, 1) := by decide +kernel
theorem dL_table_72 : decode cL_table 72 = .ok (.iinc 7 1, 3) := by decide +kernel
theorem dL_table_75 : decode cL_table 75 = .ok (.goto (-72), 3) := by decide +kernel
theorem dL_table_78 : decode cL_table 78 = .ok (.iconst 1, 1) := by decide +kernel
theorem dL_table_79 : decode cL_table 79 = .ok (.ireturn, 1) := by decide +kernel
theorem dL_ranks_0 : decode cL_ranks 0 = .ok (.aload_n 0, 1) := by decide +kernel
theorem dL_ranks_1 : decode cL_ranks 1 = .ok (.iload_n 1, 1) := by decide +kernel
theorem dL_ranks_2 : decode cL_ranks 2 = .ok (.iconst 0, 1) := by decide +kernel
theorem dL_ranks_3 : decode cL_ranks 3 = .ok (.invokevirtual 72, 3) := by decide +kernel
theorem dL_ranks_6 : decode cL_ranks 6 = .ok (.iload_n 2, 1) := by decide +kernel
theorem dL_ranks_7 : decode cL_ranks 7 = .ok (.if_icmp .ne 49, 3) := by decide +kernel
theorem dL_ranks_10 : decode cL_ranks 10 = .ok (.aload_n 0, 1) := by decide +kernel
theorem dL_ranks_11 : decode cL_ranks 11 = .ok (.iload_n 1, 1) := by decide +kernel
theorem dL_ranks_12 : decode cL_ranks 12 = .ok (.iconst 1, 1) := by decide +kernel
theorem dL_ranks_13 : decode cL_ranks 13 = .ok (.invokevirtual 72, 3) := by decide +kernel
theorem dL_ranks_16 : decode cL_ranks 16 = .ok (.iload_n 3, 1) := by decide +kernel
theorem dL_ranks_17 : decode cL_ranks 17 = .ok (.if_icmp .ne 39, 3) := by decide +kernel
theorem dL_ranks_20 : decode cL_ranks 20 = .ok (.aload_n 0, 1) := by decide +kernel
theorem dL_ranks_21 : decode cL_ranks 21 = .ok (.iload_n 1, 1) := by decide +kernel
theorem dL_ranks_22 : decode cL_ranks 22 = .ok (.iconst 2, 1) := by decide +kernel
theorem dL_ranks_23 : decode cL_ranks 23 = .ok (.invokevirtual 72, 3) := by decide +kernel
theorem dL_ranks_26 : decode cL_ranks 26 = .ok (.iload 4, 2) := by decide +kernel
theorem dL_ranks_28 : decode cL_ranks 28 = .ok (.if_icmp .ne 28, 3) := by decide +kernel
theorem dL_ranks_31 : decode cL_ranks 31 = .ok (.aload_n 0, 1) := by decide +kernel
theorem dL_ranks_32 : decode cL_ranks 32 = .ok (.iload_n 1, 1) := by decide +kernel
theorem dL_ranks_33 : decode cL_ranks 33 = .ok (.iconst 3, 1) := by decide +kernel
theorem dL_ranks_34 : decode cL_ranks 34 = .ok (.invokevirtual 72, 3) := by decide +kernel
theorem dL_ranks_37 : decode cL_ranks 37 = .ok (.iload 5, 2) := by decide +kernel
theorem dL_ranks_39 : decode cL_ranks 39 = .ok (.if_icmp .ne 17, 3) := by decide +kernel
theorem dL_ranks_42 : decode cL_ranks 42 = .ok (.aload_n 0, 1) := by decide +kernel
theorem dL_ranks_43 : decode cL_ranks 43 = .ok (.iload_n 1, 1) := by decide +kernel
theorem dL_ranks_44 : decode cL_ranks 44 = .ok (.iconst 4, 1) := by decide +kernel
theorem dL_ranks_45 : decode cL_ranks 45 = .ok (.invokevirtual 72, 3) := by decide +kernel
theorem dL_ranks_48 : decode cL_ranks 48 = .ok (.iconst (-1), 1) := by decide +kernel
theorem dL_ranks_49 : decode cL_ranks 49 = .ok (.if_icmp .ne 7, 3) := by decide +kernel
theorem dL_ranks_52 : decode cL_ranks 52 = .ok (.iconst 1, 1) := by decide +kernel
theorem dL_ranks_53 : decode cL_ranks 53 = .ok (.goto 4, 3) := by decide +kernel
theorem dL_ranks_56 : decode cL_ranks 56 = .ok (.iconst 0, 1) := by decide +kernel
theorem dL_ranks_57 : decode cL_ranks 57 = .ok (.ireturn, 1) := by decide +kernel
theorem dL_match_0 : decode cL_match 0 = .ok (.aload_n 0, 1) := by decide +kernel
theorem dL_match_1 : decode cL_match 1 = .ok (.iload_n 1, 1) := by decide +kernel
theorem dL_match_2 : decode cL_match 2 = .ok (.iload_n 2, 1) := by decide +kernel
theorem dL_match_3 : decode cL_match 3 = .ok (.iconst 0, 1) := by decide +kernel
theorem dL_match_4 : decode cL_match 4 = .ok (.invokevirtual 75, 3) := by decide +kernel
theorem dL_match_7 : decode cL_match 7 = .ok (.iload_n 3, 1) := by decide +kernel
theorem dL_match_8 : decode cL_match 8 = .ok (.if_icmp .ne 31, 3) := by decide +kernel
theorem dL_match_11 : decode cL_match 11 = .ok (.aload_n 0, 1) := by decide +kernel
theorem dL_match_12 : decode cL_match 12 = .ok (.iload_n 1, 1) := by decide +kernel
theorem dL_match_13 : decode cL_match 13 = .ok (.iload_n 2, 1) := by decide +kernel
theorem dL_match_14 : decode cL_match 14 = .ok (.iconst 1, 1) := by decide +kernel
theorem dL_match_15 : decode cL_match 15 = .ok (.invokevirtual 75, 3) := by decide +kernel
theorem dL_match_18 : decode cL_match 18 = .ok (.iload 4, 2) := by decide +kernel
theorem dL_match_20 : decode cL_match 20 = .ok (.if_icmp .ne 19, 3) := by decide +kernel
theorem dL_match_23 : decode cL_match 23 = .ok (.aload_n 0, 1) := by decide +kernel
theorem dL_match_24 : decode cL_match 24 = .ok (.iload_n 1, 1) := by decide +kernel
theorem dL_match_25 : decode cL_match 25 = .ok (.iload_n 2, 1) := by decide +kernel
theorem dL_match_26 : decode cL_match 26 = .ok (.iconst 2, 1) := by decide +kernel
theorem dL_match_27 : decode cL_match 27 = .ok (.invokevirtual 75, 3) := by decide +kernel
theorem dL_match_30 : decode cL_match 30 = .ok (.iload 5, 2) := by decide +kernel
theorem dL_match_32 : decode cL_match 32 = .ok (.if_icmp .ne 7, 3) := by decide +kernel
theorem dL_match_35 : decode cL_match 35 = .ok (.iconst 1, 1) := by decide +kernel
theorem dL_match_36 : decode cL_match 36 = .ok (.goto 4, 3) := by decide +kernel
theorem dL_match_39 : decode cL_match 39 = .ok (.iconst 0, 1) := by decide +kernel
theorem dL_match_40 : decode cL_match 40 = .ok (.ireturn, 1) := by decide +kernel
theorem dL_pools_0 : decode cL_pools 0 = .ok (.aload_n 0, 1) := by decide +kernel
theorem dL_pools_1 : decode cL_pools 1 = .ok (.bipush 15, 2) := by decide +kernel
theorem dL_pools_3 : decode cL_pools 3 = .ok (.invokevirtual 48, 3) := by decide +kernel
theorem dL_pools_6 : decode cL_pools 6 = .ok (.ifCond .ne 486, 3) := by decide +kernel
theorem dL_pools_9 : decode cL_pools 9 = .ok (.aload_n 0, 1) := by decide +kernel
theorem dL_pools_10 : decode cL_pools 10 = .ok (.iconst 0, 1) := by decide +kernel
theorem dL_pools_11 : decode cL_pools 11 = .ok (.iconst 0, 1) := by decide +kernel
theorem dL_pools_12 : decode cL_pools 12 = .ok (.iconst 1, 1) := by decide +kernel
theorem dL_pools_13 : decode cL_pools 13 = .ok (.iconst 2, 1) := by decide +kernel
theorem dL_pools_14 : decode cL_pools 14 = .ok (.iconst 3, 1) := by decide +kernel
theorem dL_pools_15 : decode cL_pools 15 = .ok (.invokestatic 170, 3) := by decide +kernel
theorem dL_pools_18 : decode cL_pools 18 = .ok (.ifCond .eq 474, 3) := by decide +kernel
theorem dL_pools_21 : decode cL_pools 21 = .ok (.aload_n 0, 1) := by decide +kernel
theorem dL_pools_22 : decode cL_pools 22 = .ok (.iconst 0, 1) := by decide +kernel
theorem dL_pools_23 : decode cL_pools 23 = .ok (.iconst 1, 1) := by decide +kernel
theorem dL_pools_24 : decode cL_pools 24 = .ok (.iconst 0, 1) := by decide +kernel
theorem dL_pools_25 : decode cL_pools 25 = .ok (.iconst 0, 1) := by decide +kernel
theorem dL_pools_26 : decode cL_pools 26 = .ok (.invokestatic 173, 3) := by decide +kernel
theorem dL_pools_29 : decode cL_pools 29 = .ok (.ifCond .eq 463, 3) := by decide +kernel
theorem dL_pools_32 : decode cL_pools 32 = .ok (.aload_n 0, 1) := by decide +kernel
theorem dL_pools_33 : decode cL_pools 33 = .ok (.iconst 0, 1) := by decide +kernel
theorem dL_pools_34 : decode cL_pools 34 = .ok (.iconst 2, 1) := by decide +kernel
theorem dL_pools_35 : decode cL_pools 35 = .ok (.iconst 0, 1) := by decide +kernel
theorem dL_pools_36 : decode cL_pools 36 = .ok (.iconst 0, 1) := by decide +kernel
theorem dL_pools_37 : decode cL_pools 37 = .ok (.invokestatic 173, 3) := by decide +kernel
theorem dL_pools_40 : decode cL_pools 40 = .ok (.ifCond .eq 452, 3) := by decide +kernel
theorem dL_pools_43 : decode cL_pools 43 = .ok (.aload_n 0, 1) := by decide +kernel
theorem dL_pools_44 : decode cL_pools 44 = .ok (.iconst 2, 1) := by decide +kernel
theorem dL_pools_45 : decode cL_pools 45 = .ok (.iconst 1, 1) := by decide +kernel
theorem dL_pools_46 : decode cL_pools 46 = .ok (.iconst 1, 1) := by decide +kernel
theorem dL_pools_47 : decode cL_pools 47 = .ok (.iconst 0, 1) := by decide +kernel
theorem dL_pools_48 : decode cL_pools 48 = .ok (.invokestatic 173, 3) := by decide +kernel
theorem dL_pools_51 : decode cL_pools 51 = .ok (.ifCond .eq 441, 3) := by decide +kernel
theorem dL_pools_54 : decode cL_pools 54 = .ok (.aload_n 0, 1) := by decide +kernel
theorem dL_pools_55 : decode cL_pools 55 = .ok (.iconst 3, 1) := by decide +kernel
theorem dL_pools_56 : decode cL_pools 56 = .ok (.iconst 0, 1) := by decide +kernel
theorem dL_pools_57 : decode cL_pools 57 = .ok (.iconst 0, 1) := by decide +kernel
theorem dL_pools_58 : decode cL_pools 58 = .ok (.iconst 0, 1) := by decide +kernel
theorem dL_pools_59 : decode cL_pools 59 = .ok (.invokestatic 173, 3) := by decide +kernel
theorem dL_pools_62 : decode cL_pools 62 = .ok (.ifCond .eq 430, 3) := by decide +kernel
theorem dL_pools_65 : decode cL_pools 65 = .ok (.aload_n 0, 1) := by decide +kernel
theorem dL_pools_66 : decode cL_pools 66 = .ok (.iconst 3, 1) := by decide +kernel
theorem dL_pools_67 : decode cL_pools 67 = .ok (.iconst 1, 1) := by decide +kernel
theorem dL_pools_68 : decode cL_pools 68 = .ok (.iconst 1, 1) := by decide +kernel
theorem dL_pools_69 : decode cL_pools 69 = .ok (.iconst 0, 1) := by decide +kernel
theorem dL_pools_70 : decode cL_pools 70 = .ok (.invokestatic 173, 3) := by decide +kernel
theorem dL_pools_73 : decode cL_pools 73 = .ok (.ifCond .eq 419, 3) := by decide +kernel
theorem dL_pools_76 : decode cL_pools 76 = .ok (.aload_n 0, 1) := by decide +kernel
theorem dL_pools_77 : decode cL_pools 77 = .ok (.iconst 2, 1) := by decide +kernel
theorem dL_pools_78 : decode cL_pools 78 = .ok (.iconst 3, 1) := by decide +kernel
theorem dL_pools_79 : decode cL_pools 79 = .ok (.iconst 1, 1) := by decide +kernel
theorem dL_pools_80 : decode cL_pools 80 = .ok (.iconst 0, 1) := by decide +kernel
theorem dL_pools_81 : decode cL_pools 81 = .ok (.invokestatic 173, 3) := by decide +kernel
theorem dL_pools_84 : decode cL_pools 84 = .ok (.ifCond .eq 408, 3) := by decide +kernel
theorem dL_pools_87 : decode cL_pools 87 = .ok (.aload_n 0, 1) := by decide +kernel
theorem dL_pools_88 : decode cL_pools 88 = .ok (.iconst 0, 1) := by decide +kernel
theorem dL_pools_89 : decode cL_pools 89 = .ok (.iconst 0, 1) := by decide +kernel
theorem dL_pools_90 : decode cL_pools 90 = .ok (.iconst 3, 1) := by decide +kernel
theorem dL_pools_91 : decode cL_pools 91 = .ok (.iconst 2, 1) := by decide +kernel
theorem dL_pools_92 : decode cL_pools 92 = .ok (.iconst 2, 1) := by decide +kernel
theorem dL_pools_93 : decode cL_pools 93 = .ok (.iconst 1, 1) := by decide +kernel
theorem dL_pools_94 : decode cL_pools 94 = .ok (.invokestatic 176, 3) := by decide +kernel
theorem dL_pools_97 : decode cL_pools 97 = .ok (.ifCond .eq 395, 3) := by decide +kernel
theorem dL_pools_100 : decode cL_pools 100 = .ok (.aload_n 0, 1) := by decide +kernel
theorem dL_pools_101 : decode cL_pools 101 = .ok (.iconst 0, 1) := by decide +kernel
theorem dL_pools_102 : decode cL_pools 102 = .ok (.iconst 1, 1) := by decide +kernel
theorem dL_pools_103 : decode cL_pools 103 = .ok (.iconst 3, 1) := by decide +kernel
theorem dL_pools_104 : decode cL_pools 104 = .ok (.iconst 2, 1) := by decide +kernel
theorem dL_pools_105 : decode cL_pools 105 = .ok (.iconst 2, 1) := by decide +kernel
theorem dL_pools_106 : decode cL_pools 106 = .ok (.iconst 1, 1) := by decide +kernel
theorem dL_pools_107 : decode cL_pools 107 = .ok (.invokestatic 176, 3) := by decide +kernel
theorem dL_pools_110 : decode cL_pools 110 = .ok (.ifCond .eq 382, 3) := by decide +kernel
theorem dL_pools_113 : decode cL_pools 113 = .ok (.aload_n 0, 1) := by decide +kernel
theorem dL_pools_114 : decode cL_pools 114 = .ok (.iconst 0, 1) := by decide +kernel
theorem dL_pools_115 : decode cL_pools 115 = .ok (.iconst 2, 1) := by decide +kernel
theorem dL_pools_116 : decode cL_pools 116 = .ok (.iconst 3, 1) := by decide +kernel
theorem dL_pools_117 : decode cL_pools 117 = .ok (.iconst 0, 1) := by decide +kernel
theorem dL_pools_118 : decode cL_pools 118 = .ok (.iconst 0, 1) := by decide +kernel
theorem dL_pools_119 : decode cL_pools 119 = .ok (.iconst 3, 1) := by decide +kernel
theorem dL_pools_120 : decode cL_pools 120 = .ok (.invokestatic 176, 3) := by decide +kernel
theorem dL_pools_123 : decode cL_pools 123 = .ok (.ifCond .eq 369, 3) := by decide +kernel
theorem dL_pools_126 : decode cL_pools 126 = .ok (.aload_n 0, 1) := by decide +kernel
theorem dL_pools_127 : decode cL_pools 127 = .ok (.iconst 0, 1) := by decide +kernel
theorem dL_pools_128 : decode cL_pools 128 = .ok (.iconst 3, 1) := by decide +kernel
theorem dL_pools_129 : decode cL_pools 129 = .ok (.iconst 3, 1) := by decide +kernel
theorem dL_pools_130 : decode cL_pools 130 = .ok (.iconst 2, 1) := by decide +kernel
theorem dL_pools_131 : decode cL_pools 131 = .ok (.iconst 2, 1) := by decide +kernel
theorem dL_pools_132 : decode cL_pools 132 = .ok (.iconst 1, 1) := by decide +kernel
theorem dL_pools_133 : decode cL_pools 133 = .ok (.invokestatic 176, 3) := by decide +kernel
theorem dL_pools_136 : decode cL_pools 136 = .ok (.ifCond .eq 356, 3) := by decide +kernel
theorem dL_pools_139 : decode cL_pools 139 = .ok (.aload_n 0, 1) := by decide +kernel
theorem dL_pools_140 : decode cL_pools 140 = .ok (.iconst 0, 1) := by decide +kernel
theorem dL_pools_141 : decode cL_pools 141 = .ok (.iconst 0, 1) := by decide +kernel
theorem dL_pools_142 : decode cL_pools 142 = .ok (.iconst 1, 1) := by decide +kernel
theorem dL_pools_143 : decode cL_pools 143 = .ok (.iconst 3, 1) := by decide +kernel
theorem dL_pools_144 : decode cL_pools 144 = .ok (.iconst 2, 1) := by decide +kernel
theorem dL_pools_145 : decode cL_pools 145 = .ok (.invokestatic 170, 3) := by decide +kernel
theorem dL_pools_148 : decode cL_pools 148 = .ok (.ifCond .eq 344, 3) := by decide +kernel
theorem dL_pools_151 : decode cL_pools 151 = .ok (.aload_n 0, 1) := by decide +kernel
theorem dL_pools_152 : decode cL_pools 152 = .ok (.bipush 12, 2) := by decide +kernel
theorem dL_pools_154 : decode cL_pools 154 = .ok (.iconst 0, 1) := by decide +kernel
theorem dL_pools_155 : decode cL_pools 155 = .ok (.iconst 0, 1) := by decide +kernel
theorem dL_pools_156 : decode cL_pools 156 = .ok (.iconst 0, 1) := by decide +kernel
theorem dL_pools_157 : decode cL_pools 157 = .ok (.iconst 0, 1) := by decide +kernel
theorem dL_pools_158 : decode cL_pools 158 = .ok (.iconst 0, 1) := by decide +kernel
theorem dL_pools_159 : decode cL_pools 159 = .ok (.invokestatic 92, 3) := by decide +kernel
theorem dL_pools_162 : decode cL_pools 162 = .ok (.bipush (-71), 2) := by decide +kernel
theorem dL_pools_164 : decode cL_pools 164 = .ok (.if_icmp .ne 328, 3) := by decide +kernel
theorem dL_pools_167 : decode cL_pools 167 = .ok (.aload_n 0, 1) := by decide +kernel
theorem dL_pools_168 : decode cL_pools 168 = .ok (.bipush 18, 2) := by decide +kernel
theorem dL_pools_170 : decode cL_pools 170 = .ok (.iconst 0, 1) := by decide +kernel
theorem dL_pools_171 : decode cL_pools 171 = .ok (.iconst 0, 1) := by decide +kernel
theorem dL_pools_172 : decode cL_pools 172 = .ok (.iconst 0, 1) := by decide +kernel
theorem dL_pools_173 : decode cL_pools 173 = .ok (.iconst 0, 1) := by decide +kernel
theorem dL_pools_174 : decode cL_pools 174 = .ok (.iconst 0, 1) := by decide +kernel
theorem dL_pools_175 : decode cL_pools 175 = .ok (.invokestatic 92, 3) := by decide +kernel
theorem dL_pools_178 : decode cL_pools 178 = .ok (.bipush (-71), 2) := by decide +kernel
theorem dL_pools_180 : decode cL_pools 180 = .ok (.if_icmp .ne 312, 3) := by decide +kernel
theorem dL_pools_183 : decode cL_pools 183 = .ok (.aload_n 0, 1) := by decide +kernel
theorem dL_pools_184 : decode cL_pools 184 = .ok (.iconst 0, 1) := by decide +kernel
theorem dL_pools_185 : decode cL_pools 185 = .ok (.iconst 1, 1) := by decide +kernel
theorem dL_pools_186 : decode cL_pools 186 = .ok (.invokevirtual 51, 3) := by decide +kernel
theorem dL_pools_189 : decode cL_pools 189 = .ok (.iconst 3, 1) := by decide +kernel
theorem dL_pools_190 : decode cL_pools 190 = .ok (.if_icmp .ne 302, 3) := by decide +kernel
theorem dL_pools_193 : decode cL_pools 193 = .ok (.aload_n 0, 1) := by decide +kernel
theorem dL_pools_194 : decode cL_pools 194 = .ok (.bipush 10, 2) := by decide +kernel
theorem dL_pools_196 : decode cL_pools 196 = .ok (.iconst 0, 1) := by decide +kernel
theorem dL_pools_197 : decode cL_pools 197 = .ok (.iconst 1, 1) := by decide +kernel
theorem dL_pools_198 : decode cL_pools 198 = .ok (.iconst 0, 1) := by decide +kernel
theorem dL_pools_199 : decode cL_pools 199 = .ok (.iconst 0, 1) := by decide +kernel
theorem dL_pools_200 : decode cL_pools 200 = .ok (.iconst 0, 1) := by decide +kernel
theorem dL_pools_201 : decode cL_pools 201 = .ok (.invokestatic 92, 3) := by decide +kernel
theorem dL_pools_204 : decode cL_pools 204 = .ok (.bipush (-73), 2) := by decide +kernel
theorem dL_pools_206 : decode cL_pools 206 = .ok (.if_icmp .ne 286, 3) := by decide +kernel
theorem dL_pools_209 : decode cL_pools 209 = .ok (.aload_n 0, 1) := by decide +kernel
theorem dL_pools_210 : decode cL_pools 210 = .ok (.iconst 0, 1) := by decide +kernel
theorem dL_pools_211 : decode cL_pools 211 = .ok (.iconst 1, 1) := by decide +kernel
theorem dL_pools_212 : decode cL_pools 212 = .ok (.iconst 0, 1) := by decide +kernel
theorem dL_pools_213 : decode cL_pools 213 = .ok (.iconst 0, 1) := by decide +kernel
theorem dL_pools_214 : decode cL_pools 214 = .ok (.iconst 0, 1) := by decide +kernel
theorem dL_pools_215 : decode cL_pools 215 = .ok (.iconst 0, 1) := by decide +kernel
theorem dL_pools_216 : decode cL_pools 216 = .ok (.invokestatic 176, 3) := by decide +kernel
theorem dL_pools_219 : decode cL_pools 219 = .ok (.ifCond .eq 273, 3) := by decide +kernel
theorem dL_pools_222 : decode cL_pools 222 = .ok (.aload_n 0, 1) := by decide +kernel
theorem dL_pools_223 : decode cL_pools 223 = .ok (.iconst 0, 1) := by decide +kernel
theorem dL_pools_224 : decode cL_pools 224 = .ok (.iconst 0, 1) := by decide +kernel
theorem dL_pools_225 : decode cL_pools 225 = .ok (.iconst 2, 1) := by decide +kernel
theorem dL_pools_226 : decode cL_pools 226 = .ok (.iconst 1, 1) := by decide +kernel
theorem dL_pools_227 : decode cL_pools 227 = .ok (.iconst 1, 1) := by decide +kernel
theorem dL_pools_228 : decode cL_pools 228 = .ok (.iconst 1, 1) := by decide +kernel
theorem dL_pools_229 : decode cL_pools 229 = .ok (.invokestatic 176, 3) := by decide +kernel
theorem dL_pools_232 : decode cL_pools 232 = .ok (.ifCond .eq 260, 3) := by decide +kernel
theorem dL_pools_235 : decode cL_pools 235 = .ok (.aload_n 0, 1) := by decide +kernel
theorem dL_pools_236 : decode cL_pools 236 = .ok (.iconst 0, 1) := by decide +kernel
theorem dL_pools_237 : decode cL_pools 237 = .ok (.iconst 3, 1) := by decide +kernel
theorem dL_pools_238 : decode cL_pools 238 = .ok (.iconst 2, 1) := by decide +kernel
theorem dL_pools_239 : decode cL_pools 239 = .ok (.iconst 2, 1) := by decide +kernel
theorem dL_pools_240 : decode cL_pools 240 = .ok (.iconst 2, 1) := by decide +kernel
theorem dL_pools_241 : decode cL_pools 241 = .ok (.iconst 0, 1) := by decide +kernel
theorem dL_pools_242 : decode cL_pools 242 = .ok (.invokestatic 176, 3) := by decide +kernel
theorem dL_pools_245 : decode cL_pools 245 = .ok (.ifCond .eq 247, 3) := by decide +kernel
theorem dL_pools_248 : decode cL_pools 248 = .ok (.aload_n 0, 1) := by decide +kernel
theorem dL_pools_249 : decode cL_pools 249 = .ok (.iconst 0, 1) := by decide +kernel
theorem dL_pools_250 : decode cL_pools 250 = .ok (.iconst 2, 1) := by decide +kernel
theorem dL_pools_251 : decode cL_pools 251 = .ok (.iconst 2, 1) := by decide +kernel
theorem dL_pools_252 : decode cL_pools 252 = .ok (.iconst 0, 1) := by decide +kernel
theorem dL_pools_253 : decode cL_pools 253 = .ok (.iconst 0, 1) := by decide +kernel
theorem dL_pools_254 : decode cL_pools 254 = .ok (.iconst 2, 1) := by decide +kernel
theorem dL_pools_255 : decode cL_pools 255 = .ok (.invokestatic 176, 3) := by decide +kernel
theorem dL_pools_258 : decode cL_pools 258 = .ok (.ifCond .eq 234, 3) := by decide +kernel
theorem dL_pools_261 : decode cL_pools 261 = .ok (.aload_n 0, 1) := by decide +kernel
theorem dL_pools_262 : decode cL_pools 262 = .ok (.iconst 0, 1) := by decide +kernel
theorem dL_pools_263 : decode cL_pools 263 = .ok (.iconst 3, 1) := by decide +kernel
theorem dL_pools_264 : decode cL_pools 264 = .ok (.iconst 0, 1) := by decide +kernel
theorem dL_pools_265 : decode cL_pools 265 = .ok (.iconst 2, 1) := by decide +kernel
theorem dL_pools_266 : decode cL_pools 266 = .ok (.iconst (-1), 1) := by decide +kernel
theorem dL_pools_267 : decode cL_pools 267 = .ok (.invokestatic 170, 3) := by decide +kernel
theorem dL_pools_270 : decode cL_pools 270 = .ok (.ifCond .eq 222, 3) := by decide +kernel
theorem dL_pools_273 : decode cL_pools 273 = .ok (.aload_n 0, 1) := by decide +kernel
theorem dL_pools_274 : decode cL_pools 274 = .ok (.iconst 0, 1) := by decide +kernel
theorem dL_pools_275 : decode cL_pools 275 = .ok (.invokevirtual 54, 3) := by decide +kernel
theorem dL_pools_278 : decode cL_pools 278 = .ok (.iconst 4, 1) := by decide +kernel
theorem dL_pools_279 : decode cL_pools 279 = .ok (.if_icmp .ne 213, 3) := by decide +kernel
theorem dL_pools_282 : decode cL_pools 282 = .ok (.aload_n 0, 1) := by decide +kernel
theorem dL_pools_283 : decode cL_pools 283 = .ok (.iconst 0, 1) := by decide +kernel
theorem dL_pools_284 : decode cL_pools 284 = .ok (.iconst 0, 1) := by decide +kernel
theorem dL_pools_285 : decode cL_pools 285 = .ok (.iconst 3, 1) := by decide +kernel
theorem dL_pools_286 : decode cL_pools 286 = .ok (.iconst (-1), 1) := by decide +kernel
theorem dL_pools_287 : decode cL_pools 287 = .ok (.iconst 3, 1) := by decide +kernel
theorem dL_pools_288 : decode cL_pools 288 = .ok (.invokestatic 180, 3) := by decide +kernel
theorem dL_pools_291 : decode cL_pools 291 = .ok (.ifCond .eq 201, 3) := by decide +kernel
theorem dL_pools_294 : decode cL_pools 294 = .ok (.aload_n 0, 1) := by decide +kernel
theorem dL_pools_295 : decode cL_pools 295 = .ok (.iconst 0, 1) := by decide +kernel
theorem dL_pools_296 : decode cL_pools 296 = .ok (.iconst 1, 1) := by decide +kernel
theorem dL_pools_297 : decode cL_pools 297 = .ok (.iconst 0, 1) := by decide +kernel
theorem dL_pools_298 : decode cL_pools 298 = .ok (.iconst 2, 1) := by decide +kernel
theorem dL_pools_299 : decode cL_pools 299 = .ok (.iconst (-1), 1) := by decide +kernel
theorem dL_pools_300 : decode cL_pools 300 = .ok (.invokestatic 180, 3) := by decide +kernel
theorem dL_pools_303 : decode cL_pools 303 = .ok (.ifCond .eq 189, 3) := by decide +kernel
theorem dL_pools_306 : decode cL_pools 306 = .ok (.aload_n 0, 1) := by decide +kernel
theorem dL_pools_307 : decode cL_pools 307 = .ok (.iconst 1, 1) := by decide +kernel
theorem dL_pools_308 : decode cL_pools 308 = .ok (.iconst 0, 1) := by decide +kernel
theorem dL_pools_309 : decode cL_pools 309 = .ok (.iconst 3, 1) := by decide +kernel
theorem dL_pools_310 : decode cL_pools 310 = .ok (.iconst (-1), 1) := by decide +kernel
theorem dL_pools_311 : decode cL_pools 311 = .ok (.iconst (-1), 1) := by decide +kernel
theorem dL_pools_312 : decode cL_pools 312 = .ok (.invokestatic 180, 3) := by decide +kernel
theorem dL_pools_315 : decode cL_pools 315 = .ok (.ifCond .eq 177, 3) := by decide +kernel
theorem dL_pools_318 : decode cL_pools 318 = .ok (.aload_n 0, 1) := by decide +kernel
theorem dL_pools_319 : decode cL_pools 319 = .ok (.bipush 12, 2) := by decide +kernel
theorem dL_pools_321 : decode cL_pools 321 = .ok (.iconst 1, 1) := by decide +kernel
theorem dL_pools_322 : decode cL_pools 322 = .ok (.iconst 0, 1) := by decide +kernel
theorem dL_pools_323 : decode cL_pools 323 = .ok (.iconst 0, 1) := by decide +kernel
theorem dL_pools_324 : decode cL_pools 324 = .ok (.iconst 0, 1) := by decide +kernel
theorem dL_pools_325 : decode cL_pools 325 = .ok (.iconst 0, 1) := by decide +kernel
theorem dL_pools_326 : decode cL_pools 326 = .ok (.invokestatic 92, 3) := by decide +kernel
theorem dL_pools_329 : decode cL_pools 329 = .ok (.bipush (-73), 2) := by decide +kernel
theorem dL_pools_331 : decode cL_pools 331 = .ok (.if_icmp .ne 161, 3) := by decide +kernel
theorem dL_pools_334 : decode cL_pools 334 = .ok (.aload_n 0, 1) := by decide +kernel
theorem dL_pools_335 : decode cL_pools 335 = .ok (.bipush 12, 2) := by decide +kernel
theorem dL_pools_337 : decode cL_pools 337 = .ok (.iconst 0, 1) := by decide +kernel
theorem dL_pools_338 : decode cL_pools 338 = .ok (.iconst 0, 1) := by decide +kernel
theorem dL_pools_339 : decode cL_pools 339 = .ok (.iconst 0, 1) := by decide +kernel
theorem dL_pools_340 : decode cL_pools 340 = .ok (.iconst 0, 1) := by decide +kernel
theorem dL_pools_341 : decode cL_pools 341 = .ok (.iconst 0, 1) := by decide +kernel
theorem dL_pools_342 : decode cL_pools 342 = .ok (.invokestatic 92, 3) := by decide +kernel
theorem dL_pools_345 : decode cL_pools 345 = .ok (.bipush (-73), 2) := by decide +kernel
theorem dL_pools_347 : decode cL_pools 347 = .ok (.if_icmp .ne 145, 3) := by decide +kernel
theorem dL_pools_350 : decode cL_pools 350 = .ok (.aload_n 0, 1) := by decide +kernel
theorem dL_pools_351 : decode cL_pools 351 = .ok (.bipush 12, 2) := by decide +kernel
theorem dL_pools_353 : decode cL_pools 353 = .ok (.iconst 0, 1) := by decide +kernel
theorem dL_pools_354 : decode cL_pools 354 = .ok (.iconst 1, 1) := by decide +kernel
theorem dL_pools_355 : decode cL_pools 355 = .ok (.iconst 2, 1) := by decide +kernel
theorem dL_pools_356 : decode cL_pools 356 = .ok (.iconst 0, 1) := by decide +kernel
theorem dL_pools_357 : decode cL_pools 357 = .ok (.iconst 0, 1) := by decide +kernel
theorem dL_pools_358 : decode cL_pools 358 = .ok (.invokestatic 92, 3) := by decide +kernel
theorem dL_pools_361 : decode cL_pools 361 = .ok (.bipush (-72), 2) := by decide +kernel
theorem dL_pools_363 : decode cL_pools 363 = .ok (.if_icmp .ne 129, 3) := by decide +kernel
theorem dL_pools_366 : decode cL_pools 366 = .ok (.aload_n 0, 1) := by decide +kernel
theorem dL_pools_367 : decode cL_pools 367 = .ok (.bipush 18, 2) := by decide +kernel
theorem dL_pools_369 : decode cL_pools 369 = .ok (.iconst 0, 1) := by decide +kernel
theorem dL_pools_370 : decode cL_pools 370 = .ok (.iconst 1, 1) := by decide +kernel
theorem dL_pools_371 : decode cL_pools 371 = .ok (.iconst 3, 1) := by decide +kernel
theorem dL_pools_372 : decode cL_pools 372 = .ok (.iconst 0, 1) := by decide +kernel
theorem dL_pools_373 : decode cL_pools 373 = .ok (.iconst 0, 1) := by decide +kernel
theorem dL_pools_374 : decode cL_pools 374 = .ok (.invokestatic 92, 3) := by decide +kernel
theorem dL_pools_377 : decode cL_pools 377 = .ok (.bipush (-72), 2) := by decide +kernel
theorem dL_pools_379 : decode cL_pools 379 = .ok (.if_icmp .ne 113, 3) := by decide +kernel
theorem dL_pools_382 : decode cL_pools 382 = .ok (.aload_n 0, 1) := by decide +kernel
theorem dL_pools_383 : decode cL_pools 383 = .ok (.iconst 0, 1) := by decide +kernel
theorem dL_pools_384 : decode cL_pools 384 = .ok (.iconst 1, 1) := by decide +kernel
theorem dL_pools_385 : decode cL_pools 385 = .ok (.iconst 1, 1) := by decide +kernel
theorem dL_pools_386 : decode cL_pools 386 = .ok (.invokevirtual 57, 3) := by decide +kernel
theorem dL_pools_389 : decode cL_pools 389 = .ok (.iconst 2, 1) := by decide +kernel
theorem dL_pools_390 : decode cL_pools 390 = .ok (.if_icmp .ne 102, 3) := by decide +kernel
theorem dL_pools_393 : decode cL_pools 393 = .ok (.aload_n 0, 1) := by decide +kernel
theorem dL_pools_394 : decode cL_pools 394 = .ok (.iconst 1, 1) := by decide +kernel
theorem dL_pools_395 : decode cL_pools 395 = .ok (.iconst 0, 1) := by decide +kernel
theorem dL_pools_396 : decode cL_pools 396 = .ok (.iconst 3, 1) := by decide +kernel
theorem dL_pools_397 : decode cL_pools 397 = .ok (.iconst 2, 1) := by decide +kernel
theorem dL_pools_398 : decode cL_pools 398 = .ok (.iconst (-1), 1) := by decide +kernel
theorem dL_pools_399 : decode cL_pools 399 = .ok (.invokestatic 180, 3) := by decide +kernel
theorem dL_pools_402 : decode cL_pools 402 = .ok (.ifCond .eq 90, 3) := by decide +kernel
theorem dL_pools_405 : decode cL_pools 405 = .ok (.aload_n 0, 1) := by decide +kernel
theorem dL_pools_406 : decode cL_pools 406 = .ok (.iconst 1, 1) := by decide +kernel
theorem dL_pools_407 : decode cL_pools 407 = .ok (.iconst 0, 1) := by decide +kernel
theorem dL_pools_408 : decode cL_pools 408 = .ok (.iconst 0, 1) := by decide +kernel
theorem dL_pools_409 : decode cL_pools 409 = .ok (.invokevirtual 57, 3) := by decide +kernel
theorem dL_pools_412 : decode cL_pools 412 = .ok (.iconst 3, 1) := by decide +kernel
theorem dL_pools_413 : decode cL_pools 413 = .ok (.if_icmp .ne 79, 3) := by decide +kernel
theorem dL_pools_416 : decode cL_pools 416 = .ok (.aload_n 0, 1) := by decide +kernel
theorem dL_pools_417 : decode cL_pools 417 = .ok (.iconst 1, 1) := by decide +kernel
theorem dL_pools_418 : decode cL_pools 418 = .ok (.iconst 0, 1) := by decide +kernel
theorem dL_pools_419 : decode cL_pools 419 = .ok (.iconst 3, 1) := by decide +kernel
theorem dL_pools_420 : decode cL_pools 420 = .ok (.iconst 2, 1) := by decide +kernel
theorem dL_pools_421 : decode cL_pools 421 = .ok (.iconst 3, 1) := by decide +kernel
theorem dL_pools_422 : decode cL_pools 422 = .ok (.invokestatic 180, 3) := by decide +kernel
theorem dL_pools_425 : decode cL_pools 425 = .ok (.ifCond .eq 67, 3) := by decide +kernel
theorem dL_pools_428 : decode cL_pools 428 = .ok (.aload_n 0, 1) := by decide +kernel
theorem dL_pools_429 : decode cL_pools 429 = .ok (.bipush 12, 2) := by decide +kernel
theorem dL_pools_431 : decode cL_pools 431 = .ok (.iconst 1, 1) := by decide +kernel
theorem dL_pools_432 : decode cL_pools 432 = .ok (.iconst 0, 1) := by decide +kernel
theorem dL_pools_433 : decode cL_pools 433 = .ok (.iconst 0, 1) := by decide +kernel
theorem dL_pools_434 : decode cL_pools 434 = .ok (.iconst 0, 1) := by decide +kernel
theorem dL_pools_435 : decode cL_pools 435 = .ok (.iconst 0, 1) := by decide +kernel
theorem dL_pools_436 : decode cL_pools 436 = .ok (.invokestatic 92, 3) := by decide +kernel
theorem dL_pools_439 : decode cL_pools 439 = .ok (.bipush (-73), 2) := by decide +kernel
theorem dL_pools_441 : decode cL_pools 441 = .ok (.if_icmp .ne 51, 3) := by decide +kernel
theorem dL_pools_444 : decode cL_pools 444 = .ok (.aload_n 0, 1) := by decide +kernel
theorem dL_pools_445 : decode cL_pools 445 = .ok (.bipush 18, 2) := by decide +kernel
theorem dL_pools_447 : decode cL_pools 447 = .ok (.iconst 2, 1) := by decide +kernel
theorem dL_pools_448 : decode cL_pools 448 = .ok (.iconst 0, 1) := by decide +kernel
theorem dL_pools_449 : decode cL_pools 449 = .ok (.iconst 0, 1) := by decide +kernel
theorem dL_pools_450 : decode cL_pools 450 = .ok (.iconst 0, 1) := by decide +kernel
theorem dL_pools_451 : decode cL_pools 451 = .ok (.iconst 0, 1) := by decide +kernel
theorem dL_pools_452 : decode cL_pools 452 = .ok (.invokestatic 92, 3) := by decide +kernel
theorem dL_pools_455 : decode cL_pools 455 = .ok (.bipush (-71), 2) := by decide +kernel
theorem dL_pools_457 : decode cL_pools 457 = .ok (.if_icmp .ne 35, 3) := by decide +kernel
theorem dL_pools_460 : decode cL_pools 460 = .ok (.aload_n 0, 1) := by decide +kernel
theorem dL_pools_461 : decode cL_pools 461 = .ok (.bipush 18, 2) := by decide +kernel
theorem dL_pools_463 : decode cL_pools 463 = .ok (.iconst 0, 1) := by decide +kernel
theorem dL_pools_464 : decode cL_pools 464 = .ok (.iconst 2, 1) := by decide +kernel
theorem dL_pools_465 : decode cL_pools 465 = .ok (.iconst 0, 1) := by decide +kernel
theorem dL_pools_466 : decode cL_pools 466 = .ok (.iconst 0, 1) := by decide +kernel
theorem dL_pools_467 : decode cL_pools 467 = .ok (.iconst 0, 1) := by decide +kernel
theorem dL_pools_468 : decode cL_pools 468 = .ok (.invokestatic 92, 3) := by decide +kernel
theorem dL_pools_471 : decode cL_pools 471 = .ok (.bipush (-71), 2) := by decide +kernel
theorem dL_pools_473 : decode cL_pools 473 = .ok (.if_icmp .ne 19, 3) := by decide +kernel
theorem dL_pools_476 : decode cL_pools 476 = .ok (.aload_n 0, 1) := by decide +kernel
theorem dL_pools_477 : decode cL_pools 477 = .ok (.bipush 18, 2) := by decide +kernel
theorem dL_pools_479 : decode cL_pools 479 = .ok (.iconst 1, 1) := by decide +kernel
theorem dL_pools_480 : decode cL_pools 480 = .ok (.iconst 1, 1) := by decide +kernel
theorem dL_pools_481 : decode cL_pools 481 = .ok (.iconst 0, 1) := by decide +kernel
theorem dL_pools_482 : decode cL_pools 482 = .ok (.iconst 0, 1) := by decide +kernel
theorem dL_pools_483 : decode cL_pools 483 = .ok (.iconst 0, 1) := by decide +kernel
theorem dL_pools_484 : decode cL_pools 484 = .ok (.invokestatic 92, 3) := by decide +kernel
theorem dL_pools_487 : decode cL_pools 487 = .ok (.bipush (-71), 2) := by decide +kernel
theorem dL_pools_489 : decode cL_pools 489 = .ok (.if_icmp .eq 5, 3) := by decide +kernel
theorem dL_pools_492 : decode cL_pools 492 = .ok (.iconst 0, 1) := by decide +kernel
theorem dL_pools_493 : decode cL_pools 493 = .ok (.ireturn, 1) := by decide +kernel
theorem dL_pools_494 : decode cL_pools 494 = .ok (.aload_n 0, 1) := by decide +kernel
theorem dL_pools_495 : decode cL_pools 495 = .ok (.iconst 1, 1) := by decide +kernel
theorem dL_pools_496 : decode cL_pools 496 = .ok (.iconst 1, 1) := by decide +kernel
theorem dL_pools_497 : decode cL_pools 497 = .ok (.iconst 2, 1) := by decide +kernel
theorem dL_pools_498 : decode cL_pools 498 = .ok (.iconst 0, 1) := by decide +kernel
theorem dL_pools_499 : decode cL_pools 499 = .ok (.iconst 5, 1) := by decide +kernel
theorem dL_pools_500 : decode cL_pools 500 = .ok (.iconst 0, 1) := by decide +kernel
theorem dL_pools_501 : decode cL_pools 501 = .ok (.invokestatic 92, 3) := by decide +kernel
theorem dL_pools_504 : decode cL_pools 504 = .ok (.bipush (-73), 2) := by decide +kernel
theorem dL_pools_506 : decode cL_pools 506 = .ok (.if_icmp .ne 277, 3) := by decide +kernel
theorem dL_pools_509 : decode cL_pools 509 = .ok (.aload_n 0, 1) := by decide +kernel
theorem dL_pools_510 : decode cL_pools 510 = .ok (.iconst 3, 1) := by decide +kernel
theorem dL_pools_511 : decode cL_pools 511 = .ok (.invokevirtual 48, 3) := by decide +kernel
theorem dL_pools_514 : decode cL_pools 514 = .ok (.iconst 1, 1) := by decide +kernel
theorem dL_pools_515 : decode cL_pools 515 = .ok (.if_icmp .ne 268, 3) := by decide +kernel
theorem dL_pools_518 : decode cL_pools 518 = .ok (.aload_n 0, 1) := by decide +kernel
theorem dL_pools_519 : decode cL_pools 519 = .ok (.iconst 1, 1) := by decide +kernel
theorem dL_pools_520 : decode cL_pools 520 = .ok (.iconst 0, 1) := by decide +kernel
theorem dL_pools_521 : decode cL_pools 521 = .ok (.iconst 2, 1) := by decide +kernel
theorem dL_pools_522 : decode cL_pools 522 = .ok (.iconst 0, 1) := by decide +kernel
theorem dL_pools_523 : decode cL_pools 523 = .ok (.iconst 5, 1) := by decide +kernel
theorem dL_pools_524 : decode cL_pools 524 = .ok (.iconst 1, 1) := by decide +kernel
theorem dL_pools_525 : decode cL_pools 525 = .ok (.invokestatic 92, 3) := by decide +kernel
theorem dL_pools_528 : decode cL_pools 528 = .ok (.bipush (-72), 2) := by decide +kernel
theorem dL_pools_530 : decode cL_pools 530 = .ok (.if_icmp .ne 253, 3) := by decide +kernel
theorem dL_pools_533 : decode cL_pools 533 = .ok (.aload_n 0, 1) := by decide +kernel
theorem dL_pools_534 : decode cL_pools 534 = .ok (.iconst 1, 1) := by decide +kernel
theorem dL_pools_535 : decode cL_pools 535 = .ok (.iconst 0, 1) := by decide +kernel
theorem dL_pools_536 : decode cL_pools 536 = .ok (.iconst 0, 1) := by decide +kernel
theorem dL_pools_537 : decode cL_pools 537 = .ok (.iconst 1, 1) := by decide +kernel
theorem dL_pools_538 : decode cL_pools 538 = .ok (.invokestatic 173, 3) := by decide +kernel
theorem dL_pools_541 : decode cL_pools 541 = .ok (.ifCond .eq 242, 3) := by decide +kernel
theorem dL_pools_544 : decode cL_pools 544 = .ok (.aload_n 0, 1) := by decide +kernel
theorem dL_pools_545 : decode cL_pools 545 = .ok (.iconst 1, 1) := by decide +kernel
theorem dL_pools_546 : decode cL_pools 546 = .ok (.iconst 1, 1) := by decide +kernel
theorem dL_pools_547 : decode cL_pools 547 = .ok (.iconst 1, 1) := by decide +kernel
theorem dL_pools_548 : decode cL_pools 548 = .ok (.iconst 1, 1) := by decide +kernel
theorem dL_pools_549 : decode cL_pools 549 = .ok (.iconst 1, 1) := by decide +kernel
theorem dL_pools_550 : decode cL_pools 550 = .ok (.iconst 0, 1) := by decide +kernel
theorem dL_pools_551 : decode cL_pools 551 = .ok (.invokestatic 176, 3) := by decide +kernel
theorem dL_pools_554 : decode cL_pools 554 = .ok (.ifCond .eq 229, 3) := by decide +kernel
theorem dL_pools_557 : decode cL_pools 557 = .ok (.aload_n 0, 1) := by decide +kernel
theorem dL_pools_558 : decode cL_pools 558 = .ok (.iconst 0, 1) := by decide +kernel
theorem dL_pools_559 : decode cL_pools 559 = .ok (.iconst 1, 1) := by decide +kernel
theorem dL_pools_560 : decode cL_pools 560 = .ok (.iconst 0, 1) := by decide +kernel
theorem dL_pools_561 : decode cL_pools 561 = .ok (.iconst 0, 1) := by decide +kernel
theorem dL_pools_562 : decode cL_pools 562 = .ok (.iconst 0, 1) := by decide +kernel
theorem dL_pools_563 : decode cL_pools 563 = .ok (.iconst 0, 1) := by decide +kernel
theorem dL_pools_564 : decode cL_pools 564 = .ok (.invokestatic 176, 3) := by decide +kernel
theorem dL_pools_567 : decode cL_pools 567 = .ok (.ifCond .eq 216, 3) := by decide +kernel
theorem dL_pools_570 : decode cL_pools 570 = .ok (.aload_n 0, 1) := by decide +kernel
theorem dL_pools_571 : decode cL_pools 571 = .ok (.iconst 0, 1) := by decide +kernel
theorem dL_pools_572 : decode cL_pools 572 = .ok (.iconst 3, 1) := by decide +kernel
theorem dL_pools_573 : decode cL_pools 573 = .ok (.iconst 0, 1) := by decide +kernel
theorem dL_pools_574 : decode cL_pools 574 = .ok (.iconst 5, 1) := by decide +kernel
theorem dL_pools_575 : decode cL_pools 575 = .ok (.iconst 0, 1) := by decide +kernel
theorem dL_pools_576 : decode cL_pools 576 = .ok (.invokevirtual 17, 3) := by decide +kernel
theorem dL_pools_579 : decode cL_pools 579 = .ok (.bipush 14, 2) := by decide +kernel
theorem dL_pools_581 : decode cL_pools 581 = .ok (.if_icmp .ne 202, 3) := by decide +kernel
theorem dL_pools_584 : decode cL_pools 584 = .ok (.aload_n 0, 1) := by decide +kernel
theorem dL_pools_585 : decode cL_pools 585 = .ok (.bipush 10, 2) := by decide +kernel
theorem dL_pools_587 : decode cL_pools 587 = .ok (.iconst 0, 1) := by decide +kernel
theorem dL_pools_588 : decode cL_pools 588 = .ok (.iconst 3, 1) := by decide +kernel
theorem dL_pools_589 : decode cL_pools 589 = .ok (.iconst 0, 1) := by decide +kernel
theorem dL_pools_590 : decode cL_pools 590 = .ok (.iconst 0, 1) := by decide +kernel
theorem dL_pools_591 : decode cL_pools 591 = .ok (.iconst 0, 1) := by decide +kernel
theorem dL_pools_592 : decode cL_pools 592 = .ok (.invokestatic 92, 3) := by decide +kernel
theorem dL_pools_595 : decode cL_pools 595 = .ok (.bipush (-73), 2) := by decide +kernel
theorem dL_pools_597 : decode cL_pools 597 = .ok (.if_icmp .ne 186, 3) := by decide +kernel
theorem dL_pools_600 : decode cL_pools 600 = .ok (.aload_n 0, 1) := by decide +kernel
theorem dL_pools_601 : decode cL_pools 601 = .ok (.bipush 10, 2) := by decide +kernel
theorem dL_pools_603 : decode cL_pools 603 = .ok (.iconst 0, 1) := by decide +kernel
theorem dL_pools_604 : decode cL_pools 604 = .ok (.iconst 0, 1) := by decide +kernel
theorem dL_pools_605 : decode cL_pools 605 = .ok (.iconst 0, 1) := by decide +kernel
theorem dL_pools_606 : decode cL_pools 606 = .ok (.iconst 0, 1) := by decide +kernel
theorem dL_pools_607 : decode cL_pools 607 = .ok (.iconst 0, 1) := by decide +kernel
theorem dL_pools_608 : decode cL_pools 608 = .ok (.invokestatic 92, 3) := by decide +kernel
theorem dL_pools_611 : decode cL_pools 611 = .ok (.bipush (-73), 2) := by decide +kernel
theorem dL_pools_613 : decode cL_pools 613 = .ok (.if_icmp .ne 170, 3) := by decide +kernel
theorem dL_pools_616 : decode cL_pools 616 = .ok (.aload_n 0, 1) := by decide +kernel
theorem dL_pools_617 : decode cL_pools 617 = .ok (.iconst 0, 1) := by decide +kernel
theorem dL_pools_618 : decode cL_pools 618 = .ok (.iconst 2, 1) := by decide +kernel
theorem dL_pools_619 : decode cL_pools 619 = .ok (.invokevirtual 51, 3) := by decide +kernel
theorem dL_pools_622 : decode cL_pools 622 = .ok (.iconst 2, 1) := by decide +kernel
theorem dL_pools_623 : decode cL_pools 623 = .ok (.if_icmp .ne 160, 3) := by decide +kernel
theorem dL_pools_626 : decode cL_pools 626 = .ok (.aload_n 0, 1) := by decide +kernel
theorem dL_pools_627 : decode cL_pools 627 = .ok (.iconst 1, 1) := by decide +kernel
theorem dL_pools_628 : decode cL_pools 628 = .ok (.iconst 0, 1) := by decide +kernel
theorem dL_pools_629 : decode cL_pools 629 = .ok (.invokevirtual 51, 3) := by decide +kernel
theorem dL_pools_632 : decode cL_pools 632 = .ok (.iconst 1, 1) := by decide +kernel
theorem dL_pools_633 : decode cL_pools 633 = .ok (.if_icmp .ne 150, 3) := by decide +kernel
theorem dL_pools_636 : decode cL_pools 636 = .ok (.aload_n 0, 1) := by decide +kernel
theorem dL_pools_637 : decode cL_pools 637 = .ok (.iconst 0, 1) := by decide +kernel
theorem dL_pools_638 : decode cL_pools 638 = .ok (.iconst 3, 1) := by decide +kernel
theorem dL_pools_639 : decode cL_pools 639 = .ok (.iconst 0, 1) := by decide +kernel
theorem dL_pools_640 : decode cL_pools 640 = .ok (.iconst (-1), 1) := by decide +kernel
theorem dL_pools_641 : decode cL_pools 641 = .ok (.iconst (-1), 1) := by decide +kernel
theorem dL_pools_642 : decode cL_pools 642 = .ok (.invokestatic 170, 3) := by decide +kernel
theorem dL_pools_645 : decode cL_pools 645 = .ok (.ifCond .eq 138, 3) := by decide +kernel
theorem dL_pools_648 : decode cL_pools 648 = .ok (.aload_n 0, 1) := by decide +kernel
theorem dL_pools_649 : decode cL_pools 649 = .ok (.iconst 0, 1) := by decide +kernel
theorem dL_pools_650 : decode cL_pools 650 = .ok (.iconst 0, 1) := by decide +kernel
theorem dL_pools_651 : decode cL_pools 651 = .ok (.iconst 1, 1) := by decide +kernel
theorem dL_pools_652 : decode cL_pools 652 = .ok (.iconst 0, 1) := by decide +kernel
theorem dL_pools_653 : decode cL_pools 653 = .ok (.iconst 0, 1) := by decide +kernel
theorem dL_pools_654 : decode cL_pools 654 = .ok (.iconst 1, 1) := by decide +kernel
theorem dL_pools_655 : decode cL_pools 655 = .ok (.invokestatic 176, 3) := by decide +kernel
theorem dL_pools_658 : decode cL_pools 658 = .ok (.ifCond .eq 125, 3) := by decide +kernel
theorem dL_pools_661 : decode cL_pools 661 = .ok (.aload_n 0, 1) := by decide +kernel
theorem dL_pools_662 : decode cL_pools 662 = .ok (.invokevirtual 40, 3) := by decide +kernel
theorem dL_pools_665 : decode cL_pools 665 = .ok (.ifCond .ne 118, 3) := by decide +kernel
theorem dL_pools_668 : decode cL_pools 668 = .ok (.aload_n 0, 1) := by decide +kernel
theorem dL_pools_669 : decode cL_pools 669 = .ok (.iconst 0, 1) := by decide +kernel
theorem dL_pools_670 : decode cL_pools 670 = .ok (.iconst 0, 1) := by decide +kernel
theorem dL_pools_671 : decode cL_pools 671 = .ok (.iconst 2, 1) := by decide +kernel
theorem dL_pools_672 : decode cL_pools 672 = .ok (.iconst 1, 1) := by decide +kernel
theorem dL_pools_673 : decode cL_pools 673 = .ok (.iconst 0, 1) := by decide +kernel
theorem dL_pools_674 : decode cL_pools 674 = .ok (.iconst 1, 1) := by decide +kernel
theorem dL_pools_675 : decode cL_pools 675 = .ok (.invokestatic 176, 3) := by decide +kernel
theorem dL_pools_678 : decode cL_pools 678 = .ok (.ifCond .eq 105, 3) := by decide +kernel
theorem dL_pools_681 : decode cL_pools 681 = .ok (.aload_n 0, 1) := by decide +kernel
theorem dL_pools_682 : decode cL_pools 682 = .ok (.iconst 0, 1) := by decide +kernel
theorem dL_pools_683 : decode cL_pools 683 = .ok (.iconst 3, 1) := by decide +kernel
theorem dL_pools_684 : decode cL_pools 684 = .ok (.iconst 2, 1) := by decide +kernel
theorem dL_pools_685 : decode cL_pools 685 = .ok (.iconst 1, 1) := by decide +kernel
theorem dL_pools_686 : decode cL_pools 686 = .ok (.iconst 1, 1) := by decide +kernel
theorem dL_pools_687 : decode cL_pools 687 = .ok (.iconst 0, 1) := by decide +kernel
theorem dL_pools_688 : decode cL_pools 688 = .ok (.invokestatic 176, 3) := by decide +kernel
theorem dL_pools_691 : decode cL_pools 691 = .ok (.ifCond .eq 92, 3) := by decide +kernel
theorem dL_pools_694 : decode cL_pools 694 = .ok (.aload_n 0, 1) := by decide +kernel
theorem dL_pools_695 : decode cL_pools 695 = .ok (.iconst 0, 1) := by decide +kernel
theorem dL_pools_696 : decode cL_pools 696 = .ok (.iconst 3, 1) := by decide +kernel
theorem dL_pools_697 : decode cL_pools 697 = .ok (.iconst 0, 1) := by decide +kernel
theorem dL_pools_698 : decode cL_pools 698 = .ok (.iconst (-1), 1) := by decide +kernel
theorem dL_pools_699 : decode cL_pools 699 = .ok (.iconst (-1), 1) := by decide +kernel
theorem dL_pools_700 : decode cL_pools 700 = .ok (.invokestatic 170, 3) := by decide +kernel
theorem dL_pools_703 : decode cL_pools 703 = .ok (.ifCond .eq 80, 3) := by decide +kernel
theorem dL_pools_706 : decode cL_pools 706 = .ok (.aload_n 0, 1) := by decide +kernel
theorem dL_pools_707 : decode cL_pools 707 = .ok (.iconst 1, 1) := by decide +kernel
theorem dL_pools_708 : decode cL_pools 708 = .ok (.iconst 1, 1) := by decide +kernel
theorem dL_pools_709 : decode cL_pools 709 = .ok (.iconst (-1), 1) := by decide +kernel
theorem dL_pools_710 : decode cL_pools 710 = .ok (.iconst (-1), 1) := by decide +kernel
theorem dL_pools_711 : decode cL_pools 711 = .ok (.iconst (-1), 1) := by decide +kernel
theorem dL_pools_712 : decode cL_pools 712 = .ok (.invokestatic 170, 3) := by decide +kernel
theorem dL_pools_715 : decode cL_pools 715 = .ok (.ifCond .eq 68, 3) := by decide +kernel
theorem dL_pools_718 : decode cL_pools 718 = .ok (.aload_n 0, 1) := by decide +kernel
theorem dL_pools_719 : decode cL_pools 719 = .ok (.bipush 11, 2) := by decide +kernel
theorem dL_pools_721 : decode cL_pools 721 = .ok (.iconst 1, 1) := by decide +kernel
theorem dL_pools_722 : decode cL_pools 722 = .ok (.iconst 0, 1) := by decide +kernel
theorem dL_pools_723 : decode cL_pools 723 = .ok (.iconst 0, 1) := by decide +kernel
theorem dL_pools_724 : decode cL_pools 724 = .ok (.iconst 0, 1) := by decide +kernel
theorem dL_pools_725 : decode cL_pools 725 = .ok (.iconst 0, 1) := by decide +kernel
theorem dL_pools_726 : decode cL_pools 726 = .ok (.invokestatic 92, 3) := by decide +kernel
theorem dL_pools_729 : decode cL_pools 729 = .ok (.bipush (-73), 2) := by decide +kernel
theorem dL_pools_731 : decode cL_pools 731 = .ok (.if_icmp .ne 52, 3) := by decide +kernel
theorem dL_pools_734 : decode cL_pools 734 = .ok (.aload_n 0, 1) := by decide +kernel
theorem dL_pools_735 : decode cL_pools 735 = .ok (.iconst 1, 1) := by decide +kernel
theorem dL_pools_736 : decode cL_pools 736 = .ok (.iconst 0, 1) := by decide +kernel
theorem dL_pools_737 : decode cL_pools 737 = .ok (.iconst 3, 1) := by decide +kernel
theorem dL_pools_738 : decode cL_pools 738 = .ok (.iconst 2, 1) := by decide +kernel
theorem dL_pools_739 : decode cL_pools 739 = .ok (.iconst 3, 1) := by decide +kernel
theorem dL_pools_740 : decode cL_pools 740 = .ok (.invokestatic 180, 3) := by decide +kernel
theorem dL_pools_743 : decode cL_pools 743 = .ok (.ifCond .eq 40, 3) := by decide +kernel
theorem dL_pools_746 : decode cL_pools 746 = .ok (.aload_n 0, 1) := by decide +kernel
theorem dL_pools_747 : decode cL_pools 747 = .ok (.iconst 0, 1) := by decide +kernel
theorem dL_pools_748 : decode cL_pools 748 = .ok (.invokevirtual 54, 3) := by decide +kernel
theorem dL_pools_751 : decode cL_pools 751 = .ok (.iconst 2, 1) := by decide +kernel
theorem dL_pools_752 : decode cL_pools 752 = .ok (.if_icmp .ne 31, 3) := by decide +kernel
theorem dL_pools_755 : decode cL_pools 755 = .ok (.aload_n 0, 1) := by decide +kernel
theorem dL_pools_756 : decode cL_pools 756 = .ok (.iconst 0, 1) := by decide +kernel
theorem dL_pools_757 : decode cL_pools 757 = .ok (.iconst 0, 1) := by decide +kernel
theorem dL_pools_758 : decode cL_pools 758 = .ok (.iconst 3, 1) := by decide +kernel
theorem dL_pools_759 : decode cL_pools 759 = .ok (.iconst 0, 1) := by decide +kernel
theorem dL_pools_760 : decode cL_pools 760 = .ok (.iconst (-1), 1) := by decide +kernel
theorem dL_pools_761 : decode cL_pools 761 = .ok (.invokestatic 180, 3) := by decide +kernel
theorem dL_pools_764 : decode cL_pools 764 = .ok (.ifCond .eq 19, 3) := by decide +kernel
theorem dL_pools_767 : decode cL_pools 767 = .ok (.aload_n 0, 1) := by decide +kernel
theorem dL_pools_768 : decode cL_pools 768 = .ok (.bipush 18, 2) := by decide +kernel
theorem dL_pools_770 : decode cL_pools 770 = .ok (.iconst 1, 1) := by decide +kernel
theorem dL_pools_771 : decode cL_pools 771 = .ok (.iconst 0, 1) := by decide +kernel
theorem dL_pools_772 : decode cL_pools 772 = .ok (.iconst 0, 1) := by decide +kernel
theorem dL_pools_773 : decode cL_pools 773 = .ok (.iconst 0, 1) := by decide +kernel
theorem dL_pools_774 : decode cL_pools 774 = .ok (.iconst 0, 1) := by decide +kernel
theorem dL_pools_775 : decode cL_pools 775 = .ok (.invokestatic 92, 3) := by decide +kernel
theorem dL_pools_778 : decode cL_pools 778 = .ok (.bipush (-71), 2) := by decide +kernel
theorem dL_pools_780 : decode cL_pools 780 = .ok (.if_icmp .eq 5, 3) := by decide +kernel
theorem dL_pools_783 : decode cL_pools 783 = .ok (.iconst 0, 1) := by decide +kernel
theorem dL_pools_784 : decode cL_pools 784 = .ok (.ireturn, 1) := by decide +kernel
theorem dL_pools_785 : decode cL_pools 785 = .ok (.aload_n 0, 1) := by decide +kernel
theorem dL_pools_786 : decode cL_pools 786 = .ok (.iconst 4, 1) := by decide +kernel
theorem dL_pools_787 : decode cL_pools 787 = .ok (.iconst 2, 1) := by decide +kernel
theorem dL_pools_788 : decode cL_pools 788 = .ok (.bipush 15, 2) := by decide +kernel
theorem dL_pools_790 : decode cL_pools 790 = .ok (.invokestatic 153, 3) := by decide +kernel
theorem dL_pools_793 : decode cL_pools 793 = .ok (.ireturn, 1) := by decide +kernel
theorem dL_most_0 : decode cL_most 0 = .ok (.new 8, 3) := by decide +kernel
theorem dL_most_3 : decode cL_most 3 = .ok (.dup, 1) := by decide +kernel
theorem dL_most_4 : decode cL_most 4 = .ok (.invokespecial 183, 3) := by decide +kernel
theorem dL_most_7 : decode cL_most 7 = .ok (.astore_n 0, 1) := by decide +kernel
theorem dL_most_8 : decode cL_most 8 = .ok (.iconst 0, 1) := by decide +kernel
theorem dL_most_9 : decode cL_most 9 = .ok (.istore_n 1, 1) := by decide +kernel
theorem dL_most_10 : decode cL_most 10 = .ok (.iload_n 1, 1) := by decide +kernel
theorem dL_most_11 : decode cL_most 11 = .ok (.bipush 13, 2) := by decide +kernel
theorem dL_most_13 : decode cL_most 13 = .ok (.if_icmp .ge 36, 3) := by decide +kernel
theorem dL_most_16 : decode cL_most 16 = .ok (.aload_n 0, 1) := by decide +kernel
theorem dL_most_17 : decode cL_most 17 = .ok (.iconst 0, 1) := by decide +kernel
theorem dL_most_18 : decode cL_most 18 = .ok (.iconst 0, 1) := by decide +kernel
theorem dL_most_19 : decode cL_most 19 = .ok (.iconst 0, 1) := by decide +kernel
theorem dL_most_20 : decode cL_most 20 = .ok (.iconst 0, 1) := by decide +kernel
theorem dL_most_21 : decode cL_most 21 = .ok (.iconst 0, 1) := by decide +kernel
theorem dL_most_22 : decode cL_most 22 = .ok (.iconst 0, 1) := by decide +kernel
theorem dL_most_23 : decode cL_most 23 = .ok (.invokestatic 92, 3) := by decide +kernel
theorem dL_most_26 : decode cL_most 26 = .ok (.iload_n 1, 1) := by decide +kernel
theorem dL_most_27 : decode cL_most 27 = .ok (.bipush 12, 2) := by decide +kernel
theorem dL_most_29 : decode cL_most 29 = .ok (.if_icmp .ge 7, 3) := by decide +kernel
theorem dL_most_32 : decode cL_most 32 = .ok (.iload_n 1, 1) := by decide +kernel
theorem dL_most_33 : decode cL_most 33 = .ok (.goto 5, 3) := by decide +kernel
theorem dL_most_36 : decode cL_most 36 = .ok (.bipush (-73), 2) := by decide +kernel
theorem dL_most_38 : decode cL_most 38 = .ok (.if_icmp .eq 5, 3) := by decide +kernel
theorem dL_most_41 : decode cL_most 41 = .ok (.iconst 0, 1) := by decide +kernel
theorem dL_most_42 : decode cL_most 42 = .ok (.ireturn, 1) := by decide +kernel
theorem dL_most_43 : decode cL_most 43 = .ok (.iinc 1 1, 3) := by decide +kernel
theorem dL_most_46 : decode cL_most 46 = .ok (.goto (-36), 3) := by decide +kernel
theorem dL_most_49 : decode cL_most 49 = .ok (.iconst 0, 1) := by decide +kernel
theorem dL_most_50 : decode cL_most 50 = .ok (.istore_n 1, 1) := by decide +kernel
theorem dL_most_51 : decode cL_most 51 = .ok (.iload_n 1, 1) := by decide +kernel
theorem dL_most_52 : decode cL_most 52 = .ok (.bipush 7, 2) := by decide +kernel
theorem dL_most_54 : decode cL_most 54 = .ok (.if_icmp .ge 39, 3) := by decide +kernel
theorem dL_most_57 : decode cL_most 57 = .ok (.aload_n 0, 1) := by decide +kernel
theorem dL_most_58 : decode cL_most 58 = .ok (.bipush 9, 2) := by decide +kernel
theorem dL_most_60 : decode cL_most 60 = .ok (.sipush 4095, 3) := by decide +kernel
theorem dL_most_63 : decode cL_most 63 = .ok (.iconst 0, 1) := by decide +kernel
theorem dL_most_64 : decode cL_most 64 = .ok (.iconst 0, 1) := by decide +kernel
theorem dL_most_65 : decode cL_most 65 = .ok (.iconst 0, 1) := by decide +kernel
theorem dL_most_66 : decode cL_most 66 = .ok (.iconst 0, 1) := by decide +kernel
theorem dL_most_67 : decode cL_most 67 = .ok (.invokestatic 92, 3) := by decide +kernel
theorem dL_most_70 : decode cL_most 70 = .ok (.iload_n 1, 1) := by decide +kernel
theorem dL_most_71 : decode cL_most 71 = .ok (.bipush 6, 2) := by decide +kernel
theorem dL_most_73 : decode cL_most 73 = .ok (.if_icmp .ge 7, 3) := by decide +kernel
theorem dL_most_76 : decode cL_most 76 = .ok (.iload_n 1, 1) := by decide +kernel
theorem dL_most_77 : decode cL_most 77 = .ok (.goto 5, 3) := by decide +kernel
theorem dL_most_80 : decode cL_most 80 = .ok (.bipush (-73), 2) := by decide +kernel
theorem dL_most_82 : decode cL_most 82 = .ok (.if_icmp .eq 5, 3) := by decide +kernel
theorem dL_most_85 : decode cL_most 85 = .ok (.iconst 0, 1) := by decide +kernel
theorem dL_most_86 : decode cL_most 86 = .ok (.ireturn, 1) := by decide +kernel
theorem dL_most_87 : decode cL_most 87 = .ok (.iinc 1 1, 3) := by decide +kernel
theorem dL_most_90 : decode cL_most 90 = .ok (.goto (-39), 3) := by decide +kernel
theorem dL_most_93 : decode cL_most 93 = .ok (.aload_n 0, 1) := by decide +kernel
theorem dL_most_94 : decode cL_most 94 = .ok (.iconst 5, 1) := by decide +kernel
theorem dL_most_95 : decode cL_most 95 = .ok (.invokevirtual 54, 3) := by decide +kernel
theorem dL_most_98 : decode cL_most 98 = .ok (.bipush 16, 2) := by decide +kernel
theorem dL_most_100 : decode cL_most 100 = .ok (.if_icmp .ne 190, 3) := by decide +kernel
theorem dL_most_103 : decode cL_most 103 = .ok (.aload_n 0, 1) := by decide +kernel
theorem dL_most_104 : decode cL_most 104 = .ok (.iconst 0, 1) := by decide +kernel
theorem dL_most_105 : decode cL_most 105 = .ok (.iconst 0, 1) := by decide +kernel
theorem dL_most_106 : decode cL_most 106 = .ok (.iconst 0, 1) := by decide +kernel
theorem dL_most_107 : decode cL_most 107 = .ok (.iconst (-1), 1) := by decide +kernel
theorem dL_most_108 : decode cL_most 108 = .ok (.iconst 0, 1) := by decide +kernel
theorem dL_most_109 : decode cL_most 109 = .ok (.invokestatic 180, 3) := by decide +kernel
theorem dL_most_112 : decode cL_most 112 = .ok (.ifCond .eq 178, 3) := by decide +kernel
theorem dL_most_115 : decode cL_most 115 = .ok (.aload_n 0, 1) := by decide +kernel
theorem dL_most_116 : decode cL_most 116 = .ok (.iconst 0, 1) := by decide +kernel
theorem dL_most_117 : decode cL_most 117 = .ok (.iconst 1, 1) := by decide +kernel
theorem dL_most_118 : decode cL_most 118 = .ok (.bipush 7, 2) := by decide +kernel
theorem dL_most_120 : decode cL_most 120 = .ok (.bipush 8, 2) := by decide +kernel
theorem dL_most_122 : decode cL_most 122 = .ok (.iconst (-1), 1) := by decide +kernel
theorem dL_most_123 : decode cL_most 123 = .ok (.invokestatic 180, 3) := by decide +kernel
theorem dL_most_126 : decode cL_most 126 = .ok (.ifCond .eq 164, 3) := by decide +kernel
theorem dL_most_129 : decode cL_most 129 = .ok (.aload_n 0, 1) := by decide +kernel
theorem dL_most_130 : decode cL_most 130 = .ok (.iconst 0, 1) := by decide +kernel
theorem dL_most_131 : decode cL_most 131 = .ok (.iconst 2, 1) := by decide +kernel
theorem dL_most_132 : decode cL_most 132 = .ok (.iconst 3, 1) := by decide +kernel
theorem dL_most_133 : decode cL_most 133 = .ok (.iconst (-1), 1) := by decide +kernel
theorem dL_most_134 : decode cL_most 134 = .ok (.iconst 3, 1) := by decide +kernel
theorem dL_most_135 : decode cL_most 135 = .ok (.invokestatic 180, 3) := by decide +kernel
theorem dL_most_138 : decode cL_most 138 = .ok (.ifCond .eq 152, 3) := by decide +kernel
theorem dL_most_141 : decode cL_most 141 = .ok (.aload_n 0, 1) := by decide +kernel
theorem dL_most_142 : decode cL_most 142 = .ok (.iconst 0, 1) := by decide +kernel
theorem dL_most_143 : decode cL_most 143 = .ok (.iconst 3, 1) := by decide +kernel
theorem dL_most_144 : decode cL_most 144 = .ok (.iconst 4, 1) := by decide +kernel
theorem dL_most_145 : decode cL_most 145 = .ok (.bipush 11, 2) := by decide +kernel
theorem dL_most_147 : decode cL_most 147 = .ok (.iconst (-1), 1) := by decide +kernel
theorem dL_most_148 : decode cL_most 148 = .ok (.invokestatic 180, 3) := by decide +kernel
theorem dL_most_151 : decode cL_most 151 = .ok (.ifCond .eq 139, 3) := by decide +kernel
theorem dL_most_154 : decode cL_most 154 = .ok (.aload_n 0, 1) := by decide +kernel
theorem dL_most_155 : decode cL_most 155 = .ok (.iconst 0, 1) := by decide +kernel
theorem dL_most_156 : decode cL_most 156 = .ok (.iconst 4, 1) := by decide +kernel
theorem dL_most_157 : decode cL_most 157 = .ok (.iconst 1, 1) := by decide +kernel
theorem dL_most_158 : decode cL_most 158 = .ok (.iconst (-1), 1) := by decide +kernel
theorem dL_most_159 : decode cL_most 159 = .ok (.iconst 1, 1) := by decide +kernel
theorem dL_most_160 : decode cL_most 160 = .ok (.invokestatic 180, 3) := by decide +kernel
theorem dL_most_163 : decode cL_most 163 = .ok (.ifCond .eq 127, 3) := by decide +kernel
theorem dL_most_166 : decode cL_most 166 = .ok (.aload_n 0, 1) := by decide +kernel
theorem dL_most_167 : decode cL_most 167 = .ok (.iconst 0, 1) := by decide +kernel
theorem dL_most_168 : decode cL_most 168 = .ok (.iconst 5, 1) := by decide +kernel
theorem dL_most_169 : decode cL_most 169 = .ok (.bipush 6, 2) := by decide +kernel
theorem dL_most_171 : decode cL_most 171 = .ok (.bipush 9, 2) := by decide +kernel
theorem dL_most_173 : decode cL_most 173 = .ok (.iconst (-1), 1) := by decide +kernel
theorem dL_most_174 : decode cL_most 174 = .ok (.invokestatic 180, 3) := by decide +kernel
theorem dL_most_177 : decode cL_most 177 = .ok (.ifCond .eq 113, 3) := by decide +kernel
theorem dL_most_180 : decode cL_most 180 = .ok (.aload_n 0, 1) := by decide +kernel
theorem dL_most_181 : decode cL_most 181 = .ok (.iconst 0, 1) := by decide +kernel
theorem dL_most_182 : decode cL_most 182 = .ok (.bipush 6, 2) := by decide +kernel
theorem dL_most_184 : decode cL_most 184 = .ok (.iconst 2, 1) := by decide +kernel
theorem dL_most_185 : decode cL_most 185 = .ok (.iconst (-1), 1) := by decide +kernel
theorem dL_most_186 : decode cL_most 186 = .ok (.iconst 2, 1) := by decide +kernel
theorem dL_most_187 : decode cL_most 187 = .ok (.invokestatic 180, 3) := by decide +kernel
theorem dL_most_190 : decode cL_most 190 = .ok (.ifCond .eq 100, 3) := by decide +kernel
theorem dL_most_193 : decode cL_most 193 = .ok (.aload_n 0, 1) := by decide +kernel
theorem dL_most_194 : decode cL_most 194 = .ok (.iconst 0, 1) := by decide +kernel
theorem dL_most_195 : decode cL_most 195 = .ok (.bipush 7, 2) := by decide +kernel
theorem dL_most_197 : decode cL_most 197 = .ok (.iconst 5, 1) := by decide +kernel
theorem dL_most_198 : decode cL_most 198 = .ok (.bipush 10, 2) := by decide +kernel
theorem dL_most_200 : decode cL_most 200 = .ok (.iconst (-1), 1) := by decide +kernel
theorem dL_most_201 : decode cL_most 201 = .ok (.invokestatic 180, 3) := by decide +kernel
theorem dL_most_204 : decode cL_most 204 = .ok (.ifCond .eq 86, 3) := by decide +kernel
theorem dL_most_207 : decode cL_most 207 = .ok (.aload_n 0, 1) := by decide +kernel
theorem dL_most_208 : decode cL_most 208 = .ok (.iconst 1, 1) := by decide +kernel
theorem dL_most_209 : decode cL_most 209 = .ok (.iconst 0, 1) := by decide +kernel
theorem dL_most_210 : decode cL_most 210 = .ok (.iconst 0, 1) := by decide +kernel
theorem dL_most_211 : decode cL_most 211 = .ok (.iconst (-1), 1) := by decide +kernel
theorem dL_most_212 : decode cL_most 212 = .ok (.iconst (-1), 1) := by decide +kernel
theorem dL_most_213 : decode cL_most 213 = .ok (.invokestatic 180, 3) := by decide +kernel
theorem dL_most_216 : decode cL_most 216 = .ok (.ifCond .eq 74, 3) := by decide +kernel
theorem dL_most_219 : decode cL_most 219 = .ok (.aload_n 0, 1) := by decide +kernel
theorem dL_most_220 : decode cL_most 220 = .ok (.iconst 1, 1) := by decide +kernel
theorem dL_most_221 : decode cL_most 221 = .ok (.iconst 1, 1) := by decide +kernel
theorem dL_most_222 : decode cL_most 222 = .ok (.iconst 3, 1) := by decide +kernel
theorem dL_most_223 : decode cL_most 223 = .ok (.iconst (-1), 1) := by decide +kernel
theorem dL_most_224 : decode cL_most 224 = .ok (.iconst (-1), 1) := by decide +kernel
theorem dL_most_225 : decode cL_most 225 = .ok (.invokestatic 180, 3) := by decide +kernel
theorem dL_most_228 : decode cL_most 228 = .ok (.ifCond .eq 62, 3) := by decide +kernel
theorem dL_most_231 : decode cL_most 231 = .ok (.aload_n 0, 1) := by decide +kernel
theorem dL_most_232 : decode cL_most 232 = .ok (.iconst 1, 1) := by decide +kernel
theorem dL_most_233 : decode cL_most 233 = .ok (.iconst 3, 1) := by decide +kernel
theorem dL_most_234 : decode cL_most 234 = .ok (.iconst 2, 1) := by decide +kernel
theorem dL_most_235 : decode cL_most 235 = .ok (.iconst (-1), 1) := by decide +kernel
theorem dL_most_236 : decode cL_most 236 = .ok (.iconst (-1), 1) := by decide +kernel
theorem dL_most_237 : decode cL_most 237 = .ok (.invokestatic 180, 3) := by decide +kernel
theorem dL_most_240 : decode cL_most 240 = .ok (.ifCond .eq 50, 3) := by decide +kernel
theorem dL_most_243 : decode cL_most 243 = .ok (.aload_n 0, 1) := by decide +kernel
theorem dL_most_244 : decode cL_most 244 = .ok (.iconst 3, 1) := by decide +kernel
theorem dL_most_245 : decode cL_most 245 = .ok (.iconst 0, 1) := by decide +kernel
theorem dL_most_246 : decode cL_most 246 = .ok (.iconst (-1), 1) := by decide +kernel
theorem dL_most_247 : decode cL_most 247 = .ok (.iconst (-1), 1) := by decide +kernel
theorem dL_most_248 : decode cL_most 248 = .ok (.iconst (-1), 1) := by decide +kernel
theorem dL_most_249 : decode cL_most 249 = .ok (.invokestatic 180, 3) := by decide +kernel
theorem dL_most_252 : decode cL_most 252 = .ok (.ifCond .eq 38, 3) := by decide +kernel
theorem dL_most_255 : decode cL_most 255 = .ok (.aload_n 0, 1) := by decide +kernel
theorem dL_most_256 : decode cL_most 256 = .ok (.iconst 0, 1) := by decide +kernel
theorem dL_most_257 : decode cL_most 257 = .ok (.bipush 7, 2) := by decide +kernel
theorem dL_most_259 : decode cL_most 259 = .ok (.iconst 0, 1) := by decide +kernel
theorem dL_most_260 : decode cL_most 260 = .ok (.invokevirtual 57, 3) := by decide +kernel
theorem dL_most_263 : decode cL_most 263 = .ok (.iconst 5, 1) := by decide +kernel
theorem dL_most_264 : decode cL_most 264 = .ok (.if_icmp .ne 26, 3) := by decide +kernel
theorem dL_most_267 : decode cL_most 267 = .ok (.aload_n 0, 1) := by decide +kernel
theorem dL_most_268 : decode cL_most 268 = .ok (.iconst 1, 1) := by decide +kernel
theorem dL_most_269 : decode cL_most 269 = .ok (.iconst 3, 1) := by decide +kernel
theorem dL_most_270 : decode cL_most 270 = .ok (.iconst 1, 1) := by decide +kernel
theorem dL_most_271 : decode cL_most 271 = .ok (.invokevirtual 57, 3) := by decide +kernel
theorem dL_most_274 : decode cL_most 274 = .ok (.iconst 5, 1) := by decide +kernel
theorem dL_most_275 : decode cL_most 275 = .ok (.if_icmp .ne 15, 3) := by decide +kernel
theorem dL_most_278 : decode cL_most 278 = .ok (.aload_n 0, 1) := by decide +kernel
theorem dL_most_279 : decode cL_most 279 = .ok (.iconst 2, 1) := by decide +kernel
theorem dL_most_280 : decode cL_most 280 = .ok (.iconst 1, 1) := by decide +kernel
theorem dL_most_281 : decode cL_most 281 = .ok (.iconst (-1), 1) := by decide +kernel
theorem dL_most_282 : decode cL_most 282 = .ok (.iconst 5, 1) := by decide +kernel
theorem dL_most_283 : decode cL_most 283 = .ok (.iconst (-1), 1) := by decide +kernel
theorem dL_most_284 : decode cL_most 284 = .ok (.invokestatic 180, 3) := by decide +kernel
theorem dL_most_287 : decode cL_most 287 = .ok (.ifCond .ne 5, 3) := by decide +kernel
theorem dL_most_290 : decode cL_most 290 = .ok (.iconst 0, 1) := by decide +kernel
theorem dL_most_291 : decode cL_most 291 = .ok (.ireturn, 1) := by decide +kernel
theorem dL_most_292 : decode cL_most 292 = .ok (.iconst 0, 1) := by decide +kernel
theorem dL_most_293 : decode cL_most 293 = .ok (.istore_n 1, 1) := by decide +kernel
theorem dL_most_294 : decode cL_most 294 = .ok (.iload_n 1, 1) := by decide +kernel
theorem dL_most_295 : decode cL_most 295 = .ok (.bipush 80, 2) := by decide +kernel
theorem dL_most_297 : decode cL_most 297 = .ok (.if_icmp .ge 40, 3) := by decide +kernel
theorem dL_most_300 : decode cL_most 300 = .ok (.aload_n 0, 1) := by decide +kernel
theorem dL_most_301 : decode cL_most 301 = .ok (.iload_n 1, 1) := by decide +kernel
theorem dL_most_302 : decode cL_most 302 = .ok (.bipush 12, 2) := by decide +kernel
theorem dL_most_304 : decode cL_most 304 = .ok (.irem, 1) := by decide +kernel
theorem dL_most_305 : decode cL_most 305 = .ok (.iload_n 1, 1) := by decide +kernel
theorem dL_most_306 : decode cL_most 306 = .ok (.iconst 1, 1) := by decide +kernel
theorem dL_most_307 : decode cL_most 307 = .ok (.iadd, 1) := by decide +kernel
theorem dL_most_308 : decode cL_most 308 = .ok (.iload_n 1, 1) := by decide +kernel
theorem dL_most_309 : decode cL_most 309 = .ok (.bipush 12, 2) := by decide +kernel
theorem dL_most_311 : decode cL_most 311 = .ok (.idiv, 1) := by decide +kernel
theorem dL_most_312 : decode cL_most 312 = .ok (.iadd, 1) := by decide +kernel
theorem dL_most_313 : decode cL_most 313 = .ok (.bipush 12, 2) := by decide +kernel
theorem dL_most_315 : decode cL_most 315 = .ok (.irem, 1) := by decide +kernel
theorem dL_most_316 : decode cL_most 316 = .ok (.iload_n 1, 1) := by decide +kernel
theorem dL_most_317 : decode cL_most 317 = .ok (.iconst 2, 1) := by decide +kernel
theorem dL_most_318 : decode cL_most 318 = .ok (.irem, 1) := by decide +kernel
theorem dL_most_319 : decode cL_most 319 = .ok (.iload_n 1, 1) := by decide +kernel
theorem dL_most_320 : decode cL_most 320 = .ok (.bipush 6, 2) := by decide +kernel
theorem dL_most_322 : decode cL_most 322 = .ok (.irem, 1) := by decide +kernel
theorem dL_most_323 : decode cL_most 323 = .ok (.invokestatic 173, 3) := by decide +kernel
theorem dL_most_326 : decode cL_most 326 = .ok (.ifCond .ne 5, 3) := by decide +kernel
theorem dL_most_329 : decode cL_most 329 = .ok (.iconst 0, 1) := by decide +kernel
theorem dL_most_330 : decode cL_most 330 = .ok (.ireturn, 1) := by decide +kernel
theorem dL_most_331 : decode cL_most 331 = .ok (.iinc 1 1, 3) := by decide +kernel
theorem dL_most_334 : decode cL_most 334 = .ok (.goto (-40), 3) := by decide +kernel
theorem dL_most_337 : decode cL_most 337 = .ok (.aload_n 0, 1) := by decide +kernel
theorem dL_most_338 : decode cL_most 338 = .ok (.iconst 1, 1) := by decide +kernel
theorem dL_most_339 : decode cL_most 339 = .ok (.iconst 0, 1) := by decide +kernel
theorem dL_most_340 : decode cL_most 340 = .ok (.iconst 1, 1) := by decide +kernel
theorem dL_most_341 : decode cL_most 341 = .ok (.iconst 0, 1) := by decide +kernel
theorem dL_most_342 : decode cL_most 342 = .ok (.iconst 5, 1) := by decide +kernel
theorem dL_most_343 : decode cL_most 343 = .ok (.iconst (-1), 1) := by decide +kernel
theorem dL_most_344 : decode cL_most 344 = .ok (.invokestatic 92, 3) := by decide +kernel
theorem dL_most_347 : decode cL_most 347 = .ok (.bipush (-73), 2) := by decide +kernel
theorem dL_most_349 : decode cL_most 349 = .ok (.if_icmp .ne 42, 3) := by decide +kernel
theorem dL_most_352 : decode cL_most 352 = .ok (.aload_n 0, 1) := by decide +kernel
theorem dL_most_353 : decode cL_most 353 = .ok (.bipush 79, 2) := by decide +kernel
theorem dL_most_355 : decode cL_most 355 = .ok (.iconst 1, 1) := by decide +kernel
theorem dL_most_356 : decode cL_most 356 = .ok (.invokevirtual 63, 3) := by decide +kernel
theorem dL_most_359 : decode cL_most 359 = .ok (.iconst 1, 1) := by decide +kernel
theorem dL_most_360 : decode cL_most 360 = .ok (.if_icmp .ne 31, 3) := by decide +kernel
theorem dL_most_363 : decode cL_most 363 = .ok (.aload_n 0, 1) := by decide +kernel
theorem dL_most_364 : decode cL_most 364 = .ok (.bipush 79, 2) := by decide +kernel
theorem dL_most_366 : decode cL_most 366 = .ok (.iconst 2, 1) := by decide +kernel
theorem dL_most_367 : decode cL_most 367 = .ok (.invokevirtual 63, 3) := by decide +kernel
theorem dL_most_370 : decode cL_most 370 = .ok (.iconst 1, 1) := by decide +kernel
theorem dL_most_371 : decode cL_most 371 = .ok (.if_icmp .ne 20, 3) := by decide +kernel
theorem dL_most_374 : decode cL_most 374 = .ok (.aload_n 0, 1) := by decide +kernel
theorem dL_most_375 : decode cL_most 375 = .ok (.bipush 12, 2) := by decide +kernel
theorem dL_most_377 : decode cL_most 377 = .ok (.bipush 6, 2) := by decide +kernel
theorem dL_most_379 : decode cL_most 379 = .ok (.bipush 80, 2) := by decide +kernel
theorem dL_most_381 : decode cL_most 381 = .ok (.invokestatic 153, 3) := by decide +kernel
theorem dL_most_384 : decode cL_most 384 = .ok (.ifCond .eq 7, 3) := by decide +kernel
theorem dL_most_387 : decode cL_most 387 = .ok (.iconst 1, 1) := by decide +kernel
theorem dL_most_388 : decode cL_most 388 = .ok (.goto 4, 3) := by decide +kernel
theorem dL_most_391 : decode cL_most 391 = .ok (.iconst 0, 1) := by decide +kernel
theorem dL_most_392 : decode cL_most 392 = .ok (.ireturn, 1) := by decide +kernel
theorem dL_law_0 : decode cL_law 0 = .ok (.new 8, 3) := by decide +kernel
theorem dL_law_3 : decode cL_law 3 = .ok (.dup, 1) := by decide +kernel
theorem dL_law_4 : decode cL_law 4 = .ok (.invokespecial 183, 3) := by decide +kernel
theorem dL_law_7 : decode cL_law 7 = .ok (.astore_n 1, 1) := by decide +kernel
theorem dL_law_8 : decode cL_law 8 = .ok (.aload_n 1, 1) := by decide +kernel
theorem dL_law_9 : decode cL_law 9 = .ok (.iconst 0, 1) := by decide +kernel
theorem dL_law_10 : decode cL_law 10 = .ok (.iconst 0, 1) := by decide +kernel
theorem dL_law_11 : decode cL_law 11 = .ok (.iconst 0, 1) := by decide +kernel
theorem dL_law_12 : decode cL_law 12 = .ok (.invokestatic 153, 3) := by decide +kernel
theorem dL_law_15 : decode cL_law 15 = .ok (.ifCond .ne 5, 3) := by decide +kernel
theorem dL_law_18 : decode cL_law 18 = .ok (.iconst 0, 1) := by decide +kernel
theorem dL_law_19 : decode cL_law 19 = .ok (.ireturn, 1) := by decide +kernel
theorem dL_law_20 : decode cL_law 20 = .ok (.iconst 0, 1) := by decide +kernel
theorem dL_law_21 : decode cL_law 21 = .ok (.istore_n 2, 1) := by decide +kernel
theorem dL_law_22 : decode cL_law 22 = .ok (.iload_n 2, 1) := by decide +kernel
theorem dL_law_23 : decode cL_law 23 = .ok (.iconst 4, 1) := by decide +kernel
theorem dL_law_24 : decode cL_law 24 = .ok (.if_icmp .ge 19, 3) := by decide +kernel
theorem dL_law_27 : decode cL_law 27 = .ok (.aload_n 1, 1) := by decide +kernel
theorem dL_law_28 : decode cL_law 28 = .ok (.invokevirtual 13, 3) := by decide +kernel
theorem dL_law_31 : decode cL_law 31 = .ok (.iload_n 2, 1) := by decide +kernel
theorem dL_law_32 : decode cL_law 32 = .ok (.if_icmp .eq 5, 3) := by decide +kernel
theorem dL_law_35 : decode cL_law 35 = .ok (.iconst 0, 1) := by decide +kernel
theorem dL_law_36 : decode cL_law 36 = .ok (.ireturn, 1) := by decide +kernel
theorem dL_law_37 : decode cL_law 37 = .ok (.iinc 2 1, 3) := by decide +kernel
theorem dL_law_40 : decode cL_law 40 = .ok (.goto (-18), 3) := by decide +kernel
theorem dL_law_43 : decode cL_law 43 = .ok (.aload_n 1, 1) := by decide +kernel
theorem dL_law_44 : decode cL_law 44 = .ok (.invokestatic 184, 3) := by decide +kernel
theorem dL_law_47 : decode cL_law 47 = .ok (.ifCond .eq 23, 3) := by decide +kernel
theorem dL_law_50 : decode cL_law 50 = .ok (.aload_n 1, 1) := by decide +kernel
theorem dL_law_51 : decode cL_law 51 = .ok (.invokestatic 188, 3) := by decide +kernel
theorem dL_law_54 : decode cL_law 54 = .ok (.ifCond .eq 16, 3) := by decide +kernel
theorem dL_law_57 : decode cL_law 57 = .ok (.aload_n 1, 1) := by decide +kernel
theorem dL_law_58 : decode cL_law 58 = .ok (.invokestatic 191, 3) := by decide +kernel
theorem dL_law_61 : decode cL_law 61 = .ok (.ifCond .eq 9, 3) := by decide +kernel
theorem dL_law_64 : decode cL_law 64 = .ok (.invokestatic 194, 3) := by decide +kernel
theorem dL_law_67 : decode cL_law 67 = .ok (.ifCond .ne 5, 3) := by decide +kernel
theorem dL_law_70 : decode cL_law 70 = .ok (.iconst 0, 1) := by decide +kernel
theorem dL_law_71 : decode cL_law 71 = .ok (.ireturn, 1) := by decide +kernel
theorem dL_law_72 : decode cL_law 72 = .ok (.new 8, 3) := by decide +kernel
theorem dL_law_75 : decode cL_law 75 = .ok (.dup, 1) := by decide +kernel
theorem dL_law_76 : decode cL_law 76 = .ok (.invokespecial 183, 3) := by decide +kernel
theorem dL_law_79 : decode cL_law 79 = .ok (.astore_n 2, 1) := by decide +kernel
theorem dL_law_80 : decode cL_law 80 = .ok (.iconst 0, 1) := by decide +kernel
theorem dL_law_81 : decode cL_law 81 = .ok (.istore_n 3, 1) := by decide +kernel
theorem dL_law_82 : decode cL_law 82 = .ok (.iconst 0, 1) := by decide +kernel
theorem dL_law_83 : decode cL_law 83 = .ok (.istore 4, 2) := by decide +kernel
theorem dL_law_85 : decode cL_law 85 = .ok (.iconst 0, 1) := by decide +kernel
theorem dL_law_86 : decode cL_law 86 = .ok (.istore 5, 2) := by decide +kernel
theorem dL_law_88 : decode cL_law 88 = .ok (.iconst 0, 1) := by decide +kernel
theorem dL_law_89 : decode cL_law 89 = .ok (.istore 6, 2) := by decide +kernel
theorem dL_law_91 : decode cL_law 91 = .ok (.iload 6, 2) := by decide +kernel
theorem dL_law_93 : decode cL_law 93 = .ok (.bipush 90, 2) := by decide +kernel
theorem dL_law_95 : decode cL_law 95 = .ok (.if_icmp .ge 1102, 3) := by decide +kernel
theorem dL_law_98 : decode cL_law 98 = .ok (.aload_n 0, 1) := by decide +kernel
theorem dL_law_99 : decode cL_law 99 = .ok (.arraylength, 1) := by decide +kernel
theorem dL_law_100 : decode cL_law 100 = .ok (.ifCond .ne 11, 3) := by decide +kernel
theorem dL_law_103 : decode cL_law 103 = .ok (.bipush 103, 2) := by decide +kernel
theorem dL_law_105 : decode cL_law 105 = .ok (.iload 6, 2) := by decide +kernel
theorem dL_law_107 : decode cL_law 107 = .ok (.imul, 1) := by decide +kernel
theorem dL_law_108 : decode cL_law 108 = .ok (.goto 13, 3) := by decide +kernel
theorem dL_law_111 : decode cL_law 111 = .ok (.aload_n 0, 1) := by decide +kernel
theorem dL_law_112 : decode cL_law 112 = .ok (.iload 6, 2) := by decide +kernel
theorem dL_law_114 : decode cL_law 114 = .ok (.aload_n 0, 1) := by decide +kernel
theorem dL_law_115 : decode cL_law 115 = .ok (.arraylength, 1) := by decide +kernel
theorem dL_law_116 : decode cL_law 116 = .ok (.irem, 1) := by decide +kernel
theorem dL_law_117 : decode cL_law 117 = .ok (.iaload, 1) := by decide +kernel
theorem dL_law_118 : decode cL_law 118 = .ok (.bipush 8, 2) := by decide +kernel
theorem dL_law_120 : decode cL_law 120 = .ok (.iushr, 1) := by decide +kernel
theorem dL_law_121 : decode cL_law 121 = .ok (.istore 7, 2) := by decide +kernel
theorem dL_law_123 : decode cL_law 123 = .ok (.iload 7, 2) := by decide +kernel
theorem dL_law_125 : decode cL_law 125 = .ok (.bipush 16, 2) := by decide +kernel
theorem dL_law_127 : decode cL_law 127 = .ok (.irem, 1) := by decide +kernel
theorem dL_law_128 : decode cL_law 128 = .ok (.istore 8, 2) := by decide +kernel
theorem dL_law_130 : decode cL_law 130 = .ok (.iload 7, 2) := by decide +kernel
theorem dL_law_132 : decode cL_law 132 = .ok (.bipush 16, 2) := by decide +kernel
theorem dL_law_134 : decode cL_law 134 = .ok (.idiv, 1) := by decide +kernel
theorem dL_law_135 : decode cL_law 135 = .ok (.istore 9, 2) := by decide +kernel
theorem dL_law_137 : decode cL_law 137 = .ok (.iload 9, 2) := by decide +kernel
theorem dL_law_139 : decode cL_law 139 = .ok (.bipush 20, 2) := by decide +kernel
theorem dL_law_141 : decode cL_law 141 = .ok (.idiv, 1) := by decide +kernel
theorem dL_law_142 : decode cL_law 142 = .ok (.istore 10, 2) := by decide +kernel
theorem dL_law_144 : decode cL_law 144 = .ok (.iload 5, 2) := by decide +kernel
theorem dL_law_146 : decode cL_law 146 = .ok (.ifCond .le 19, 3) := by decide +kernel
theorem dL_law_149 : decode cL_law 149 = .ok (.aload_n 2, 1) := by decide +kernel
theorem dL_law_150 : decode cL_law 150 = .ok (.iload 5, 2) := by decide +kernel
theorem dL_law_152 : decode cL_law 152 = .ok (.iconst 1, 1) := by decide +kernel
theorem dL_law_153 : decode cL_law 153 = .ok (.isub, 1) := by decide +kernel
theorem dL_law_154 : decode cL_law 154 = .ok (.iconst 2, 1) := by decide +kernel
theorem dL_law_155 : decode cL_law 155 = .ok (.invokevirtual 63, 3) := by decide +kernel
theorem dL_law_158 : decode cL_law 158 = .ok (.ifCond .ge 7, 3) := by decide +kernel
theorem dL_law_161 : decode cL_law 161 = .ok (.iconst 1, 1) := by decide +kernel
theorem dL_law_162 : decode cL_law 162 = .ok (.goto 4, 3) := by decide +kernel
theorem dL_law_165 : decode cL_law 165 = .ok (.iconst 0, 1) := by decide +kernel
theorem dL_law_166 : decode cL_law 166 = .ok (.istore 11, 2) := by decide +kernel
theorem dL_law_168 : decode cL_law 168 = .ok (.iload 8, 2) := by decide +kernel
theorem dL_law_170 : decode cL_law 170 = .ok (.ifCond .eq 8, 3) := by decide +kernel
theorem dL_law_173 : decode cL_law 173 = .ok (.iload_n 3, 1) := by decide +kernel
theorem dL_law_174 : decode cL_law 174 = .ok (.iconst 2, 1) := by decide +kernel
theorem dL_law_175 : decode cL_law 175 = .ok (.if_icmp .ge 47, 3) := by decide +kernel
theorem dL_law_178 : decode cL_law 178 = .ok (.aload_n 2, 1) := by decide +kernel
theorem dL_law_179 : decode cL_law 179 = .ok (.iconst 0, 1) := by decide +kernel
theorem dL_law_180 : decode cL_law 180 = .ok (.iconst 0, 1) := by decide +kernel
theorem dL_law_181 : decode cL_law 181 = .ok (.iconst 0, 1) := by decide +kernel
theorem dL_law_182 : decode cL_law 182 = .ok (.iconst 0, 1) := by decide +kernel
theorem dL_law_183 : decode cL_law 183 = .ok (.iconst 0, 1) := by decide +kernel
theorem dL_law_184 : decode cL_law 184 = .ok (.iconst 0, 1) := by decide +kernel
theorem dL_law_185 : decode cL_law 185 = .ok (.invokestatic 92, 3) := by decide +kernel
theorem dL_law_188 : decode cL_law 188 = .ok (.iload_n 3, 1) := by decide +kernel
theorem dL_law_189 : decode cL_law 189 = .ok (.bipush 12, 2) := by decide +kernel
theorem dL_law_191 : decode cL_law 191 = .ok (.if_icmp .ge 7, 3) := by decide +kernel
theorem dL_law_194 : decode cL_law 194 = .ok (.iload_n 3, 1) := by decide +kernel
theorem dL_law_195 : decode cL_law 195 = .ok (.goto 5, 3) := by decide +kernel
theorem dL_law_198 : decode cL_law 198 = .ok (.bipush (-73), 2) := by decide +kernel
theorem dL_law_200 : decode cL_law 200 = .ok (.if_icmp .eq 5, 3) := by decide +kernel
theorem dL_law_203 : decode cL_law 203 = .ok (.iconst 0, 1) := by decide +kernel
theorem dL_law_204 : decode cL_law 204 = .ok (.ireturn, 1) := by decide +kernel
theorem dL_law_205 : decode cL_law 205 = .ok (.iload_n 3, 1) := by decide +kernel
theorem dL_law_206 : decode cL_law 206 = .ok (.iload_n 3, 1) := by decide +kernel
theorem dL_law_207 : decode cL_law 207 = .ok (.bipush 12, 2) := by decide +kernel
theorem dL_law_209 : decode cL_law 209 = .ok (.if_icmp .ge 7, 3) := by decide +kernel
theorem dL_law_212 : decode cL_law 212 = .ok (.iconst 1, 1) := by decide +kernel
theorem dL_law_213 : decode cL_law 213 = .ok (.goto 4, 3) := by decide +kernel
theorem dL_law_216 : decode cL_law 216 = .ok (.iconst 0, 1) := by decide +kernel
theorem dL_law_217 : decode cL_law 217 = .ok (.iadd, 1) := by decide +kernel
theorem dL_law_218 : decode cL_law 218 = .ok (.istore_n 3, 1) := by decide +kernel
theorem dL_law_219 : decode cL_law 219 = .ok (.goto 760, 3) := by decide +kernel
theorem dL_law_222 : decode cL_law 222 = .ok (.iload 8, 2) := by decide +kernel
theorem dL_law_224 : decode cL_law 224 = .ok (.iconst 3, 1) := by decide +kernel
theorem dL_law_225 : decode cL_law 225 = .ok (.if_icmp .ge 109, 3) := by decide +kernel
theorem dL_law_228 : decode cL_law 228 = .ok (.iload 9, 2) := by decide +kernel
theorem dL_law_230 : decode cL_law 230 = .ok (.iconst 1, 1) := by decide +kernel
theorem dL_law_231 : decode cL_law 231 = .ok (.iload_n 3, 1) := by decide +kernel
theorem dL_law_232 : decode cL_law 232 = .ok (.ishl, 1) := by decide +kernel
theorem dL_law_233 : decode cL_law 233 = .ok (.irem, 1) := by decide +kernel
theorem dL_law_234 : decode cL_law 234 = .ok (.istore 12, 2) := by decide +kernel
theorem dL_law_236 : decode cL_law 236 = .ok (.iconst 0, 1) := by decide +kernel
theorem dL_law_237 : decode cL_law 237 = .ok (.istore 13, 2) := by decide +kernel
theorem dL_law_239 : decode cL_law 239 = .ok (.iconst 0, 1) := by decide +kernel
theorem dL_law_240 : decode cL_law 240 = .ok (.istore 14, 2) := by decide +kernel
theorem dL_law_242 : decode cL_law 242 = .ok (.iload 14, 2) := by decide +kernel
theorem dL_law_244 : decode cL_law 244 = .ok (.iload_n 3, 1) := by decide +kernel
theorem dL_law_245 : decode cL_law 245 = .ok (.if_icmp .ge 21, 3) := by decide +kernel
theorem dL_law_248 : decode cL_law 248 = .ok (.iload 13, 2) := by decide +kernel
theorem dL_law_250 : decode cL_law 250 = .ok (.iload 12, 2) := by decide +kernel
theorem dL_law_252 : decode cL_law 252 = .ok (.iload 14, 2) := by decide +kernel
theorem dL_law_254 : decode cL_law 254 = .ok (.ishr, 1) := by decide +kernel
theorem dL_law_255 : decode cL_law 255 = .ok (.iconst 1, 1) := by decide +kernel
theorem dL_law_256 : decode cL_law 256 = .ok (.iand, 1) := by decide +kernel
theorem dL_law_257 : decode cL_law 257 = .ok (.iadd, 1) := by decide +kernel
theorem dL_law_258 : decode cL_law 258 = .ok (.istore 13, 2) := by decide +kernel
theorem dL_law_260 : decode cL_law 260 = .ok (.iinc 14 1, 3) := by decide +kernel
theorem dL_law_263 : decode cL_law 263 = .ok (.goto (-21), 3) := by decide +kernel
theorem dL_law_266 : decode cL_law 266 = .ok (.aload_n 2, 1) := by decide +kernel
theorem dL_law_267 : decode cL_law 267 = .ok (.bipush 9, 2) := by decide +kernel
theorem dL_law_269 : decode cL_law 269 = .ok (.iload 12, 2) := by decide +kernel
theorem dL_law_271 : decode cL_law 271 = .ok (.iconst 0, 1) := by decide +kernel
theorem dL_law_272 : decode cL_law 272 = .ok (.iconst 0, 1) := by decide +kernel
theorem dL_law_273 : decode cL_law 273 = .ok (.iconst 0, 1) := by decide +kernel
theorem dL_law_274 : decode cL_law 274 = .ok (.iconst 0, 1) := by decide +kernel
theorem dL_law_275 : decode cL_law 275 = .ok (.invokestatic 92, 3) := by decide +kernel
theorem dL_law_278 : decode cL_law 278 = .ok (.iload 13, 2) := by decide +kernel
theorem dL_law_280 : decode cL_law 280 = .ok (.iconst 2, 1) := by decide +kernel
theorem dL_law_281 : decode cL_law 281 = .ok (.if_icmp .ge 8, 3) := by decide +kernel
theorem dL_law_284 : decode cL_law 284 = .ok (.bipush (-72), 2) := by decide +kernel
theorem dL_law_286 : decode cL_law 286 = .ok (.goto 17, 3) := by decide +kernel
theorem dL_law_289 : decode cL_law 289 = .ok (.iload 4, 2) := by decide +kernel
theorem dL_law_291 : decode cL_law 291 = .ok (.bipush 6, 2) := by decide +kernel
theorem dL_law_293 : decode cL_law 293 = .ok (.if_icmp .ge 8, 3) := by decide +kernel
theorem dL_law_296 : decode cL_law 296 = .ok (.iload 4, 2) := by decide +kernel
theorem dL_law_298 : decode cL_law 298 = .ok (.goto 5, 3) := by decide +kernel
theorem dL_law_301 : decode cL_law 301 = .ok (.bipush (-73), 2) := by decide +kernel
theorem dL_law_303 : decode cL_law 303 = .ok (.if_icmp .eq 5, 3) := by decide +kernel
theorem dL_law_306 : decode cL_law 306 = .ok (.iconst 0, 1) := by decide +kernel
theorem dL_law_307 : decode cL_law 307 = .ok (.ireturn, 1) := by decide +kernel
theorem dL_law_308 : decode cL_law 308 = .ok (.iload 4, 2) := by decide +kernel
theorem dL_law_310 : decode cL_law 310 = .ok (.iload 13, 2) := by decide +kernel
theorem dL_law_312 : decode cL_law 312 = .ok (.iconst 1, 1) := by decide +kernel
theorem dL_law_313 : decode cL_law 313 = .ok (.if_icmp .le 14, 3) := by decide +kernel
theorem dL_law_316 : decode cL_law 316 = .ok (.iload 4, 2) := by decide +kernel
theorem dL_law_318 : decode cL_law 318 = .ok (.bipush 6, 2) := by decide +kernel
theorem dL_law_320 : decode cL_law 320 = .ok (.if_icmp .ge 7, 3) := by decide +kernel
theorem dL_law_323 : decode cL_law 323 = .ok (.iconst 1, 1) := by decide +kernel
theorem dL_law_324 : decode cL_law 324 = .ok (.goto 4, 3) := by decide +kernel
theorem dL_law_327 : decode cL_law 327 = .ok (.iconst 0, 1) := by decide +kernel
theorem dL_law_328 : decode cL_law 328 = .ok (.iadd, 1) := by decide +kernel
theorem dL_law_329 : decode cL_law 329 = .ok (.istore 4, 2) := by decide +kernel
theorem dL_law_331 : decode cL_law 331 = .ok (.goto 648, 3) := by decide +kernel
theorem dL_law_334 : decode cL_law 334 = .ok (.iload 8, 2) := by decide +kernel
theorem dL_law_336 : decode cL_law 336 = .ok (.bipush 6, 2) := by decide +kernel
theorem dL_law_338 : decode cL_law 338 = .ok (.if_icmp .ge 98, 3) := by decide +kernel
theorem dL_law_341 : decode cL_law 341 = .ok (.iload 4, 2) := by decide +kernel
theorem dL_law_343 : decode cL_law 343 = .ok (.ifCond .eq 10, 3) := by decide +kernel
theorem dL_law_346 : decode cL_law 346 = .ok (.iload 9, 2) := by decide +kernel
theorem dL_law_348 : decode cL_law 348 = .ok (.iconst 4, 1) := by decide +kernel
theorem dL_law_349 : decode cL_law 349 = .ok (.irem, 1) := by decide +kernel
theorem dL_law_350 : decode cL_law 350 = .ok (.ifCond .ne 7, 3) := by decide +kernel
theorem dL_law_353 : decode cL_law 353 = .ok (.iconst (-1), 1) := by decide +kernel
theorem dL_law_354 : decode cL_law 354 = .ok (.goto 8, 3) := by decide +kernel
theorem dL_law_357 : decode cL_law 357 = .ok (.iload 9, 2) := by decide +kernel
theorem dL_law_359 : decode cL_law 359 = .ok (.iload 4, 2) := by decide +kernel
theorem dL_law_361 : decode cL_law 361 = .ok (.irem, 1) := by decide +kernel
theorem dL_law_362 : decode cL_law 362 = .ok (.istore 12, 2) := by decide +kernel
theorem dL_law_364 : decode cL_law 364 = .ok (.aload_n 2, 1) := by decide +kernel
theorem dL_law_365 : decode cL_law 365 = .ok (.iconst 1, 1) := by decide +kernel
theorem dL_law_366 : decode cL_law 366 = .ok (.iload 10, 2) := by decide +kernel
theorem dL_law_368 : decode cL_law 368 = .ok (.iload_n 3, 1) := by decide +kernel
theorem dL_law_369 : decode cL_law 369 = .ok (.irem, 1) := by decide +kernel
theorem dL_law_370 : decode cL_law 370 = .ok (.iload 9, 2) := by decide +kernel
theorem dL_law_372 : decode cL_law 372 = .ok (.iload_n 3, 1) := by decide +kernel
theorem dL_law_373 : decode cL_law 373 = .ok (.irem, 1) := by decide +kernel
theorem dL_law_374 : decode cL_law 374 = .ok (.iload 9, 2) := by decide +kernel
theorem dL_law_376 : decode cL_law 376 = .ok (.iconst 3, 1) := by decide +kernel
theorem dL_law_377 : decode cL_law 377 = .ok (.irem, 1) := by decide +kernel
theorem dL_law_378 : decode cL_law 378 = .ok (.iconst 1, 1) := by decide +kernel
theorem dL_law_379 : decode cL_law 379 = .ok (.iload 10, 2) := by decide +kernel
theorem dL_law_381 : decode cL_law 381 = .ok (.bipush 7, 2) := by decide +kernel
theorem dL_law_383 : decode cL_law 383 = .ok (.irem, 1) := by decide +kernel
theorem dL_law_384 : decode cL_law 384 = .ok (.iadd, 1) := by decide +kernel
theorem dL_law_385 : decode cL_law 385 = .ok (.iload 12, 2) := by decide +kernel
theorem dL_law_387 : decode cL_law 387 = .ok (.invokestatic 92, 3) := by decide +kernel
theorem dL_law_390 : decode cL_law 390 = .ok (.istore 13, 2) := by decide +kernel
theorem dL_law_392 : decode cL_law 392 = .ok (.iload 13, 2) := by decide +kernel
theorem dL_law_394 : decode cL_law 394 = .ok (.ifCond .lt 15, 3) := by decide +kernel
theorem dL_law_397 : decode cL_law 397 = .ok (.iload 13, 2) := by decide +kernel
theorem dL_law_399 : decode cL_law 399 = .ok (.iload 5, 2) := by decide +kernel
theorem dL_law_401 : decode cL_law 401 = .ok (.if_icmp .ne 15, 3) := by decide +kernel
theorem dL_law_404 : decode cL_law 404 = .ok (.iload 11, 2) := by decide +kernel
theorem dL_law_406 : decode cL_law 406 = .ok (.ifCond .ne 10, 3) := by decide +kernel
theorem dL_law_409 : decode cL_law 409 = .ok (.iload 13, 2) := by decide +kernel
theorem dL_law_411 : decode cL_law 411 = .ok (.bipush (-71), 2) := by decide +kernel
theorem dL_law_413 : decode cL_law 413 = .ok (.if_icmp .ne 5, 3) := by decide +kernel
theorem dL_law_416 : decode cL_law 416 = .ok (.iconst 0, 1) := by decide +kernel
theorem dL_law_417 : decode cL_law 417 = .ok (.ireturn, 1) := by decide +kernel
theorem dL_law_418 : decode cL_law 418 = .ok (.iload 5, 2) := by decide +kernel
theorem dL_law_420 : decode cL_law 420 = .ok (.iload 13, 2) := by decide +kernel
theorem dL_law_422 : decode cL_law 422 = .ok (.ifCond .ge 7, 3) := by decide +kernel
theorem dL_law_425 : decode cL_law 425 = .ok (.iconst 0, 1) := by decide +kernel
theorem dL_law_426 : decode cL_law 426 = .ok (.goto 4, 3) := by decide +kernel
theorem dL_law_429 : decode cL_law 429 = .ok (.iconst 1, 1) := by decide +kernel
theorem dL_law_430 : decode cL_law 430 = .ok (.iadd, 1) := by decide +kernel
theorem dL_law_431 : decode cL_law 431 = .ok (.istore 5, 2) := by decide +kernel
theorem dL_law_433 : decode cL_law 433 = .ok (.goto 546, 3) := by decide +kernel
theorem dL_law_436 : decode cL_law 436 = .ok (.iload 8, 2) := by decide +kernel
theorem dL_law_438 : decode cL_law 438 = .ok (.bipush 11, 2) := by decide +kernel
theorem dL_law_440 : decode cL_law 440 = .ok (.if_icmp .ge 109, 3) := by decide +kernel
theorem dL_law_443 : decode cL_law 443 = .ok (.iload 10, 2) := by decide +kernel
theorem dL_law_445 : decode cL_law 445 = .ok (.iconst 3, 1) := by decide +kernel
theorem dL_law_446 : decode cL_law 446 = .ok (.irem, 1) := by decide +kernel
theorem dL_law_447 : decode cL_law 447 = .ok (.ifCond .ne 34, 3) := by decide +kernel
theorem dL_law_450 : decode cL_law 450 = .ok (.aload_n 2, 1) := by decide +kernel
theorem dL_law_451 : decode cL_law 451 = .ok (.iconst 3, 1) := by decide +kernel
theorem dL_law_452 : decode cL_law 452 = .ok (.iload 9, 2) := by decide +kernel
theorem dL_law_454 : decode cL_law 454 = .ok (.iconst 2, 1) := by decide +kernel
theorem dL_law_455 : decode cL_law 455 = .ok (.irem, 1) := by decide +kernel
theorem dL_law_456 : decode cL_law 456 = .ok (.iload 6, 2) := by decide +kernel
theorem dL_law_458 : decode cL_law 458 = .ok (.iconst 5, 1) := by decide +kernel
theorem dL_law_459 : decode cL_law 459 = .ok (.imul, 1) := by decide +kernel
theorem dL_law_460 : decode cL_law 460 = .ok (.iload 9, 2) := by decide +kernel
theorem dL_law_462 : decode cL_law 462 = .ok (.iconst 4, 1) := by decide +kernel
theorem dL_law_463 : decode cL_law 463 = .ok (.irem, 1) := by decide +kernel
theorem dL_law_464 : decode cL_law 464 = .ok (.iadd, 1) := by decide +kernel
theorem dL_law_465 : decode cL_law 465 = .ok (.iload 10, 2) := by decide +kernel
theorem dL_law_467 : decode cL_law 467 = .ok (.bipush 60, 2) := by decide +kernel
theorem dL_law_469 : decode cL_law 469 = .ok (.irem, 1) := by decide +kernel
theorem dL_law_470 : decode cL_law 470 = .ok (.iload 9, 2) := by decide +kernel
theorem dL_law_472 : decode cL_law 472 = .ok (.iconst 3, 1) := by decide +kernel
theorem dL_law_473 : decode cL_law 473 = .ok (.irem, 1) := by decide +kernel
theorem dL_law_474 : decode cL_law 474 = .ok (.iconst 0, 1) := by decide +kernel
theorem dL_law_475 : decode cL_law 475 = .ok (.invokestatic 92, 3) := by decide +kernel
theorem dL_law_478 : decode cL_law 478 = .ok (.goto 28, 3) := by decide +kernel
theorem dL_law_481 : decode cL_law 481 = .ok (.aload_n 2, 1) := by decide +kernel
theorem dL_law_482 : decode cL_law 482 = .ok (.iconst 2, 1) := by decide +kernel
theorem dL_law_483 : decode cL_law 483 = .ok (.iload 9, 2) := by decide +kernel
theorem dL_law_485 : decode cL_law 485 = .ok (.iconst 2, 1) := by decide +kernel
theorem dL_law_486 : decode cL_law 486 = .ok (.irem, 1) := by decide +kernel
theorem dL_law_487 : decode cL_law 487 = .ok (.iload 10, 2) := by decide +kernel
theorem dL_law_489 : decode cL_law 489 = .ok (.bipush 7, 2) := by decide +kernel
theorem dL_law_491 : decode cL_law 491 = .ok (.irem, 1) := by decide +kernel
theorem dL_law_492 : decode cL_law 492 = .ok (.iload 6, 2) := by decide +kernel
theorem dL_law_494 : decode cL_law 494 = .ok (.iconst 5, 1) := by decide +kernel
theorem dL_law_495 : decode cL_law 495 = .ok (.imul, 1) := by decide +kernel
theorem dL_law_496 : decode cL_law 496 = .ok (.iload 9, 2) := by decide +kernel
theorem dL_law_498 : decode cL_law 498 = .ok (.iconst 4, 1) := by decide +kernel
theorem dL_law_499 : decode cL_law 499 = .ok (.irem, 1) := by decide +kernel
theorem dL_law_500 : decode cL_law 500 = .ok (.iadd, 1) := by decide +kernel
theorem dL_law_501 : decode cL_law 501 = .ok (.iconst 0, 1) := by decide +kernel
theorem dL_law_502 : decode cL_law 502 = .ok (.iconst 0, 1) := by decide +kernel
theorem dL_law_503 : decode cL_law 503 = .ok (.invokestatic 92, 3) := by decide +kernel
theorem dL_law_506 : decode cL_law 506 = .ok (.istore 12, 2) := by decide +kernel
theorem dL_law_508 : decode cL_law 508 = .ok (.iload 12, 2) := by decide +kernel
theorem dL_law_510 : decode cL_law 510 = .ok (.bipush (-72), 2) := by decide +kernel
theorem dL_law_512 : decode cL_law 512 = .ok (.if_icmp .eq 32, 3) := by decide +kernel
theorem dL_law_515 : decode cL_law 515 = .ok (.iload 12, 2) := by decide +kernel
theorem dL_law_517 : decode cL_law 517 = .ok (.bipush 24, 2) := by decide +kernel
theorem dL_law_519 : decode cL_law 519 = .ok (.if_icmp .gt 25, 3) := by decide +kernel
theorem dL_law_522 : decode cL_law 522 = .ok (.iload 12, 2) := by decide +kernel
theorem dL_law_524 : decode cL_law 524 = .ok (.ifCond .le 8, 3) := by decide +kernel
theorem dL_law_527 : decode cL_law 527 = .ok (.iload 11, 2) := by decide +kernel
theorem dL_law_529 : decode cL_law 529 = .ok (.ifCond .eq 15, 3) := by decide +kernel
theorem dL_law_532 : decode cL_law 532 = .ok (.iload 11, 2) := by decide +kernel
theorem dL_law_534 : decode cL_law 534 = .ok (.ifCond .ne 12, 3) := by decide +kernel
theorem dL_law_537 : decode cL_law 537 = .ok (.iload 12, 2) := by decide +kernel
theorem dL_law_539 : decode cL_law 539 = .ok (.bipush (-73), 2) := by decide +kernel
theorem dL_law_541 : decode cL_law 541 = .ok (.if_icmp .eq 5, 3) := by decide +kernel
theorem dL_law_544 : decode cL_law 544 = .ok (.iconst 0, 1) := by decide +kernel
theorem dL_law_545 : decode cL_law 545 = .ok (.ireturn, 1) := by decide +kernel
theorem dL_law_546 : decode cL_law 546 = .ok (.goto 433, 3) := by decide +kernel
theorem dL_law_549 : decode cL_law 549 = .ok (.iload 8, 2) := by decide +kernel
theorem dL_law_551 : decode cL_law 551 = .ok (.bipush 13, 2) := by decide +kernel
theorem dL_law_553 : decode cL_law 553 = .ok (.if_icmp .ge 139, 3) := by decide +kernel
theorem dL_law_556 : decode cL_law 556 = .ok (.iload 11, 2) := by decide +kernel
theorem dL_law_558 : decode cL_law 558 = .ok (.ifCond .eq 15, 3) := by decide +kernel
theorem dL_law_561 : decode cL_law 561 = .ok (.aload_n 2, 1) := by decide +kernel
theorem dL_law_562 : decode cL_law 562 = .ok (.iload 5, 2) := by decide +kernel
theorem dL_law_564 : decode cL_law 564 = .ok (.iconst 1, 1) := by decide +kernel
theorem dL_law_565 : decode cL_law 565 = .ok (.isub, 1) := by decide +kernel
theorem dL_law_566 : decode cL_law 566 = .ok (.iconst 0, 1) := by decide +kernel
theorem dL_law_567 : decode cL_law 567 = .ok (.invokevirtual 63, 3) := by decide +kernel
theorem dL_law_570 : decode cL_law 570 = .ok (.goto 4, 3) := by decide +kernel
theorem dL_law_573 : decode cL_law 573 = .ok (.iconst 0, 1) := by decide +kernel
theorem dL_law_574 : decode cL_law 574 = .ok (.istore 12, 2) := by decide +kernel
theorem dL_law_576 : decode cL_law 576 = .ok (.iload 11, 2) := by decide +kernel
theorem dL_law_578 : decode cL_law 578 = .ok (.ifCond .eq 15, 3) := by decide +kernel
theorem dL_law_581 : decode cL_law 581 = .ok (.aload_n 2, 1) := by decide +kernel
theorem dL_law_582 : decode cL_law 582 = .ok (.iload 5, 2) := by decide +kernel
theorem dL_law_584 : decode cL_law 584 = .ok (.iconst 1, 1) := by decide +kernel
theorem dL_law_585 : decode cL_law 585 = .ok (.isub, 1) := by decide +kernel
theorem dL_law_586 : decode cL_law 586 = .ok (.iconst 1, 1) := by decide +kernel
theorem dL_law_587 : decode cL_law 587 = .ok (.invokevirtual 63, 3) := by decide +kernel
theorem dL_law_590 : decode cL_law 590 = .ok (.goto 4, 3) := by decide +kernel
theorem dL_law_593 : decode cL_law 593 = .ok (.iconst 0, 1) := by decide +kernel
theorem dL_law_594 : decode cL_law 594 = .ok (.istore 13, 2) := by decide +kernel
theorem dL_law_596 : decode cL_law 596 = .ok (.aload_n 2, 1) := by decide +kernel
theorem dL_law_597 : decode cL_law 597 = .ok (.iconst 4, 1) := by decide +kernel
theorem dL_law_598 : decode cL_law 598 = .ok (.iconst 0, 1) := by decide +kernel
theorem dL_law_599 : decode cL_law 599 = .ok (.iconst 0, 1) := by decide +kernel
theorem dL_law_600 : decode cL_law 600 = .ok (.iconst 0, 1) := by decide +kernel
theorem dL_law_601 : decode cL_law 601 = .ok (.iconst 0, 1) := by decide +kernel
theorem dL_law_602 : decode cL_law 602 = .ok (.iconst 0, 1) := by decide +kernel
theorem dL_law_603 : decode cL_law 603 = .ok (.invokestatic 92, 3) := by decide +kernel
theorem dL_law_606 : decode cL_law 606 = .ok (.istore 14, 2) := by decide +kernel
theorem dL_law_608 : decode cL_law 608 = .ok (.iload 14, 2) := by decide +kernel
theorem dL_law_610 : decode cL_law 610 = .ok (.ifCond .ge 7, 3) := by decide +kernel
theorem dL_law_613 : decode cL_law 613 = .ok (.iconst 1, 1) := by decide +kernel
theorem dL_law_614 : decode cL_law 614 = .ok (.goto 4, 3) := by decide +kernel
theorem dL_law_617 : decode cL_law 617 = .ok (.iconst 0, 1) := by decide +kernel
theorem dL_law_618 : decode cL_law 618 = .ok (.iload 11, 2) := by decide +kernel
theorem dL_law_620 : decode cL_law 620 = .ok (.if_icmp .eq 67, 3) := by decide +kernel
theorem dL_law_623 : decode cL_law 623 = .ok (.iload 14, 2) := by decide +kernel
theorem dL_law_625 : decode cL_law 625 = .ok (.ifCond .lt 64, 3) := by decide +kernel
theorem dL_law_628 : decode cL_law 628 = .ok (.aload_n 2, 1) := by decide +kernel
theorem dL_law_629 : decode cL_law 629 = .ok (.iload 5, 2) := by decide +kernel
theorem dL_law_631 : decode cL_law 631 = .ok (.iconst 1, 1) := by decide +kernel
theorem dL_law_632 : decode cL_law 632 = .ok (.isub, 1) := by decide +kernel
theorem dL_law_633 : decode cL_law 633 = .ok (.iconst 0, 1) := by decide +kernel
theorem dL_law_634 : decode cL_law 634 = .ok (.invokevirtual 63, 3) := by decide +kernel
theorem dL_law_637 : decode cL_law 637 = .ok (.iload 12, 2) := by decide +kernel
theorem dL_law_639 : decode cL_law 639 = .ok (.iload 14, 2) := by decide +kernel
theorem dL_law_641 : decode cL_law 641 = .ok (.iconst 2, 1) := by decide +kernel
theorem dL_law_642 : decode cL_law 642 = .ok (.irem, 1) := by decide +kernel
theorem dL_law_643 : decode cL_law 643 = .ok (.iadd, 1) := by decide +kernel
theorem dL_law_644 : decode cL_law 644 = .ok (.if_icmp .ne 43, 3) := by decide +kernel
theorem dL_law_647 : decode cL_law 647 = .ok (.aload_n 2, 1) := by decide +kernel
theorem dL_law_648 : decode cL_law 648 = .ok (.iload 5, 2) := by decide +kernel
theorem dL_law_650 : decode cL_law 650 = .ok (.iconst 1, 1) := by decide +kernel
theorem dL_law_651 : decode cL_law 651 = .ok (.isub, 1) := by decide +kernel
theorem dL_law_652 : decode cL_law 652 = .ok (.iconst 1, 1) := by decide +kernel
theorem dL_law_653 : decode cL_law 653 = .ok (.invokevirtual 63, 3) := by decide +kernel
theorem dL_law_656 : decode cL_law 656 = .ok (.iload 13, 2) := by decide +kernel
theorem dL_law_658 : decode cL_law 658 = .ok (.iload 14, 2) := by decide +kernel
theorem dL_law_660 : decode cL_law 660 = .ok (.iconst 2, 1) := by decide +kernel
theorem dL_law_661 : decode cL_law 661 = .ok (.idiv, 1) := by decide +kernel
theorem dL_law_662 : decode cL_law 662 = .ok (.iadd, 1) := by decide +kernel
theorem dL_law_663 : decode cL_law 663 = .ok (.if_icmp .ne 24, 3) := by decide +kernel
theorem dL_law_666 : decode cL_law 666 = .ok (.aload_n 2, 1) := by decide +kernel
theorem dL_law_667 : decode cL_law 667 = .ok (.invokevirtual 88, 3) := by decide +kernel
theorem dL_law_670 : decode cL_law 670 = .ok (.ifCond .lt 17, 3) := by decide +kernel
theorem dL_law_673 : decode cL_law 673 = .ok (.iload 14, 2) := by decide +kernel
theorem dL_law_675 : decode cL_law 675 = .ok (.iconst 3, 1) := by decide +kernel
theorem dL_law_676 : decode cL_law 676 = .ok (.if_icmp .ne 13, 3) := by decide +kernel
theorem dL_law_679 : decode cL_law 679 = .ok (.aload_n 2, 1) := by decide +kernel
theorem dL_law_680 : decode cL_law 680 = .ok (.invokevirtual 88, 3) := by decide +kernel
theorem dL_law_683 : decode cL_law 683 = .ok (.iconst 3, 1) := by decide +kernel
theorem dL_law_684 : decode cL_law 684 = .ok (.if_icmp .eq 5, 3) := by decide +kernel
theorem dL_law_687 : decode cL_law 687 = .ok (.iconst 0, 1) := by decide +kernel
theorem dL_law_688 : decode cL_law 688 = .ok (.ireturn, 1) := by decide +kernel
theorem dL_law_689 : decode cL_law 689 = .ok (.goto 290, 3) := by decide +kernel
theorem dL_law_692 : decode cL_law 692 = .ok (.iload 8, 2) := by decide +kernel
theorem dL_law_694 : decode cL_law 694 = .ok (.bipush 13, 2) := by decide +kernel
theorem dL_law_696 : decode cL_law 696 = .ok (.if_icmp .ne 115, 3) := by decide +kernel
theorem dL_law_699 : decode cL_law 699 = .ok (.iload 9, 2) := by decide +kernel
theorem dL_law_701 : decode cL_law 701 = .ok (.iconst 3, 1) := by decide +kernel
theorem dL_law_702 : decode cL_law 702 = .ok (.irem, 1) := by decide +kernel
theorem dL_law_703 : decode cL_law 703 = .ok (.ifCond .ne 24, 3) := by decide +kernel
theorem dL_law_706 : decode cL_law 706 = .ok (.aload_n 2, 1) := by decide +kernel
theorem dL_law_707 : decode cL_law 707 = .ok (.iconst 5, 1) := by decide +kernel
theorem dL_law_708 : decode cL_law 708 = .ok (.iload 9, 2) := by decide +kernel
theorem dL_law_710 : decode cL_law 710 = .ok (.iconst 2, 1) := by decide +kernel
theorem dL_law_711 : decode cL_law 711 = .ok (.irem, 1) := by decide +kernel
theorem dL_law_712 : decode cL_law 712 = .ok (.iconst 1, 1) := by decide +kernel
theorem dL_law_713 : decode cL_law 713 = .ok (.iload 10, 2) := by decide +kernel
theorem dL_law_715 : decode cL_law 715 = .ok (.iconst 3, 1) := by decide +kernel
theorem dL_law_716 : decode cL_law 716 = .ok (.irem, 1) := by decide +kernel
theorem dL_law_717 : decode cL_law 717 = .ok (.iadd, 1) := by decide +kernel
theorem dL_law_718 : decode cL_law 718 = .ok (.iconst 0, 1) := by decide +kernel
theorem dL_law_719 : decode cL_law 719 = .ok (.iconst 0, 1) := by decide +kernel
theorem dL_law_720 : decode cL_law 720 = .ok (.iconst 0, 1) := by decide +kernel
theorem dL_law_721 : decode cL_law 721 = .ok (.invokestatic 92, 3) := by decide +kernel
theorem dL_law_724 : decode cL_law 724 = .ok (.goto 53, 3) := by decide +kernel
theorem dL_law_727 : decode cL_law 727 = .ok (.iload 9, 2) := by decide +kernel
theorem dL_law_729 : decode cL_law 729 = .ok (.iconst 3, 1) := by decide +kernel
theorem dL_law_730 : decode cL_law 730 = .ok (.irem, 1) := by decide +kernel
theorem dL_law_731 : decode cL_law 731 = .ok (.iconst 1, 1) := by decide +kernel
theorem dL_law_732 : decode cL_law 732 = .ok (.if_icmp .ne 23, 3) := by decide +kernel
theorem dL_law_735 : decode cL_law 735 = .ok (.aload_n 2, 1) := by decide +kernel
theorem dL_law_736 : decode cL_law 736 = .ok (.bipush 6, 2) := by decide +kernel
theorem dL_law_738 : decode cL_law 738 = .ok (.iconst 1, 1) := by decide +kernel
theorem dL_law_739 : decode cL_law 739 = .ok (.iload 10, 2) := by decide +kernel
theorem dL_law_741 : decode cL_law 741 = .ok (.bipush 90, 2) := by decide +kernel
theorem dL_law_743 : decode cL_law 743 = .ok (.irem, 1) := by decide +kernel
theorem dL_law_744 : decode cL_law 744 = .ok (.iadd, 1) := by decide +kernel
theorem dL_law_745 : decode cL_law 745 = .ok (.iconst 0, 1) := by decide +kernel
theorem dL_law_746 : decode cL_law 746 = .ok (.iconst 0, 1) := by decide +kernel
theorem dL_law_747 : decode cL_law 747 = .ok (.iconst 0, 1) := by decide +kernel
theorem dL_law_748 : decode cL_law 748 = .ok (.iconst 0, 1) := by decide +kernel
theorem dL_law_749 : decode cL_law 749 = .ok (.invokestatic 92, 3) := by decide +kernel
theorem dL_law_752 : decode cL_law 752 = .ok (.goto 25, 3) := by decide +kernel
theorem dL_law_755 : decode cL_law 755 = .ok (.iload 10, 2) := by decide +kernel
theorem dL_law_757 : decode cL_law 757 = .ok (.iconst 4, 1) := by decide +kernel
theorem dL_law_758 : decode cL_law 758 = .ok (.irem, 1) := by decide +kernel
theorem dL_law_759 : decode cL_law 759 = .ok (.ifCond .ne 17, 3) := by decide +kernel
theorem dL_law_762 : decode cL_law 762 = .ok (.aload_n 2, 1) := by decide +kernel
theorem dL_law_763 : decode cL_law 763 = .ok (.bipush 7, 2) := by decide +kernel
theorem dL_law_765 : decode cL_law 765 = .ok (.iconst 0, 1) := by decide +kernel
theorem dL_law_766 : decode cL_law 766 = .ok (.iconst 0, 1) := by decide +kernel
theorem dL_law_767 : decode cL_law 767 = .ok (.iconst 0, 1) := by decide +kernel
theorem dL_law_768 : decode cL_law 768 = .ok (.iconst 0, 1) := by decide +kernel
theorem dL_law_769 : decode cL_law 769 = .ok (.iconst 0, 1) := by decide +kernel
theorem dL_law_770 : decode cL_law 770 = .ok (.invokestatic 92, 3) := by decide +kernel
theorem dL_law_773 : decode cL_law 773 = .ok (.goto 4, 3) := by decide +kernel
theorem dL_law_776 : decode cL_law 776 = .ok (.iconst 0, 1) := by decide +kernel
theorem dL_law_777 : decode cL_law 777 = .ok (.istore 12, 2) := by decide +kernel
theorem dL_law_779 : decode cL_law 779 = .ok (.iload 12, 2) := by decide +kernel
theorem dL_law_781 : decode cL_law 781 = .ok (.bipush (-72), 2) := by decide +kernel
theorem dL_law_783 : decode cL_law 783 = .ok (.if_icmp .eq 23, 3) := by decide +kernel
theorem dL_law_786 : decode cL_law 786 = .ok (.iload 12, 2) := by decide +kernel
theorem dL_law_788 : decode cL_law 788 = .ok (.sipush 239, 3) := by decide +kernel
theorem dL_law_791 : decode cL_law 791 = .ok (.if_icmp .gt 15, 3) := by decide +kernel
theorem dL_law_794 : decode cL_law 794 = .ok (.iload 12, 2) := by decide +kernel
theorem dL_law_796 : decode cL_law 796 = .ok (.bipush (-73), 2) := by decide +kernel
theorem dL_law_798 : decode cL_law 798 = .ok (.if_icmp .ne 10, 3) := by decide +kernel
theorem dL_law_801 : decode cL_law 801 = .ok (.iload 11, 2) := by decide +kernel
theorem dL_law_803 : decode cL_law 803 = .ok (.ifCond .eq 5, 3) := by decide +kernel
theorem dL_law_806 : decode cL_law 806 = .ok (.iconst 0, 1) := by decide +kernel
theorem dL_law_807 : decode cL_law 807 = .ok (.ireturn, 1) := by decide +kernel
theorem dL_law_808 : decode cL_law 808 = .ok (.goto 171, 3) := by decide +kernel
theorem dL_law_811 : decode cL_law 811 = .ok (.iload 8, 2) := by decide +kernel
theorem dL_law_813 : decode cL_law 813 = .ok (.bipush 14, 2) := by decide +kernel
theorem dL_law_815 : decode cL_law 815 = .ok (.if_icmp .ne 76, 3) := by decide +kernel
theorem dL_law_818 : decode cL_law 818 = .ok (.iload 4, 2) := by decide +kernel
theorem dL_law_820 : decode cL_law 820 = .ok (.ifCond .le 159, 3) := by decide +kernel
theorem dL_law_823 : decode cL_law 823 = .ok (.iload 9, 2) := by decide +kernel
theorem dL_law_825 : decode cL_law 825 = .ok (.iload 4, 2) := by decide +kernel
theorem dL_law_827 : decode cL_law 827 = .ok (.irem, 1) := by decide +kernel
theorem dL_law_828 : decode cL_law 828 = .ok (.istore 12, 2) := by decide +kernel
theorem dL_law_830 : decode cL_law 830 = .ok (.aload_n 2, 1) := by decide +kernel
theorem dL_law_831 : decode cL_law 831 = .ok (.bipush 10, 2) := by decide +kernel
theorem dL_law_833 : decode cL_law 833 = .ok (.iload 12, 2) := by decide +kernel
theorem dL_law_835 : decode cL_law 835 = .ok (.iload 10, 2) := by decide +kernel
theorem dL_law_837 : decode cL_law 837 = .ok (.iload_n 3, 1) := by decide +kernel
theorem dL_law_838 : decode cL_law 838 = .ok (.irem, 1) := by decide +kernel
theorem dL_law_839 : decode cL_law 839 = .ok (.iconst 0, 1) := by decide +kernel
theorem dL_law_840 : decode cL_law 840 = .ok (.iconst 0, 1) := by decide +kernel
theorem dL_law_841 : decode cL_law 841 = .ok (.iconst 0, 1) := by decide +kernel
theorem dL_law_842 : decode cL_law 842 = .ok (.invokestatic 92, 3) := by decide +kernel
theorem dL_law_845 : decode cL_law 845 = .ok (.istore 13, 2) := by decide +kernel
theorem dL_law_847 : decode cL_law 847 = .ok (.iload 13, 2) := by decide +kernel
theorem dL_law_849 : decode cL_law 849 = .ok (.ifCond .lt 39, 3) := by decide +kernel
theorem dL_law_852 : decode cL_law 852 = .ok (.aload_n 2, 1) := by decide +kernel
theorem dL_law_853 : decode cL_law 853 = .ok (.iload 12, 2) := by decide +kernel
theorem dL_law_855 : decode cL_law 855 = .ok (.iload 10, 2) := by decide +kernel
theorem dL_law_857 : decode cL_law 857 = .ok (.iload_n 3, 1) := by decide +kernel
theorem dL_law_858 : decode cL_law 858 = .ok (.irem, 1) := by decide +kernel
theorem dL_law_859 : decode cL_law 859 = .ok (.iconst 0, 1) := by decide +kernel
theorem dL_law_860 : decode cL_law 860 = .ok (.invokevirtual 66, 3) := by decide +kernel
theorem dL_law_863 : decode cL_law 863 = .ok (.ifCond .ne 23, 3) := by decide +kernel
theorem dL_law_866 : decode cL_law 866 = .ok (.aload_n 2, 1) := by decide +kernel
theorem dL_law_867 : decode cL_law 867 = .ok (.bipush 10, 2) := by decide +kernel
theorem dL_law_869 : decode cL_law 869 = .ok (.iload 12, 2) := by decide +kernel
theorem dL_law_871 : decode cL_law 871 = .ok (.iload 10, 2) := by decide +kernel
theorem dL_law_873 : decode cL_law 873 = .ok (.iload_n 3, 1) := by decide +kernel
theorem dL_law_874 : decode cL_law 874 = .ok (.irem, 1) := by decide +kernel
theorem dL_law_875 : decode cL_law 875 = .ok (.iconst 0, 1) := by decide +kernel
theorem dL_law_876 : decode cL_law 876 = .ok (.iconst 0, 1) := by decide +kernel
theorem dL_law_877 : decode cL_law 877 = .ok (.iconst 0, 1) := by decide +kernel
theorem dL_law_878 : decode cL_law 878 = .ok (.invokestatic 92, 3) := by decide +kernel
theorem dL_law_881 : decode cL_law 881 = .ok (.bipush (-73), 2) := by decide +kernel
theorem dL_law_883 : decode cL_law 883 = .ok (.if_icmp .eq 5, 3) := by decide +kernel
theorem dL_law_886 : decode cL_law 886 = .ok (.iconst 0, 1) := by decide +kernel
theorem dL_law_887 : decode cL_law 887 = .ok (.ireturn, 1) := by decide +kernel
theorem dL_law_888 : decode cL_law 888 = .ok (.goto 91, 3) := by decide +kernel
theorem dL_law_891 : decode cL_law 891 = .ok (.iload 4, 2) := by decide +kernel
theorem dL_law_893 : decode cL_law 893 = .ok (.ifCond .le 86, 3) := by decide +kernel
theorem dL_law_896 : decode cL_law 896 = .ok (.iload 9, 2) := by decide +kernel
theorem dL_law_898 : decode cL_law 898 = .ok (.iload 4, 2) := by decide +kernel
theorem dL_law_900 : decode cL_law 900 = .ok (.irem, 1) := by decide +kernel
theorem dL_law_901 : decode cL_law 901 = .ok (.istore 12, 2) := by decide +kernel
theorem dL_law_903 : decode cL_law 903 = .ok (.aload_n 2, 1) := by decide +kernel
theorem dL_law_904 : decode cL_law 904 = .ok (.bipush 11, 2) := by decide +kernel
theorem dL_law_906 : decode cL_law 906 = .ok (.iload 12, 2) := by decide +kernel
theorem dL_law_908 : decode cL_law 908 = .ok (.iconst 0, 1) := by decide +kernel
theorem dL_law_909 : decode cL_law 909 = .ok (.iconst 0, 1) := by decide +kernel
theorem dL_law_910 : decode cL_law 910 = .ok (.iconst 0, 1) := by decide +kernel
theorem dL_law_911 : decode cL_law 911 = .ok (.iconst 0, 1) := by decide +kernel
theorem dL_law_912 : decode cL_law 912 = .ok (.invokestatic 92, 3) := by decide +kernel
theorem dL_law_915 : decode cL_law 915 = .ok (.istore 13, 2) := by decide +kernel
theorem dL_law_917 : decode cL_law 917 = .ok (.iload 13, 2) := by decide +kernel
theorem dL_law_919 : decode cL_law 919 = .ok (.bipush (-73), 2) := by decide +kernel
theorem dL_law_921 : decode cL_law 921 = .ok (.if_icmp .eq 58, 3) := by decide +kernel
theorem dL_law_924 : decode cL_law 924 = .ok (.iload 13, 2) := by decide +kernel
theorem dL_law_926 : decode cL_law 926 = .ok (.iconst 2, 1) := by decide +kernel
theorem dL_law_927 : decode cL_law 927 = .ok (.if_icmp .lt 50, 3) := by decide +kernel
theorem dL_law_930 : decode cL_law 930 = .ok (.aload_n 2, 1) := by decide +kernel
theorem dL_law_931 : decode cL_law 931 = .ok (.iconst 0, 1) := by decide +kernel
theorem dL_law_932 : decode cL_law 932 = .ok (.iconst 0, 1) := by decide +kernel
theorem dL_law_933 : decode cL_law 933 = .ok (.iconst 0, 1) := by decide +kernel
theorem dL_law_934 : decode cL_law 934 = .ok (.invokevirtual 75, 3) := by decide +kernel
theorem dL_law_937 : decode cL_law 937 = .ok (.aload_n 2, 1) := by decide +kernel
theorem dL_law_938 : decode cL_law 938 = .ok (.iload 12, 2) := by decide +kernel
theorem dL_law_940 : decode cL_law 940 = .ok (.iconst 0, 1) := by decide +kernel
theorem dL_law_941 : decode cL_law 941 = .ok (.invokevirtual 72, 3) := by decide +kernel
theorem dL_law_944 : decode cL_law 944 = .ok (.if_icmp .ne 33, 3) := by decide +kernel
theorem dL_law_947 : decode cL_law 947 = .ok (.aload_n 2, 1) := by decide +kernel
theorem dL_law_948 : decode cL_law 948 = .ok (.iload 12, 2) := by decide +kernel
theorem dL_law_950 : decode cL_law 950 = .ok (.iload 13, 2) := by decide +kernel
theorem dL_law_952 : decode cL_law 952 = .ok (.iconst 2, 1) := by decide +kernel
theorem dL_law_953 : decode cL_law 953 = .ok (.idiv, 1) := by decide +kernel
theorem dL_law_954 : decode cL_law 954 = .ok (.invokevirtual 72, 3) := by decide +kernel
theorem dL_law_957 : decode cL_law 957 = .ok (.ifCond .ge 9, 3) := by decide +kernel
theorem dL_law_960 : decode cL_law 960 = .ok (.iload 13, 2) := by decide +kernel
theorem dL_law_962 : decode cL_law 962 = .ok (.iconst 2, 1) := by decide +kernel
theorem dL_law_963 : decode cL_law 963 = .ok (.if_icmp .gt 14, 3) := by decide +kernel
theorem dL_law_966 : decode cL_law 966 = .ok (.aload_n 2, 1) := by decide +kernel
theorem dL_law_967 : decode cL_law 967 = .ok (.iload 12, 2) := by decide +kernel
theorem dL_law_969 : decode cL_law 969 = .ok (.iload 13, 2) := by decide +kernel
theorem dL_law_971 : decode cL_law 971 = .ok (.invokevirtual 72, 3) := by decide +kernel
theorem dL_law_974 : decode cL_law 974 = .ok (.ifCond .lt 5, 3) := by decide +kernel
theorem dL_law_977 : decode cL_law 977 = .ok (.iconst 0, 1) := by decide +kernel
theorem dL_law_978 : decode cL_law 978 = .ok (.ireturn, 1) := by decide +kernel
theorem dL_law_979 : decode cL_law 979 = .ok (.iconst 0, 1) := by decide +kernel
theorem dL_law_980 : decode cL_law 980 = .ok (.istore 12, 2) := by decide +kernel
theorem dL_law_982 : decode cL_law 982 = .ok (.iload 12, 2) := by decide +kernel
theorem dL_law_984 : decode cL_law 984 = .ok (.iload 4, 2) := by decide +kernel
theorem dL_law_986 : decode cL_law 986 = .ok (.if_icmp .ge 183, 3) := by decide +kernel
theorem dL_law_989 : decode cL_law 989 = .ok (.iconst 0, 1) := by decide +kernel
theorem dL_law_990 : decode cL_law 990 = .ok (.istore 13, 2) := by decide +kernel
theorem dL_law_992 : decode cL_law 992 = .ok (.iconst 0, 1) := by decide +kernel
theorem dL_law_993 : decode cL_law 993 = .ok (.istore 14, 2) := by decide +kernel
theorem dL_law_995 : decode cL_law 995 = .ok (.iconst 0, 1) := by decide +kernel
theorem dL_law_996 : decode cL_law 996 = .ok (.istore 15, 2) := by decide +kernel
theorem dL_law_998 : decode cL_law 998 = .ok (.iconst 0, 1) := by decide +kernel
theorem dL_law_999 : decode cL_law 999 = .ok (.istore 16, 2) := by decide +kernel
theorem dL_law_1001 : decode cL_law 1001 = .ok (.iconst 0, 1) := by decide +kernel
theorem dL_law_1002 : decode cL_law 1002 = .ok (.istore 17, 2) := by decide +kernel
theorem dL_law_1004 : decode cL_law 1004 = .ok (.iload 17, 2) := by decide +kernel
theorem dL_law_1006 : decode cL_law 1006 = .ok (.iload_n 3, 1) := by decide +kernel
theorem dL_law_1007 : decode cL_law 1007 = .ok (.if_icmp .ge 138, 3) := by decide +kernel
theorem dL_law_1010 : decode cL_law 1010 = .ok (.aload_n 2, 1) := by decide +kernel
theorem dL_law_1011 : decode cL_law 1011 = .ok (.iload 12, 2) := by decide +kernel
theorem dL_law_1013 : decode cL_law 1013 = .ok (.iload 17, 2) := by decide +kernel
theorem dL_law_1015 : decode cL_law 1015 = .ok (.invokevirtual 72, 3) := by decide +kernel
theorem dL_law_1018 : decode cL_law 1018 = .ok (.istore 18, 2) := by decide +kernel
theorem dL_law_1020 : decode cL_law 1020 = .ok (.iload 18, 2) := by decide +kernel
theorem dL_law_1022 : decode cL_law 1022 = .ok (.ifCond .ge 6, 3) := by decide +kernel
theorem dL_law_1025 : decode cL_law 1025 = .ok (.goto 120, 3) := by decide +kernel
theorem dL_law_1028 : decode cL_law 1028 = .ok (.iconst 0, 1) := by decide +kernel
theorem dL_law_1029 : decode cL_law 1029 = .ok (.istore 19, 2) := by decide +kernel
theorem dL_law_1031 : decode cL_law 1031 = .ok (.iload 19, 2) := by decide +kernel
theorem dL_law_1033 : decode cL_law 1033 = .ok (.iconst 4, 1) := by decide +kernel
theorem dL_law_1034 : decode cL_law 1034 = .ok (.if_icmp .ge 105, 3) := by decide +kernel
theorem dL_law_1037 : decode cL_law 1037 = .ok (.aload_n 2, 1) := by decide +kernel
theorem dL_law_1038 : decode cL_law 1038 = .ok (.iload 12, 2) := by decide +kernel
theorem dL_law_1040 : decode cL_law 1040 = .ok (.iload 18, 2) := by decide +kernel
theorem dL_law_1042 : decode cL_law 1042 = .ok (.iload 19, 2) := by decide +kernel
theorem dL_law_1044 : decode cL_law 1044 = .ok (.invokevirtual 66, 3) := by decide +kernel
theorem dL_law_1047 : decode cL_law 1047 = .ok (.istore 20, 2) := by decide +kernel
theorem dL_law_1049 : decode cL_law 1049 = .ok (.iload 20, 2) := by decide +kernel
theorem dL_law_1051 : decode cL_law 1051 = .ok (.aload_n 2, 1) := by decide +kernel
theorem dL_law_1052 : decode cL_law 1052 = .ok (.iload 12, 2) := by decide +kernel
theorem dL_law_1054 : decode cL_law 1054 = .ok (.iload 18, 2) := by decide +kernel
theorem dL_law_1056 : decode cL_law 1056 = .ok (.iload 19, 2) := by decide +kernel
theorem dL_law_1058 : decode cL_law 1058 = .ok (.invokevirtual 69, 3) := by decide +kernel
theorem dL_law_1061 : decode cL_law 1061 = .ok (.if_icmp .eq 5, 3) := by decide +kernel
theorem dL_law_1064 : decode cL_law 1064 = .ok (.iconst 0, 1) := by decide +kernel
theorem dL_law_1065 : decode cL_law 1065 = .ok (.ireturn, 1) := by decide +kernel
theorem dL_law_1066 : decode cL_law 1066 = .ok (.iload 15, 2) := by decide +kernel
theorem dL_law_1068 : decode cL_law 1068 = .ok (.iload 19, 2) := by decide +kernel
theorem dL_law_1070 : decode cL_law 1070 = .ok (.ifCond .ne 8, 3) := by decide +kernel
theorem dL_law_1073 : decode cL_law 1073 = .ok (.iload 20, 2) := by decide +kernel
theorem dL_law_1075 : decode cL_law 1075 = .ok (.goto 4, 3) := by decide +kernel
theorem dL_law_1078 : decode cL_law 1078 = .ok (.iconst 0, 1) := by decide +kernel
theorem dL_law_1079 : decode cL_law 1079 = .ok (.iadd, 1) := by decide +kernel
theorem dL_law_1080 : decode cL_law 1080 = .ok (.istore 15, 2) := by decide +kernel
theorem dL_law_1082 : decode cL_law 1082 = .ok (.iload 16, 2) := by decide +kernel
theorem dL_law_1084 : decode cL_law 1084 = .ok (.iload 19, 2) := by decide +kernel
theorem dL_law_1086 : decode cL_law 1086 = .ok (.iconst 1, 1) := by decide +kernel
theorem dL_law_1087 : decode cL_law 1087 = .ok (.if_icmp .ne 8, 3) := by decide +kernel
theorem dL_law_1090 : decode cL_law 1090 = .ok (.iload 20, 2) := by decide +kernel
theorem dL_law_1092 : decode cL_law 1092 = .ok (.goto 4, 3) := by decide +kernel
theorem dL_law_1095 : decode cL_law 1095 = .ok (.iconst 0, 1) := by decide +kernel
theorem dL_law_1096 : decode cL_law 1096 = .ok (.iadd, 1) := by decide +kernel
theorem dL_law_1097 : decode cL_law 1097 = .ok (.istore 16, 2) := by decide +kernel
theorem dL_law_1099 : decode cL_law 1099 = .ok (.iload 13, 2) := by decide +kernel
theorem dL_law_1101 : decode cL_law 1101 = .ok (.iload 19, 2) := by decide +kernel
theorem dL_law_1103 : decode cL_law 1103 = .ok (.iconst 2, 1) := by decide +kernel
theorem dL_law_1104 : decode cL_law 1104 = .ok (.if_icmp .ne 8, 3) := by decide +kernel
theorem dL_law_1107 : decode cL_law 1107 = .ok (.iload 20, 2) := by decide +kernel
theorem dL_law_1109 : decode cL_law 1109 = .ok (.goto 4, 3) := by decide +kernel
theorem dL_law_1112 : decode cL_law 1112 = .ok (.iconst 0, 1) := by decide +kernel
theorem dL_law_1113 : decode cL_law 1113 = .ok (.iadd, 1) := by decide +kernel
theorem dL_law_1114 : decode cL_law 1114 = .ok (.istore 13, 2) := by decide +kernel
theorem dL_law_1116 : decode cL_law 1116 = .ok (.iload 14, 2) := by decide +kernel
theorem dL_law_1118 : decode cL_law 1118 = .ok (.iload 19, 2) := by decide +kernel
theorem dL_law_1120 : decode cL_law 1120 = .ok (.iconst 3, 1) := by decide +kernel
theorem dL_law_1121 : decode cL_law 1121 = .ok (.if_icmp .ne 8, 3) := by decide +kernel
theorem dL_law_1124 : decode cL_law 1124 = .ok (.iload 20, 2) := by decide +kernel
theorem dL_law_1126 : decode cL_law 1126 = .ok (.goto 4, 3) := by decide +kernel
theorem dL_law_1129 : decode cL_law 1129 = .ok (.iconst 0, 1) := by decide +kernel
theorem dL_law_1130 : decode cL_law 1130 = .ok (.iadd, 1) := by decide +kernel
theorem dL_law_1131 : decode cL_law 1131 = .ok (.istore 14, 2) := by decide +kernel
theorem dL_law_1133 : decode cL_law 1133 = .ok (.iinc 19 1, 3) := by decide +kernel
theorem dL_law_1136 : decode cL_law 1136 = .ok (.goto (-105), 3) := by decide +kernel
theorem dL_law_1139 : decode cL_law 1139 = .ok (.iinc 17 1, 3) := by decide +kernel
theorem dL_law_1142 : decode cL_law 1142 = .ok (.goto (-138), 3) := by decide +kernel
theorem dL_law_1145 : decode cL_law 1145 = .ok (.iload 15, 2) := by decide +kernel
theorem dL_law_1147 : decode cL_law 1147 = .ok (.iconst 2, 1) := by decide +kernel
theorem dL_law_1148 : decode cL_law 1148 = .ok (.iload 16, 2) := by decide +kernel
theorem dL_law_1150 : decode cL_law 1150 = .ok (.imul, 1) := by decide +kernel
theorem dL_law_1151 : decode cL_law 1151 = .ok (.if_icmp .ne 10, 3) := by decide +kernel
theorem dL_law_1154 : decode cL_law 1154 = .ok (.iload 13, 2) := by decide +kernel
theorem dL_law_1156 : decode cL_law 1156 = .ok (.iload 14, 2) := by decide +kernel
theorem dL_law_1158 : decode cL_law 1158 = .ok (.if_icmp .eq 5, 3) := by decide +kernel
theorem dL_law_1161 : decode cL_law 1161 = .ok (.iconst 0, 1) := by decide +kernel
theorem dL_law_1162 : decode cL_law 1162 = .ok (.ireturn, 1) := by decide +kernel
theorem dL_law_1163 : decode cL_law 1163 = .ok (.iinc 12 1, 3) := by decide +kernel
theorem dL_law_1166 : decode cL_law 1166 = .ok (.goto (-184), 3) := by decide +kernel
theorem dL_law_1169 : decode cL_law 1169 = .ok (.iload 6, 2) := by decide +kernel
theorem dL_law_1171 : decode cL_law 1171 = .ok (.bipush 20, 2) := by decide +kernel
theorem dL_law_1173 : decode cL_law 1173 = .ok (.irem, 1) := by decide +kernel
theorem dL_law_1174 : decode cL_law 1174 = .ok (.ifCond .ne 17, 3) := by decide +kernel
theorem dL_law_1177 : decode cL_law 1177 = .ok (.aload_n 2, 1) := by decide +kernel
theorem dL_law_1178 : decode cL_law 1178 = .ok (.iload_n 3, 1) := by decide +kernel
theorem dL_law_1179 : decode cL_law 1179 = .ok (.iload 4, 2) := by decide +kernel
theorem dL_law_1181 : decode cL_law 1181 = .ok (.iload 5, 2) := by decide +kernel
theorem dL_law_1183 : decode cL_law 1183 = .ok (.invokestatic 153, 3) := by decide +kernel
theorem dL_law_1186 : decode cL_law 1186 = .ok (.ifCond .ne 5, 3) := by decide +kernel
theorem dL_law_1189 : decode cL_law 1189 = .ok (.iconst 0, 1) := by decide +kernel
theorem dL_law_1190 : decode cL_law 1190 = .ok (.ireturn, 1) := by decide +kernel
theorem dL_law_1191 : decode cL_law 1191 = .ok (.iinc 6 1, 3) := by decide +kernel
theorem dL_law_1194 : decode cL_law 1194 = .ok (.goto (-1103), 3) := by decide +kernel
theorem dL_law_1197 : decode cL_law 1197 = .ok (.iconst 1, 1) := by decide +kernel
theorem dL_law_1198 : decode cL_law 1198 = .ok (.ireturn, 1) := by decide +kernel
