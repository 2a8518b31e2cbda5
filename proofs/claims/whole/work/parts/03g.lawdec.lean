theorem d_L_law_584 : decode code 584 = .ok (.iconst 0, 1) := by decide +kernel
theorem d_L_law_585 : decode code 585 = .ok (.ireturn, 1) := by decide +kernel
theorem d_L_law_586 : decode code 586 = .ok (.aload_n 1, 1) := by decide +kernel
theorem d_L_law_587 : decode code 587 = .ok (.aload_n 0, 1) := by decide +kernel
theorem d_L_law_588 : decode code 588 = .ok (.iload_n 3, 1) := by decide +kernel
theorem d_L_law_589 : decode code 589 = .ok (.iconst 1, 1) := by decide +kernel
theorem d_L_law_590 : decode code 590 = .ok (.iadd, 1) := by decide +kernel
theorem d_L_law_591 : decode code 591 = .ok (.iaload, 1) := by decide +kernel
theorem d_L_law_592 : decode code 592 = .ok (.invokevirtual 70, 3) := by decide +kernel
theorem d_L_law_595 : decode code 595 = .ok (.aload_n 2, 1) := by decide +kernel
theorem d_L_law_596 : decode code 596 = .ok (.aload_n 0, 1) := by decide +kernel
theorem d_L_law_597 : decode code 597 = .ok (.iload_n 3, 1) := by decide +kernel
theorem d_L_law_598 : decode code 598 = .ok (.iconst 1, 1) := by decide +kernel
theorem d_L_law_599 : decode code 599 = .ok (.iadd, 1) := by decide +kernel
theorem d_L_law_600 : decode code 600 = .ok (.iaload, 1) := by decide +kernel
theorem d_L_law_601 : decode code 601 = .ok (.invokevirtual 74, 3) := by decide +kernel
theorem d_L_law_604 : decode code 604 = .ok (.lcmp, 1) := by decide +kernel
theorem d_L_law_605 : decode code 605 = .ok (.ifCond .eq 145, 3) := by decide +kernel
theorem d_L_law_608 : decode code 608 = .ok (.iconst 0, 1) := by decide +kernel
theorem d_L_law_609 : decode code 609 = .ok (.ireturn, 1) := by decide +kernel
theorem d_L_law_610 : decode code 610 = .ok (.aload_n 1, 1) := by decide +kernel
theorem d_L_law_611 : decode code 611 = .ok (.aload_n 0, 1) := by decide +kernel
theorem d_L_law_612 : decode code 612 = .ok (.iload_n 3, 1) := by decide +kernel
theorem d_L_law_613 : decode code 613 = .ok (.iconst 1, 1) := by decide +kernel
theorem d_L_law_614 : decode code 614 = .ok (.iadd, 1) := by decide +kernel
theorem d_L_law_615 : decode code 615 = .ok (.iaload, 1) := by decide +kernel
theorem d_L_law_616 : decode code 616 = .ok (.aload_n 0, 1) := by decide +kernel
theorem d_L_law_617 : decode code 617 = .ok (.iload_n 3, 1) := by decide +kernel
theorem d_L_law_618 : decode code 618 = .ok (.iconst 2, 1) := by decide +kernel
theorem d_L_law_619 : decode code 619 = .ok (.iadd, 1) := by decide +kernel
theorem d_L_law_620 : decode code 620 = .ok (.iaload, 1) := by decide +kernel
theorem d_L_law_621 : decode code 621 = .ok (.invokevirtual 75, 3) := by decide +kernel
theorem d_L_law_624 : decode code 624 = .ok (.aload_n 2, 1) := by decide +kernel
theorem d_L_law_625 : decode code 625 = .ok (.aload_n 0, 1) := by decide +kernel
theorem d_L_law_626 : decode code 626 = .ok (.iload_n 3, 1) := by decide +kernel
theorem d_L_law_627 : decode code 627 = .ok (.iconst 1, 1) := by decide +kernel
theorem d_L_law_628 : decode code 628 = .ok (.iadd, 1) := by decide +kernel
theorem d_L_law_629 : decode code 629 = .ok (.iaload, 1) := by decide +kernel
theorem d_L_law_630 : decode code 630 = .ok (.aload_n 0, 1) := by decide +kernel
theorem d_L_law_631 : decode code 631 = .ok (.iload_n 3, 1) := by decide +kernel
theorem d_L_law_632 : decode code 632 = .ok (.iconst 2, 1) := by decide +kernel
theorem d_L_law_633 : decode code 633 = .ok (.iadd, 1) := by decide +kernel
theorem d_L_law_634 : decode code 634 = .ok (.iaload, 1) := by decide +kernel
theorem d_L_law_635 : decode code 635 = .ok (.invokevirtual 79, 3) := by decide +kernel
theorem d_L_law_638 : decode code 638 = .ok (.lcmp, 1) := by decide +kernel
theorem d_L_law_639 : decode code 639 = .ok (.ifCond .eq 111, 3) := by decide +kernel
theorem d_L_law_642 : decode code 642 = .ok (.iconst 0, 1) := by decide +kernel
theorem d_L_law_643 : decode code 643 = .ok (.ireturn, 1) := by decide +kernel
theorem d_L_law_644 : decode code 644 = .ok (.aload_n 1, 1) := by decide +kernel
theorem d_L_law_645 : decode code 645 = .ok (.aload_n 0, 1) := by decide +kernel
theorem d_L_law_646 : decode code 646 = .ok (.iload_n 3, 1) := by decide +kernel
theorem d_L_law_647 : decode code 647 = .ok (.iconst 1, 1) := by decide +kernel
theorem d_L_law_648 : decode code 648 = .ok (.iadd, 1) := by decide +kernel
theorem d_L_law_649 : decode code 649 = .ok (.iaload, 1) := by decide +kernel
theorem d_L_law_650 : decode code 650 = .ok (.invokevirtual 80, 3) := by decide +kernel
theorem d_L_law_653 : decode code 653 = .ok (.aload_n 2, 1) := by decide +kernel
theorem d_L_law_654 : decode code 654 = .ok (.aload_n 0, 1) := by decide +kernel
theorem d_L_law_655 : decode code 655 = .ok (.iload_n 3, 1) := by decide +kernel
theorem d_L_law_656 : decode code 656 = .ok (.iconst 1, 1) := by decide +kernel
theorem d_L_law_657 : decode code 657 = .ok (.iadd, 1) := by decide +kernel
theorem d_L_law_658 : decode code 658 = .ok (.iaload, 1) := by decide +kernel
theorem d_L_law_659 : decode code 659 = .ok (.invokevirtual 83, 3) := by decide +kernel
theorem d_L_law_662 : decode code 662 = .ok (.if_icmp .eq 88, 3) := by decide +kernel
theorem d_L_law_665 : decode code 665 = .ok (.iconst 0, 1) := by decide +kernel
theorem d_L_law_666 : decode code 666 = .ok (.ireturn, 1) := by decide +kernel
theorem d_L_law_667 : decode code 667 = .ok (.aload_n 1, 1) := by decide +kernel
theorem d_L_law_668 : decode code 668 = .ok (.aload_n 0, 1) := by decide +kernel
theorem d_L_law_669 : decode code 669 = .ok (.iload_n 3, 1) := by decide +kernel
theorem d_L_law_670 : decode code 670 = .ok (.iconst 1, 1) := by decide +kernel
theorem d_L_law_671 : decode code 671 = .ok (.iadd, 1) := by decide +kernel
theorem d_L_law_672 : decode code 672 = .ok (.iaload, 1) := by decide +kernel
theorem d_L_law_673 : decode code 673 = .ok (.aload_n 0, 1) := by decide +kernel
theorem d_L_law_674 : decode code 674 = .ok (.iload_n 3, 1) := by decide +kernel
theorem d_L_law_675 : decode code 675 = .ok (.iconst 2, 1) := by decide +kernel
theorem d_L_law_676 : decode code 676 = .ok (.iadd, 1) := by decide +kernel
theorem d_L_law_677 : decode code 677 = .ok (.iaload, 1) := by decide +kernel
theorem d_L_law_678 : decode code 678 = .ok (.invokevirtual 84, 3) := by decide +kernel
theorem d_L_law_681 : decode code 681 = .ok (.aload_n 2, 1) := by decide +kernel
theorem d_L_law_682 : decode code 682 = .ok (.aload_n 0, 1) := by decide +kernel
theorem d_L_law_683 : decode code 683 = .ok (.iload_n 3, 1) := by decide +kernel
theorem d_L_law_684 : decode code 684 = .ok (.iconst 1, 1) := by decide +kernel
theorem d_L_law_685 : decode code 685 = .ok (.iadd, 1) := by decide +kernel
theorem d_L_law_686 : decode code 686 = .ok (.iaload, 1) := by decide +kernel
theorem d_L_law_687 : decode code 687 = .ok (.aload_n 0, 1) := by decide +kernel
theorem d_L_law_688 : decode code 688 = .ok (.iload_n 3, 1) := by decide +kernel
theorem d_L_law_689 : decode code 689 = .ok (.iconst 2, 1) := by decide +kernel
theorem d_L_law_690 : decode code 690 = .ok (.iadd, 1) := by decide +kernel
theorem d_L_law_691 : decode code 691 = .ok (.iaload, 1) := by decide +kernel
theorem d_L_law_692 : decode code 692 = .ok (.invokevirtual 88, 3) := by decide +kernel
theorem d_L_law_695 : decode code 695 = .ok (.if_icmp .eq 55, 3) := by decide +kernel
theorem d_L_law_698 : decode code 698 = .ok (.iconst 0, 1) := by decide +kernel
theorem d_L_law_699 : decode code 699 = .ok (.ireturn, 1) := by decide +kernel
theorem d_L_law_700 : decode code 700 = .ok (.aload_n 1, 1) := by decide +kernel
theorem d_L_law_701 : decode code 701 = .ok (.aload_n 0, 1) := by decide +kernel
theorem d_L_law_702 : decode code 702 = .ok (.iload_n 3, 1) := by decide +kernel
theorem d_L_law_703 : decode code 703 = .ok (.iconst 1, 1) := by decide +kernel
theorem d_L_law_704 : decode code 704 = .ok (.iadd, 1) := by decide +kernel
theorem d_L_law_705 : decode code 705 = .ok (.iaload, 1) := by decide +kernel
theorem d_L_law_706 : decode code 706 = .ok (.invokevirtual 89, 3) := by decide +kernel
theorem d_L_law_709 : decode code 709 = .ok (.aload_n 2, 1) := by decide +kernel
theorem d_L_law_710 : decode code 710 = .ok (.aload_n 0, 1) := by decide +kernel
theorem d_L_law_711 : decode code 711 = .ok (.iload_n 3, 1) := by decide +kernel
theorem d_L_law_712 : decode code 712 = .ok (.iconst 1, 1) := by decide +kernel
theorem d_L_law_713 : decode code 713 = .ok (.iadd, 1) := by decide +kernel
theorem d_L_law_714 : decode code 714 = .ok (.iaload, 1) := by decide +kernel
theorem d_L_law_715 : decode code 715 = .ok (.invokevirtual 92, 3) := by decide +kernel
theorem d_L_law_718 : decode code 718 = .ok (.if_icmp .eq 32, 3) := by decide +kernel
theorem d_L_law_721 : decode code 721 = .ok (.iconst 0, 1) := by decide +kernel
theorem d_L_law_722 : decode code 722 = .ok (.ireturn, 1) := by decide +kernel
theorem d_L_law_723 : decode code 723 = .ok (.aload_n 1, 1) := by decide +kernel
theorem d_L_law_724 : decode code 724 = .ok (.invokevirtual 93, 3) := by decide +kernel
theorem d_L_law_727 : decode code 727 = .ok (.aload_n 2, 1) := by decide +kernel
theorem d_L_law_728 : decode code 728 = .ok (.invokevirtual 97, 3) := by decide +kernel
theorem d_L_law_731 : decode code 731 = .ok (.lcmp, 1) := by decide +kernel
theorem d_L_law_732 : decode code 732 = .ok (.ifCond .eq 18, 3) := by decide +kernel
theorem d_L_law_735 : decode code 735 = .ok (.iconst 0, 1) := by decide +kernel
theorem d_L_law_736 : decode code 736 = .ok (.ireturn, 1) := by decide +kernel
theorem d_L_law_737 : decode code 737 = .ok (.aload_n 1, 1) := by decide +kernel
theorem d_L_law_738 : decode code 738 = .ok (.invokevirtual 98, 3) := by decide +kernel
theorem d_L_law_741 : decode code 741 = .ok (.aload_n 2, 1) := by decide +kernel
theorem d_L_law_742 : decode code 742 = .ok (.invokevirtual 101, 3) := by decide +kernel
theorem d_L_law_745 : decode code 745 = .ok (.if_icmp .eq 5, 3) := by decide +kernel
theorem d_L_law_748 : decode code 748 = .ok (.iconst 0, 1) := by decide +kernel
theorem d_L_law_749 : decode code 749 = .ok (.ireturn, 1) := by decide +kernel
theorem d_L_law_750 : decode code 750 = .ok (.iinc 3 7, 3) := by decide +kernel
theorem d_L_law_753 : decode code 753 = .ok (.goto (-725), 3) := by decide +kernel
theorem d_L_law_756 : decode code 756 = .ok (.iconst 1, 1) := by decide +kernel
theorem d_L_law_757 : decode code 757 = .ok (.ireturn, 1) := by decide +kernel
