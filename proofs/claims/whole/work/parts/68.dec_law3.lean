theorem d_LW_law_609 : decode b_LW_law 609 = .ok (.laload, 1) := by decide +kernel
theorem d_LW_law_610 : decode b_LW_law 610 = .ok (.lload 6, 2) := by decide +kernel
theorem d_LW_law_612 : decode b_LW_law 612 = .ok (.lcmp, 1) := by decide +kernel
theorem d_LW_law_613 : decode b_LW_law 613 = .ok (.ifCond .eq 5, 3) := by decide +kernel
theorem d_LW_law_616 : decode b_LW_law 616 = .ok (.iconst 0, 1) := by decide +kernel
theorem d_LW_law_617 : decode b_LW_law 617 = .ok (.ireturn, 1) := by decide +kernel
theorem d_LW_law_618 : decode b_LW_law 618 = .ok (.goto 228, 3) := by decide +kernel
theorem d_LW_law_621 : decode b_LW_law 621 = .ok (.aload_n 1, 1) := by decide +kernel
theorem d_LW_law_622 : decode b_LW_law 622 = .ok (.aload_n 0, 1) := by decide +kernel
theorem d_LW_law_623 : decode b_LW_law 623 = .ok (.iload 4, 2) := by decide +kernel
theorem d_LW_law_625 : decode b_LW_law 625 = .ok (.iconst 1, 1) := by decide +kernel
theorem d_LW_law_626 : decode b_LW_law 626 = .ok (.iadd, 1) := by decide +kernel
theorem d_LW_law_627 : decode b_LW_law 627 = .ok (.iaload, 1) := by decide +kernel
theorem d_LW_law_628 : decode b_LW_law 628 = .ok (.aload_n 3, 1) := by decide +kernel
theorem d_LW_law_629 : decode b_LW_law 629 = .ok (.invokestatic 92, 3) := by decide +kernel
theorem d_LW_law_632 : decode b_LW_law 632 = .ok (.istore 5, 2) := by decide +kernel
theorem d_LW_law_634 : decode b_LW_law 634 = .ok (.aload_n 2, 1) := by decide +kernel
theorem d_LW_law_635 : decode b_LW_law 635 = .ok (.aload_n 0, 1) := by decide +kernel
theorem d_LW_law_636 : decode b_LW_law 636 = .ok (.iload 4, 2) := by decide +kernel
theorem d_LW_law_638 : decode b_LW_law 638 = .ok (.iconst 1, 1) := by decide +kernel
theorem d_LW_law_639 : decode b_LW_law 639 = .ok (.iadd, 1) := by decide +kernel
theorem d_LW_law_640 : decode b_LW_law 640 = .ok (.iaload, 1) := by decide +kernel
theorem d_LW_law_641 : decode b_LW_law 641 = .ok (.invokevirtual 95, 3) := by decide +kernel
theorem d_LW_law_644 : decode b_LW_law 644 = .ok (.lstore 6, 2) := by decide +kernel
theorem d_LW_law_646 : decode b_LW_law 646 = .ok (.aload_n 2, 1) := by decide +kernel
theorem d_LW_law_647 : decode b_LW_law 647 = .ok (.invokevirtual 61, 3) := by decide +kernel
theorem d_LW_law_650 : decode b_LW_law 650 = .ok (.iload 5, 2) := by decide +kernel
theorem d_LW_law_652 : decode b_LW_law 652 = .ok (.if_icmp .eq 5, 3) := by decide +kernel
theorem d_LW_law_655 : decode b_LW_law 655 = .ok (.iconst 0, 1) := by decide +kernel
theorem d_LW_law_656 : decode b_LW_law 656 = .ok (.ireturn, 1) := by decide +kernel
theorem d_LW_law_657 : decode b_LW_law 657 = .ok (.iload 5, 2) := by decide +kernel
theorem d_LW_law_659 : decode b_LW_law 659 = .ok (.ifCond .ne 14, 3) := by decide +kernel
theorem d_LW_law_662 : decode b_LW_law 662 = .ok (.aload_n 3, 1) := by decide +kernel
theorem d_LW_law_663 : decode b_LW_law 663 = .ok (.iconst 0, 1) := by decide +kernel
theorem d_LW_law_664 : decode b_LW_law 664 = .ok (.laload, 1) := by decide +kernel
theorem d_LW_law_665 : decode b_LW_law 665 = .ok (.lload 6, 2) := by decide +kernel
theorem d_LW_law_667 : decode b_LW_law 667 = .ok (.lcmp, 1) := by decide +kernel
theorem d_LW_law_668 : decode b_LW_law 668 = .ok (.ifCond .eq 5, 3) := by decide +kernel
theorem d_LW_law_671 : decode b_LW_law 671 = .ok (.iconst 0, 1) := by decide +kernel
theorem d_LW_law_672 : decode b_LW_law 672 = .ok (.ireturn, 1) := by decide +kernel
theorem d_LW_law_673 : decode b_LW_law 673 = .ok (.goto 173, 3) := by decide +kernel
theorem d_LW_law_676 : decode b_LW_law 676 = .ok (.aload_n 1, 1) := by decide +kernel
theorem d_LW_law_677 : decode b_LW_law 677 = .ok (.aload_n 0, 1) := by decide +kernel
theorem d_LW_law_678 : decode b_LW_law 678 = .ok (.iload 4, 2) := by decide +kernel
theorem d_LW_law_680 : decode b_LW_law 680 = .ok (.iconst 1, 1) := by decide +kernel
theorem d_LW_law_681 : decode b_LW_law 681 = .ok (.iadd, 1) := by decide +kernel
theorem d_LW_law_682 : decode b_LW_law 682 = .ok (.iaload, 1) := by decide +kernel
theorem d_LW_law_683 : decode b_LW_law 683 = .ok (.aload_n 0, 1) := by decide +kernel
theorem d_LW_law_684 : decode b_LW_law 684 = .ok (.iload 4, 2) := by decide +kernel
theorem d_LW_law_686 : decode b_LW_law 686 = .ok (.iconst 2, 1) := by decide +kernel
theorem d_LW_law_687 : decode b_LW_law 687 = .ok (.iadd, 1) := by decide +kernel
theorem d_LW_law_688 : decode b_LW_law 688 = .ok (.iaload, 1) := by decide +kernel
theorem d_LW_law_689 : decode b_LW_law 689 = .ok (.aload_n 0, 1) := by decide +kernel
theorem d_LW_law_690 : decode b_LW_law 690 = .ok (.iload 4, 2) := by decide +kernel
theorem d_LW_law_692 : decode b_LW_law 692 = .ok (.iconst 3, 1) := by decide +kernel
theorem d_LW_law_693 : decode b_LW_law 693 = .ok (.iadd, 1) := by decide +kernel
theorem d_LW_law_694 : decode b_LW_law 694 = .ok (.iaload, 1) := by decide +kernel
theorem d_LW_law_695 : decode b_LW_law 695 = .ok (.aload_n 0, 1) := by decide +kernel
theorem d_LW_law_696 : decode b_LW_law 696 = .ok (.iload 4, 2) := by decide +kernel
theorem d_LW_law_698 : decode b_LW_law 698 = .ok (.iconst 4, 1) := by decide +kernel
theorem d_LW_law_699 : decode b_LW_law 699 = .ok (.iadd, 1) := by decide +kernel
theorem d_LW_law_700 : decode b_LW_law 700 = .ok (.iaload, 1) := by decide +kernel
theorem d_LW_law_701 : decode b_LW_law 701 = .ok (.aload_n 3, 1) := by decide +kernel
theorem d_LW_law_702 : decode b_LW_law 702 = .ok (.invokestatic 96, 3) := by decide +kernel
theorem d_LW_law_705 : decode b_LW_law 705 = .ok (.istore 5, 2) := by decide +kernel
theorem d_LW_law_707 : decode b_LW_law 707 = .ok (.aload_n 2, 1) := by decide +kernel
theorem d_LW_law_708 : decode b_LW_law 708 = .ok (.aload_n 0, 1) := by decide +kernel
theorem d_LW_law_709 : decode b_LW_law 709 = .ok (.iload 4, 2) := by decide +kernel
theorem d_LW_law_711 : decode b_LW_law 711 = .ok (.iconst 1, 1) := by decide +kernel
theorem d_LW_law_712 : decode b_LW_law 712 = .ok (.iadd, 1) := by decide +kernel
theorem d_LW_law_713 : decode b_LW_law 713 = .ok (.iaload, 1) := by decide +kernel
theorem d_LW_law_714 : decode b_LW_law 714 = .ok (.aload_n 0, 1) := by decide +kernel
theorem d_LW_law_715 : decode b_LW_law 715 = .ok (.iload 4, 2) := by decide +kernel
theorem d_LW_law_717 : decode b_LW_law 717 = .ok (.iconst 2, 1) := by decide +kernel
theorem d_LW_law_718 : decode b_LW_law 718 = .ok (.iadd, 1) := by decide +kernel
theorem d_LW_law_719 : decode b_LW_law 719 = .ok (.iaload, 1) := by decide +kernel
theorem d_LW_law_720 : decode b_LW_law 720 = .ok (.aload_n 0, 1) := by decide +kernel
theorem d_LW_law_721 : decode b_LW_law 721 = .ok (.iload 4, 2) := by decide +kernel
theorem d_LW_law_723 : decode b_LW_law 723 = .ok (.iconst 3, 1) := by decide +kernel
theorem d_LW_law_724 : decode b_LW_law 724 = .ok (.iadd, 1) := by decide +kernel
theorem d_LW_law_725 : decode b_LW_law 725 = .ok (.iaload, 1) := by decide +kernel
theorem d_LW_law_726 : decode b_LW_law 726 = .ok (.aload_n 0, 1) := by decide +kernel
theorem d_LW_law_727 : decode b_LW_law 727 = .ok (.iload 4, 2) := by decide +kernel
theorem d_LW_law_729 : decode b_LW_law 729 = .ok (.iconst 4, 1) := by decide +kernel
theorem d_LW_law_730 : decode b_LW_law 730 = .ok (.iadd, 1) := by decide +kernel
theorem d_LW_law_731 : decode b_LW_law 731 = .ok (.iaload, 1) := by decide +kernel
theorem d_LW_law_732 : decode b_LW_law 732 = .ok (.invokevirtual 99, 3) := by decide +kernel
theorem d_LW_law_735 : decode b_LW_law 735 = .ok (.lstore 6, 2) := by decide +kernel
theorem d_LW_law_737 : decode b_LW_law 737 = .ok (.aload_n 2, 1) := by decide +kernel
theorem d_LW_law_738 : decode b_LW_law 738 = .ok (.invokevirtual 61, 3) := by decide +kernel
theorem d_LW_law_741 : decode b_LW_law 741 = .ok (.iload 5, 2) := by decide +kernel
theorem d_LW_law_743 : decode b_LW_law 743 = .ok (.if_icmp .eq 5, 3) := by decide +kernel
theorem d_LW_law_746 : decode b_LW_law 746 = .ok (.iconst 0, 1) := by decide +kernel
theorem d_LW_law_747 : decode b_LW_law 747 = .ok (.ireturn, 1) := by decide +kernel
theorem d_LW_law_748 : decode b_LW_law 748 = .ok (.iload 5, 2) := by decide +kernel
theorem d_LW_law_750 : decode b_LW_law 750 = .ok (.ifCond .ne 14, 3) := by decide +kernel
theorem d_LW_law_753 : decode b_LW_law 753 = .ok (.aload_n 3, 1) := by decide +kernel
theorem d_LW_law_754 : decode b_LW_law 754 = .ok (.iconst 0, 1) := by decide +kernel
theorem d_LW_law_755 : decode b_LW_law 755 = .ok (.laload, 1) := by decide +kernel
theorem d_LW_law_756 : decode b_LW_law 756 = .ok (.lload 6, 2) := by decide +kernel
theorem d_LW_law_758 : decode b_LW_law 758 = .ok (.lcmp, 1) := by decide +kernel
theorem d_LW_law_759 : decode b_LW_law 759 = .ok (.ifCond .eq 5, 3) := by decide +kernel
theorem d_LW_law_762 : decode b_LW_law 762 = .ok (.iconst 0, 1) := by decide +kernel
theorem d_LW_law_763 : decode b_LW_law 763 = .ok (.ireturn, 1) := by decide +kernel
theorem d_LW_law_764 : decode b_LW_law 764 = .ok (.goto 82, 3) := by decide +kernel
theorem d_LW_law_767 : decode b_LW_law 767 = .ok (.aload_n 1, 1) := by decide +kernel
theorem d_LW_law_768 : decode b_LW_law 768 = .ok (.aload_n 0, 1) := by decide +kernel
theorem d_LW_law_769 : decode b_LW_law 769 = .ok (.iload 4, 2) := by decide +kernel
theorem d_LW_law_771 : decode b_LW_law 771 = .ok (.iconst 1, 1) := by decide +kernel
theorem d_LW_law_772 : decode b_LW_law 772 = .ok (.iadd, 1) := by decide +kernel
theorem d_LW_law_773 : decode b_LW_law 773 = .ok (.iaload, 1) := by decide +kernel
theorem d_LW_law_774 : decode b_LW_law 774 = .ok (.aload_n 3, 1) := by decide +kernel
theorem d_LW_law_775 : decode b_LW_law 775 = .ok (.invokestatic 100, 3) := by decide +kernel
theorem d_LW_law_778 : decode b_LW_law 778 = .ok (.istore 5, 2) := by decide +kernel
theorem d_LW_law_780 : decode b_LW_law 780 = .ok (.aload_n 2, 1) := by decide +kernel
theorem d_LW_law_781 : decode b_LW_law 781 = .ok (.aload_n 0, 1) := by decide +kernel
theorem d_LW_law_782 : decode b_LW_law 782 = .ok (.iload 4, 2) := by decide +kernel
theorem d_LW_law_784 : decode b_LW_law 784 = .ok (.iconst 1, 1) := by decide +kernel
theorem d_LW_law_785 : decode b_LW_law 785 = .ok (.iadd, 1) := by decide +kernel
theorem d_LW_law_786 : decode b_LW_law 786 = .ok (.iaload, 1) := by decide +kernel
theorem d_LW_law_787 : decode b_LW_law 787 = .ok (.invokevirtual 102, 3) := by decide +kernel
theorem d_LW_law_790 : decode b_LW_law 790 = .ok (.lstore 6, 2) := by decide +kernel
theorem d_LW_law_792 : decode b_LW_law 792 = .ok (.aload_n 2, 1) := by decide +kernel
theorem d_LW_law_793 : decode b_LW_law 793 = .ok (.invokevirtual 61, 3) := by decide +kernel
theorem d_LW_law_796 : decode b_LW_law 796 = .ok (.iload 5, 2) := by decide +kernel
theorem d_LW_law_798 : decode b_LW_law 798 = .ok (.if_icmp .eq 5, 3) := by decide +kernel
theorem d_LW_law_801 : decode b_LW_law 801 = .ok (.iconst 0, 1) := by decide +kernel
theorem d_LW_law_802 : decode b_LW_law 802 = .ok (.ireturn, 1) := by decide +kernel
theorem d_LW_law_803 : decode b_LW_law 803 = .ok (.iload 5, 2) := by decide +kernel
theorem d_LW_law_805 : decode b_LW_law 805 = .ok (.ifCond .ne 14, 3) := by decide +kernel
theorem d_LW_law_808 : decode b_LW_law 808 = .ok (.aload_n 3, 1) := by decide +kernel
theorem d_LW_law_809 : decode b_LW_law 809 = .ok (.iconst 0, 1) := by decide +kernel
theorem d_LW_law_810 : decode b_LW_law 810 = .ok (.laload, 1) := by decide +kernel
theorem d_LW_law_811 : decode b_LW_law 811 = .ok (.lload 6, 2) := by decide +kernel
theorem d_LW_law_813 : decode b_LW_law 813 = .ok (.lcmp, 1) := by decide +kernel
theorem d_LW_law_814 : decode b_LW_law 814 = .ok (.ifCond .eq 5, 3) := by decide +kernel
theorem d_LW_law_817 : decode b_LW_law 817 = .ok (.iconst 0, 1) := by decide +kernel
theorem d_LW_law_818 : decode b_LW_law 818 = .ok (.ireturn, 1) := by decide +kernel
theorem d_LW_law_819 : decode b_LW_law 819 = .ok (.goto 27, 3) := by decide +kernel
theorem d_LW_law_822 : decode b_LW_law 822 = .ok (.aload_n 1, 1) := by decide +kernel
theorem d_LW_law_823 : decode b_LW_law 823 = .ok (.invokevirtual 103, 3) := by decide +kernel
theorem d_LW_law_826 : decode b_LW_law 826 = .ok (.aload_n 2, 1) := by decide +kernel
theorem d_LW_law_827 : decode b_LW_law 827 = .ok (.invokevirtual 106, 3) := by decide +kernel
theorem d_LW_law_830 : decode b_LW_law 830 = .ok (.if_icmp .eq 16, 3) := by decide +kernel
theorem d_LW_law_833 : decode b_LW_law 833 = .ok (.iconst 0, 1) := by decide +kernel
theorem d_LW_law_834 : decode b_LW_law 834 = .ok (.ireturn, 1) := by decide +kernel
theorem d_LW_law_835 : decode b_LW_law 835 = .ok (.aload_n 1, 1) := by decide +kernel
theorem d_LW_law_836 : decode b_LW_law 836 = .ok (.invokevirtual 107, 3) := by decide +kernel
theorem d_LW_law_839 : decode b_LW_law 839 = .ok (.aload_n 2, 1) := by decide +kernel
theorem d_LW_law_840 : decode b_LW_law 840 = .ok (.invokevirtual 110, 3) := by decide +kernel
theorem d_LW_law_843 : decode b_LW_law 843 = .ok (.goto 3, 3) := by decide +kernel
theorem d_LW_law_846 : decode b_LW_law 846 = .ok (.iinc 4 5, 3) := by decide +kernel
theorem d_LW_law_849 : decode b_LW_law 849 = .ok (.goto (-826), 3) := by decide +kernel
theorem d_LW_law_852 : decode b_LW_law 852 = .ok (.iconst 1, 1) := by decide +kernel
theorem d_LW_law_853 : decode b_LW_law 853 = .ok (.ireturn, 1) := by decide +kernel

