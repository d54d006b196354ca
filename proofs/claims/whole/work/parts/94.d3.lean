theorem dLaw_683 : decode code 683 = .ok (.lor, 1) := by decide +kernel
theorem dLaw_684 : decode code 684 = .ok (.invokevirtual 84, 3) := by decide +kernel
theorem dLaw_687 : decode code 687 = .ok (.aload_n 2, 1) := by decide +kernel
theorem dLaw_688 : decode code 688 = .ok (.aload_n 0, 1) := by decide +kernel
theorem dLaw_689 : decode code 689 = .ok (.iload 4, 2) := by decide +kernel
theorem dLaw_691 : decode code 691 = .ok (.iconst 1, 1) := by decide +kernel
theorem dLaw_692 : decode code 692 = .ok (.iadd, 1) := by decide +kernel
theorem dLaw_693 : decode code 693 = .ok (.iaload, 1) := by decide +kernel
theorem dLaw_694 : decode code 694 = .ok (.i2l, 1) := by decide +kernel
theorem dLaw_695 : decode code 695 = .ok (.bipush 32, 2) := by decide +kernel
theorem dLaw_697 : decode code 697 = .ok (.lshl, 1) := by decide +kernel
theorem dLaw_698 : decode code 698 = .ok (.aload_n 0, 1) := by decide +kernel
theorem dLaw_699 : decode code 699 = .ok (.iload 4, 2) := by decide +kernel
theorem dLaw_701 : decode code 701 = .ok (.iconst 2, 1) := by decide +kernel
theorem dLaw_702 : decode code 702 = .ok (.iadd, 1) := by decide +kernel
theorem dLaw_703 : decode code 703 = .ok (.iaload, 1) := by decide +kernel
theorem dLaw_704 : decode code 704 = .ok (.i2l, 1) := by decide +kernel
theorem dLaw_705 : decode code 705 = .ok (.ldc2_w 70, 3) := by decide +kernel
theorem dLaw_708 : decode code 708 = .ok (.land, 1) := by decide +kernel
theorem dLaw_709 : decode code 709 = .ok (.lor, 1) := by decide +kernel
theorem dLaw_710 : decode code 710 = .ok (.invokevirtual 87, 3) := by decide +kernel
theorem dLaw_713 : decode code 713 = .ok (.if_icmp .eq 61, 3) := by decide +kernel
theorem dLaw_716 : decode code 716 = .ok (.iconst 0, 1) := by decide +kernel
theorem dLaw_717 : decode code 717 = .ok (.ireturn, 1) := by decide +kernel
theorem dLaw_718 : decode code 718 = .ok (.aload_n 1, 1) := by decide +kernel
theorem dLaw_719 : decode code 719 = .ok (.aload_n 0, 1) := by decide +kernel
theorem dLaw_720 : decode code 720 = .ok (.iload 4, 2) := by decide +kernel
theorem dLaw_722 : decode code 722 = .ok (.iconst 1, 1) := by decide +kernel
theorem dLaw_723 : decode code 723 = .ok (.iadd, 1) := by decide +kernel
theorem dLaw_724 : decode code 724 = .ok (.iaload, 1) := by decide +kernel
theorem dLaw_725 : decode code 725 = .ok (.aload_n 3, 1) := by decide +kernel
theorem dLaw_726 : decode code 726 = .ok (.invokestatic 88, 3) := by decide +kernel
theorem dLaw_729 : decode code 729 = .ok (.istore 5, 2) := by decide +kernel
theorem dLaw_731 : decode code 731 = .ok (.aload_n 2, 1) := by decide +kernel
theorem dLaw_732 : decode code 732 = .ok (.aload_n 0, 1) := by decide +kernel
theorem dLaw_733 : decode code 733 = .ok (.iload 4, 2) := by decide +kernel
theorem dLaw_735 : decode code 735 = .ok (.iconst 1, 1) := by decide +kernel
theorem dLaw_736 : decode code 736 = .ok (.iadd, 1) := by decide +kernel
theorem dLaw_737 : decode code 737 = .ok (.iaload, 1) := by decide +kernel
theorem dLaw_738 : decode code 738 = .ok (.invokevirtual 90, 3) := by decide +kernel
theorem dLaw_741 : decode code 741 = .ok (.istore 6, 2) := by decide +kernel
theorem dLaw_743 : decode code 743 = .ok (.aload_n 2, 1) := by decide +kernel
theorem dLaw_744 : decode code 744 = .ok (.invokevirtual 53, 3) := by decide +kernel
theorem dLaw_747 : decode code 747 = .ok (.iload 5, 2) := by decide +kernel
theorem dLaw_749 : decode code 749 = .ok (.if_icmp .eq 5, 3) := by decide +kernel
theorem dLaw_752 : decode code 752 = .ok (.iconst 0, 1) := by decide +kernel
theorem dLaw_753 : decode code 753 = .ok (.ireturn, 1) := by decide +kernel
theorem dLaw_754 : decode code 754 = .ok (.iload 5, 2) := by decide +kernel
theorem dLaw_756 : decode code 756 = .ok (.ifCond .ne 15, 3) := by decide +kernel
theorem dLaw_759 : decode code 759 = .ok (.aload_n 3, 1) := by decide +kernel
theorem dLaw_760 : decode code 760 = .ok (.iconst 0, 1) := by decide +kernel
theorem dLaw_761 : decode code 761 = .ok (.laload, 1) := by decide +kernel
theorem dLaw_762 : decode code 762 = .ok (.iload 6, 2) := by decide +kernel
theorem dLaw_764 : decode code 764 = .ok (.i2l, 1) := by decide +kernel
theorem dLaw_765 : decode code 765 = .ok (.lcmp, 1) := by decide +kernel
theorem dLaw_766 : decode code 766 = .ok (.ifCond .eq 5, 3) := by decide +kernel
theorem dLaw_769 : decode code 769 = .ok (.iconst 0, 1) := by decide +kernel
theorem dLaw_770 : decode code 770 = .ok (.ireturn, 1) := by decide +kernel
theorem dLaw_771 : decode code 771 = .ok (.goto 3, 3) := by decide +kernel
theorem dLaw_774 : decode code 774 = .ok (.iinc 4 5, 3) := by decide +kernel
theorem dLaw_777 : decode code 777 = .ok (.goto (-754), 3) := by decide +kernel
theorem dLaw_780 : decode code 780 = .ok (.iconst 1, 1) := by decide +kernel
theorem dLaw_781 : decode code 781 = .ok (.ireturn, 1) := by decide +kernel
