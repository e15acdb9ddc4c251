theorem d_law_696 : decode code 696 = .ok (.iload_n 3, 1) := by decide +kernel
theorem d_law_697 : decode code 697 = .ok (.iconst 2, 1) := by decide +kernel
theorem d_law_698 : decode code 698 = .ok (.iadd, 1) := by decide +kernel
theorem d_law_699 : decode code 699 = .ok (.iaload, 1) := by decide +kernel
theorem d_law_700 : decode code 700 = .ok (.invokevirtual 97, 3) := by decide +kernel
theorem d_law_703 : decode code 703 = .ok (.if_icmp .eq 52, 3) := by decide +kernel
theorem d_law_706 : decode code 706 = .ok (.iconst 0, 1) := by decide +kernel
theorem d_law_707 : decode code 707 = .ok (.ireturn, 1) := by decide +kernel
theorem d_law_708 : decode code 708 = .ok (.aload_n 1, 1) := by decide +kernel
theorem d_law_709 : decode code 709 = .ok (.aload_n 0, 1) := by decide +kernel
theorem d_law_710 : decode code 710 = .ok (.iload_n 3, 1) := by decide +kernel
theorem d_law_711 : decode code 711 = .ok (.iconst 1, 1) := by decide +kernel
theorem d_law_712 : decode code 712 = .ok (.iadd, 1) := by decide +kernel
theorem d_law_713 : decode code 713 = .ok (.iaload, 1) := by decide +kernel
theorem d_law_714 : decode code 714 = .ok (.invokevirtual 98, 3) := by decide +kernel
theorem d_law_717 : decode code 717 = .ok (.aload_n 2, 1) := by decide +kernel
theorem d_law_718 : decode code 718 = .ok (.aload_n 0, 1) := by decide +kernel
theorem d_law_719 : decode code 719 = .ok (.iload_n 3, 1) := by decide +kernel
theorem d_law_720 : decode code 720 = .ok (.iconst 1, 1) := by decide +kernel
theorem d_law_721 : decode code 721 = .ok (.iadd, 1) := by decide +kernel
theorem d_law_722 : decode code 722 = .ok (.iaload, 1) := by decide +kernel
theorem d_law_723 : decode code 723 = .ok (.invokevirtual 101, 3) := by decide +kernel
theorem d_law_726 : decode code 726 = .ok (.if_icmp .eq 29, 3) := by decide +kernel
theorem d_law_729 : decode code 729 = .ok (.iconst 0, 1) := by decide +kernel
theorem d_law_730 : decode code 730 = .ok (.ireturn, 1) := by decide +kernel
theorem d_law_731 : decode code 731 = .ok (.aload_n 1, 1) := by decide +kernel
theorem d_law_732 : decode code 732 = .ok (.aload_n 0, 1) := by decide +kernel
theorem d_law_733 : decode code 733 = .ok (.iload_n 3, 1) := by decide +kernel
theorem d_law_734 : decode code 734 = .ok (.iconst 1, 1) := by decide +kernel
theorem d_law_735 : decode code 735 = .ok (.iadd, 1) := by decide +kernel
theorem d_law_736 : decode code 736 = .ok (.iaload, 1) := by decide +kernel
theorem d_law_737 : decode code 737 = .ok (.invokevirtual 102, 3) := by decide +kernel
theorem d_law_740 : decode code 740 = .ok (.aload_n 2, 1) := by decide +kernel
theorem d_law_741 : decode code 741 = .ok (.aload_n 0, 1) := by decide +kernel
theorem d_law_742 : decode code 742 = .ok (.iload_n 3, 1) := by decide +kernel
theorem d_law_743 : decode code 743 = .ok (.iconst 1, 1) := by decide +kernel
theorem d_law_744 : decode code 744 = .ok (.iadd, 1) := by decide +kernel
theorem d_law_745 : decode code 745 = .ok (.iaload, 1) := by decide +kernel
theorem d_law_746 : decode code 746 = .ok (.invokevirtual 105, 3) := by decide +kernel
theorem d_law_749 : decode code 749 = .ok (.lcmp, 1) := by decide +kernel
theorem d_law_750 : decode code 750 = .ok (.ifCond .eq 5, 3) := by decide +kernel
theorem d_law_753 : decode code 753 = .ok (.iconst 0, 1) := by decide +kernel
theorem d_law_754 : decode code 754 = .ok (.ireturn, 1) := by decide +kernel
theorem d_law_755 : decode code 755 = .ok (.iinc 3 5, 3) := by decide +kernel
theorem d_law_758 : decode code 758 = .ok (.goto (-740), 3) := by decide +kernel
theorem d_law_761 : decode code 761 = .ok (.iconst 1, 1) := by decide +kernel
theorem d_law_762 : decode code 762 = .ok (.ireturn, 1) := by decide +kernel
