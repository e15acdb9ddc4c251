theorem d_law_618 : decode code 618 = .ok (.iaload, 1) := by decide +kernel
theorem d_law_619 : decode code 619 = .ok (.invokevirtual 84, 3) := by decide +kernel
theorem d_law_622 : decode code 622 = .ok (.if_icmp .eq 133, 3) := by decide +kernel
theorem d_law_625 : decode code 625 = .ok (.iconst 0, 1) := by decide +kernel
theorem d_law_626 : decode code 626 = .ok (.ireturn, 1) := by decide +kernel
theorem d_law_627 : decode code 627 = .ok (.aload_n 1, 1) := by decide +kernel
theorem d_law_628 : decode code 628 = .ok (.aload_n 0, 1) := by decide +kernel
theorem d_law_629 : decode code 629 = .ok (.iload_n 3, 1) := by decide +kernel
theorem d_law_630 : decode code 630 = .ok (.iconst 1, 1) := by decide +kernel
theorem d_law_631 : decode code 631 = .ok (.iadd, 1) := by decide +kernel
theorem d_law_632 : decode code 632 = .ok (.iaload, 1) := by decide +kernel
theorem d_law_633 : decode code 633 = .ok (.aload_n 0, 1) := by decide +kernel
theorem d_law_634 : decode code 634 = .ok (.iload_n 3, 1) := by decide +kernel
theorem d_law_635 : decode code 635 = .ok (.iconst 2, 1) := by decide +kernel
theorem d_law_636 : decode code 636 = .ok (.iadd, 1) := by decide +kernel
theorem d_law_637 : decode code 637 = .ok (.iaload, 1) := by decide +kernel
theorem d_law_638 : decode code 638 = .ok (.invokevirtual 85, 3) := by decide +kernel
theorem d_law_641 : decode code 641 = .ok (.aload_n 2, 1) := by decide +kernel
theorem d_law_642 : decode code 642 = .ok (.aload_n 0, 1) := by decide +kernel
theorem d_law_643 : decode code 643 = .ok (.iload_n 3, 1) := by decide +kernel
theorem d_law_644 : decode code 644 = .ok (.iconst 1, 1) := by decide +kernel
theorem d_law_645 : decode code 645 = .ok (.iadd, 1) := by decide +kernel
theorem d_law_646 : decode code 646 = .ok (.iaload, 1) := by decide +kernel
theorem d_law_647 : decode code 647 = .ok (.aload_n 0, 1) := by decide +kernel
theorem d_law_648 : decode code 648 = .ok (.iload_n 3, 1) := by decide +kernel
theorem d_law_649 : decode code 649 = .ok (.iconst 2, 1) := by decide +kernel
theorem d_law_650 : decode code 650 = .ok (.iadd, 1) := by decide +kernel
theorem d_law_651 : decode code 651 = .ok (.iaload, 1) := by decide +kernel
theorem d_law_652 : decode code 652 = .ok (.invokevirtual 88, 3) := by decide +kernel
theorem d_law_655 : decode code 655 = .ok (.lcmp, 1) := by decide +kernel
theorem d_law_656 : decode code 656 = .ok (.ifCond .eq 99, 3) := by decide +kernel
theorem d_law_659 : decode code 659 = .ok (.iconst 0, 1) := by decide +kernel
theorem d_law_660 : decode code 660 = .ok (.ireturn, 1) := by decide +kernel
theorem d_law_661 : decode code 661 = .ok (.aload_n 1, 1) := by decide +kernel
theorem d_law_662 : decode code 662 = .ok (.invokevirtual 89, 3) := by decide +kernel
theorem d_law_665 : decode code 665 = .ok (.aload_n 2, 1) := by decide +kernel
theorem d_law_666 : decode code 666 = .ok (.invokevirtual 93, 3) := by decide +kernel
theorem d_law_669 : decode code 669 = .ok (.lcmp, 1) := by decide +kernel
theorem d_law_670 : decode code 670 = .ok (.ifCond .eq 85, 3) := by decide +kernel
theorem d_law_673 : decode code 673 = .ok (.iconst 0, 1) := by decide +kernel
theorem d_law_674 : decode code 674 = .ok (.ireturn, 1) := by decide +kernel
theorem d_law_675 : decode code 675 = .ok (.aload_n 1, 1) := by decide +kernel
theorem d_law_676 : decode code 676 = .ok (.aload_n 0, 1) := by decide +kernel
theorem d_law_677 : decode code 677 = .ok (.iload_n 3, 1) := by decide +kernel
theorem d_law_678 : decode code 678 = .ok (.iconst 1, 1) := by decide +kernel
theorem d_law_679 : decode code 679 = .ok (.iadd, 1) := by decide +kernel
theorem d_law_680 : decode code 680 = .ok (.iaload, 1) := by decide +kernel
theorem d_law_681 : decode code 681 = .ok (.aload_n 0, 1) := by decide +kernel
theorem d_law_682 : decode code 682 = .ok (.iload_n 3, 1) := by decide +kernel
theorem d_law_683 : decode code 683 = .ok (.iconst 2, 1) := by decide +kernel
theorem d_law_684 : decode code 684 = .ok (.iadd, 1) := by decide +kernel
theorem d_law_685 : decode code 685 = .ok (.iaload, 1) := by decide +kernel
theorem d_law_686 : decode code 686 = .ok (.invokevirtual 94, 3) := by decide +kernel
theorem d_law_689 : decode code 689 = .ok (.aload_n 2, 1) := by decide +kernel
theorem d_law_690 : decode code 690 = .ok (.aload_n 0, 1) := by decide +kernel
theorem d_law_691 : decode code 691 = .ok (.iload_n 3, 1) := by decide +kernel
theorem d_law_692 : decode code 692 = .ok (.iconst 1, 1) := by decide +kernel
theorem d_law_693 : decode code 693 = .ok (.iadd, 1) := by decide +kernel
theorem d_law_694 : decode code 694 = .ok (.iaload, 1) := by decide +kernel
theorem d_law_695 : decode code 695 = .ok (.aload_n 0, 1) := by decide +kernel
