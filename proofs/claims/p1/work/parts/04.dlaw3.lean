theorem dl_634 : decode code 634 = .ok (.iload_n 3, 1) := by decide +kernel
theorem dl_635 : decode code 635 = .ok (.iconst 1, 1) := by decide +kernel
theorem dl_636 : decode code 636 = .ok (.iadd, 1) := by decide +kernel
theorem dl_637 : decode code 637 = .ok (.iaload, 1) := by decide +kernel
theorem dl_638 : decode code 638 = .ok (.invokevirtual 84, 3) := by decide +kernel
theorem dl_641 : decode code 641 = .ok (.aload_n 2, 1) := by decide +kernel
theorem dl_642 : decode code 642 = .ok (.aload_n 0, 1) := by decide +kernel
theorem dl_643 : decode code 643 = .ok (.iload_n 3, 1) := by decide +kernel
theorem dl_644 : decode code 644 = .ok (.iconst 1, 1) := by decide +kernel
theorem dl_645 : decode code 645 = .ok (.iadd, 1) := by decide +kernel
theorem dl_646 : decode code 646 = .ok (.iaload, 1) := by decide +kernel
theorem dl_647 : decode code 647 = .ok (.invokevirtual 87, 3) := by decide +kernel
theorem dl_650 : decode code 650 = .ok (.if_icmp .eq 482, 3) := by decide +kernel
theorem dl_653 : decode code 653 = .ok (.iconst 0, 1) := by decide +kernel
theorem dl_654 : decode code 654 = .ok (.ireturn, 1) := by decide +kernel
theorem dl_655 : decode code 655 = .ok (.aload_n 1, 1) := by decide +kernel
theorem dl_656 : decode code 656 = .ok (.invokevirtual 88, 3) := by decide +kernel
theorem dl_659 : decode code 659 = .ok (.aload_n 2, 1) := by decide +kernel
theorem dl_660 : decode code 660 = .ok (.invokevirtual 92, 3) := by decide +kernel
theorem dl_663 : decode code 663 = .ok (.lcmp, 1) := by decide +kernel
theorem dl_664 : decode code 664 = .ok (.ifCond .eq 468, 3) := by decide +kernel
theorem dl_667 : decode code 667 = .ok (.iconst 0, 1) := by decide +kernel
theorem dl_668 : decode code 668 = .ok (.ireturn, 1) := by decide +kernel
theorem dl_669 : decode code 669 = .ok (.aload_n 1, 1) := by decide +kernel
theorem dl_670 : decode code 670 = .ok (.invokevirtual 93, 3) := by decide +kernel
theorem dl_673 : decode code 673 = .ok (.aload_n 2, 1) := by decide +kernel
theorem dl_674 : decode code 674 = .ok (.invokevirtual 96, 3) := by decide +kernel
theorem dl_677 : decode code 677 = .ok (.if_icmp .eq 455, 3) := by decide +kernel
theorem dl_680 : decode code 680 = .ok (.iconst 0, 1) := by decide +kernel
theorem dl_681 : decode code 681 = .ok (.ireturn, 1) := by decide +kernel
theorem dl_682 : decode code 682 = .ok (.aload_n 1, 1) := by decide +kernel
theorem dl_683 : decode code 683 = .ok (.invokevirtual 97, 3) := by decide +kernel
theorem dl_686 : decode code 686 = .ok (.aload_n 2, 1) := by decide +kernel
theorem dl_687 : decode code 687 = .ok (.invokevirtual 100, 3) := by decide +kernel
theorem dl_690 : decode code 690 = .ok (.if_icmp .eq 442, 3) := by decide +kernel
theorem dl_693 : decode code 693 = .ok (.iconst 0, 1) := by decide +kernel
theorem dl_694 : decode code 694 = .ok (.ireturn, 1) := by decide +kernel
theorem dl_695 : decode code 695 = .ok (.aload_n 1, 1) := by decide +kernel
theorem dl_696 : decode code 696 = .ok (.invokevirtual 101, 3) := by decide +kernel
theorem dl_699 : decode code 699 = .ok (.aload_n 2, 1) := by decide +kernel
theorem dl_700 : decode code 700 = .ok (.invokevirtual 104, 3) := by decide +kernel
theorem dl_703 : decode code 703 = .ok (.if_icmp .eq 429, 3) := by decide +kernel
theorem dl_706 : decode code 706 = .ok (.iconst 0, 1) := by decide +kernel
theorem dl_707 : decode code 707 = .ok (.ireturn, 1) := by decide +kernel
theorem dl_708 : decode code 708 = .ok (.aload_n 1, 1) := by decide +kernel
theorem dl_709 : decode code 709 = .ok (.aload_n 0, 1) := by decide +kernel
theorem dl_710 : decode code 710 = .ok (.iload_n 3, 1) := by decide +kernel
theorem dl_711 : decode code 711 = .ok (.iconst 1, 1) := by decide +kernel
theorem dl_712 : decode code 712 = .ok (.iadd, 1) := by decide +kernel
theorem dl_713 : decode code 713 = .ok (.iaload, 1) := by decide +kernel
theorem dl_714 : decode code 714 = .ok (.invokevirtual 105, 3) := by decide +kernel
theorem dl_717 : decode code 717 = .ok (.aload_n 2, 1) := by decide +kernel
theorem dl_718 : decode code 718 = .ok (.aload_n 0, 1) := by decide +kernel
theorem dl_719 : decode code 719 = .ok (.iload_n 3, 1) := by decide +kernel
theorem dl_720 : decode code 720 = .ok (.iconst 1, 1) := by decide +kernel
theorem dl_721 : decode code 721 = .ok (.iadd, 1) := by decide +kernel
theorem dl_722 : decode code 722 = .ok (.iaload, 1) := by decide +kernel
theorem dl_723 : decode code 723 = .ok (.invokevirtual 108, 3) := by decide +kernel
theorem dl_726 : decode code 726 = .ok (.if_icmp .eq 406, 3) := by decide +kernel
theorem dl_729 : decode code 729 = .ok (.iconst 0, 1) := by decide +kernel
theorem dl_730 : decode code 730 = .ok (.ireturn, 1) := by decide +kernel
theorem dl_731 : decode code 731 = .ok (.aload_n 1, 1) := by decide +kernel
theorem dl_732 : decode code 732 = .ok (.aload_n 0, 1) := by decide +kernel
theorem dl_733 : decode code 733 = .ok (.iload_n 3, 1) := by decide +kernel
theorem dl_734 : decode code 734 = .ok (.iconst 1, 1) := by decide +kernel
theorem dl_735 : decode code 735 = .ok (.iadd, 1) := by decide +kernel
theorem dl_736 : decode code 736 = .ok (.iaload, 1) := by decide +kernel
theorem dl_737 : decode code 737 = .ok (.aload_n 0, 1) := by decide +kernel
theorem dl_738 : decode code 738 = .ok (.iload_n 3, 1) := by decide +kernel
theorem dl_739 : decode code 739 = .ok (.iconst 2, 1) := by decide +kernel
theorem dl_740 : decode code 740 = .ok (.iadd, 1) := by decide +kernel
theorem dl_741 : decode code 741 = .ok (.iaload, 1) := by decide +kernel
theorem dl_742 : decode code 742 = .ok (.aload_n 0, 1) := by decide +kernel
theorem dl_743 : decode code 743 = .ok (.iload_n 3, 1) := by decide +kernel
theorem dl_744 : decode code 744 = .ok (.iconst 3, 1) := by decide +kernel
theorem dl_745 : decode code 745 = .ok (.iadd, 1) := by decide +kernel
theorem dl_746 : decode code 746 = .ok (.iaload, 1) := by decide +kernel
theorem dl_747 : decode code 747 = .ok (.aload_n 0, 1) := by decide +kernel
theorem dl_748 : decode code 748 = .ok (.iload_n 3, 1) := by decide +kernel
theorem dl_749 : decode code 749 = .ok (.iconst 4, 1) := by decide +kernel
theorem dl_750 : decode code 750 = .ok (.iadd, 1) := by decide +kernel
theorem dl_751 : decode code 751 = .ok (.iaload, 1) := by decide +kernel
theorem dl_752 : decode code 752 = .ok (.aload_n 0, 1) := by decide +kernel
theorem dl_753 : decode code 753 = .ok (.iload_n 3, 1) := by decide +kernel
theorem dl_754 : decode code 754 = .ok (.iconst 5, 1) := by decide +kernel
theorem dl_755 : decode code 755 = .ok (.iadd, 1) := by decide +kernel
theorem dl_756 : decode code 756 = .ok (.iaload, 1) := by decide +kernel
theorem dl_757 : decode code 757 = .ok (.invokevirtual 109, 3) := by decide +kernel
theorem dl_760 : decode code 760 = .ok (.aload_n 2, 1) := by decide +kernel
theorem dl_761 : decode code 761 = .ok (.aload_n 0, 1) := by decide +kernel
theorem dl_762 : decode code 762 = .ok (.iload_n 3, 1) := by decide +kernel
theorem dl_763 : decode code 763 = .ok (.iconst 1, 1) := by decide +kernel
theorem dl_764 : decode code 764 = .ok (.iadd, 1) := by decide +kernel
theorem dl_765 : decode code 765 = .ok (.iaload, 1) := by decide +kernel
theorem dl_766 : decode code 766 = .ok (.aload_n 0, 1) := by decide +kernel
theorem dl_767 : decode code 767 = .ok (.iload_n 3, 1) := by decide +kernel
theorem dl_768 : decode code 768 = .ok (.iconst 2, 1) := by decide +kernel
theorem dl_769 : decode code 769 = .ok (.iadd, 1) := by decide +kernel
theorem dl_770 : decode code 770 = .ok (.iaload, 1) := by decide +kernel
theorem dl_771 : decode code 771 = .ok (.aload_n 0, 1) := by decide +kernel
theorem dl_772 : decode code 772 = .ok (.iload_n 3, 1) := by decide +kernel
theorem dl_773 : decode code 773 = .ok (.iconst 3, 1) := by decide +kernel
theorem dl_774 : decode code 774 = .ok (.iadd, 1) := by decide +kernel
theorem dl_775 : decode code 775 = .ok (.iaload, 1) := by decide +kernel
theorem dl_776 : decode code 776 = .ok (.aload_n 0, 1) := by decide +kernel
theorem dl_777 : decode code 777 = .ok (.iload_n 3, 1) := by decide +kernel
theorem dl_778 : decode code 778 = .ok (.iconst 4, 1) := by decide +kernel
theorem dl_779 : decode code 779 = .ok (.iadd, 1) := by decide +kernel
theorem dl_780 : decode code 780 = .ok (.iaload, 1) := by decide +kernel
theorem dl_781 : decode code 781 = .ok (.aload_n 0, 1) := by decide +kernel
theorem dl_782 : decode code 782 = .ok (.iload_n 3, 1) := by decide +kernel
theorem dl_783 : decode code 783 = .ok (.iconst 5, 1) := by decide +kernel
theorem dl_784 : decode code 784 = .ok (.iadd, 1) := by decide +kernel
theorem dl_785 : decode code 785 = .ok (.iaload, 1) := by decide +kernel
theorem dl_786 : decode code 786 = .ok (.invokevirtual 113, 3) := by decide +kernel
theorem dl_789 : decode code 789 = .ok (.if_icmp .eq 343, 3) := by decide +kernel
theorem dl_792 : decode code 792 = .ok (.iconst 0, 1) := by decide +kernel
theorem dl_793 : decode code 793 = .ok (.ireturn, 1) := by decide +kernel
theorem dl_794 : decode code 794 = .ok (.aload_n 1, 1) := by decide +kernel
theorem dl_795 : decode code 795 = .ok (.invokevirtual 114, 3) := by decide +kernel
