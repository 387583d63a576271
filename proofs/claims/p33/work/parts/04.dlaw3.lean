theorem dl_634_g : (decode code 634 = .ok (.iload_n 3, 1)) ∧ (decode code 635 = .ok (.iconst 1, 1)) ∧ (decode code 636 = .ok (.iadd, 1)) ∧ (decode code 637 = .ok (.iaload, 1)) ∧ (decode code 638 = .ok (.invokevirtual 84, 3)) ∧ (decode code 641 = .ok (.pop, 1)) ∧ (decode code 642 = .ok (.aload_n 2, 1)) ∧ (decode code 643 = .ok (.aload_n 0, 1)) := by decide +kernel
theorem dl_634 : decode code 634 = .ok (.iload_n 3, 1) := dl_634_g.1
theorem dl_635 : decode code 635 = .ok (.iconst 1, 1) := dl_634_g.2.1
theorem dl_636 : decode code 636 = .ok (.iadd, 1) := dl_634_g.2.2.1
theorem dl_637 : decode code 637 = .ok (.iaload, 1) := dl_634_g.2.2.2.1
theorem dl_638 : decode code 638 = .ok (.invokevirtual 84, 3) := dl_634_g.2.2.2.2.1
theorem dl_641 : decode code 641 = .ok (.pop, 1) := dl_634_g.2.2.2.2.2.1
theorem dl_642 : decode code 642 = .ok (.aload_n 2, 1) := dl_634_g.2.2.2.2.2.2.1
theorem dl_643 : decode code 643 = .ok (.aload_n 0, 1) := dl_634_g.2.2.2.2.2.2.2
theorem dl_644_g : (decode code 644 = .ok (.iload_n 3, 1)) ∧ (decode code 645 = .ok (.iconst 1, 1)) ∧ (decode code 646 = .ok (.iadd, 1)) ∧ (decode code 647 = .ok (.iaload, 1)) ∧ (decode code 648 = .ok (.invokevirtual 87, 3)) ∧ (decode code 651 = .ok (.pop, 1)) ∧ (decode code 652 = .ok (.goto 478, 3)) ∧ (decode code 655 = .ok (.aload_n 1, 1)) := by decide +kernel
theorem dl_644 : decode code 644 = .ok (.iload_n 3, 1) := dl_644_g.1
theorem dl_645 : decode code 645 = .ok (.iconst 1, 1) := dl_644_g.2.1
theorem dl_646 : decode code 646 = .ok (.iadd, 1) := dl_644_g.2.2.1
theorem dl_647 : decode code 647 = .ok (.iaload, 1) := dl_644_g.2.2.2.1
theorem dl_648 : decode code 648 = .ok (.invokevirtual 87, 3) := dl_644_g.2.2.2.2.1
theorem dl_651 : decode code 651 = .ok (.pop, 1) := dl_644_g.2.2.2.2.2.1
theorem dl_652 : decode code 652 = .ok (.goto 478, 3) := dl_644_g.2.2.2.2.2.2.1
theorem dl_655 : decode code 655 = .ok (.aload_n 1, 1) := dl_644_g.2.2.2.2.2.2.2
theorem dl_656_g : (decode code 656 = .ok (.invokevirtual 88, 3)) ∧ (decode code 659 = .ok (.pop2, 1)) ∧ (decode code 660 = .ok (.aload_n 2, 1)) ∧ (decode code 661 = .ok (.invokevirtual 92, 3)) ∧ (decode code 664 = .ok (.pop2, 1)) ∧ (decode code 665 = .ok (.goto 465, 3)) ∧ (decode code 668 = .ok (.aload_n 1, 1)) ∧ (decode code 669 = .ok (.invokevirtual 93, 3)) := by decide +kernel
theorem dl_656 : decode code 656 = .ok (.invokevirtual 88, 3) := dl_656_g.1
theorem dl_659 : decode code 659 = .ok (.pop2, 1) := dl_656_g.2.1
theorem dl_660 : decode code 660 = .ok (.aload_n 2, 1) := dl_656_g.2.2.1
theorem dl_661 : decode code 661 = .ok (.invokevirtual 92, 3) := dl_656_g.2.2.2.1
theorem dl_664 : decode code 664 = .ok (.pop2, 1) := dl_656_g.2.2.2.2.1
theorem dl_665 : decode code 665 = .ok (.goto 465, 3) := dl_656_g.2.2.2.2.2.1
theorem dl_668 : decode code 668 = .ok (.aload_n 1, 1) := dl_656_g.2.2.2.2.2.2.1
theorem dl_669 : decode code 669 = .ok (.invokevirtual 93, 3) := dl_656_g.2.2.2.2.2.2.2
theorem dl_672_g : (decode code 672 = .ok (.pop, 1)) ∧ (decode code 673 = .ok (.aload_n 2, 1)) ∧ (decode code 674 = .ok (.invokevirtual 96, 3)) ∧ (decode code 677 = .ok (.pop, 1)) ∧ (decode code 678 = .ok (.goto 452, 3)) ∧ (decode code 681 = .ok (.aload_n 1, 1)) ∧ (decode code 682 = .ok (.invokevirtual 97, 3)) ∧ (decode code 685 = .ok (.pop, 1)) := by decide +kernel
theorem dl_672 : decode code 672 = .ok (.pop, 1) := dl_672_g.1
theorem dl_673 : decode code 673 = .ok (.aload_n 2, 1) := dl_672_g.2.1
theorem dl_674 : decode code 674 = .ok (.invokevirtual 96, 3) := dl_672_g.2.2.1
theorem dl_677 : decode code 677 = .ok (.pop, 1) := dl_672_g.2.2.2.1
theorem dl_678 : decode code 678 = .ok (.goto 452, 3) := dl_672_g.2.2.2.2.1
theorem dl_681 : decode code 681 = .ok (.aload_n 1, 1) := dl_672_g.2.2.2.2.2.1
theorem dl_682 : decode code 682 = .ok (.invokevirtual 97, 3) := dl_672_g.2.2.2.2.2.2.1
theorem dl_685 : decode code 685 = .ok (.pop, 1) := dl_672_g.2.2.2.2.2.2.2
theorem dl_686_g : (decode code 686 = .ok (.aload_n 2, 1)) ∧ (decode code 687 = .ok (.invokevirtual 100, 3)) ∧ (decode code 690 = .ok (.pop, 1)) ∧ (decode code 691 = .ok (.goto 439, 3)) ∧ (decode code 694 = .ok (.aload_n 1, 1)) ∧ (decode code 695 = .ok (.invokevirtual 101, 3)) ∧ (decode code 698 = .ok (.pop, 1)) ∧ (decode code 699 = .ok (.aload_n 2, 1)) := by decide +kernel
theorem dl_686 : decode code 686 = .ok (.aload_n 2, 1) := dl_686_g.1
theorem dl_687 : decode code 687 = .ok (.invokevirtual 100, 3) := dl_686_g.2.1
theorem dl_690 : decode code 690 = .ok (.pop, 1) := dl_686_g.2.2.1
theorem dl_691 : decode code 691 = .ok (.goto 439, 3) := dl_686_g.2.2.2.1
theorem dl_694 : decode code 694 = .ok (.aload_n 1, 1) := dl_686_g.2.2.2.2.1
theorem dl_695 : decode code 695 = .ok (.invokevirtual 101, 3) := dl_686_g.2.2.2.2.2.1
theorem dl_698 : decode code 698 = .ok (.pop, 1) := dl_686_g.2.2.2.2.2.2.1
theorem dl_699 : decode code 699 = .ok (.aload_n 2, 1) := dl_686_g.2.2.2.2.2.2.2
theorem dl_700_g : (decode code 700 = .ok (.invokevirtual 104, 3)) ∧ (decode code 703 = .ok (.pop, 1)) ∧ (decode code 704 = .ok (.goto 426, 3)) ∧ (decode code 707 = .ok (.aload_n 1, 1)) ∧ (decode code 708 = .ok (.aload_n 0, 1)) ∧ (decode code 709 = .ok (.iload_n 3, 1)) ∧ (decode code 710 = .ok (.iconst 1, 1)) ∧ (decode code 711 = .ok (.iadd, 1)) := by decide +kernel
theorem dl_700 : decode code 700 = .ok (.invokevirtual 104, 3) := dl_700_g.1
theorem dl_703 : decode code 703 = .ok (.pop, 1) := dl_700_g.2.1
theorem dl_704 : decode code 704 = .ok (.goto 426, 3) := dl_700_g.2.2.1
theorem dl_707 : decode code 707 = .ok (.aload_n 1, 1) := dl_700_g.2.2.2.1
theorem dl_708 : decode code 708 = .ok (.aload_n 0, 1) := dl_700_g.2.2.2.2.1
theorem dl_709 : decode code 709 = .ok (.iload_n 3, 1) := dl_700_g.2.2.2.2.2.1
theorem dl_710 : decode code 710 = .ok (.iconst 1, 1) := dl_700_g.2.2.2.2.2.2.1
theorem dl_711 : decode code 711 = .ok (.iadd, 1) := dl_700_g.2.2.2.2.2.2.2
theorem dl_712_g : (decode code 712 = .ok (.iaload, 1)) ∧ (decode code 713 = .ok (.invokevirtual 105, 3)) ∧ (decode code 716 = .ok (.pop, 1)) ∧ (decode code 717 = .ok (.aload_n 2, 1)) ∧ (decode code 718 = .ok (.aload_n 0, 1)) ∧ (decode code 719 = .ok (.iload_n 3, 1)) ∧ (decode code 720 = .ok (.iconst 1, 1)) ∧ (decode code 721 = .ok (.iadd, 1)) := by decide +kernel
theorem dl_712 : decode code 712 = .ok (.iaload, 1) := dl_712_g.1
theorem dl_713 : decode code 713 = .ok (.invokevirtual 105, 3) := dl_712_g.2.1
theorem dl_716 : decode code 716 = .ok (.pop, 1) := dl_712_g.2.2.1
theorem dl_717 : decode code 717 = .ok (.aload_n 2, 1) := dl_712_g.2.2.2.1
theorem dl_718 : decode code 718 = .ok (.aload_n 0, 1) := dl_712_g.2.2.2.2.1
theorem dl_719 : decode code 719 = .ok (.iload_n 3, 1) := dl_712_g.2.2.2.2.2.1
theorem dl_720 : decode code 720 = .ok (.iconst 1, 1) := dl_712_g.2.2.2.2.2.2.1
theorem dl_721 : decode code 721 = .ok (.iadd, 1) := dl_712_g.2.2.2.2.2.2.2
theorem dl_722_g : (decode code 722 = .ok (.iaload, 1)) ∧ (decode code 723 = .ok (.invokevirtual 108, 3)) ∧ (decode code 726 = .ok (.pop, 1)) ∧ (decode code 727 = .ok (.goto 403, 3)) ∧ (decode code 730 = .ok (.aload_n 1, 1)) ∧ (decode code 731 = .ok (.aload_n 0, 1)) ∧ (decode code 732 = .ok (.iload_n 3, 1)) ∧ (decode code 733 = .ok (.iconst 1, 1)) := by decide +kernel
theorem dl_722 : decode code 722 = .ok (.iaload, 1) := dl_722_g.1
theorem dl_723 : decode code 723 = .ok (.invokevirtual 108, 3) := dl_722_g.2.1
theorem dl_726 : decode code 726 = .ok (.pop, 1) := dl_722_g.2.2.1
theorem dl_727 : decode code 727 = .ok (.goto 403, 3) := dl_722_g.2.2.2.1
theorem dl_730 : decode code 730 = .ok (.aload_n 1, 1) := dl_722_g.2.2.2.2.1
theorem dl_731 : decode code 731 = .ok (.aload_n 0, 1) := dl_722_g.2.2.2.2.2.1
theorem dl_732 : decode code 732 = .ok (.iload_n 3, 1) := dl_722_g.2.2.2.2.2.2.1
theorem dl_733 : decode code 733 = .ok (.iconst 1, 1) := dl_722_g.2.2.2.2.2.2.2
theorem dl_734_g : (decode code 734 = .ok (.iadd, 1)) ∧ (decode code 735 = .ok (.iaload, 1)) ∧ (decode code 736 = .ok (.aload_n 0, 1)) ∧ (decode code 737 = .ok (.iload_n 3, 1)) ∧ (decode code 738 = .ok (.iconst 2, 1)) ∧ (decode code 739 = .ok (.iadd, 1)) ∧ (decode code 740 = .ok (.iaload, 1)) ∧ (decode code 741 = .ok (.aload_n 0, 1)) := by decide +kernel
theorem dl_734 : decode code 734 = .ok (.iadd, 1) := dl_734_g.1
theorem dl_735 : decode code 735 = .ok (.iaload, 1) := dl_734_g.2.1
theorem dl_736 : decode code 736 = .ok (.aload_n 0, 1) := dl_734_g.2.2.1
theorem dl_737 : decode code 737 = .ok (.iload_n 3, 1) := dl_734_g.2.2.2.1
theorem dl_738 : decode code 738 = .ok (.iconst 2, 1) := dl_734_g.2.2.2.2.1
theorem dl_739 : decode code 739 = .ok (.iadd, 1) := dl_734_g.2.2.2.2.2.1
theorem dl_740 : decode code 740 = .ok (.iaload, 1) := dl_734_g.2.2.2.2.2.2.1
theorem dl_741 : decode code 741 = .ok (.aload_n 0, 1) := dl_734_g.2.2.2.2.2.2.2
theorem dl_742_g : (decode code 742 = .ok (.iload_n 3, 1)) ∧ (decode code 743 = .ok (.iconst 3, 1)) ∧ (decode code 744 = .ok (.iadd, 1)) ∧ (decode code 745 = .ok (.iaload, 1)) ∧ (decode code 746 = .ok (.aload_n 0, 1)) ∧ (decode code 747 = .ok (.iload_n 3, 1)) ∧ (decode code 748 = .ok (.iconst 4, 1)) ∧ (decode code 749 = .ok (.iadd, 1)) := by decide +kernel
theorem dl_742 : decode code 742 = .ok (.iload_n 3, 1) := dl_742_g.1
theorem dl_743 : decode code 743 = .ok (.iconst 3, 1) := dl_742_g.2.1
theorem dl_744 : decode code 744 = .ok (.iadd, 1) := dl_742_g.2.2.1
theorem dl_745 : decode code 745 = .ok (.iaload, 1) := dl_742_g.2.2.2.1
theorem dl_746 : decode code 746 = .ok (.aload_n 0, 1) := dl_742_g.2.2.2.2.1
theorem dl_747 : decode code 747 = .ok (.iload_n 3, 1) := dl_742_g.2.2.2.2.2.1
theorem dl_748 : decode code 748 = .ok (.iconst 4, 1) := dl_742_g.2.2.2.2.2.2.1
theorem dl_749 : decode code 749 = .ok (.iadd, 1) := dl_742_g.2.2.2.2.2.2.2
theorem dl_750_g : (decode code 750 = .ok (.iaload, 1)) ∧ (decode code 751 = .ok (.aload_n 0, 1)) ∧ (decode code 752 = .ok (.iload_n 3, 1)) ∧ (decode code 753 = .ok (.iconst 5, 1)) ∧ (decode code 754 = .ok (.iadd, 1)) ∧ (decode code 755 = .ok (.iaload, 1)) ∧ (decode code 756 = .ok (.invokevirtual 109, 3)) ∧ (decode code 759 = .ok (.pop, 1)) := by decide +kernel
theorem dl_750 : decode code 750 = .ok (.iaload, 1) := dl_750_g.1
theorem dl_751 : decode code 751 = .ok (.aload_n 0, 1) := dl_750_g.2.1
theorem dl_752 : decode code 752 = .ok (.iload_n 3, 1) := dl_750_g.2.2.1
theorem dl_753 : decode code 753 = .ok (.iconst 5, 1) := dl_750_g.2.2.2.1
theorem dl_754 : decode code 754 = .ok (.iadd, 1) := dl_750_g.2.2.2.2.1
theorem dl_755 : decode code 755 = .ok (.iaload, 1) := dl_750_g.2.2.2.2.2.1
theorem dl_756 : decode code 756 = .ok (.invokevirtual 109, 3) := dl_750_g.2.2.2.2.2.2.1
theorem dl_759 : decode code 759 = .ok (.pop, 1) := dl_750_g.2.2.2.2.2.2.2
theorem dl_760_g : (decode code 760 = .ok (.aload_n 2, 1)) ∧ (decode code 761 = .ok (.aload_n 0, 1)) ∧ (decode code 762 = .ok (.iload_n 3, 1)) ∧ (decode code 763 = .ok (.iconst 1, 1)) ∧ (decode code 764 = .ok (.iadd, 1)) ∧ (decode code 765 = .ok (.iaload, 1)) ∧ (decode code 766 = .ok (.aload_n 0, 1)) ∧ (decode code 767 = .ok (.iload_n 3, 1)) := by decide +kernel
theorem dl_760 : decode code 760 = .ok (.aload_n 2, 1) := dl_760_g.1
theorem dl_761 : decode code 761 = .ok (.aload_n 0, 1) := dl_760_g.2.1
theorem dl_762 : decode code 762 = .ok (.iload_n 3, 1) := dl_760_g.2.2.1
theorem dl_763 : decode code 763 = .ok (.iconst 1, 1) := dl_760_g.2.2.2.1
theorem dl_764 : decode code 764 = .ok (.iadd, 1) := dl_760_g.2.2.2.2.1
theorem dl_765 : decode code 765 = .ok (.iaload, 1) := dl_760_g.2.2.2.2.2.1
theorem dl_766 : decode code 766 = .ok (.aload_n 0, 1) := dl_760_g.2.2.2.2.2.2.1
theorem dl_767 : decode code 767 = .ok (.iload_n 3, 1) := dl_760_g.2.2.2.2.2.2.2
theorem dl_768_g : (decode code 768 = .ok (.iconst 2, 1)) ∧ (decode code 769 = .ok (.iadd, 1)) ∧ (decode code 770 = .ok (.iaload, 1)) ∧ (decode code 771 = .ok (.aload_n 0, 1)) ∧ (decode code 772 = .ok (.iload_n 3, 1)) ∧ (decode code 773 = .ok (.iconst 3, 1)) ∧ (decode code 774 = .ok (.iadd, 1)) ∧ (decode code 775 = .ok (.iaload, 1)) := by decide +kernel
theorem dl_768 : decode code 768 = .ok (.iconst 2, 1) := dl_768_g.1
theorem dl_769 : decode code 769 = .ok (.iadd, 1) := dl_768_g.2.1
theorem dl_770 : decode code 770 = .ok (.iaload, 1) := dl_768_g.2.2.1
theorem dl_771 : decode code 771 = .ok (.aload_n 0, 1) := dl_768_g.2.2.2.1
theorem dl_772 : decode code 772 = .ok (.iload_n 3, 1) := dl_768_g.2.2.2.2.1
theorem dl_773 : decode code 773 = .ok (.iconst 3, 1) := dl_768_g.2.2.2.2.2.1
theorem dl_774 : decode code 774 = .ok (.iadd, 1) := dl_768_g.2.2.2.2.2.2.1
theorem dl_775 : decode code 775 = .ok (.iaload, 1) := dl_768_g.2.2.2.2.2.2.2
theorem dl_776_g : (decode code 776 = .ok (.aload_n 0, 1)) ∧ (decode code 777 = .ok (.iload_n 3, 1)) ∧ (decode code 778 = .ok (.iconst 4, 1)) ∧ (decode code 779 = .ok (.iadd, 1)) ∧ (decode code 780 = .ok (.iaload, 1)) ∧ (decode code 781 = .ok (.aload_n 0, 1)) ∧ (decode code 782 = .ok (.iload_n 3, 1)) ∧ (decode code 783 = .ok (.iconst 5, 1)) := by decide +kernel
theorem dl_776 : decode code 776 = .ok (.aload_n 0, 1) := dl_776_g.1
theorem dl_777 : decode code 777 = .ok (.iload_n 3, 1) := dl_776_g.2.1
theorem dl_778 : decode code 778 = .ok (.iconst 4, 1) := dl_776_g.2.2.1
theorem dl_779 : decode code 779 = .ok (.iadd, 1) := dl_776_g.2.2.2.1
theorem dl_780 : decode code 780 = .ok (.iaload, 1) := dl_776_g.2.2.2.2.1
theorem dl_781 : decode code 781 = .ok (.aload_n 0, 1) := dl_776_g.2.2.2.2.2.1
theorem dl_782 : decode code 782 = .ok (.iload_n 3, 1) := dl_776_g.2.2.2.2.2.2.1
theorem dl_783 : decode code 783 = .ok (.iconst 5, 1) := dl_776_g.2.2.2.2.2.2.2
theorem dl_784_g : (decode code 784 = .ok (.iadd, 1)) ∧ (decode code 785 = .ok (.iaload, 1)) ∧ (decode code 786 = .ok (.invokevirtual 113, 3)) ∧ (decode code 789 = .ok (.pop, 1)) ∧ (decode code 790 = .ok (.goto 340, 3)) ∧ (decode code 793 = .ok (.aload_n 1, 1)) ∧ (decode code 794 = .ok (.invokevirtual 114, 3)) ∧ (decode code 797 = .ok (.pop, 1)) := by decide +kernel
theorem dl_784 : decode code 784 = .ok (.iadd, 1) := dl_784_g.1
theorem dl_785 : decode code 785 = .ok (.iaload, 1) := dl_784_g.2.1
theorem dl_786 : decode code 786 = .ok (.invokevirtual 113, 3) := dl_784_g.2.2.1
theorem dl_789 : decode code 789 = .ok (.pop, 1) := dl_784_g.2.2.2.1
theorem dl_790 : decode code 790 = .ok (.goto 340, 3) := dl_784_g.2.2.2.2.1
theorem dl_793 : decode code 793 = .ok (.aload_n 1, 1) := dl_784_g.2.2.2.2.2.1
theorem dl_794 : decode code 794 = .ok (.invokevirtual 114, 3) := dl_784_g.2.2.2.2.2.2.1
theorem dl_797 : decode code 797 = .ok (.pop, 1) := dl_784_g.2.2.2.2.2.2.2
