theorem dl_798_g : (decode code 798 = .ok (.aload_n 2, 1)) ∧ (decode code 799 = .ok (.invokevirtual 117, 3)) ∧ (decode code 802 = .ok (.pop, 1)) ∧ (decode code 803 = .ok (.goto 327, 3)) ∧ (decode code 806 = .ok (.aload_n 1, 1)) ∧ (decode code 807 = .ok (.invokevirtual 118, 3)) ∧ (decode code 810 = .ok (.pop, 1)) ∧ (decode code 811 = .ok (.aload_n 2, 1)) := by decide +kernel
theorem dl_798 : decode code 798 = .ok (.aload_n 2, 1) := dl_798_g.1
theorem dl_799 : decode code 799 = .ok (.invokevirtual 117, 3) := dl_798_g.2.1
theorem dl_802 : decode code 802 = .ok (.pop, 1) := dl_798_g.2.2.1
theorem dl_803 : decode code 803 = .ok (.goto 327, 3) := dl_798_g.2.2.2.1
theorem dl_806 : decode code 806 = .ok (.aload_n 1, 1) := dl_798_g.2.2.2.2.1
theorem dl_807 : decode code 807 = .ok (.invokevirtual 118, 3) := dl_798_g.2.2.2.2.2.1
theorem dl_810 : decode code 810 = .ok (.pop, 1) := dl_798_g.2.2.2.2.2.2.1
theorem dl_811 : decode code 811 = .ok (.aload_n 2, 1) := dl_798_g.2.2.2.2.2.2.2
theorem dl_812_g : (decode code 812 = .ok (.invokevirtual 121, 3)) ∧ (decode code 815 = .ok (.pop, 1)) ∧ (decode code 816 = .ok (.goto 314, 3)) ∧ (decode code 819 = .ok (.aload_n 1, 1)) ∧ (decode code 820 = .ok (.aload_n 0, 1)) ∧ (decode code 821 = .ok (.iload_n 3, 1)) ∧ (decode code 822 = .ok (.iconst 1, 1)) ∧ (decode code 823 = .ok (.iadd, 1)) := by decide +kernel
theorem dl_812 : decode code 812 = .ok (.invokevirtual 121, 3) := dl_812_g.1
theorem dl_815 : decode code 815 = .ok (.pop, 1) := dl_812_g.2.1
theorem dl_816 : decode code 816 = .ok (.goto 314, 3) := dl_812_g.2.2.1
theorem dl_819 : decode code 819 = .ok (.aload_n 1, 1) := dl_812_g.2.2.2.1
theorem dl_820 : decode code 820 = .ok (.aload_n 0, 1) := dl_812_g.2.2.2.2.1
theorem dl_821 : decode code 821 = .ok (.iload_n 3, 1) := dl_812_g.2.2.2.2.2.1
theorem dl_822 : decode code 822 = .ok (.iconst 1, 1) := dl_812_g.2.2.2.2.2.2.1
theorem dl_823 : decode code 823 = .ok (.iadd, 1) := dl_812_g.2.2.2.2.2.2.2
theorem dl_824_g : (decode code 824 = .ok (.iaload, 1)) ∧ (decode code 825 = .ok (.aload_n 0, 1)) ∧ (decode code 826 = .ok (.iload_n 3, 1)) ∧ (decode code 827 = .ok (.iconst 2, 1)) ∧ (decode code 828 = .ok (.iadd, 1)) ∧ (decode code 829 = .ok (.iaload, 1)) ∧ (decode code 830 = .ok (.aload_n 0, 1)) ∧ (decode code 831 = .ok (.iload_n 3, 1)) := by decide +kernel
theorem dl_824 : decode code 824 = .ok (.iaload, 1) := dl_824_g.1
theorem dl_825 : decode code 825 = .ok (.aload_n 0, 1) := dl_824_g.2.1
theorem dl_826 : decode code 826 = .ok (.iload_n 3, 1) := dl_824_g.2.2.1
theorem dl_827 : decode code 827 = .ok (.iconst 2, 1) := dl_824_g.2.2.2.1
theorem dl_828 : decode code 828 = .ok (.iadd, 1) := dl_824_g.2.2.2.2.1
theorem dl_829 : decode code 829 = .ok (.iaload, 1) := dl_824_g.2.2.2.2.2.1
theorem dl_830 : decode code 830 = .ok (.aload_n 0, 1) := dl_824_g.2.2.2.2.2.2.1
theorem dl_831 : decode code 831 = .ok (.iload_n 3, 1) := dl_824_g.2.2.2.2.2.2.2
theorem dl_832_g : (decode code 832 = .ok (.iconst 3, 1)) ∧ (decode code 833 = .ok (.iadd, 1)) ∧ (decode code 834 = .ok (.iaload, 1)) ∧ (decode code 835 = .ok (.invokevirtual 122, 3)) ∧ (decode code 838 = .ok (.pop, 1)) ∧ (decode code 839 = .ok (.aload_n 2, 1)) ∧ (decode code 840 = .ok (.aload_n 0, 1)) ∧ (decode code 841 = .ok (.iload_n 3, 1)) := by decide +kernel
theorem dl_832 : decode code 832 = .ok (.iconst 3, 1) := dl_832_g.1
theorem dl_833 : decode code 833 = .ok (.iadd, 1) := dl_832_g.2.1
theorem dl_834 : decode code 834 = .ok (.iaload, 1) := dl_832_g.2.2.1
theorem dl_835 : decode code 835 = .ok (.invokevirtual 122, 3) := dl_832_g.2.2.2.1
theorem dl_838 : decode code 838 = .ok (.pop, 1) := dl_832_g.2.2.2.2.1
theorem dl_839 : decode code 839 = .ok (.aload_n 2, 1) := dl_832_g.2.2.2.2.2.1
theorem dl_840 : decode code 840 = .ok (.aload_n 0, 1) := dl_832_g.2.2.2.2.2.2.1
theorem dl_841 : decode code 841 = .ok (.iload_n 3, 1) := dl_832_g.2.2.2.2.2.2.2
theorem dl_842_g : (decode code 842 = .ok (.iconst 1, 1)) ∧ (decode code 843 = .ok (.iadd, 1)) ∧ (decode code 844 = .ok (.iaload, 1)) ∧ (decode code 845 = .ok (.aload_n 0, 1)) ∧ (decode code 846 = .ok (.iload_n 3, 1)) ∧ (decode code 847 = .ok (.iconst 2, 1)) ∧ (decode code 848 = .ok (.iadd, 1)) ∧ (decode code 849 = .ok (.iaload, 1)) := by decide +kernel
theorem dl_842 : decode code 842 = .ok (.iconst 1, 1) := dl_842_g.1
theorem dl_843 : decode code 843 = .ok (.iadd, 1) := dl_842_g.2.1
theorem dl_844 : decode code 844 = .ok (.iaload, 1) := dl_842_g.2.2.1
theorem dl_845 : decode code 845 = .ok (.aload_n 0, 1) := dl_842_g.2.2.2.1
theorem dl_846 : decode code 846 = .ok (.iload_n 3, 1) := dl_842_g.2.2.2.2.1
theorem dl_847 : decode code 847 = .ok (.iconst 2, 1) := dl_842_g.2.2.2.2.2.1
theorem dl_848 : decode code 848 = .ok (.iadd, 1) := dl_842_g.2.2.2.2.2.2.1
theorem dl_849 : decode code 849 = .ok (.iaload, 1) := dl_842_g.2.2.2.2.2.2.2
theorem dl_850_g : (decode code 850 = .ok (.aload_n 0, 1)) ∧ (decode code 851 = .ok (.iload_n 3, 1)) ∧ (decode code 852 = .ok (.iconst 3, 1)) ∧ (decode code 853 = .ok (.iadd, 1)) ∧ (decode code 854 = .ok (.iaload, 1)) ∧ (decode code 855 = .ok (.invokevirtual 126, 3)) ∧ (decode code 858 = .ok (.pop, 1)) ∧ (decode code 859 = .ok (.goto 271, 3)) := by decide +kernel
theorem dl_850 : decode code 850 = .ok (.aload_n 0, 1) := dl_850_g.1
theorem dl_851 : decode code 851 = .ok (.iload_n 3, 1) := dl_850_g.2.1
theorem dl_852 : decode code 852 = .ok (.iconst 3, 1) := dl_850_g.2.2.1
theorem dl_853 : decode code 853 = .ok (.iadd, 1) := dl_850_g.2.2.2.1
theorem dl_854 : decode code 854 = .ok (.iaload, 1) := dl_850_g.2.2.2.2.1
theorem dl_855 : decode code 855 = .ok (.invokevirtual 126, 3) := dl_850_g.2.2.2.2.2.1
theorem dl_858 : decode code 858 = .ok (.pop, 1) := dl_850_g.2.2.2.2.2.2.1
theorem dl_859 : decode code 859 = .ok (.goto 271, 3) := dl_850_g.2.2.2.2.2.2.2
theorem dl_862_g : (decode code 862 = .ok (.aload_n 1, 1)) ∧ (decode code 863 = .ok (.aload_n 0, 1)) ∧ (decode code 864 = .ok (.iload_n 3, 1)) ∧ (decode code 865 = .ok (.iconst 1, 1)) ∧ (decode code 866 = .ok (.iadd, 1)) ∧ (decode code 867 = .ok (.iaload, 1)) ∧ (decode code 868 = .ok (.aload_n 0, 1)) ∧ (decode code 869 = .ok (.iload_n 3, 1)) := by decide +kernel
theorem dl_862 : decode code 862 = .ok (.aload_n 1, 1) := dl_862_g.1
theorem dl_863 : decode code 863 = .ok (.aload_n 0, 1) := dl_862_g.2.1
theorem dl_864 : decode code 864 = .ok (.iload_n 3, 1) := dl_862_g.2.2.1
theorem dl_865 : decode code 865 = .ok (.iconst 1, 1) := dl_862_g.2.2.2.1
theorem dl_866 : decode code 866 = .ok (.iadd, 1) := dl_862_g.2.2.2.2.1
theorem dl_867 : decode code 867 = .ok (.iaload, 1) := dl_862_g.2.2.2.2.2.1
theorem dl_868 : decode code 868 = .ok (.aload_n 0, 1) := dl_862_g.2.2.2.2.2.2.1
theorem dl_869 : decode code 869 = .ok (.iload_n 3, 1) := dl_862_g.2.2.2.2.2.2.2
theorem dl_870_g : (decode code 870 = .ok (.iconst 2, 1)) ∧ (decode code 871 = .ok (.iadd, 1)) ∧ (decode code 872 = .ok (.iaload, 1)) ∧ (decode code 873 = .ok (.aload_n 0, 1)) ∧ (decode code 874 = .ok (.iload_n 3, 1)) ∧ (decode code 875 = .ok (.iconst 3, 1)) ∧ (decode code 876 = .ok (.iadd, 1)) ∧ (decode code 877 = .ok (.iaload, 1)) := by decide +kernel
theorem dl_870 : decode code 870 = .ok (.iconst 2, 1) := dl_870_g.1
theorem dl_871 : decode code 871 = .ok (.iadd, 1) := dl_870_g.2.1
theorem dl_872 : decode code 872 = .ok (.iaload, 1) := dl_870_g.2.2.1
theorem dl_873 : decode code 873 = .ok (.aload_n 0, 1) := dl_870_g.2.2.2.1
theorem dl_874 : decode code 874 = .ok (.iload_n 3, 1) := dl_870_g.2.2.2.2.1
theorem dl_875 : decode code 875 = .ok (.iconst 3, 1) := dl_870_g.2.2.2.2.2.1
theorem dl_876 : decode code 876 = .ok (.iadd, 1) := dl_870_g.2.2.2.2.2.2.1
theorem dl_877 : decode code 877 = .ok (.iaload, 1) := dl_870_g.2.2.2.2.2.2.2
theorem dl_878_g : (decode code 878 = .ok (.aload_n 0, 1)) ∧ (decode code 879 = .ok (.iload_n 3, 1)) ∧ (decode code 880 = .ok (.iconst 4, 1)) ∧ (decode code 881 = .ok (.iadd, 1)) ∧ (decode code 882 = .ok (.iaload, 1)) ∧ (decode code 883 = .ok (.aload_n 0, 1)) ∧ (decode code 884 = .ok (.iload_n 3, 1)) ∧ (decode code 885 = .ok (.iconst 5, 1)) := by decide +kernel
theorem dl_878 : decode code 878 = .ok (.aload_n 0, 1) := dl_878_g.1
theorem dl_879 : decode code 879 = .ok (.iload_n 3, 1) := dl_878_g.2.1
theorem dl_880 : decode code 880 = .ok (.iconst 4, 1) := dl_878_g.2.2.1
theorem dl_881 : decode code 881 = .ok (.iadd, 1) := dl_878_g.2.2.2.1
theorem dl_882 : decode code 882 = .ok (.iaload, 1) := dl_878_g.2.2.2.2.1
theorem dl_883 : decode code 883 = .ok (.aload_n 0, 1) := dl_878_g.2.2.2.2.2.1
theorem dl_884 : decode code 884 = .ok (.iload_n 3, 1) := dl_878_g.2.2.2.2.2.2.1
theorem dl_885 : decode code 885 = .ok (.iconst 5, 1) := dl_878_g.2.2.2.2.2.2.2
theorem dl_886_g : (decode code 886 = .ok (.iadd, 1)) ∧ (decode code 887 = .ok (.iaload, 1)) ∧ (decode code 888 = .ok (.aload_n 0, 1)) ∧ (decode code 889 = .ok (.iload_n 3, 1)) ∧ (decode code 890 = .ok (.bipush 6, 2)) ∧ (decode code 892 = .ok (.iadd, 1)) ∧ (decode code 893 = .ok (.iaload, 1)) ∧ (decode code 894 = .ok (.aload_n 0, 1)) := by decide +kernel
theorem dl_886 : decode code 886 = .ok (.iadd, 1) := dl_886_g.1
theorem dl_887 : decode code 887 = .ok (.iaload, 1) := dl_886_g.2.1
theorem dl_888 : decode code 888 = .ok (.aload_n 0, 1) := dl_886_g.2.2.1
theorem dl_889 : decode code 889 = .ok (.iload_n 3, 1) := dl_886_g.2.2.2.1
theorem dl_890 : decode code 890 = .ok (.bipush 6, 2) := dl_886_g.2.2.2.2.1
theorem dl_892 : decode code 892 = .ok (.iadd, 1) := dl_886_g.2.2.2.2.2.1
theorem dl_893 : decode code 893 = .ok (.iaload, 1) := dl_886_g.2.2.2.2.2.2.1
theorem dl_894 : decode code 894 = .ok (.aload_n 0, 1) := dl_886_g.2.2.2.2.2.2.2
theorem dl_895_g : (decode code 895 = .ok (.iload_n 3, 1)) ∧ (decode code 896 = .ok (.bipush 7, 2)) ∧ (decode code 898 = .ok (.iadd, 1)) ∧ (decode code 899 = .ok (.iaload, 1)) ∧ (decode code 900 = .ok (.aload_n 0, 1)) ∧ (decode code 901 = .ok (.iload_n 3, 1)) ∧ (decode code 902 = .ok (.bipush 8, 2)) ∧ (decode code 904 = .ok (.iadd, 1)) := by decide +kernel
theorem dl_895 : decode code 895 = .ok (.iload_n 3, 1) := dl_895_g.1
theorem dl_896 : decode code 896 = .ok (.bipush 7, 2) := dl_895_g.2.1
theorem dl_898 : decode code 898 = .ok (.iadd, 1) := dl_895_g.2.2.1
theorem dl_899 : decode code 899 = .ok (.iaload, 1) := dl_895_g.2.2.2.1
theorem dl_900 : decode code 900 = .ok (.aload_n 0, 1) := dl_895_g.2.2.2.2.1
theorem dl_901 : decode code 901 = .ok (.iload_n 3, 1) := dl_895_g.2.2.2.2.2.1
theorem dl_902 : decode code 902 = .ok (.bipush 8, 2) := dl_895_g.2.2.2.2.2.2.1
theorem dl_904 : decode code 904 = .ok (.iadd, 1) := dl_895_g.2.2.2.2.2.2.2
theorem dl_905_g : (decode code 905 = .ok (.iaload, 1)) ∧ (decode code 906 = .ok (.invokevirtual 127, 3)) ∧ (decode code 909 = .ok (.pop, 1)) ∧ (decode code 910 = .ok (.aload_n 2, 1)) ∧ (decode code 911 = .ok (.aload_n 0, 1)) ∧ (decode code 912 = .ok (.iload_n 3, 1)) ∧ (decode code 913 = .ok (.iconst 1, 1)) ∧ (decode code 914 = .ok (.iadd, 1)) := by decide +kernel
theorem dl_905 : decode code 905 = .ok (.iaload, 1) := dl_905_g.1
theorem dl_906 : decode code 906 = .ok (.invokevirtual 127, 3) := dl_905_g.2.1
theorem dl_909 : decode code 909 = .ok (.pop, 1) := dl_905_g.2.2.1
theorem dl_910 : decode code 910 = .ok (.aload_n 2, 1) := dl_905_g.2.2.2.1
theorem dl_911 : decode code 911 = .ok (.aload_n 0, 1) := dl_905_g.2.2.2.2.1
theorem dl_912 : decode code 912 = .ok (.iload_n 3, 1) := dl_905_g.2.2.2.2.2.1
theorem dl_913 : decode code 913 = .ok (.iconst 1, 1) := dl_905_g.2.2.2.2.2.2.1
theorem dl_914 : decode code 914 = .ok (.iadd, 1) := dl_905_g.2.2.2.2.2.2.2
theorem dl_915_g : (decode code 915 = .ok (.iaload, 1)) ∧ (decode code 916 = .ok (.aload_n 0, 1)) ∧ (decode code 917 = .ok (.iload_n 3, 1)) ∧ (decode code 918 = .ok (.iconst 2, 1)) ∧ (decode code 919 = .ok (.iadd, 1)) ∧ (decode code 920 = .ok (.iaload, 1)) ∧ (decode code 921 = .ok (.aload_n 0, 1)) ∧ (decode code 922 = .ok (.iload_n 3, 1)) := by decide +kernel
theorem dl_915 : decode code 915 = .ok (.iaload, 1) := dl_915_g.1
theorem dl_916 : decode code 916 = .ok (.aload_n 0, 1) := dl_915_g.2.1
theorem dl_917 : decode code 917 = .ok (.iload_n 3, 1) := dl_915_g.2.2.1
theorem dl_918 : decode code 918 = .ok (.iconst 2, 1) := dl_915_g.2.2.2.1
theorem dl_919 : decode code 919 = .ok (.iadd, 1) := dl_915_g.2.2.2.2.1
theorem dl_920 : decode code 920 = .ok (.iaload, 1) := dl_915_g.2.2.2.2.2.1
theorem dl_921 : decode code 921 = .ok (.aload_n 0, 1) := dl_915_g.2.2.2.2.2.2.1
theorem dl_922 : decode code 922 = .ok (.iload_n 3, 1) := dl_915_g.2.2.2.2.2.2.2
theorem dl_923_g : (decode code 923 = .ok (.iconst 3, 1)) ∧ (decode code 924 = .ok (.iadd, 1)) ∧ (decode code 925 = .ok (.iaload, 1)) ∧ (decode code 926 = .ok (.aload_n 0, 1)) ∧ (decode code 927 = .ok (.iload_n 3, 1)) ∧ (decode code 928 = .ok (.iconst 4, 1)) ∧ (decode code 929 = .ok (.iadd, 1)) ∧ (decode code 930 = .ok (.iaload, 1)) := by decide +kernel
theorem dl_923 : decode code 923 = .ok (.iconst 3, 1) := dl_923_g.1
theorem dl_924 : decode code 924 = .ok (.iadd, 1) := dl_923_g.2.1
theorem dl_925 : decode code 925 = .ok (.iaload, 1) := dl_923_g.2.2.1
theorem dl_926 : decode code 926 = .ok (.aload_n 0, 1) := dl_923_g.2.2.2.1
theorem dl_927 : decode code 927 = .ok (.iload_n 3, 1) := dl_923_g.2.2.2.2.1
theorem dl_928 : decode code 928 = .ok (.iconst 4, 1) := dl_923_g.2.2.2.2.2.1
theorem dl_929 : decode code 929 = .ok (.iadd, 1) := dl_923_g.2.2.2.2.2.2.1
theorem dl_930 : decode code 930 = .ok (.iaload, 1) := dl_923_g.2.2.2.2.2.2.2
theorem dl_931_g : (decode code 931 = .ok (.aload_n 0, 1)) ∧ (decode code 932 = .ok (.iload_n 3, 1)) ∧ (decode code 933 = .ok (.iconst 5, 1)) ∧ (decode code 934 = .ok (.iadd, 1)) ∧ (decode code 935 = .ok (.iaload, 1)) ∧ (decode code 936 = .ok (.aload_n 0, 1)) ∧ (decode code 937 = .ok (.iload_n 3, 1)) ∧ (decode code 938 = .ok (.bipush 6, 2)) := by decide +kernel
theorem dl_931 : decode code 931 = .ok (.aload_n 0, 1) := dl_931_g.1
theorem dl_932 : decode code 932 = .ok (.iload_n 3, 1) := dl_931_g.2.1
theorem dl_933 : decode code 933 = .ok (.iconst 5, 1) := dl_931_g.2.2.1
theorem dl_934 : decode code 934 = .ok (.iadd, 1) := dl_931_g.2.2.2.1
theorem dl_935 : decode code 935 = .ok (.iaload, 1) := dl_931_g.2.2.2.2.1
theorem dl_936 : decode code 936 = .ok (.aload_n 0, 1) := dl_931_g.2.2.2.2.2.1
theorem dl_937 : decode code 937 = .ok (.iload_n 3, 1) := dl_931_g.2.2.2.2.2.2.1
theorem dl_938 : decode code 938 = .ok (.bipush 6, 2) := dl_931_g.2.2.2.2.2.2.2
