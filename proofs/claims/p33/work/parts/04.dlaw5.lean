theorem dl_940_g : (decode code 940 = .ok (.iadd, 1)) ∧ (decode code 941 = .ok (.iaload, 1)) ∧ (decode code 942 = .ok (.aload_n 0, 1)) ∧ (decode code 943 = .ok (.iload_n 3, 1)) ∧ (decode code 944 = .ok (.bipush 7, 2)) ∧ (decode code 946 = .ok (.iadd, 1)) ∧ (decode code 947 = .ok (.iaload, 1)) ∧ (decode code 948 = .ok (.aload_n 0, 1)) := by decide +kernel
theorem dl_940 : decode code 940 = .ok (.iadd, 1) := dl_940_g.1
theorem dl_941 : decode code 941 = .ok (.iaload, 1) := dl_940_g.2.1
theorem dl_942 : decode code 942 = .ok (.aload_n 0, 1) := dl_940_g.2.2.1
theorem dl_943 : decode code 943 = .ok (.iload_n 3, 1) := dl_940_g.2.2.2.1
theorem dl_944 : decode code 944 = .ok (.bipush 7, 2) := dl_940_g.2.2.2.2.1
theorem dl_946 : decode code 946 = .ok (.iadd, 1) := dl_940_g.2.2.2.2.2.1
theorem dl_947 : decode code 947 = .ok (.iaload, 1) := dl_940_g.2.2.2.2.2.2.1
theorem dl_948 : decode code 948 = .ok (.aload_n 0, 1) := dl_940_g.2.2.2.2.2.2.2
theorem dl_949_g : (decode code 949 = .ok (.iload_n 3, 1)) ∧ (decode code 950 = .ok (.bipush 8, 2)) ∧ (decode code 952 = .ok (.iadd, 1)) ∧ (decode code 953 = .ok (.iaload, 1)) ∧ (decode code 954 = .ok (.invokevirtual 131, 3)) ∧ (decode code 957 = .ok (.pop, 1)) ∧ (decode code 958 = .ok (.goto 172, 3)) ∧ (decode code 961 = .ok (.aload_n 1, 1)) := by decide +kernel
theorem dl_949 : decode code 949 = .ok (.iload_n 3, 1) := dl_949_g.1
theorem dl_950 : decode code 950 = .ok (.bipush 8, 2) := dl_949_g.2.1
theorem dl_952 : decode code 952 = .ok (.iadd, 1) := dl_949_g.2.2.1
theorem dl_953 : decode code 953 = .ok (.iaload, 1) := dl_949_g.2.2.2.1
theorem dl_954 : decode code 954 = .ok (.invokevirtual 131, 3) := dl_949_g.2.2.2.2.1
theorem dl_957 : decode code 957 = .ok (.pop, 1) := dl_949_g.2.2.2.2.2.1
theorem dl_958 : decode code 958 = .ok (.goto 172, 3) := dl_949_g.2.2.2.2.2.2.1
theorem dl_961 : decode code 961 = .ok (.aload_n 1, 1) := dl_949_g.2.2.2.2.2.2.2
theorem dl_962_g : (decode code 962 = .ok (.aload_n 0, 1)) ∧ (decode code 963 = .ok (.iload_n 3, 1)) ∧ (decode code 964 = .ok (.iconst 1, 1)) ∧ (decode code 965 = .ok (.iadd, 1)) ∧ (decode code 966 = .ok (.iaload, 1)) ∧ (decode code 967 = .ok (.aload_n 0, 1)) ∧ (decode code 968 = .ok (.iload_n 3, 1)) ∧ (decode code 969 = .ok (.iconst 2, 1)) := by decide +kernel
theorem dl_962 : decode code 962 = .ok (.aload_n 0, 1) := dl_962_g.1
theorem dl_963 : decode code 963 = .ok (.iload_n 3, 1) := dl_962_g.2.1
theorem dl_964 : decode code 964 = .ok (.iconst 1, 1) := dl_962_g.2.2.1
theorem dl_965 : decode code 965 = .ok (.iadd, 1) := dl_962_g.2.2.2.1
theorem dl_966 : decode code 966 = .ok (.iaload, 1) := dl_962_g.2.2.2.2.1
theorem dl_967 : decode code 967 = .ok (.aload_n 0, 1) := dl_962_g.2.2.2.2.2.1
theorem dl_968 : decode code 968 = .ok (.iload_n 3, 1) := dl_962_g.2.2.2.2.2.2.1
theorem dl_969 : decode code 969 = .ok (.iconst 2, 1) := dl_962_g.2.2.2.2.2.2.2
theorem dl_970_g : (decode code 970 = .ok (.iadd, 1)) ∧ (decode code 971 = .ok (.iaload, 1)) ∧ (decode code 972 = .ok (.invokevirtual 132, 3)) ∧ (decode code 975 = .ok (.pop2, 1)) ∧ (decode code 976 = .ok (.aload_n 2, 1)) ∧ (decode code 977 = .ok (.aload_n 0, 1)) ∧ (decode code 978 = .ok (.iload_n 3, 1)) ∧ (decode code 979 = .ok (.iconst 1, 1)) := by decide +kernel
theorem dl_970 : decode code 970 = .ok (.iadd, 1) := dl_970_g.1
theorem dl_971 : decode code 971 = .ok (.iaload, 1) := dl_970_g.2.1
theorem dl_972 : decode code 972 = .ok (.invokevirtual 132, 3) := dl_970_g.2.2.1
theorem dl_975 : decode code 975 = .ok (.pop2, 1) := dl_970_g.2.2.2.1
theorem dl_976 : decode code 976 = .ok (.aload_n 2, 1) := dl_970_g.2.2.2.2.1
theorem dl_977 : decode code 977 = .ok (.aload_n 0, 1) := dl_970_g.2.2.2.2.2.1
theorem dl_978 : decode code 978 = .ok (.iload_n 3, 1) := dl_970_g.2.2.2.2.2.2.1
theorem dl_979 : decode code 979 = .ok (.iconst 1, 1) := dl_970_g.2.2.2.2.2.2.2
theorem dl_980_g : (decode code 980 = .ok (.iadd, 1)) ∧ (decode code 981 = .ok (.iaload, 1)) ∧ (decode code 982 = .ok (.aload_n 0, 1)) ∧ (decode code 983 = .ok (.iload_n 3, 1)) ∧ (decode code 984 = .ok (.iconst 2, 1)) ∧ (decode code 985 = .ok (.iadd, 1)) ∧ (decode code 986 = .ok (.iaload, 1)) ∧ (decode code 987 = .ok (.invokevirtual 136, 3)) := by decide +kernel
theorem dl_980 : decode code 980 = .ok (.iadd, 1) := dl_980_g.1
theorem dl_981 : decode code 981 = .ok (.iaload, 1) := dl_980_g.2.1
theorem dl_982 : decode code 982 = .ok (.aload_n 0, 1) := dl_980_g.2.2.1
theorem dl_983 : decode code 983 = .ok (.iload_n 3, 1) := dl_980_g.2.2.2.1
theorem dl_984 : decode code 984 = .ok (.iconst 2, 1) := dl_980_g.2.2.2.2.1
theorem dl_985 : decode code 985 = .ok (.iadd, 1) := dl_980_g.2.2.2.2.2.1
theorem dl_986 : decode code 986 = .ok (.iaload, 1) := dl_980_g.2.2.2.2.2.2.1
theorem dl_987 : decode code 987 = .ok (.invokevirtual 136, 3) := dl_980_g.2.2.2.2.2.2.2
theorem dl_990_g : (decode code 990 = .ok (.pop2, 1)) ∧ (decode code 991 = .ok (.goto 139, 3)) ∧ (decode code 994 = .ok (.aload_n 1, 1)) ∧ (decode code 995 = .ok (.aload_n 0, 1)) ∧ (decode code 996 = .ok (.iload_n 3, 1)) ∧ (decode code 997 = .ok (.iconst 1, 1)) ∧ (decode code 998 = .ok (.iadd, 1)) ∧ (decode code 999 = .ok (.iaload, 1)) := by decide +kernel
theorem dl_990 : decode code 990 = .ok (.pop2, 1) := dl_990_g.1
theorem dl_991 : decode code 991 = .ok (.goto 139, 3) := dl_990_g.2.1
theorem dl_994 : decode code 994 = .ok (.aload_n 1, 1) := dl_990_g.2.2.1
theorem dl_995 : decode code 995 = .ok (.aload_n 0, 1) := dl_990_g.2.2.2.1
theorem dl_996 : decode code 996 = .ok (.iload_n 3, 1) := dl_990_g.2.2.2.2.1
theorem dl_997 : decode code 997 = .ok (.iconst 1, 1) := dl_990_g.2.2.2.2.2.1
theorem dl_998 : decode code 998 = .ok (.iadd, 1) := dl_990_g.2.2.2.2.2.2.1
theorem dl_999 : decode code 999 = .ok (.iaload, 1) := dl_990_g.2.2.2.2.2.2.2
theorem dl_1000_g : (decode code 1000 = .ok (.aload_n 0, 1)) ∧ (decode code 1001 = .ok (.iload_n 3, 1)) ∧ (decode code 1002 = .ok (.iconst 2, 1)) ∧ (decode code 1003 = .ok (.iadd, 1)) ∧ (decode code 1004 = .ok (.iaload, 1)) ∧ (decode code 1005 = .ok (.aload_n 0, 1)) ∧ (decode code 1006 = .ok (.iload_n 3, 1)) ∧ (decode code 1007 = .ok (.iconst 3, 1)) := by decide +kernel
theorem dl_1000 : decode code 1000 = .ok (.aload_n 0, 1) := dl_1000_g.1
theorem dl_1001 : decode code 1001 = .ok (.iload_n 3, 1) := dl_1000_g.2.1
theorem dl_1002 : decode code 1002 = .ok (.iconst 2, 1) := dl_1000_g.2.2.1
theorem dl_1003 : decode code 1003 = .ok (.iadd, 1) := dl_1000_g.2.2.2.1
theorem dl_1004 : decode code 1004 = .ok (.iaload, 1) := dl_1000_g.2.2.2.2.1
theorem dl_1005 : decode code 1005 = .ok (.aload_n 0, 1) := dl_1000_g.2.2.2.2.2.1
theorem dl_1006 : decode code 1006 = .ok (.iload_n 3, 1) := dl_1000_g.2.2.2.2.2.2.1
theorem dl_1007 : decode code 1007 = .ok (.iconst 3, 1) := dl_1000_g.2.2.2.2.2.2.2
theorem dl_1008_g : (decode code 1008 = .ok (.iadd, 1)) ∧ (decode code 1009 = .ok (.iaload, 1)) ∧ (decode code 1010 = .ok (.aload_n 0, 1)) ∧ (decode code 1011 = .ok (.iload_n 3, 1)) ∧ (decode code 1012 = .ok (.iconst 4, 1)) ∧ (decode code 1013 = .ok (.iadd, 1)) ∧ (decode code 1014 = .ok (.iaload, 1)) ∧ (decode code 1015 = .ok (.aload_n 0, 1)) := by decide +kernel
theorem dl_1008 : decode code 1008 = .ok (.iadd, 1) := dl_1008_g.1
theorem dl_1009 : decode code 1009 = .ok (.iaload, 1) := dl_1008_g.2.1
theorem dl_1010 : decode code 1010 = .ok (.aload_n 0, 1) := dl_1008_g.2.2.1
theorem dl_1011 : decode code 1011 = .ok (.iload_n 3, 1) := dl_1008_g.2.2.2.1
theorem dl_1012 : decode code 1012 = .ok (.iconst 4, 1) := dl_1008_g.2.2.2.2.1
theorem dl_1013 : decode code 1013 = .ok (.iadd, 1) := dl_1008_g.2.2.2.2.2.1
theorem dl_1014 : decode code 1014 = .ok (.iaload, 1) := dl_1008_g.2.2.2.2.2.2.1
theorem dl_1015 : decode code 1015 = .ok (.aload_n 0, 1) := dl_1008_g.2.2.2.2.2.2.2
theorem dl_1016_g : (decode code 1016 = .ok (.iload_n 3, 1)) ∧ (decode code 1017 = .ok (.iconst 5, 1)) ∧ (decode code 1018 = .ok (.iadd, 1)) ∧ (decode code 1019 = .ok (.iaload, 1)) ∧ (decode code 1020 = .ok (.aload_n 0, 1)) ∧ (decode code 1021 = .ok (.iload_n 3, 1)) ∧ (decode code 1022 = .ok (.bipush 6, 2)) ∧ (decode code 1024 = .ok (.iadd, 1)) := by decide +kernel
theorem dl_1016 : decode code 1016 = .ok (.iload_n 3, 1) := dl_1016_g.1
theorem dl_1017 : decode code 1017 = .ok (.iconst 5, 1) := dl_1016_g.2.1
theorem dl_1018 : decode code 1018 = .ok (.iadd, 1) := dl_1016_g.2.2.1
theorem dl_1019 : decode code 1019 = .ok (.iaload, 1) := dl_1016_g.2.2.2.1
theorem dl_1020 : decode code 1020 = .ok (.aload_n 0, 1) := dl_1016_g.2.2.2.2.1
theorem dl_1021 : decode code 1021 = .ok (.iload_n 3, 1) := dl_1016_g.2.2.2.2.2.1
theorem dl_1022 : decode code 1022 = .ok (.bipush 6, 2) := dl_1016_g.2.2.2.2.2.2.1
theorem dl_1024 : decode code 1024 = .ok (.iadd, 1) := dl_1016_g.2.2.2.2.2.2.2
theorem dl_1025_g : (decode code 1025 = .ok (.iaload, 1)) ∧ (decode code 1026 = .ok (.aload_n 0, 1)) ∧ (decode code 1027 = .ok (.iload_n 3, 1)) ∧ (decode code 1028 = .ok (.bipush 7, 2)) ∧ (decode code 1030 = .ok (.iadd, 1)) ∧ (decode code 1031 = .ok (.iaload, 1)) ∧ (decode code 1032 = .ok (.invokevirtual 137, 3)) ∧ (decode code 1035 = .ok (.pop, 1)) := by decide +kernel
theorem dl_1025 : decode code 1025 = .ok (.iaload, 1) := dl_1025_g.1
theorem dl_1026 : decode code 1026 = .ok (.aload_n 0, 1) := dl_1025_g.2.1
theorem dl_1027 : decode code 1027 = .ok (.iload_n 3, 1) := dl_1025_g.2.2.1
theorem dl_1028 : decode code 1028 = .ok (.bipush 7, 2) := dl_1025_g.2.2.2.1
theorem dl_1030 : decode code 1030 = .ok (.iadd, 1) := dl_1025_g.2.2.2.2.1
theorem dl_1031 : decode code 1031 = .ok (.iaload, 1) := dl_1025_g.2.2.2.2.2.1
theorem dl_1032 : decode code 1032 = .ok (.invokevirtual 137, 3) := dl_1025_g.2.2.2.2.2.2.1
theorem dl_1035 : decode code 1035 = .ok (.pop, 1) := dl_1025_g.2.2.2.2.2.2.2
theorem dl_1036_g : (decode code 1036 = .ok (.aload_n 2, 1)) ∧ (decode code 1037 = .ok (.aload_n 0, 1)) ∧ (decode code 1038 = .ok (.iload_n 3, 1)) ∧ (decode code 1039 = .ok (.iconst 1, 1)) ∧ (decode code 1040 = .ok (.iadd, 1)) ∧ (decode code 1041 = .ok (.iaload, 1)) ∧ (decode code 1042 = .ok (.aload_n 0, 1)) ∧ (decode code 1043 = .ok (.iload_n 3, 1)) := by decide +kernel
theorem dl_1036 : decode code 1036 = .ok (.aload_n 2, 1) := dl_1036_g.1
theorem dl_1037 : decode code 1037 = .ok (.aload_n 0, 1) := dl_1036_g.2.1
theorem dl_1038 : decode code 1038 = .ok (.iload_n 3, 1) := dl_1036_g.2.2.1
theorem dl_1039 : decode code 1039 = .ok (.iconst 1, 1) := dl_1036_g.2.2.2.1
theorem dl_1040 : decode code 1040 = .ok (.iadd, 1) := dl_1036_g.2.2.2.2.1
theorem dl_1041 : decode code 1041 = .ok (.iaload, 1) := dl_1036_g.2.2.2.2.2.1
theorem dl_1042 : decode code 1042 = .ok (.aload_n 0, 1) := dl_1036_g.2.2.2.2.2.2.1
theorem dl_1043 : decode code 1043 = .ok (.iload_n 3, 1) := dl_1036_g.2.2.2.2.2.2.2
theorem dl_1044_g : (decode code 1044 = .ok (.iconst 2, 1)) ∧ (decode code 1045 = .ok (.iadd, 1)) ∧ (decode code 1046 = .ok (.iaload, 1)) ∧ (decode code 1047 = .ok (.aload_n 0, 1)) ∧ (decode code 1048 = .ok (.iload_n 3, 1)) ∧ (decode code 1049 = .ok (.iconst 3, 1)) ∧ (decode code 1050 = .ok (.iadd, 1)) ∧ (decode code 1051 = .ok (.iaload, 1)) := by decide +kernel
theorem dl_1044 : decode code 1044 = .ok (.iconst 2, 1) := dl_1044_g.1
theorem dl_1045 : decode code 1045 = .ok (.iadd, 1) := dl_1044_g.2.1
theorem dl_1046 : decode code 1046 = .ok (.iaload, 1) := dl_1044_g.2.2.1
theorem dl_1047 : decode code 1047 = .ok (.aload_n 0, 1) := dl_1044_g.2.2.2.1
theorem dl_1048 : decode code 1048 = .ok (.iload_n 3, 1) := dl_1044_g.2.2.2.2.1
theorem dl_1049 : decode code 1049 = .ok (.iconst 3, 1) := dl_1044_g.2.2.2.2.2.1
theorem dl_1050 : decode code 1050 = .ok (.iadd, 1) := dl_1044_g.2.2.2.2.2.2.1
theorem dl_1051 : decode code 1051 = .ok (.iaload, 1) := dl_1044_g.2.2.2.2.2.2.2
theorem dl_1052_g : (decode code 1052 = .ok (.aload_n 0, 1)) ∧ (decode code 1053 = .ok (.iload_n 3, 1)) ∧ (decode code 1054 = .ok (.iconst 4, 1)) ∧ (decode code 1055 = .ok (.iadd, 1)) ∧ (decode code 1056 = .ok (.iaload, 1)) ∧ (decode code 1057 = .ok (.aload_n 0, 1)) ∧ (decode code 1058 = .ok (.iload_n 3, 1)) ∧ (decode code 1059 = .ok (.iconst 5, 1)) := by decide +kernel
theorem dl_1052 : decode code 1052 = .ok (.aload_n 0, 1) := dl_1052_g.1
theorem dl_1053 : decode code 1053 = .ok (.iload_n 3, 1) := dl_1052_g.2.1
theorem dl_1054 : decode code 1054 = .ok (.iconst 4, 1) := dl_1052_g.2.2.1
theorem dl_1055 : decode code 1055 = .ok (.iadd, 1) := dl_1052_g.2.2.2.1
theorem dl_1056 : decode code 1056 = .ok (.iaload, 1) := dl_1052_g.2.2.2.2.1
theorem dl_1057 : decode code 1057 = .ok (.aload_n 0, 1) := dl_1052_g.2.2.2.2.2.1
theorem dl_1058 : decode code 1058 = .ok (.iload_n 3, 1) := dl_1052_g.2.2.2.2.2.2.1
theorem dl_1059 : decode code 1059 = .ok (.iconst 5, 1) := dl_1052_g.2.2.2.2.2.2.2
theorem dl_1060_g : (decode code 1060 = .ok (.iadd, 1)) ∧ (decode code 1061 = .ok (.iaload, 1)) ∧ (decode code 1062 = .ok (.aload_n 0, 1)) ∧ (decode code 1063 = .ok (.iload_n 3, 1)) ∧ (decode code 1064 = .ok (.bipush 6, 2)) ∧ (decode code 1066 = .ok (.iadd, 1)) ∧ (decode code 1067 = .ok (.iaload, 1)) ∧ (decode code 1068 = .ok (.aload_n 0, 1)) := by decide +kernel
theorem dl_1060 : decode code 1060 = .ok (.iadd, 1) := dl_1060_g.1
theorem dl_1061 : decode code 1061 = .ok (.iaload, 1) := dl_1060_g.2.1
theorem dl_1062 : decode code 1062 = .ok (.aload_n 0, 1) := dl_1060_g.2.2.1
theorem dl_1063 : decode code 1063 = .ok (.iload_n 3, 1) := dl_1060_g.2.2.2.1
theorem dl_1064 : decode code 1064 = .ok (.bipush 6, 2) := dl_1060_g.2.2.2.2.1
theorem dl_1066 : decode code 1066 = .ok (.iadd, 1) := dl_1060_g.2.2.2.2.2.1
theorem dl_1067 : decode code 1067 = .ok (.iaload, 1) := dl_1060_g.2.2.2.2.2.2.1
theorem dl_1068 : decode code 1068 = .ok (.aload_n 0, 1) := dl_1060_g.2.2.2.2.2.2.2
theorem dl_1069_g : (decode code 1069 = .ok (.iload_n 3, 1)) ∧ (decode code 1070 = .ok (.bipush 7, 2)) ∧ (decode code 1072 = .ok (.iadd, 1)) ∧ (decode code 1073 = .ok (.iaload, 1)) ∧ (decode code 1074 = .ok (.invokevirtual 141, 3)) ∧ (decode code 1077 = .ok (.pop, 1)) ∧ (decode code 1078 = .ok (.goto 52, 3)) ∧ (decode code 1081 = .ok (.aload_n 1, 1)) := by decide +kernel
theorem dl_1069 : decode code 1069 = .ok (.iload_n 3, 1) := dl_1069_g.1
theorem dl_1070 : decode code 1070 = .ok (.bipush 7, 2) := dl_1069_g.2.1
theorem dl_1072 : decode code 1072 = .ok (.iadd, 1) := dl_1069_g.2.2.1
theorem dl_1073 : decode code 1073 = .ok (.iaload, 1) := dl_1069_g.2.2.2.1
theorem dl_1074 : decode code 1074 = .ok (.invokevirtual 141, 3) := dl_1069_g.2.2.2.2.1
theorem dl_1077 : decode code 1077 = .ok (.pop, 1) := dl_1069_g.2.2.2.2.2.1
theorem dl_1078 : decode code 1078 = .ok (.goto 52, 3) := dl_1069_g.2.2.2.2.2.2.1
theorem dl_1081 : decode code 1081 = .ok (.aload_n 1, 1) := dl_1069_g.2.2.2.2.2.2.2
