theorem dl_1082 : decode code 1082 = .ok (.ireturn, 1) := by decide +kernel
theorem dl_1083 : decode code 1083 = .ok (.aload_n 1, 1) := by decide +kernel
theorem dl_1084 : decode code 1084 = .ok (.invokevirtual 142, 3) := by decide +kernel
theorem dl_1087 : decode code 1087 = .ok (.aload_n 2, 1) := by decide +kernel
theorem dl_1088 : decode code 1088 = .ok (.invokevirtual 145, 3) := by decide +kernel
theorem dl_1091 : decode code 1091 = .ok (.if_icmp .eq 41, 3) := by decide +kernel
theorem dl_1094 : decode code 1094 = .ok (.iconst 0, 1) := by decide +kernel
theorem dl_1095 : decode code 1095 = .ok (.ireturn, 1) := by decide +kernel
theorem dl_1096 : decode code 1096 = .ok (.aload_n 1, 1) := by decide +kernel
theorem dl_1097 : decode code 1097 = .ok (.invokevirtual 146, 3) := by decide +kernel
theorem dl_1100 : decode code 1100 = .ok (.aload_n 2, 1) := by decide +kernel
theorem dl_1101 : decode code 1101 = .ok (.invokevirtual 149, 3) := by decide +kernel
theorem dl_1104 : decode code 1104 = .ok (.if_icmp .eq 28, 3) := by decide +kernel
theorem dl_1107 : decode code 1107 = .ok (.iconst 0, 1) := by decide +kernel
theorem dl_1108 : decode code 1108 = .ok (.ireturn, 1) := by decide +kernel
theorem dl_1109 : decode code 1109 = .ok (.aload_n 1, 1) := by decide +kernel
theorem dl_1110 : decode code 1110 = .ok (.aload_n 0, 1) := by decide +kernel
theorem dl_1111 : decode code 1111 = .ok (.iload_n 3, 1) := by decide +kernel
theorem dl_1112 : decode code 1112 = .ok (.iconst 1, 1) := by decide +kernel
theorem dl_1113 : decode code 1113 = .ok (.iadd, 1) := by decide +kernel
theorem dl_1114 : decode code 1114 = .ok (.iaload, 1) := by decide +kernel
theorem dl_1115 : decode code 1115 = .ok (.invokevirtual 150, 3) := by decide +kernel
theorem dl_1118 : decode code 1118 = .ok (.aload_n 2, 1) := by decide +kernel
theorem dl_1119 : decode code 1119 = .ok (.aload_n 0, 1) := by decide +kernel
theorem dl_1120 : decode code 1120 = .ok (.iload_n 3, 1) := by decide +kernel
theorem dl_1121 : decode code 1121 = .ok (.iconst 1, 1) := by decide +kernel
theorem dl_1122 : decode code 1122 = .ok (.iadd, 1) := by decide +kernel
theorem dl_1123 : decode code 1123 = .ok (.iaload, 1) := by decide +kernel
theorem dl_1124 : decode code 1124 = .ok (.invokevirtual 153, 3) := by decide +kernel
theorem dl_1127 : decode code 1127 = .ok (.if_icmp .eq 5, 3) := by decide +kernel
theorem dl_1130 : decode code 1130 = .ok (.iconst 0, 1) := by decide +kernel
theorem dl_1131 : decode code 1131 = .ok (.ireturn, 1) := by decide +kernel
theorem dl_1132 : decode code 1132 = .ok (.iinc 3 9, 3) := by decide +kernel
theorem dl_1135 : decode code 1135 = .ok (.goto (-1117), 3) := by decide +kernel
theorem dl_1138 : decode code 1138 = .ok (.iconst 1, 1) := by decide +kernel
theorem dl_1139 : decode code 1139 = .ok (.ireturn, 1) := by decide +kernel
