theorem dl_1082_g : (decode code 1082 = .ok (.invokevirtual 142, 3)) ∧ (decode code 1085 = .ok (.pop, 1)) ∧ (decode code 1086 = .ok (.aload_n 2, 1)) ∧ (decode code 1087 = .ok (.invokevirtual 145, 3)) ∧ (decode code 1090 = .ok (.pop, 1)) ∧ (decode code 1091 = .ok (.goto 39, 3)) ∧ (decode code 1094 = .ok (.aload_n 1, 1)) ∧ (decode code 1095 = .ok (.invokevirtual 146, 3)) := by decide +kernel
theorem dl_1082 : decode code 1082 = .ok (.invokevirtual 142, 3) := dl_1082_g.1
theorem dl_1085 : decode code 1085 = .ok (.pop, 1) := dl_1082_g.2.1
theorem dl_1086 : decode code 1086 = .ok (.aload_n 2, 1) := dl_1082_g.2.2.1
theorem dl_1087 : decode code 1087 = .ok (.invokevirtual 145, 3) := dl_1082_g.2.2.2.1
theorem dl_1090 : decode code 1090 = .ok (.pop, 1) := dl_1082_g.2.2.2.2.1
theorem dl_1091 : decode code 1091 = .ok (.goto 39, 3) := dl_1082_g.2.2.2.2.2.1
theorem dl_1094 : decode code 1094 = .ok (.aload_n 1, 1) := dl_1082_g.2.2.2.2.2.2.1
theorem dl_1095 : decode code 1095 = .ok (.invokevirtual 146, 3) := dl_1082_g.2.2.2.2.2.2.2
theorem dl_1098_g : (decode code 1098 = .ok (.pop, 1)) ∧ (decode code 1099 = .ok (.aload_n 2, 1)) ∧ (decode code 1100 = .ok (.invokevirtual 149, 3)) ∧ (decode code 1103 = .ok (.pop, 1)) ∧ (decode code 1104 = .ok (.goto 26, 3)) ∧ (decode code 1107 = .ok (.aload_n 1, 1)) ∧ (decode code 1108 = .ok (.aload_n 0, 1)) ∧ (decode code 1109 = .ok (.iload_n 3, 1)) := by decide +kernel
theorem dl_1098 : decode code 1098 = .ok (.pop, 1) := dl_1098_g.1
theorem dl_1099 : decode code 1099 = .ok (.aload_n 2, 1) := dl_1098_g.2.1
theorem dl_1100 : decode code 1100 = .ok (.invokevirtual 149, 3) := dl_1098_g.2.2.1
theorem dl_1103 : decode code 1103 = .ok (.pop, 1) := dl_1098_g.2.2.2.1
theorem dl_1104 : decode code 1104 = .ok (.goto 26, 3) := dl_1098_g.2.2.2.2.1
theorem dl_1107 : decode code 1107 = .ok (.aload_n 1, 1) := dl_1098_g.2.2.2.2.2.1
theorem dl_1108 : decode code 1108 = .ok (.aload_n 0, 1) := dl_1098_g.2.2.2.2.2.2.1
theorem dl_1109 : decode code 1109 = .ok (.iload_n 3, 1) := dl_1098_g.2.2.2.2.2.2.2
theorem dl_1110_g : (decode code 1110 = .ok (.iconst 1, 1)) ∧ (decode code 1111 = .ok (.iadd, 1)) ∧ (decode code 1112 = .ok (.iaload, 1)) ∧ (decode code 1113 = .ok (.invokevirtual 150, 3)) ∧ (decode code 1116 = .ok (.aload_n 2, 1)) ∧ (decode code 1117 = .ok (.aload_n 0, 1)) ∧ (decode code 1118 = .ok (.iload_n 3, 1)) ∧ (decode code 1119 = .ok (.iconst 1, 1)) := by decide +kernel
theorem dl_1110 : decode code 1110 = .ok (.iconst 1, 1) := dl_1110_g.1
theorem dl_1111 : decode code 1111 = .ok (.iadd, 1) := dl_1110_g.2.1
theorem dl_1112 : decode code 1112 = .ok (.iaload, 1) := dl_1110_g.2.2.1
theorem dl_1113 : decode code 1113 = .ok (.invokevirtual 150, 3) := dl_1110_g.2.2.2.1
theorem dl_1116 : decode code 1116 = .ok (.aload_n 2, 1) := dl_1110_g.2.2.2.2.1
theorem dl_1117 : decode code 1117 = .ok (.aload_n 0, 1) := dl_1110_g.2.2.2.2.2.1
theorem dl_1118 : decode code 1118 = .ok (.iload_n 3, 1) := dl_1110_g.2.2.2.2.2.2.1
theorem dl_1119 : decode code 1119 = .ok (.iconst 1, 1) := dl_1110_g.2.2.2.2.2.2.2
theorem dl_1120_g : (decode code 1120 = .ok (.iadd, 1)) ∧ (decode code 1121 = .ok (.iaload, 1)) ∧ (decode code 1122 = .ok (.invokevirtual 153, 3)) ∧ (decode code 1125 = .ok (.if_icmp .eq 5, 3)) ∧ (decode code 1128 = .ok (.iconst 0, 1)) ∧ (decode code 1129 = .ok (.ireturn, 1)) ∧ (decode code 1130 = .ok (.iinc 3 9, 3)) ∧ (decode code 1133 = .ok (.goto (-1115), 3)) := by decide +kernel
theorem dl_1120 : decode code 1120 = .ok (.iadd, 1) := dl_1120_g.1
theorem dl_1121 : decode code 1121 = .ok (.iaload, 1) := dl_1120_g.2.1
theorem dl_1122 : decode code 1122 = .ok (.invokevirtual 153, 3) := dl_1120_g.2.2.1
theorem dl_1125 : decode code 1125 = .ok (.if_icmp .eq 5, 3) := dl_1120_g.2.2.2.1
theorem dl_1128 : decode code 1128 = .ok (.iconst 0, 1) := dl_1120_g.2.2.2.2.1
theorem dl_1129 : decode code 1129 = .ok (.ireturn, 1) := dl_1120_g.2.2.2.2.2.1
theorem dl_1130 : decode code 1130 = .ok (.iinc 3 9, 3) := dl_1120_g.2.2.2.2.2.2.1
theorem dl_1133 : decode code 1133 = .ok (.goto (-1115), 3) := dl_1120_g.2.2.2.2.2.2.2
theorem dl_1136_g : (decode code 1136 = .ok (.iconst 1, 1)) ∧ (decode code 1137 = .ok (.ireturn, 1)) := by decide +kernel
theorem dl_1136 : decode code 1136 = .ok (.iconst 1, 1) := dl_1136_g.1
theorem dl_1137 : decode code 1137 = .ok (.ireturn, 1) := dl_1136_g.2
