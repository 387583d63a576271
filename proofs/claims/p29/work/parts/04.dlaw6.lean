theorem dl_1082_g : (decode code 1082 = .ok (.aload_n 1, 1)) ∧ (decode code 1083 = .ok (.invokevirtual 142, 3)) ∧ (decode code 1086 = .ok (.pop, 1)) ∧ (decode code 1087 = .ok (.aload_n 2, 1)) ∧ (decode code 1088 = .ok (.invokevirtual 145, 3)) ∧ (decode code 1091 = .ok (.pop, 1)) ∧ (decode code 1092 = .ok (.goto 39, 3)) ∧ (decode code 1095 = .ok (.aload_n 1, 1)) := by decide +kernel
theorem dl_1082 : decode code 1082 = .ok (.aload_n 1, 1) := dl_1082_g.1
theorem dl_1083 : decode code 1083 = .ok (.invokevirtual 142, 3) := dl_1082_g.2.1
theorem dl_1086 : decode code 1086 = .ok (.pop, 1) := dl_1082_g.2.2.1
theorem dl_1087 : decode code 1087 = .ok (.aload_n 2, 1) := dl_1082_g.2.2.2.1
theorem dl_1088 : decode code 1088 = .ok (.invokevirtual 145, 3) := dl_1082_g.2.2.2.2.1
theorem dl_1091 : decode code 1091 = .ok (.pop, 1) := dl_1082_g.2.2.2.2.2.1
theorem dl_1092 : decode code 1092 = .ok (.goto 39, 3) := dl_1082_g.2.2.2.2.2.2.1
theorem dl_1095 : decode code 1095 = .ok (.aload_n 1, 1) := dl_1082_g.2.2.2.2.2.2.2
theorem dl_1096_g : (decode code 1096 = .ok (.invokevirtual 146, 3)) ∧ (decode code 1099 = .ok (.pop, 1)) ∧ (decode code 1100 = .ok (.aload_n 2, 1)) ∧ (decode code 1101 = .ok (.invokevirtual 149, 3)) ∧ (decode code 1104 = .ok (.pop, 1)) ∧ (decode code 1105 = .ok (.goto 26, 3)) ∧ (decode code 1108 = .ok (.aload_n 1, 1)) ∧ (decode code 1109 = .ok (.aload_n 0, 1)) := by decide +kernel
theorem dl_1096 : decode code 1096 = .ok (.invokevirtual 146, 3) := dl_1096_g.1
theorem dl_1099 : decode code 1099 = .ok (.pop, 1) := dl_1096_g.2.1
theorem dl_1100 : decode code 1100 = .ok (.aload_n 2, 1) := dl_1096_g.2.2.1
theorem dl_1101 : decode code 1101 = .ok (.invokevirtual 149, 3) := dl_1096_g.2.2.2.1
theorem dl_1104 : decode code 1104 = .ok (.pop, 1) := dl_1096_g.2.2.2.2.1
theorem dl_1105 : decode code 1105 = .ok (.goto 26, 3) := dl_1096_g.2.2.2.2.2.1
theorem dl_1108 : decode code 1108 = .ok (.aload_n 1, 1) := dl_1096_g.2.2.2.2.2.2.1
theorem dl_1109 : decode code 1109 = .ok (.aload_n 0, 1) := dl_1096_g.2.2.2.2.2.2.2
theorem dl_1110_g : (decode code 1110 = .ok (.iload_n 3, 1)) ∧ (decode code 1111 = .ok (.iconst 1, 1)) ∧ (decode code 1112 = .ok (.iadd, 1)) ∧ (decode code 1113 = .ok (.iaload, 1)) ∧ (decode code 1114 = .ok (.invokevirtual 150, 3)) ∧ (decode code 1117 = .ok (.pop, 1)) ∧ (decode code 1118 = .ok (.aload_n 2, 1)) ∧ (decode code 1119 = .ok (.aload_n 0, 1)) := by decide +kernel
theorem dl_1110 : decode code 1110 = .ok (.iload_n 3, 1) := dl_1110_g.1
theorem dl_1111 : decode code 1111 = .ok (.iconst 1, 1) := dl_1110_g.2.1
theorem dl_1112 : decode code 1112 = .ok (.iadd, 1) := dl_1110_g.2.2.1
theorem dl_1113 : decode code 1113 = .ok (.iaload, 1) := dl_1110_g.2.2.2.1
theorem dl_1114 : decode code 1114 = .ok (.invokevirtual 150, 3) := dl_1110_g.2.2.2.2.1
theorem dl_1117 : decode code 1117 = .ok (.pop, 1) := dl_1110_g.2.2.2.2.2.1
theorem dl_1118 : decode code 1118 = .ok (.aload_n 2, 1) := dl_1110_g.2.2.2.2.2.2.1
theorem dl_1119 : decode code 1119 = .ok (.aload_n 0, 1) := dl_1110_g.2.2.2.2.2.2.2
theorem dl_1120_g : (decode code 1120 = .ok (.iload_n 3, 1)) ∧ (decode code 1121 = .ok (.iconst 1, 1)) ∧ (decode code 1122 = .ok (.iadd, 1)) ∧ (decode code 1123 = .ok (.iaload, 1)) ∧ (decode code 1124 = .ok (.invokevirtual 153, 3)) ∧ (decode code 1127 = .ok (.pop, 1)) ∧ (decode code 1128 = .ok (.goto 3, 3)) ∧ (decode code 1131 = .ok (.iinc 3 9, 3)) := by decide +kernel
theorem dl_1120 : decode code 1120 = .ok (.iload_n 3, 1) := dl_1120_g.1
theorem dl_1121 : decode code 1121 = .ok (.iconst 1, 1) := dl_1120_g.2.1
theorem dl_1122 : decode code 1122 = .ok (.iadd, 1) := dl_1120_g.2.2.1
theorem dl_1123 : decode code 1123 = .ok (.iaload, 1) := dl_1120_g.2.2.2.1
theorem dl_1124 : decode code 1124 = .ok (.invokevirtual 153, 3) := dl_1120_g.2.2.2.2.1
theorem dl_1127 : decode code 1127 = .ok (.pop, 1) := dl_1120_g.2.2.2.2.2.1
theorem dl_1128 : decode code 1128 = .ok (.goto 3, 3) := dl_1120_g.2.2.2.2.2.2.1
theorem dl_1131 : decode code 1131 = .ok (.iinc 3 9, 3) := dl_1120_g.2.2.2.2.2.2.2
theorem dl_1134_g : (decode code 1134 = .ok (.goto (-1116), 3)) ∧ (decode code 1137 = .ok (.iconst 1, 1)) ∧ (decode code 1138 = .ok (.ireturn, 1)) := by decide +kernel
theorem dl_1134 : decode code 1134 = .ok (.goto (-1116), 3) := dl_1134_g.1
theorem dl_1137 : decode code 1137 = .ok (.iconst 1, 1) := dl_1134_g.2.1
theorem dl_1138 : decode code 1138 = .ok (.ireturn, 1) := dl_1134_g.2.2
