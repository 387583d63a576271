theorem dX9_init_0_g : (decode cX9_init 0 = .ok (.aload_n 0, 1)) ∧ (decode cX9_init 1 = .ok (.invokespecial 1, 3)) ∧ (decode cX9_init 4 = .ok (.aload_n 0, 1)) ∧ (decode cX9_init 5 = .ok (.iconst 3, 1)) ∧ (decode cX9_init 6 = .ok (.putfield 7, 3)) ∧ (decode cX9_init 9 = .ok (.aload_n 0, 1)) ∧ (decode cX9_init 10 = .ok (.iconst 1, 1)) ∧ (decode cX9_init 11 = .ok (.putfield 13, 3)) := by decide +kernel
theorem dX9_init_0 : decode cX9_init 0 = .ok (.aload_n 0, 1) := dX9_init_0_g.1
theorem dX9_init_1 : decode cX9_init 1 = .ok (.invokespecial 1, 3) := dX9_init_0_g.2.1
theorem dX9_init_4 : decode cX9_init 4 = .ok (.aload_n 0, 1) := dX9_init_0_g.2.2.1
theorem dX9_init_5 : decode cX9_init 5 = .ok (.iconst 3, 1) := dX9_init_0_g.2.2.2.1
theorem dX9_init_6 : decode cX9_init 6 = .ok (.putfield 7, 3) := dX9_init_0_g.2.2.2.2.1
theorem dX9_init_9 : decode cX9_init 9 = .ok (.aload_n 0, 1) := dX9_init_0_g.2.2.2.2.2.1
theorem dX9_init_10 : decode cX9_init 10 = .ok (.iconst 1, 1) := dX9_init_0_g.2.2.2.2.2.2.1
theorem dX9_init_11 : decode cX9_init 11 = .ok (.putfield 13, 3) := dX9_init_0_g.2.2.2.2.2.2.2
theorem dX9_init_14_g : (decode cX9_init 14 = .ok (.aload_n 0, 1)) ∧ (decode cX9_init 15 = .ok (.bipush 7, 2)) ∧ (decode cX9_init 17 = .ok (.newarray .int, 2)) ∧ (decode cX9_init 19 = .ok (.putfield 16, 3)) ∧ (decode cX9_init 22 = .ok (.aload_n 0, 1)) ∧ (decode cX9_init 23 = .ok (.bipush 7, 2)) ∧ (decode cX9_init 25 = .ok (.newarray .int, 2)) ∧ (decode cX9_init 27 = .ok (.putfield 20, 3)) := by decide +kernel
theorem dX9_init_14 : decode cX9_init 14 = .ok (.aload_n 0, 1) := dX9_init_14_g.1
theorem dX9_init_15 : decode cX9_init 15 = .ok (.bipush 7, 2) := dX9_init_14_g.2.1
theorem dX9_init_17 : decode cX9_init 17 = .ok (.newarray .int, 2) := dX9_init_14_g.2.2.1
theorem dX9_init_19 : decode cX9_init 19 = .ok (.putfield 16, 3) := dX9_init_14_g.2.2.2.1
theorem dX9_init_22 : decode cX9_init 22 = .ok (.aload_n 0, 1) := dX9_init_14_g.2.2.2.2.1
theorem dX9_init_23 : decode cX9_init 23 = .ok (.bipush 7, 2) := dX9_init_14_g.2.2.2.2.2.1
theorem dX9_init_25 : decode cX9_init 25 = .ok (.newarray .int, 2) := dX9_init_14_g.2.2.2.2.2.2.1
theorem dX9_init_27 : decode cX9_init 27 = .ok (.putfield 20, 3) := dX9_init_14_g.2.2.2.2.2.2.2
theorem dX9_init_30_g : (decode cX9_init 30 = .ok (.aload_n 0, 1)) ∧ (decode cX9_init 31 = .ok (.bipush 7, 2)) ∧ (decode cX9_init 33 = .ok (.newarray .int, 2)) ∧ (decode cX9_init 35 = .ok (.putfield 23, 3)) ∧ (decode cX9_init 38 = .ok (.aload_n 0, 1)) ∧ (decode cX9_init 39 = .ok (.bipush 25, 2)) ∧ (decode cX9_init 41 = .ok (.newarray .int, 2)) ∧ (decode cX9_init 43 = .ok (.putfield 26, 3)) := by decide +kernel
theorem dX9_init_30 : decode cX9_init 30 = .ok (.aload_n 0, 1) := dX9_init_30_g.1
theorem dX9_init_31 : decode cX9_init 31 = .ok (.bipush 7, 2) := dX9_init_30_g.2.1
theorem dX9_init_33 : decode cX9_init 33 = .ok (.newarray .int, 2) := dX9_init_30_g.2.2.1
theorem dX9_init_35 : decode cX9_init 35 = .ok (.putfield 23, 3) := dX9_init_30_g.2.2.2.1
theorem dX9_init_38 : decode cX9_init 38 = .ok (.aload_n 0, 1) := dX9_init_30_g.2.2.2.2.1
theorem dX9_init_39 : decode cX9_init 39 = .ok (.bipush 25, 2) := dX9_init_30_g.2.2.2.2.2.1
theorem dX9_init_41 : decode cX9_init 41 = .ok (.newarray .int, 2) := dX9_init_30_g.2.2.2.2.2.2.1
theorem dX9_init_43 : decode cX9_init 43 = .ok (.putfield 26, 3) := dX9_init_30_g.2.2.2.2.2.2.2
theorem dX9_init_46_g : (decode cX9_init 46 = .ok (.aload_n 0, 1)) ∧ (decode cX9_init 47 = .ok (.bipush 25, 2)) ∧ (decode cX9_init 49 = .ok (.newarray .boolean, 2)) ∧ (decode cX9_init 51 = .ok (.putfield 29, 3)) ∧ (decode cX9_init 54 = .ok (.aload_n 0, 1)) ∧ (decode cX9_init 55 = .ok (.sipush 201, 3)) ∧ (decode cX9_init 58 = .ok (.newarray .int, 2)) ∧ (decode cX9_init 60 = .ok (.putfield 33, 3)) := by decide +kernel
theorem dX9_init_46 : decode cX9_init 46 = .ok (.aload_n 0, 1) := dX9_init_46_g.1
theorem dX9_init_47 : decode cX9_init 47 = .ok (.bipush 25, 2) := dX9_init_46_g.2.1
theorem dX9_init_49 : decode cX9_init 49 = .ok (.newarray .boolean, 2) := dX9_init_46_g.2.2.1
theorem dX9_init_51 : decode cX9_init 51 = .ok (.putfield 29, 3) := dX9_init_46_g.2.2.2.1
theorem dX9_init_54 : decode cX9_init 54 = .ok (.aload_n 0, 1) := dX9_init_46_g.2.2.2.2.1
theorem dX9_init_55 : decode cX9_init 55 = .ok (.sipush 201, 3) := dX9_init_46_g.2.2.2.2.2.1
theorem dX9_init_58 : decode cX9_init 58 = .ok (.newarray .int, 2) := dX9_init_46_g.2.2.2.2.2.2.1
theorem dX9_init_60 : decode cX9_init 60 = .ok (.putfield 33, 3) := dX9_init_46_g.2.2.2.2.2.2.2
theorem dX9_init_63_g : (decode cX9_init 63 = .ok (.aload_n 0, 1)) ∧ (decode cX9_init 64 = .ok (.sipush 20000, 3)) ∧ (decode cX9_init 67 = .ok (.newarray .int, 2)) ∧ (decode cX9_init 69 = .ok (.putfield 36, 3)) ∧ (decode cX9_init 72 = .ok (.aload_n 0, 1)) ∧ (decode cX9_init 73 = .ok (.bipush 7, 2)) ∧ (decode cX9_init 75 = .ok (.newarray .int, 2)) ∧ (decode cX9_init 77 = .ok (.putfield 39, 3)) := by decide +kernel
theorem dX9_init_63 : decode cX9_init 63 = .ok (.aload_n 0, 1) := dX9_init_63_g.1
theorem dX9_init_64 : decode cX9_init 64 = .ok (.sipush 20000, 3) := dX9_init_63_g.2.1
theorem dX9_init_67 : decode cX9_init 67 = .ok (.newarray .int, 2) := dX9_init_63_g.2.2.1
theorem dX9_init_69 : decode cX9_init 69 = .ok (.putfield 36, 3) := dX9_init_63_g.2.2.2.1
theorem dX9_init_72 : decode cX9_init 72 = .ok (.aload_n 0, 1) := dX9_init_63_g.2.2.2.2.1
theorem dX9_init_73 : decode cX9_init 73 = .ok (.bipush 7, 2) := dX9_init_63_g.2.2.2.2.2.1
theorem dX9_init_75 : decode cX9_init 75 = .ok (.newarray .int, 2) := dX9_init_63_g.2.2.2.2.2.2.1
theorem dX9_init_77 : decode cX9_init 77 = .ok (.putfield 39, 3) := dX9_init_63_g.2.2.2.2.2.2.2
theorem dX9_init_80_g : (decode cX9_init 80 = .ok (.aload_n 0, 1)) ∧ (decode cX9_init 81 = .ok (.bipush 7, 2)) ∧ (decode cX9_init 83 = .ok (.newarray .int, 2)) ∧ (decode cX9_init 85 = .ok (.putfield 42, 3)) ∧ (decode cX9_init 88 = .ok (.aload_n 0, 1)) ∧ (decode cX9_init 89 = .ok (.sipush 20000, 3)) ∧ (decode cX9_init 92 = .ok (.newarray .int, 2)) ∧ (decode cX9_init 94 = .ok (.putfield 45, 3)) := by decide +kernel
theorem dX9_init_80 : decode cX9_init 80 = .ok (.aload_n 0, 1) := dX9_init_80_g.1
theorem dX9_init_81 : decode cX9_init 81 = .ok (.bipush 7, 2) := dX9_init_80_g.2.1
theorem dX9_init_83 : decode cX9_init 83 = .ok (.newarray .int, 2) := dX9_init_80_g.2.2.1
theorem dX9_init_85 : decode cX9_init 85 = .ok (.putfield 42, 3) := dX9_init_80_g.2.2.2.1
theorem dX9_init_88 : decode cX9_init 88 = .ok (.aload_n 0, 1) := dX9_init_80_g.2.2.2.2.1
theorem dX9_init_89 : decode cX9_init 89 = .ok (.sipush 20000, 3) := dX9_init_80_g.2.2.2.2.2.1
theorem dX9_init_92 : decode cX9_init 92 = .ok (.newarray .int, 2) := dX9_init_80_g.2.2.2.2.2.2.1
theorem dX9_init_94 : decode cX9_init 94 = .ok (.putfield 45, 3) := dX9_init_80_g.2.2.2.2.2.2.2
theorem dX9_init_97_g : (decode cX9_init 97 = .ok (.aload_n 0, 1)) ∧ (decode cX9_init 98 = .ok (.sipush 20000, 3)) ∧ (decode cX9_init 101 = .ok (.newarray .int, 2)) ∧ (decode cX9_init 103 = .ok (.putfield 48, 3)) ∧ (decode cX9_init 106 = .ok (.aload_n 0, 1)) ∧ (decode cX9_init 107 = .ok (.sipush 20000, 3)) ∧ (decode cX9_init 110 = .ok (.newarray .int, 2)) ∧ (decode cX9_init 112 = .ok (.putfield 51, 3)) := by decide +kernel
theorem dX9_init_97 : decode cX9_init 97 = .ok (.aload_n 0, 1) := dX9_init_97_g.1
theorem dX9_init_98 : decode cX9_init 98 = .ok (.sipush 20000, 3) := dX9_init_97_g.2.1
theorem dX9_init_101 : decode cX9_init 101 = .ok (.newarray .int, 2) := dX9_init_97_g.2.2.1
theorem dX9_init_103 : decode cX9_init 103 = .ok (.putfield 48, 3) := dX9_init_97_g.2.2.2.1
theorem dX9_init_106 : decode cX9_init 106 = .ok (.aload_n 0, 1) := dX9_init_97_g.2.2.2.2.1
theorem dX9_init_107 : decode cX9_init 107 = .ok (.sipush 20000, 3) := dX9_init_97_g.2.2.2.2.2.1
theorem dX9_init_110 : decode cX9_init 110 = .ok (.newarray .int, 2) := dX9_init_97_g.2.2.2.2.2.2.1
theorem dX9_init_112 : decode cX9_init 112 = .ok (.putfield 51, 3) := dX9_init_97_g.2.2.2.2.2.2.2
theorem dX9_init_115_g : (decode cX9_init 115 = .ok (.aload_n 0, 1)) ∧ (decode cX9_init 116 = .ok (.bipush 101, 2)) ∧ (decode cX9_init 118 = .ok (.newarray .int, 2)) ∧ (decode cX9_init 120 = .ok (.putfield 54, 3)) ∧ (decode cX9_init 123 = .ok (.aload_n 0, 1)) ∧ (decode cX9_init 124 = .ok (.sipush 20000, 3)) ∧ (decode cX9_init 127 = .ok (.newarray .int, 2)) ∧ (decode cX9_init 129 = .ok (.putfield 57, 3)) := by decide +kernel
theorem dX9_init_115 : decode cX9_init 115 = .ok (.aload_n 0, 1) := dX9_init_115_g.1
theorem dX9_init_116 : decode cX9_init 116 = .ok (.bipush 101, 2) := dX9_init_115_g.2.1
theorem dX9_init_118 : decode cX9_init 118 = .ok (.newarray .int, 2) := dX9_init_115_g.2.2.1
theorem dX9_init_120 : decode cX9_init 120 = .ok (.putfield 54, 3) := dX9_init_115_g.2.2.2.1
theorem dX9_init_123 : decode cX9_init 123 = .ok (.aload_n 0, 1) := dX9_init_115_g.2.2.2.2.1
theorem dX9_init_124 : decode cX9_init 124 = .ok (.sipush 20000, 3) := dX9_init_115_g.2.2.2.2.2.1
theorem dX9_init_127 : decode cX9_init 127 = .ok (.newarray .int, 2) := dX9_init_115_g.2.2.2.2.2.2.1
theorem dX9_init_129 : decode cX9_init 129 = .ok (.putfield 57, 3) := dX9_init_115_g.2.2.2.2.2.2.2
theorem dX9_init_132_g : (decode cX9_init 132 = .ok (.aload_n 0, 1)) ∧ (decode cX9_init 133 = .ok (.sipush 20000, 3)) ∧ (decode cX9_init 136 = .ok (.newarray .long, 2)) ∧ (decode cX9_init 138 = .ok (.putfield 60, 3)) ∧ (decode cX9_init 141 = .ok (.aload_n 0, 1)) ∧ (decode cX9_init 142 = .ok (.sipush 20000, 3)) ∧ (decode cX9_init 145 = .ok (.newarray .boolean, 2)) ∧ (decode cX9_init 147 = .ok (.putfield 64, 3)) := by decide +kernel
theorem dX9_init_132 : decode cX9_init 132 = .ok (.aload_n 0, 1) := dX9_init_132_g.1
theorem dX9_init_133 : decode cX9_init 133 = .ok (.sipush 20000, 3) := dX9_init_132_g.2.1
theorem dX9_init_136 : decode cX9_init 136 = .ok (.newarray .long, 2) := dX9_init_132_g.2.2.1
theorem dX9_init_138 : decode cX9_init 138 = .ok (.putfield 60, 3) := dX9_init_132_g.2.2.2.1
theorem dX9_init_141 : decode cX9_init 141 = .ok (.aload_n 0, 1) := dX9_init_132_g.2.2.2.2.1
theorem dX9_init_142 : decode cX9_init 142 = .ok (.sipush 20000, 3) := dX9_init_132_g.2.2.2.2.2.1
theorem dX9_init_145 : decode cX9_init 145 = .ok (.newarray .boolean, 2) := dX9_init_132_g.2.2.2.2.2.2.1
theorem dX9_init_147 : decode cX9_init 147 = .ok (.putfield 64, 3) := dX9_init_132_g.2.2.2.2.2.2.2
theorem dX9_init_150_g : (decode cX9_init 150 = .ok (.aload_n 0, 1)) ∧ (decode cX9_init 151 = .ok (.sipush 20000, 3)) ∧ (decode cX9_init 154 = .ok (.newarray .boolean, 2)) ∧ (decode cX9_init 156 = .ok (.putfield 67, 3)) ∧ (decode cX9_init 159 = .ok (.aload_n 0, 1)) ∧ (decode cX9_init 160 = .ok (.sipush 20000, 3)) ∧ (decode cX9_init 163 = .ok (.newarray .int, 2)) ∧ (decode cX9_init 165 = .ok (.putfield 70, 3)) := by decide +kernel
theorem dX9_init_150 : decode cX9_init 150 = .ok (.aload_n 0, 1) := dX9_init_150_g.1
theorem dX9_init_151 : decode cX9_init 151 = .ok (.sipush 20000, 3) := dX9_init_150_g.2.1
theorem dX9_init_154 : decode cX9_init 154 = .ok (.newarray .boolean, 2) := dX9_init_150_g.2.2.1
theorem dX9_init_156 : decode cX9_init 156 = .ok (.putfield 67, 3) := dX9_init_150_g.2.2.2.1
theorem dX9_init_159 : decode cX9_init 159 = .ok (.aload_n 0, 1) := dX9_init_150_g.2.2.2.2.1
theorem dX9_init_160 : decode cX9_init 160 = .ok (.sipush 20000, 3) := dX9_init_150_g.2.2.2.2.2.1
theorem dX9_init_163 : decode cX9_init 163 = .ok (.newarray .int, 2) := dX9_init_150_g.2.2.2.2.2.2.1
theorem dX9_init_165 : decode cX9_init 165 = .ok (.putfield 70, 3) := dX9_init_150_g.2.2.2.2.2.2.2
theorem dX9_init_168_g : (decode cX9_init 168 = .ok (.aload_n 0, 1)) ∧ (decode cX9_init 169 = .ok (.sipush 20000, 3)) ∧ (decode cX9_init 172 = .ok (.newarray .int, 2)) ∧ (decode cX9_init 174 = .ok (.putfield 73, 3)) ∧ (decode cX9_init 177 = .ok (.aload_n 0, 1)) ∧ (decode cX9_init 178 = .ok (.sipush 20000, 3)) ∧ (decode cX9_init 181 = .ok (.newarray .int, 2)) ∧ (decode cX9_init 183 = .ok (.putfield 76, 3)) := by decide +kernel
theorem dX9_init_168 : decode cX9_init 168 = .ok (.aload_n 0, 1) := dX9_init_168_g.1
theorem dX9_init_169 : decode cX9_init 169 = .ok (.sipush 20000, 3) := dX9_init_168_g.2.1
theorem dX9_init_172 : decode cX9_init 172 = .ok (.newarray .int, 2) := dX9_init_168_g.2.2.1
theorem dX9_init_174 : decode cX9_init 174 = .ok (.putfield 73, 3) := dX9_init_168_g.2.2.2.1
theorem dX9_init_177 : decode cX9_init 177 = .ok (.aload_n 0, 1) := dX9_init_168_g.2.2.2.2.1
theorem dX9_init_178 : decode cX9_init 178 = .ok (.sipush 20000, 3) := dX9_init_168_g.2.2.2.2.2.1
theorem dX9_init_181 : decode cX9_init 181 = .ok (.newarray .int, 2) := dX9_init_168_g.2.2.2.2.2.2.1
theorem dX9_init_183 : decode cX9_init 183 = .ok (.putfield 76, 3) := dX9_init_168_g.2.2.2.2.2.2.2
theorem dX9_init_186_g : (decode cX9_init 186 = .ok (.aload_n 0, 1)) ∧ (decode cX9_init 187 = .ok (.sipush 20000, 3)) ∧ (decode cX9_init 190 = .ok (.newarray .int, 2)) ∧ (decode cX9_init 192 = .ok (.putfield 79, 3)) ∧ (decode cX9_init 195 = .ok (.aload_n 0, 1)) ∧ (decode cX9_init 196 = .ok (.sipush 20000, 3)) ∧ (decode cX9_init 199 = .ok (.newarray .int, 2)) ∧ (decode cX9_init 201 = .ok (.putfield 82, 3)) := by decide +kernel
theorem dX9_init_186 : decode cX9_init 186 = .ok (.aload_n 0, 1) := dX9_init_186_g.1
theorem dX9_init_187 : decode cX9_init 187 = .ok (.sipush 20000, 3) := dX9_init_186_g.2.1
theorem dX9_init_190 : decode cX9_init 190 = .ok (.newarray .int, 2) := dX9_init_186_g.2.2.1
theorem dX9_init_192 : decode cX9_init 192 = .ok (.putfield 79, 3) := dX9_init_186_g.2.2.2.1
theorem dX9_init_195 : decode cX9_init 195 = .ok (.aload_n 0, 1) := dX9_init_186_g.2.2.2.2.1
theorem dX9_init_196 : decode cX9_init 196 = .ok (.sipush 20000, 3) := dX9_init_186_g.2.2.2.2.2.1
theorem dX9_init_199 : decode cX9_init 199 = .ok (.newarray .int, 2) := dX9_init_186_g.2.2.2.2.2.2.1
theorem dX9_init_201 : decode cX9_init 201 = .ok (.putfield 82, 3) := dX9_init_186_g.2.2.2.2.2.2.2
theorem dX9_init_204_g : (decode cX9_init 204 = .ok (.aload_n 0, 1)) ∧ (decode cX9_init 205 = .ok (.sipush 20000, 3)) ∧ (decode cX9_init 208 = .ok (.newarray .int, 2)) ∧ (decode cX9_init 210 = .ok (.putfield 85, 3)) ∧ (decode cX9_init 213 = .ok (.aload_n 0, 1)) ∧ (decode cX9_init 214 = .ok (.sipush 20000, 3)) ∧ (decode cX9_init 217 = .ok (.newarray .int, 2)) ∧ (decode cX9_init 219 = .ok (.putfield 88, 3)) := by decide +kernel
theorem dX9_init_204 : decode cX9_init 204 = .ok (.aload_n 0, 1) := dX9_init_204_g.1
theorem dX9_init_205 : decode cX9_init 205 = .ok (.sipush 20000, 3) := dX9_init_204_g.2.1
theorem dX9_init_208 : decode cX9_init 208 = .ok (.newarray .int, 2) := dX9_init_204_g.2.2.1
theorem dX9_init_210 : decode cX9_init 210 = .ok (.putfield 85, 3) := dX9_init_204_g.2.2.2.1
theorem dX9_init_213 : decode cX9_init 213 = .ok (.aload_n 0, 1) := dX9_init_204_g.2.2.2.2.1
theorem dX9_init_214 : decode cX9_init 214 = .ok (.sipush 20000, 3) := dX9_init_204_g.2.2.2.2.2.1
theorem dX9_init_217 : decode cX9_init 217 = .ok (.newarray .int, 2) := dX9_init_204_g.2.2.2.2.2.2.1
theorem dX9_init_219 : decode cX9_init 219 = .ok (.putfield 88, 3) := dX9_init_204_g.2.2.2.2.2.2.2
theorem dX9_init_222_g : (decode cX9_init 222 = .ok (.aload_n 0, 1)) ∧ (decode cX9_init 223 = .ok (.sipush 20000, 3)) ∧ (decode cX9_init 226 = .ok (.newarray .boolean, 2)) ∧ (decode cX9_init 228 = .ok (.putfield 91, 3)) ∧ (decode cX9_init 231 = .ok (.aload_n 0, 1)) ∧ (decode cX9_init 232 = .ok (.iconst 5, 1)) ∧ (decode cX9_init 233 = .ok (.newarray .int, 2)) ∧ (decode cX9_init 235 = .ok (.putfield 94, 3)) := by decide +kernel
theorem dX9_init_222 : decode cX9_init 222 = .ok (.aload_n 0, 1) := dX9_init_222_g.1
theorem dX9_init_223 : decode cX9_init 223 = .ok (.sipush 20000, 3) := dX9_init_222_g.2.1
theorem dX9_init_226 : decode cX9_init 226 = .ok (.newarray .boolean, 2) := dX9_init_222_g.2.2.1
theorem dX9_init_228 : decode cX9_init 228 = .ok (.putfield 91, 3) := dX9_init_222_g.2.2.2.1
theorem dX9_init_231 : decode cX9_init 231 = .ok (.aload_n 0, 1) := dX9_init_222_g.2.2.2.2.1
theorem dX9_init_232 : decode cX9_init 232 = .ok (.iconst 5, 1) := dX9_init_222_g.2.2.2.2.2.1
theorem dX9_init_233 : decode cX9_init 233 = .ok (.newarray .int, 2) := dX9_init_222_g.2.2.2.2.2.2.1
theorem dX9_init_235 : decode cX9_init 235 = .ok (.putfield 94, 3) := dX9_init_222_g.2.2.2.2.2.2.2
theorem dX9_init_238_g : (decode cX9_init 238 = .ok (.aload_n 0, 1)) ∧ (decode cX9_init 239 = .ok (.bipush 25, 2)) ∧ (decode cX9_init 241 = .ok (.newarray .int, 2)) ∧ (decode cX9_init 243 = .ok (.putfield 97, 3)) ∧ (decode cX9_init 246 = .ok (.aload_n 0, 1)) ∧ (decode cX9_init 247 = .ok (.bipush 25, 2)) ∧ (decode cX9_init 249 = .ok (.newarray .boolean, 2)) ∧ (decode cX9_init 251 = .ok (.putfield 100, 3)) := by decide +kernel
theorem dX9_init_238 : decode cX9_init 238 = .ok (.aload_n 0, 1) := dX9_init_238_g.1
theorem dX9_init_239 : decode cX9_init 239 = .ok (.bipush 25, 2) := dX9_init_238_g.2.1
theorem dX9_init_241 : decode cX9_init 241 = .ok (.newarray .int, 2) := dX9_init_238_g.2.2.1
theorem dX9_init_243 : decode cX9_init 243 = .ok (.putfield 97, 3) := dX9_init_238_g.2.2.2.1
theorem dX9_init_246 : decode cX9_init 246 = .ok (.aload_n 0, 1) := dX9_init_238_g.2.2.2.2.1
theorem dX9_init_247 : decode cX9_init 247 = .ok (.bipush 25, 2) := dX9_init_238_g.2.2.2.2.2.1
theorem dX9_init_249 : decode cX9_init 249 = .ok (.newarray .boolean, 2) := dX9_init_238_g.2.2.2.2.2.2.1
theorem dX9_init_251 : decode cX9_init 251 = .ok (.putfield 100, 3) := dX9_init_238_g.2.2.2.2.2.2.2
theorem dX9_init_254_g : (decode cX9_init 254 = .ok (.aload_n 0, 1)) ∧ (decode cX9_init 255 = .ok (.bipush 8, 2)) ∧ (decode cX9_init 257 = .ok (.newarray .int, 2)) ∧ (decode cX9_init 259 = .ok (.putfield 103, 3)) ∧ (decode cX9_init 262 = .ok (.aload_n 0, 1)) ∧ (decode cX9_init 263 = .ok (.bipush 64, 2)) ∧ (decode cX9_init 265 = .ok (.newarray .int, 2)) ∧ (decode cX9_init 267 = .ok (.putfield 106, 3)) := by decide +kernel
theorem dX9_init_254 : decode cX9_init 254 = .ok (.aload_n 0, 1) := dX9_init_254_g.1
theorem dX9_init_255 : decode cX9_init 255 = .ok (.bipush 8, 2) := dX9_init_254_g.2.1
theorem dX9_init_257 : decode cX9_init 257 = .ok (.newarray .int, 2) := dX9_init_254_g.2.2.1
theorem dX9_init_259 : decode cX9_init 259 = .ok (.putfield 103, 3) := dX9_init_254_g.2.2.2.1
theorem dX9_init_262 : decode cX9_init 262 = .ok (.aload_n 0, 1) := dX9_init_254_g.2.2.2.2.1
theorem dX9_init_263 : decode cX9_init 263 = .ok (.bipush 64, 2) := dX9_init_254_g.2.2.2.2.2.1
theorem dX9_init_265 : decode cX9_init 265 = .ok (.newarray .int, 2) := dX9_init_254_g.2.2.2.2.2.2.1
theorem dX9_init_267 : decode cX9_init 267 = .ok (.putfield 106, 3) := dX9_init_254_g.2.2.2.2.2.2.2
theorem dX9_init_270_g : (decode cX9_init 270 = .ok (.aload_n 0, 1)) ∧ (decode cX9_init 271 = .ok (.bipush 64, 2)) ∧ (decode cX9_init 273 = .ok (.newarray .int, 2)) ∧ (decode cX9_init 275 = .ok (.putfield 109, 3)) ∧ (decode cX9_init 278 = .ok (.aload_n 0, 1)) ∧ (decode cX9_init 279 = .ok (.sipush 320, 3)) ∧ (decode cX9_init 282 = .ok (.newarray .int, 2)) ∧ (decode cX9_init 284 = .ok (.putfield 112, 3)) := by decide +kernel
theorem dX9_init_270 : decode cX9_init 270 = .ok (.aload_n 0, 1) := dX9_init_270_g.1
theorem dX9_init_271 : decode cX9_init 271 = .ok (.bipush 64, 2) := dX9_init_270_g.2.1
theorem dX9_init_273 : decode cX9_init 273 = .ok (.newarray .int, 2) := dX9_init_270_g.2.2.1
theorem dX9_init_275 : decode cX9_init 275 = .ok (.putfield 109, 3) := dX9_init_270_g.2.2.2.1
theorem dX9_init_278 : decode cX9_init 278 = .ok (.aload_n 0, 1) := dX9_init_270_g.2.2.2.2.1
theorem dX9_init_279 : decode cX9_init 279 = .ok (.sipush 320, 3) := dX9_init_270_g.2.2.2.2.2.1
theorem dX9_init_282 : decode cX9_init 282 = .ok (.newarray .int, 2) := dX9_init_270_g.2.2.2.2.2.2.1
theorem dX9_init_284 : decode cX9_init 284 = .ok (.putfield 112, 3) := dX9_init_270_g.2.2.2.2.2.2.2
theorem dX9_init_287_g : (decode cX9_init 287 = .ok (.aload_n 0, 1)) ∧ (decode cX9_init 288 = .ok (.sipush 488, 3)) ∧ (decode cX9_init 291 = .ok (.newarray .long, 2)) ∧ (decode cX9_init 293 = .ok (.putfield 115, 3)) ∧ (decode cX9_init 296 = .ok (.aload_n 0, 1)) ∧ (decode cX9_init 297 = .ok (.bipush 8, 2)) ∧ (decode cX9_init 299 = .ok (.newarray .int, 2)) ∧ (decode cX9_init 301 = .ok (.putfield 118, 3)) := by decide +kernel
theorem dX9_init_287 : decode cX9_init 287 = .ok (.aload_n 0, 1) := dX9_init_287_g.1
theorem dX9_init_288 : decode cX9_init 288 = .ok (.sipush 488, 3) := dX9_init_287_g.2.1
theorem dX9_init_291 : decode cX9_init 291 = .ok (.newarray .long, 2) := dX9_init_287_g.2.2.1
theorem dX9_init_293 : decode cX9_init 293 = .ok (.putfield 115, 3) := dX9_init_287_g.2.2.2.1
theorem dX9_init_296 : decode cX9_init 296 = .ok (.aload_n 0, 1) := dX9_init_287_g.2.2.2.2.1
theorem dX9_init_297 : decode cX9_init 297 = .ok (.bipush 8, 2) := dX9_init_287_g.2.2.2.2.2.1
theorem dX9_init_299 : decode cX9_init 299 = .ok (.newarray .int, 2) := dX9_init_287_g.2.2.2.2.2.2.1
theorem dX9_init_301 : decode cX9_init 301 = .ok (.putfield 118, 3) := dX9_init_287_g.2.2.2.2.2.2.2
theorem dX9_init_304_g : (decode cX9_init 304 = .ok (.aload_n 0, 1)) ∧ (decode cX9_init 305 = .ok (.bipush 8, 2)) ∧ (decode cX9_init 307 = .ok (.newarray .int, 2)) ∧ (decode cX9_init 309 = .ok (.putfield 121, 3)) ∧ (decode cX9_init 312 = .ok (.aload_n 0, 1)) ∧ (decode cX9_init 313 = .ok (.bipush 8, 2)) ∧ (decode cX9_init 315 = .ok (.newarray .int, 2)) ∧ (decode cX9_init 317 = .ok (.putfield 124, 3)) := by decide +kernel
theorem dX9_init_304 : decode cX9_init 304 = .ok (.aload_n 0, 1) := dX9_init_304_g.1
theorem dX9_init_305 : decode cX9_init 305 = .ok (.bipush 8, 2) := dX9_init_304_g.2.1
theorem dX9_init_307 : decode cX9_init 307 = .ok (.newarray .int, 2) := dX9_init_304_g.2.2.1
theorem dX9_init_309 : decode cX9_init 309 = .ok (.putfield 121, 3) := dX9_init_304_g.2.2.2.1
theorem dX9_init_312 : decode cX9_init 312 = .ok (.aload_n 0, 1) := dX9_init_304_g.2.2.2.2.1
theorem dX9_init_313 : decode cX9_init 313 = .ok (.bipush 8, 2) := dX9_init_304_g.2.2.2.2.2.1
theorem dX9_init_315 : decode cX9_init 315 = .ok (.newarray .int, 2) := dX9_init_304_g.2.2.2.2.2.2.1
theorem dX9_init_317 : decode cX9_init 317 = .ok (.putfield 124, 3) := dX9_init_304_g.2.2.2.2.2.2.2
theorem dX9_init_320_g : (decode cX9_init 320 = .ok (.aload_n 0, 1)) ∧ (decode cX9_init 321 = .ok (.bipush 40, 2)) ∧ (decode cX9_init 323 = .ok (.newarray .int, 2)) ∧ (decode cX9_init 325 = .ok (.putfield 127, 3)) ∧ (decode cX9_init 328 = .ok (.aload_n 0, 1)) ∧ (decode cX9_init 329 = .ok (.iconst (-1), 1)) ∧ (decode cX9_init 330 = .ok (.putfield 130, 3)) ∧ (decode cX9_init 333 = .ok (.return_, 1)) := by decide +kernel
theorem dX9_init_320 : decode cX9_init 320 = .ok (.aload_n 0, 1) := dX9_init_320_g.1
theorem dX9_init_321 : decode cX9_init 321 = .ok (.bipush 40, 2) := dX9_init_320_g.2.1
theorem dX9_init_323 : decode cX9_init 323 = .ok (.newarray .int, 2) := dX9_init_320_g.2.2.1
theorem dX9_init_325 : decode cX9_init 325 = .ok (.putfield 127, 3) := dX9_init_320_g.2.2.2.1
theorem dX9_init_328 : decode cX9_init 328 = .ok (.aload_n 0, 1) := dX9_init_320_g.2.2.2.2.1
theorem dX9_init_329 : decode cX9_init 329 = .ok (.iconst (-1), 1) := dX9_init_320_g.2.2.2.2.2.1
theorem dX9_init_330 : decode cX9_init 330 = .ok (.putfield 130, 3) := dX9_init_320_g.2.2.2.2.2.2.1
theorem dX9_init_333 : decode cX9_init 333 = .ok (.return_, 1) := dX9_init_320_g.2.2.2.2.2.2.2
theorem dX9_in_0_g : (decode cX9_in 0 = .ok (.iload_n 1, 1)) ∧ (decode cX9_in 1 = .ok (.iload_n 2, 1)) ∧ (decode cX9_in 2 = .ok (.if_icmp .lt 12, 3)) ∧ (decode cX9_in 5 = .ok (.iload_n 1, 1)) ∧ (decode cX9_in 6 = .ok (.iload_n 3, 1)) ∧ (decode cX9_in 7 = .ok (.if_icmp .gt 7, 3)) ∧ (decode cX9_in 10 = .ok (.iconst 1, 1)) ∧ (decode cX9_in 11 = .ok (.goto 4, 3)) := by decide +kernel
theorem dX9_in_0 : decode cX9_in 0 = .ok (.iload_n 1, 1) := dX9_in_0_g.1
theorem dX9_in_1 : decode cX9_in 1 = .ok (.iload_n 2, 1) := dX9_in_0_g.2.1
theorem dX9_in_2 : decode cX9_in 2 = .ok (.if_icmp .lt 12, 3) := dX9_in_0_g.2.2.1
theorem dX9_in_5 : decode cX9_in 5 = .ok (.iload_n 1, 1) := dX9_in_0_g.2.2.2.1
theorem dX9_in_6 : decode cX9_in 6 = .ok (.iload_n 3, 1) := dX9_in_0_g.2.2.2.2.1
theorem dX9_in_7 : decode cX9_in 7 = .ok (.if_icmp .gt 7, 3) := dX9_in_0_g.2.2.2.2.2.1
theorem dX9_in_10 : decode cX9_in 10 = .ok (.iconst 1, 1) := dX9_in_0_g.2.2.2.2.2.2.1
theorem dX9_in_11 : decode cX9_in 11 = .ok (.goto 4, 3) := dX9_in_0_g.2.2.2.2.2.2.2
theorem dX9_in_14_g : (decode cX9_in 14 = .ok (.iconst 0, 1)) ∧ (decode cX9_in 15 = .ok (.ireturn, 1)) := by decide +kernel
theorem dX9_in_14 : decode cX9_in 14 = .ok (.iconst 0, 1) := dX9_in_14_g.1
theorem dX9_in_15 : decode cX9_in 15 = .ok (.ireturn, 1) := dX9_in_14_g.2
theorem dX9_no_0_g : (decode cX9_no 0 = .ok (.aload_n 0, 1)) ∧ (decode cX9_no 1 = .ok (.iload_n 1, 1)) ∧ (decode cX9_no 2 = .ok (.putfield 136, 3)) ∧ (decode cX9_no 5 = .ok (.iconst (-1), 1)) ∧ (decode cX9_no 6 = .ok (.ireturn, 1)) := by decide +kernel
theorem dX9_no_0 : decode cX9_no 0 = .ok (.aload_n 0, 1) := dX9_no_0_g.1
theorem dX9_no_1 : decode cX9_no 1 = .ok (.iload_n 1, 1) := dX9_no_0_g.2.1
theorem dX9_no_2 : decode cX9_no 2 = .ok (.putfield 136, 3) := dX9_no_0_g.2.2.1
theorem dX9_no_5 : decode cX9_no 5 = .ok (.iconst (-1), 1) := dX9_no_0_g.2.2.2.1
theorem dX9_no_6 : decode cX9_no 6 = .ok (.ireturn, 1) := dX9_no_0_g.2.2.2.2
theorem dX9_not_0_g : (decode cX9_not 0 = .ok (.aload_n 0, 1)) ∧ (decode cX9_not 1 = .ok (.iload_n 1, 1)) ∧ (decode cX9_not 2 = .ok (.putfield 136, 3)) ∧ (decode cX9_not 5 = .ok (.iconst 0, 1)) ∧ (decode cX9_not 6 = .ok (.ireturn, 1)) := by decide +kernel
theorem dX9_not_0 : decode cX9_not 0 = .ok (.aload_n 0, 1) := dX9_not_0_g.1
theorem dX9_not_1 : decode cX9_not 1 = .ok (.iload_n 1, 1) := dX9_not_0_g.2.1
theorem dX9_not_2 : decode cX9_not 2 = .ok (.putfield 136, 3) := dX9_not_0_g.2.2.1
theorem dX9_not_5 : decode cX9_not 5 = .ok (.iconst 0, 1) := dX9_not_0_g.2.2.2.1
theorem dX9_not_6 : decode cX9_not 6 = .ok (.ireturn, 1) := dX9_not_0_g.2.2.2.2
theorem dX9_isPeg_0_g : (decode cX9_isPeg 0 = .ok (.aload_n 0, 1)) ∧ (decode cX9_isPeg 1 = .ok (.iload_n 1, 1)) ∧ (decode cX9_isPeg 2 = .ok (.iconst 0, 1)) ∧ (decode cX9_isPeg 3 = .ok (.aload_n 0, 1)) ∧ (decode cX9_isPeg 4 = .ok (.getfield 7, 3)) ∧ (decode cX9_isPeg 7 = .ok (.iconst 1, 1)) ∧ (decode cX9_isPeg 8 = .ok (.isub, 1)) ∧ (decode cX9_isPeg 9 = .ok (.invokevirtual 139, 3)) := by decide +kernel
theorem dX9_isPeg_0 : decode cX9_isPeg 0 = .ok (.aload_n 0, 1) := dX9_isPeg_0_g.1
theorem dX9_isPeg_1 : decode cX9_isPeg 1 = .ok (.iload_n 1, 1) := dX9_isPeg_0_g.2.1
theorem dX9_isPeg_2 : decode cX9_isPeg 2 = .ok (.iconst 0, 1) := dX9_isPeg_0_g.2.2.1
theorem dX9_isPeg_3 : decode cX9_isPeg 3 = .ok (.aload_n 0, 1) := dX9_isPeg_0_g.2.2.2.1
theorem dX9_isPeg_4 : decode cX9_isPeg 4 = .ok (.getfield 7, 3) := dX9_isPeg_0_g.2.2.2.2.1
theorem dX9_isPeg_7 : decode cX9_isPeg 7 = .ok (.iconst 1, 1) := dX9_isPeg_0_g.2.2.2.2.2.1
theorem dX9_isPeg_8 : decode cX9_isPeg 8 = .ok (.isub, 1) := dX9_isPeg_0_g.2.2.2.2.2.2.1
theorem dX9_isPeg_9 : decode cX9_isPeg 9 = .ok (.invokevirtual 139, 3) := dX9_isPeg_0_g.2.2.2.2.2.2.2
theorem dX9_isPeg_12 : decode cX9_isPeg 12 = .ok (.ireturn, 1) := by decide +kernel
theorem dX9_nothingUndone_0_g : (decode cX9_nothingUndone 0 = .ok (.aload_n 0, 1)) ∧ (decode cX9_nothingUndone 1 = .ok (.iconst 0, 1)) ∧ (decode cX9_nothingUndone 2 = .ok (.putfield 143, 3)) ∧ (decode cX9_nothingUndone 5 = .ok (.aload_n 0, 1)) ∧ (decode cX9_nothingUndone 6 = .ok (.iconst 0, 1)) ∧ (decode cX9_nothingUndone 7 = .ok (.putfield 146, 3)) ∧ (decode cX9_nothingUndone 10 = .ok (.aload_n 0, 1)) ∧ (decode cX9_nothingUndone 11 = .ok (.iconst 0, 1)) := by decide +kernel
theorem dX9_nothingUndone_0 : decode cX9_nothingUndone 0 = .ok (.aload_n 0, 1) := dX9_nothingUndone_0_g.1
theorem dX9_nothingUndone_1 : decode cX9_nothingUndone 1 = .ok (.iconst 0, 1) := dX9_nothingUndone_0_g.2.1
theorem dX9_nothingUndone_2 : decode cX9_nothingUndone 2 = .ok (.putfield 143, 3) := dX9_nothingUndone_0_g.2.2.1
theorem dX9_nothingUndone_5 : decode cX9_nothingUndone 5 = .ok (.aload_n 0, 1) := dX9_nothingUndone_0_g.2.2.2.1
theorem dX9_nothingUndone_6 : decode cX9_nothingUndone 6 = .ok (.iconst 0, 1) := dX9_nothingUndone_0_g.2.2.2.2.1
theorem dX9_nothingUndone_7 : decode cX9_nothingUndone 7 = .ok (.putfield 146, 3) := dX9_nothingUndone_0_g.2.2.2.2.2.1
theorem dX9_nothingUndone_10 : decode cX9_nothingUndone 10 = .ok (.aload_n 0, 1) := dX9_nothingUndone_0_g.2.2.2.2.2.2.1
theorem dX9_nothingUndone_11 : decode cX9_nothingUndone 11 = .ok (.iconst 0, 1) := dX9_nothingUndone_0_g.2.2.2.2.2.2.2
theorem dX9_nothingUndone_12_g : (decode cX9_nothingUndone 12 = .ok (.putfield 136, 3)) ∧ (decode cX9_nothingUndone 15 = .ok (.return_, 1)) := by decide +kernel
theorem dX9_nothingUndone_12 : decode cX9_nothingUndone 12 = .ok (.putfield 136, 3) := dX9_nothingUndone_12_g.1
theorem dX9_nothingUndone_15 : decode cX9_nothingUndone 15 = .ok (.return_, 1) := dX9_nothingUndone_12_g.2
theorem dX9_unpack_0_g : (decode cX9_unpack 0 = .ok (.iload_n 1, 1)) ∧ (decode cX9_unpack 1 = .ok (.istore_n 3, 1)) ∧ (decode cX9_unpack 2 = .ok (.iconst 0, 1)) ∧ (decode cX9_unpack 3 = .ok (.istore 4, 2)) ∧ (decode cX9_unpack 5 = .ok (.iload 4, 2)) ∧ (decode cX9_unpack 7 = .ok (.aload_n 0, 1)) ∧ (decode cX9_unpack 8 = .ok (.getfield 13, 3)) ∧ (decode cX9_unpack 11 = .ok (.if_icmp .ge 26, 3)) := by decide +kernel
theorem dX9_unpack_0 : decode cX9_unpack 0 = .ok (.iload_n 1, 1) := dX9_unpack_0_g.1
theorem dX9_unpack_1 : decode cX9_unpack 1 = .ok (.istore_n 3, 1) := dX9_unpack_0_g.2.1
theorem dX9_unpack_2 : decode cX9_unpack 2 = .ok (.iconst 0, 1) := dX9_unpack_0_g.2.2.1
theorem dX9_unpack_3 : decode cX9_unpack 3 = .ok (.istore 4, 2) := dX9_unpack_0_g.2.2.2.1
theorem dX9_unpack_5 : decode cX9_unpack 5 = .ok (.iload 4, 2) := dX9_unpack_0_g.2.2.2.2.1
theorem dX9_unpack_7 : decode cX9_unpack 7 = .ok (.aload_n 0, 1) := dX9_unpack_0_g.2.2.2.2.2.1
theorem dX9_unpack_8 : decode cX9_unpack 8 = .ok (.getfield 13, 3) := dX9_unpack_0_g.2.2.2.2.2.2.1
theorem dX9_unpack_11 : decode cX9_unpack 11 = .ok (.if_icmp .ge 26, 3) := dX9_unpack_0_g.2.2.2.2.2.2.2
theorem dX9_unpack_14_g : (decode cX9_unpack 14 = .ok (.aload_n 2, 1)) ∧ (decode cX9_unpack 15 = .ok (.iload 4, 2)) ∧ (decode cX9_unpack 17 = .ok (.iload_n 3, 1)) ∧ (decode cX9_unpack 18 = .ok (.aload_n 0, 1)) ∧ (decode cX9_unpack 19 = .ok (.getfield 7, 3)) ∧ (decode cX9_unpack 22 = .ok (.irem, 1)) ∧ (decode cX9_unpack 23 = .ok (.iastore, 1)) ∧ (decode cX9_unpack 24 = .ok (.iload_n 3, 1)) := by decide +kernel
theorem dX9_unpack_14 : decode cX9_unpack 14 = .ok (.aload_n 2, 1) := dX9_unpack_14_g.1
theorem dX9_unpack_15 : decode cX9_unpack 15 = .ok (.iload 4, 2) := dX9_unpack_14_g.2.1
theorem dX9_unpack_17 : decode cX9_unpack 17 = .ok (.iload_n 3, 1) := dX9_unpack_14_g.2.2.1
theorem dX9_unpack_18 : decode cX9_unpack 18 = .ok (.aload_n 0, 1) := dX9_unpack_14_g.2.2.2.1
theorem dX9_unpack_19 : decode cX9_unpack 19 = .ok (.getfield 7, 3) := dX9_unpack_14_g.2.2.2.2.1
theorem dX9_unpack_22 : decode cX9_unpack 22 = .ok (.irem, 1) := dX9_unpack_14_g.2.2.2.2.2.1
theorem dX9_unpack_23 : decode cX9_unpack 23 = .ok (.iastore, 1) := dX9_unpack_14_g.2.2.2.2.2.2.1
theorem dX9_unpack_24 : decode cX9_unpack 24 = .ok (.iload_n 3, 1) := dX9_unpack_14_g.2.2.2.2.2.2.2
theorem dX9_unpack_25_g : (decode cX9_unpack 25 = .ok (.aload_n 0, 1)) ∧ (decode cX9_unpack 26 = .ok (.getfield 7, 3)) ∧ (decode cX9_unpack 29 = .ok (.idiv, 1)) ∧ (decode cX9_unpack 30 = .ok (.istore_n 3, 1)) ∧ (decode cX9_unpack 31 = .ok (.iinc 4 1, 3)) ∧ (decode cX9_unpack 34 = .ok (.goto (-29), 3)) ∧ (decode cX9_unpack 37 = .ok (.return_, 1)) := by decide +kernel
theorem dX9_unpack_25 : decode cX9_unpack 25 = .ok (.aload_n 0, 1) := dX9_unpack_25_g.1
theorem dX9_unpack_26 : decode cX9_unpack 26 = .ok (.getfield 7, 3) := dX9_unpack_25_g.2.1
theorem dX9_unpack_29 : decode cX9_unpack 29 = .ok (.idiv, 1) := dX9_unpack_25_g.2.2.1
theorem dX9_unpack_30 : decode cX9_unpack 30 = .ok (.istore_n 3, 1) := dX9_unpack_25_g.2.2.2.1
theorem dX9_unpack_31 : decode cX9_unpack 31 = .ok (.iinc 4 1, 3) := dX9_unpack_25_g.2.2.2.2.1
theorem dX9_unpack_34 : decode cX9_unpack 34 = .ok (.goto (-29), 3) := dX9_unpack_25_g.2.2.2.2.2.1
theorem dX9_unpack_37 : decode cX9_unpack 37 = .ok (.return_, 1) := dX9_unpack_25_g.2.2.2.2.2.2
theorem dX9_pack_0_g : (decode cX9_pack 0 = .ok (.iconst 0, 1)) ∧ (decode cX9_pack 1 = .ok (.istore_n 2, 1)) ∧ (decode cX9_pack 2 = .ok (.aload_n 0, 1)) ∧ (decode cX9_pack 3 = .ok (.getfield 13, 3)) ∧ (decode cX9_pack 6 = .ok (.iconst 1, 1)) ∧ (decode cX9_pack 7 = .ok (.isub, 1)) ∧ (decode cX9_pack 8 = .ok (.istore_n 3, 1)) ∧ (decode cX9_pack 9 = .ok (.iload_n 3, 1)) := by decide +kernel
theorem dX9_pack_0 : decode cX9_pack 0 = .ok (.iconst 0, 1) := dX9_pack_0_g.1
theorem dX9_pack_1 : decode cX9_pack 1 = .ok (.istore_n 2, 1) := dX9_pack_0_g.2.1
theorem dX9_pack_2 : decode cX9_pack 2 = .ok (.aload_n 0, 1) := dX9_pack_0_g.2.2.1
theorem dX9_pack_3 : decode cX9_pack 3 = .ok (.getfield 13, 3) := dX9_pack_0_g.2.2.2.1
theorem dX9_pack_6 : decode cX9_pack 6 = .ok (.iconst 1, 1) := dX9_pack_0_g.2.2.2.2.1
theorem dX9_pack_7 : decode cX9_pack 7 = .ok (.isub, 1) := dX9_pack_0_g.2.2.2.2.2.1
theorem dX9_pack_8 : decode cX9_pack 8 = .ok (.istore_n 3, 1) := dX9_pack_0_g.2.2.2.2.2.2.1
theorem dX9_pack_9 : decode cX9_pack 9 = .ok (.iload_n 3, 1) := dX9_pack_0_g.2.2.2.2.2.2.2
theorem dX9_pack_10_g : (decode cX9_pack 10 = .ok (.ifCond .lt 20, 3)) ∧ (decode cX9_pack 13 = .ok (.iload_n 2, 1)) ∧ (decode cX9_pack 14 = .ok (.aload_n 0, 1)) ∧ (decode cX9_pack 15 = .ok (.getfield 7, 3)) ∧ (decode cX9_pack 18 = .ok (.imul, 1)) ∧ (decode cX9_pack 19 = .ok (.aload_n 1, 1)) ∧ (decode cX9_pack 20 = .ok (.iload_n 3, 1)) ∧ (decode cX9_pack 21 = .ok (.iaload, 1)) := by decide +kernel
theorem dX9_pack_10 : decode cX9_pack 10 = .ok (.ifCond .lt 20, 3) := dX9_pack_10_g.1
theorem dX9_pack_13 : decode cX9_pack 13 = .ok (.iload_n 2, 1) := dX9_pack_10_g.2.1
theorem dX9_pack_14 : decode cX9_pack 14 = .ok (.aload_n 0, 1) := dX9_pack_10_g.2.2.1
theorem dX9_pack_15 : decode cX9_pack 15 = .ok (.getfield 7, 3) := dX9_pack_10_g.2.2.2.1
theorem dX9_pack_18 : decode cX9_pack 18 = .ok (.imul, 1) := dX9_pack_10_g.2.2.2.2.1
theorem dX9_pack_19 : decode cX9_pack 19 = .ok (.aload_n 1, 1) := dX9_pack_10_g.2.2.2.2.2.1
theorem dX9_pack_20 : decode cX9_pack 20 = .ok (.iload_n 3, 1) := dX9_pack_10_g.2.2.2.2.2.2.1
theorem dX9_pack_21 : decode cX9_pack 21 = .ok (.iaload, 1) := dX9_pack_10_g.2.2.2.2.2.2.2
theorem dX9_pack_22_g : (decode cX9_pack 22 = .ok (.iadd, 1)) ∧ (decode cX9_pack 23 = .ok (.istore_n 2, 1)) ∧ (decode cX9_pack 24 = .ok (.iinc 3 (-1), 3)) ∧ (decode cX9_pack 27 = .ok (.goto (-18), 3)) ∧ (decode cX9_pack 30 = .ok (.iload_n 2, 1)) ∧ (decode cX9_pack 31 = .ok (.ireturn, 1)) := by decide +kernel
theorem dX9_pack_22 : decode cX9_pack 22 = .ok (.iadd, 1) := dX9_pack_22_g.1
theorem dX9_pack_23 : decode cX9_pack 23 = .ok (.istore_n 2, 1) := dX9_pack_22_g.2.1
theorem dX9_pack_24 : decode cX9_pack 24 = .ok (.iinc 3 (-1), 3) := dX9_pack_22_g.2.2.1
theorem dX9_pack_27 : decode cX9_pack 27 = .ok (.goto (-18), 3) := dX9_pack_22_g.2.2.2.1
theorem dX9_pack_30 : decode cX9_pack 30 = .ok (.iload_n 2, 1) := dX9_pack_22_g.2.2.2.2.1
theorem dX9_pack_31 : decode cX9_pack 31 = .ok (.ireturn, 1) := dX9_pack_22_g.2.2.2.2.2
theorem dX9_stands_0_g : (decode cX9_stands 0 = .ok (.iconst 1, 1)) ∧ (decode cX9_stands 1 = .ok (.istore_n 1, 1)) ∧ (decode cX9_stands 2 = .ok (.iconst 0, 1)) ∧ (decode cX9_stands 3 = .ok (.istore_n 2, 1)) ∧ (decode cX9_stands 4 = .ok (.iload_n 2, 1)) ∧ (decode cX9_stands 5 = .ok (.aload_n 0, 1)) ∧ (decode cX9_stands 6 = .ok (.getfield 13, 3)) ∧ (decode cX9_stands 9 = .ok (.if_icmp .ge 16, 3)) := by decide +kernel
theorem dX9_stands_0 : decode cX9_stands 0 = .ok (.iconst 1, 1) := dX9_stands_0_g.1
theorem dX9_stands_1 : decode cX9_stands 1 = .ok (.istore_n 1, 1) := dX9_stands_0_g.2.1
theorem dX9_stands_2 : decode cX9_stands 2 = .ok (.iconst 0, 1) := dX9_stands_0_g.2.2.1
theorem dX9_stands_3 : decode cX9_stands 3 = .ok (.istore_n 2, 1) := dX9_stands_0_g.2.2.2.1
theorem dX9_stands_4 : decode cX9_stands 4 = .ok (.iload_n 2, 1) := dX9_stands_0_g.2.2.2.2.1
theorem dX9_stands_5 : decode cX9_stands 5 = .ok (.aload_n 0, 1) := dX9_stands_0_g.2.2.2.2.2.1
theorem dX9_stands_6 : decode cX9_stands 6 = .ok (.getfield 13, 3) := dX9_stands_0_g.2.2.2.2.2.2.1
theorem dX9_stands_9 : decode cX9_stands 9 = .ok (.if_icmp .ge 16, 3) := dX9_stands_0_g.2.2.2.2.2.2.2
theorem dX9_stands_12_g : (decode cX9_stands 12 = .ok (.iload_n 1, 1)) ∧ (decode cX9_stands 13 = .ok (.aload_n 0, 1)) ∧ (decode cX9_stands 14 = .ok (.getfield 7, 3)) ∧ (decode cX9_stands 17 = .ok (.imul, 1)) ∧ (decode cX9_stands 18 = .ok (.istore_n 1, 1)) ∧ (decode cX9_stands 19 = .ok (.iinc 2 1, 3)) ∧ (decode cX9_stands 22 = .ok (.goto (-18), 3)) ∧ (decode cX9_stands 25 = .ok (.iload_n 1, 1)) := by decide +kernel
theorem dX9_stands_12 : decode cX9_stands 12 = .ok (.iload_n 1, 1) := dX9_stands_12_g.1
theorem dX9_stands_13 : decode cX9_stands 13 = .ok (.aload_n 0, 1) := dX9_stands_12_g.2.1
theorem dX9_stands_14 : decode cX9_stands 14 = .ok (.getfield 7, 3) := dX9_stands_12_g.2.2.1
theorem dX9_stands_17 : decode cX9_stands 17 = .ok (.imul, 1) := dX9_stands_12_g.2.2.2.1
theorem dX9_stands_18 : decode cX9_stands 18 = .ok (.istore_n 1, 1) := dX9_stands_12_g.2.2.2.2.1
theorem dX9_stands_19 : decode cX9_stands 19 = .ok (.iinc 2 1, 3) := dX9_stands_12_g.2.2.2.2.2.1
theorem dX9_stands_22 : decode cX9_stands 22 = .ok (.goto (-18), 3) := dX9_stands_12_g.2.2.2.2.2.2.1
theorem dX9_stands_25 : decode cX9_stands 25 = .ok (.iload_n 1, 1) := dX9_stands_12_g.2.2.2.2.2.2.2
theorem dX9_stands_26 : decode cX9_stands 26 = .ok (.ireturn, 1) := by decide +kernel
theorem dX9_below_0_g : (decode cX9_below 0 = .ok (.iload_n 2, 1)) ∧ (decode cX9_below 1 = .ok (.iconst 1, 1)) ∧ (decode cX9_below 2 = .ok (.iadd, 1)) ∧ (decode cX9_below 3 = .ok (.istore_n 3, 1)) ∧ (decode cX9_below 4 = .ok (.iload_n 3, 1)) ∧ (decode cX9_below 5 = .ok (.aload_n 0, 1)) ∧ (decode cX9_below 6 = .ok (.getfield 13, 3)) ∧ (decode cX9_below 9 = .ok (.if_icmp .ge 18, 3)) := by decide +kernel
theorem dX9_below_0 : decode cX9_below 0 = .ok (.iload_n 2, 1) := dX9_below_0_g.1
theorem dX9_below_1 : decode cX9_below 1 = .ok (.iconst 1, 1) := dX9_below_0_g.2.1
theorem dX9_below_2 : decode cX9_below 2 = .ok (.iadd, 1) := dX9_below_0_g.2.2.1
theorem dX9_below_3 : decode cX9_below 3 = .ok (.istore_n 3, 1) := dX9_below_0_g.2.2.2.1
theorem dX9_below_4 : decode cX9_below 4 = .ok (.iload_n 3, 1) := dX9_below_0_g.2.2.2.2.1
theorem dX9_below_5 : decode cX9_below 5 = .ok (.aload_n 0, 1) := dX9_below_0_g.2.2.2.2.2.1
theorem dX9_below_6 : decode cX9_below 6 = .ok (.getfield 13, 3) := dX9_below_0_g.2.2.2.2.2.2.1
theorem dX9_below_9 : decode cX9_below 9 = .ok (.if_icmp .ge 18, 3) := dX9_below_0_g.2.2.2.2.2.2.2
theorem dX9_below_12_g : (decode cX9_below 12 = .ok (.aload_n 1, 1)) ∧ (decode cX9_below 13 = .ok (.iload_n 3, 1)) ∧ (decode cX9_below 14 = .ok (.iaload, 1)) ∧ (decode cX9_below 15 = .ok (.aload_n 1, 1)) ∧ (decode cX9_below 16 = .ok (.iload_n 2, 1)) ∧ (decode cX9_below 17 = .ok (.iaload, 1)) ∧ (decode cX9_below 18 = .ok (.if_icmp .eq 9, 3)) ∧ (decode cX9_below 21 = .ok (.iinc 3 1, 3)) := by decide +kernel
theorem dX9_below_12 : decode cX9_below 12 = .ok (.aload_n 1, 1) := dX9_below_12_g.1
theorem dX9_below_13 : decode cX9_below 13 = .ok (.iload_n 3, 1) := dX9_below_12_g.2.1
theorem dX9_below_14 : decode cX9_below 14 = .ok (.iaload, 1) := dX9_below_12_g.2.2.1
theorem dX9_below_15 : decode cX9_below 15 = .ok (.aload_n 1, 1) := dX9_below_12_g.2.2.2.1
theorem dX9_below_16 : decode cX9_below 16 = .ok (.iload_n 2, 1) := dX9_below_12_g.2.2.2.2.1
theorem dX9_below_17 : decode cX9_below 17 = .ok (.iaload, 1) := dX9_below_12_g.2.2.2.2.2.1
theorem dX9_below_18 : decode cX9_below 18 = .ok (.if_icmp .eq 9, 3) := dX9_below_12_g.2.2.2.2.2.2.1
theorem dX9_below_21 : decode cX9_below 21 = .ok (.iinc 3 1, 3) := dX9_below_12_g.2.2.2.2.2.2.2
theorem dX9_below_24_g : (decode cX9_below 24 = .ok (.goto (-20), 3)) ∧ (decode cX9_below 27 = .ok (.iload_n 3, 1)) ∧ (decode cX9_below 28 = .ok (.aload_n 0, 1)) ∧ (decode cX9_below 29 = .ok (.getfield 13, 3)) ∧ (decode cX9_below 32 = .ok (.if_icmp .ge 7, 3)) ∧ (decode cX9_below 35 = .ok (.iload_n 3, 1)) ∧ (decode cX9_below 36 = .ok (.goto 4, 3)) ∧ (decode cX9_below 39 = .ok (.iconst (-1), 1)) := by decide +kernel
theorem dX9_below_24 : decode cX9_below 24 = .ok (.goto (-20), 3) := dX9_below_24_g.1
theorem dX9_below_27 : decode cX9_below 27 = .ok (.iload_n 3, 1) := dX9_below_24_g.2.1
theorem dX9_below_28 : decode cX9_below 28 = .ok (.aload_n 0, 1) := dX9_below_24_g.2.2.1
theorem dX9_below_29 : decode cX9_below 29 = .ok (.getfield 13, 3) := dX9_below_24_g.2.2.2.1
theorem dX9_below_32 : decode cX9_below 32 = .ok (.if_icmp .ge 7, 3) := dX9_below_24_g.2.2.2.2.1
theorem dX9_below_35 : decode cX9_below 35 = .ok (.iload_n 3, 1) := dX9_below_24_g.2.2.2.2.2.1
theorem dX9_below_36 : decode cX9_below 36 = .ok (.goto 4, 3) := dX9_below_24_g.2.2.2.2.2.2.1
theorem dX9_below_39 : decode cX9_below 39 = .ok (.iconst (-1), 1) := dX9_below_24_g.2.2.2.2.2.2.2
theorem dX9_below_40 : decode cX9_below 40 = .ok (.ireturn, 1) := by decide +kernel
theorem dX9_top_0_g : (decode cX9_top 0 = .ok (.iconst 0, 1)) ∧ (decode cX9_top 1 = .ok (.istore_n 3, 1)) ∧ (decode cX9_top 2 = .ok (.iload_n 3, 1)) ∧ (decode cX9_top 3 = .ok (.aload_n 0, 1)) ∧ (decode cX9_top 4 = .ok (.getfield 13, 3)) ∧ (decode cX9_top 7 = .ok (.if_icmp .ge 16, 3)) ∧ (decode cX9_top 10 = .ok (.aload_n 1, 1)) ∧ (decode cX9_top 11 = .ok (.iload_n 3, 1)) := by decide +kernel
theorem dX9_top_0 : decode cX9_top 0 = .ok (.iconst 0, 1) := dX9_top_0_g.1
theorem dX9_top_1 : decode cX9_top 1 = .ok (.istore_n 3, 1) := dX9_top_0_g.2.1
theorem dX9_top_2 : decode cX9_top 2 = .ok (.iload_n 3, 1) := dX9_top_0_g.2.2.1
theorem dX9_top_3 : decode cX9_top 3 = .ok (.aload_n 0, 1) := dX9_top_0_g.2.2.2.1
theorem dX9_top_4 : decode cX9_top 4 = .ok (.getfield 13, 3) := dX9_top_0_g.2.2.2.2.1
theorem dX9_top_7 : decode cX9_top 7 = .ok (.if_icmp .ge 16, 3) := dX9_top_0_g.2.2.2.2.2.1
theorem dX9_top_10 : decode cX9_top 10 = .ok (.aload_n 1, 1) := dX9_top_0_g.2.2.2.2.2.2.1
theorem dX9_top_11 : decode cX9_top 11 = .ok (.iload_n 3, 1) := dX9_top_0_g.2.2.2.2.2.2.2
theorem dX9_top_12_g : (decode cX9_top 12 = .ok (.iaload, 1)) ∧ (decode cX9_top 13 = .ok (.iload_n 2, 1)) ∧ (decode cX9_top 14 = .ok (.if_icmp .eq 9, 3)) ∧ (decode cX9_top 17 = .ok (.iinc 3 1, 3)) ∧ (decode cX9_top 20 = .ok (.goto (-18), 3)) ∧ (decode cX9_top 23 = .ok (.iload_n 3, 1)) ∧ (decode cX9_top 24 = .ok (.aload_n 0, 1)) ∧ (decode cX9_top 25 = .ok (.getfield 13, 3)) := by decide +kernel
theorem dX9_top_12 : decode cX9_top 12 = .ok (.iaload, 1) := dX9_top_12_g.1
theorem dX9_top_13 : decode cX9_top 13 = .ok (.iload_n 2, 1) := dX9_top_12_g.2.1
theorem dX9_top_14 : decode cX9_top 14 = .ok (.if_icmp .eq 9, 3) := dX9_top_12_g.2.2.1
theorem dX9_top_17 : decode cX9_top 17 = .ok (.iinc 3 1, 3) := dX9_top_12_g.2.2.2.1
theorem dX9_top_20 : decode cX9_top 20 = .ok (.goto (-18), 3) := dX9_top_12_g.2.2.2.2.1
theorem dX9_top_23 : decode cX9_top 23 = .ok (.iload_n 3, 1) := dX9_top_12_g.2.2.2.2.2.1
theorem dX9_top_24 : decode cX9_top 24 = .ok (.aload_n 0, 1) := dX9_top_12_g.2.2.2.2.2.2.1
theorem dX9_top_25 : decode cX9_top 25 = .ok (.getfield 13, 3) := dX9_top_12_g.2.2.2.2.2.2.2
theorem dX9_top_28_g : (decode cX9_top 28 = .ok (.if_icmp .ge 7, 3)) ∧ (decode cX9_top 31 = .ok (.iload_n 3, 1)) ∧ (decode cX9_top 32 = .ok (.goto 4, 3)) ∧ (decode cX9_top 35 = .ok (.iconst (-1), 1)) ∧ (decode cX9_top 36 = .ok (.ireturn, 1)) := by decide +kernel
theorem dX9_top_28 : decode cX9_top 28 = .ok (.if_icmp .ge 7, 3) := dX9_top_28_g.1
theorem dX9_top_31 : decode cX9_top 31 = .ok (.iload_n 3, 1) := dX9_top_28_g.2.1
theorem dX9_top_32 : decode cX9_top 32 = .ok (.goto 4, 3) := dX9_top_28_g.2.2.1
theorem dX9_top_35 : decode cX9_top 35 = .ok (.iconst (-1), 1) := dX9_top_28_g.2.2.2.1
theorem dX9_top_36 : decode cX9_top 36 = .ok (.ireturn, 1) := dX9_top_28_g.2.2.2.2
theorem dX9_isRight_0_g : (decode cX9_isRight 0 = .ok (.iconst 0, 1)) ∧ (decode cX9_isRight 1 = .ok (.istore_n 2, 1)) ∧ (decode cX9_isRight 2 = .ok (.iload_n 2, 1)) ∧ (decode cX9_isRight 3 = .ok (.aload_n 0, 1)) ∧ (decode cX9_isRight 4 = .ok (.getfield 13, 3)) ∧ (decode cX9_isRight 7 = .ok (.if_icmp .ge 43, 3)) ∧ (decode cX9_isRight 10 = .ok (.aload_n 0, 1)) ∧ (decode cX9_isRight 11 = .ok (.aload_n 1, 1)) := by decide +kernel
theorem dX9_isRight_0 : decode cX9_isRight 0 = .ok (.iconst 0, 1) := dX9_isRight_0_g.1
theorem dX9_isRight_1 : decode cX9_isRight 1 = .ok (.istore_n 2, 1) := dX9_isRight_0_g.2.1
theorem dX9_isRight_2 : decode cX9_isRight 2 = .ok (.iload_n 2, 1) := dX9_isRight_0_g.2.2.1
theorem dX9_isRight_3 : decode cX9_isRight 3 = .ok (.aload_n 0, 1) := dX9_isRight_0_g.2.2.2.1
theorem dX9_isRight_4 : decode cX9_isRight 4 = .ok (.getfield 13, 3) := dX9_isRight_0_g.2.2.2.2.1
theorem dX9_isRight_7 : decode cX9_isRight 7 = .ok (.if_icmp .ge 43, 3) := dX9_isRight_0_g.2.2.2.2.2.1
theorem dX9_isRight_10 : decode cX9_isRight 10 = .ok (.aload_n 0, 1) := dX9_isRight_0_g.2.2.2.2.2.2.1
theorem dX9_isRight_11 : decode cX9_isRight 11 = .ok (.aload_n 1, 1) := dX9_isRight_0_g.2.2.2.2.2.2.2
theorem dX9_isRight_12_g : (decode cX9_isRight 12 = .ok (.iload_n 2, 1)) ∧ (decode cX9_isRight 13 = .ok (.invokevirtual 149, 3)) ∧ (decode cX9_isRight 16 = .ok (.istore_n 3, 1)) ∧ (decode cX9_isRight 17 = .ok (.iload_n 3, 1)) ∧ (decode cX9_isRight 18 = .ok (.iconst (-1), 1)) ∧ (decode cX9_isRight 19 = .ok (.if_icmp .eq 25, 3)) ∧ (decode cX9_isRight 22 = .ok (.aload_n 0, 1)) ∧ (decode cX9_isRight 23 = .ok (.getfield 16, 3)) := by decide +kernel
theorem dX9_isRight_12 : decode cX9_isRight 12 = .ok (.iload_n 2, 1) := dX9_isRight_12_g.1
theorem dX9_isRight_13 : decode cX9_isRight 13 = .ok (.invokevirtual 149, 3) := dX9_isRight_12_g.2.1
theorem dX9_isRight_16 : decode cX9_isRight 16 = .ok (.istore_n 3, 1) := dX9_isRight_12_g.2.2.1
theorem dX9_isRight_17 : decode cX9_isRight 17 = .ok (.iload_n 3, 1) := dX9_isRight_12_g.2.2.2.1
theorem dX9_isRight_18 : decode cX9_isRight 18 = .ok (.iconst (-1), 1) := dX9_isRight_12_g.2.2.2.2.1
theorem dX9_isRight_19 : decode cX9_isRight 19 = .ok (.if_icmp .eq 25, 3) := dX9_isRight_12_g.2.2.2.2.2.1
theorem dX9_isRight_22 : decode cX9_isRight 22 = .ok (.aload_n 0, 1) := dX9_isRight_12_g.2.2.2.2.2.2.1
theorem dX9_isRight_23 : decode cX9_isRight 23 = .ok (.getfield 16, 3) := dX9_isRight_12_g.2.2.2.2.2.2.2
theorem dX9_isRight_26_g : (decode cX9_isRight 26 = .ok (.iload_n 3, 1)) ∧ (decode cX9_isRight 27 = .ok (.iaload, 1)) ∧ (decode cX9_isRight 28 = .ok (.iconst 2, 1)) ∧ (decode cX9_isRight 29 = .ok (.if_icmp .ne 15, 3)) ∧ (decode cX9_isRight 32 = .ok (.aload_n 0, 1)) ∧ (decode cX9_isRight 33 = .ok (.getfield 16, 3)) ∧ (decode cX9_isRight 36 = .ok (.iload_n 2, 1)) ∧ (decode cX9_isRight 37 = .ok (.iaload, 1)) := by decide +kernel
theorem dX9_isRight_26 : decode cX9_isRight 26 = .ok (.iload_n 3, 1) := dX9_isRight_26_g.1
theorem dX9_isRight_27 : decode cX9_isRight 27 = .ok (.iaload, 1) := dX9_isRight_26_g.2.1
theorem dX9_isRight_28 : decode cX9_isRight 28 = .ok (.iconst 2, 1) := dX9_isRight_26_g.2.2.1
theorem dX9_isRight_29 : decode cX9_isRight 29 = .ok (.if_icmp .ne 15, 3) := dX9_isRight_26_g.2.2.2.1
theorem dX9_isRight_32 : decode cX9_isRight 32 = .ok (.aload_n 0, 1) := dX9_isRight_26_g.2.2.2.2.1
theorem dX9_isRight_33 : decode cX9_isRight 33 = .ok (.getfield 16, 3) := dX9_isRight_26_g.2.2.2.2.2.1
theorem dX9_isRight_36 : decode cX9_isRight 36 = .ok (.iload_n 2, 1) := dX9_isRight_26_g.2.2.2.2.2.2.1
theorem dX9_isRight_37 : decode cX9_isRight 37 = .ok (.iaload, 1) := dX9_isRight_26_g.2.2.2.2.2.2.2
theorem dX9_isRight_38_g : (decode cX9_isRight 38 = .ok (.iconst 2, 1)) ∧ (decode cX9_isRight 39 = .ok (.if_icmp .eq 5, 3)) ∧ (decode cX9_isRight 42 = .ok (.iconst 0, 1)) ∧ (decode cX9_isRight 43 = .ok (.ireturn, 1)) ∧ (decode cX9_isRight 44 = .ok (.iinc 2 1, 3)) ∧ (decode cX9_isRight 47 = .ok (.goto (-45), 3)) ∧ (decode cX9_isRight 50 = .ok (.iconst 1, 1)) ∧ (decode cX9_isRight 51 = .ok (.ireturn, 1)) := by decide +kernel
theorem dX9_isRight_38 : decode cX9_isRight 38 = .ok (.iconst 2, 1) := dX9_isRight_38_g.1
theorem dX9_isRight_39 : decode cX9_isRight 39 = .ok (.if_icmp .eq 5, 3) := dX9_isRight_38_g.2.1
theorem dX9_isRight_42 : decode cX9_isRight 42 = .ok (.iconst 0, 1) := dX9_isRight_38_g.2.2.1
theorem dX9_isRight_43 : decode cX9_isRight 43 = .ok (.ireturn, 1) := dX9_isRight_38_g.2.2.2.1
theorem dX9_isRight_44 : decode cX9_isRight 44 = .ok (.iinc 2 1, 3) := dX9_isRight_38_g.2.2.2.2.1
theorem dX9_isRight_47 : decode cX9_isRight 47 = .ok (.goto (-45), 3) := dX9_isRight_38_g.2.2.2.2.2.1
theorem dX9_isRight_50 : decode cX9_isRight 50 = .ok (.iconst 1, 1) := dX9_isRight_38_g.2.2.2.2.2.2.1
theorem dX9_isRight_51 : decode cX9_isRight 51 = .ok (.ireturn, 1) := dX9_isRight_38_g.2.2.2.2.2.2.2
theorem dX9_packOf_0_g : (decode cX9_packOf 0 = .ok (.iload_n 2, 1)) ∧ (decode cX9_packOf 1 = .ok (.istore_n 3, 1)) ∧ (decode cX9_packOf 2 = .ok (.aload_n 0, 1)) ∧ (decode cX9_packOf 3 = .ok (.getfield 16, 3)) ∧ (decode cX9_packOf 6 = .ok (.iload_n 3, 1)) ∧ (decode cX9_packOf 7 = .ok (.iaload, 1)) ∧ (decode cX9_packOf 8 = .ok (.iconst 3, 1)) ∧ (decode cX9_packOf 9 = .ok (.if_icmp .ne 42, 3)) := by decide +kernel
theorem dX9_packOf_0 : decode cX9_packOf 0 = .ok (.iload_n 2, 1) := dX9_packOf_0_g.1
theorem dX9_packOf_1 : decode cX9_packOf 1 = .ok (.istore_n 3, 1) := dX9_packOf_0_g.2.1
theorem dX9_packOf_2 : decode cX9_packOf 2 = .ok (.aload_n 0, 1) := dX9_packOf_0_g.2.2.1
theorem dX9_packOf_3 : decode cX9_packOf 3 = .ok (.getfield 16, 3) := dX9_packOf_0_g.2.2.2.1
theorem dX9_packOf_6 : decode cX9_packOf 6 = .ok (.iload_n 3, 1) := dX9_packOf_0_g.2.2.2.2.1
theorem dX9_packOf_7 : decode cX9_packOf 7 = .ok (.iaload, 1) := dX9_packOf_0_g.2.2.2.2.2.1
theorem dX9_packOf_8 : decode cX9_packOf 8 = .ok (.iconst 3, 1) := dX9_packOf_0_g.2.2.2.2.2.2.1
theorem dX9_packOf_9 : decode cX9_packOf 9 = .ok (.if_icmp .ne 42, 3) := dX9_packOf_0_g.2.2.2.2.2.2.2
theorem dX9_packOf_12_g : (decode cX9_packOf 12 = .ok (.iload_n 3, 1)) ∧ (decode cX9_packOf 13 = .ok (.iconst 1, 1)) ∧ (decode cX9_packOf 14 = .ok (.iadd, 1)) ∧ (decode cX9_packOf 15 = .ok (.aload_n 0, 1)) ∧ (decode cX9_packOf 16 = .ok (.getfield 13, 3)) ∧ (decode cX9_packOf 19 = .ok (.if_icmp .ge 32, 3)) ∧ (decode cX9_packOf 22 = .ok (.aload_n 0, 1)) ∧ (decode cX9_packOf 23 = .ok (.getfield 16, 3)) := by decide +kernel
theorem dX9_packOf_12 : decode cX9_packOf 12 = .ok (.iload_n 3, 1) := dX9_packOf_12_g.1
theorem dX9_packOf_13 : decode cX9_packOf 13 = .ok (.iconst 1, 1) := dX9_packOf_12_g.2.1
theorem dX9_packOf_14 : decode cX9_packOf 14 = .ok (.iadd, 1) := dX9_packOf_12_g.2.2.1
theorem dX9_packOf_15 : decode cX9_packOf 15 = .ok (.aload_n 0, 1) := dX9_packOf_12_g.2.2.2.1
theorem dX9_packOf_16 : decode cX9_packOf 16 = .ok (.getfield 13, 3) := dX9_packOf_12_g.2.2.2.2.1
theorem dX9_packOf_19 : decode cX9_packOf 19 = .ok (.if_icmp .ge 32, 3) := dX9_packOf_12_g.2.2.2.2.2.1
theorem dX9_packOf_22 : decode cX9_packOf 22 = .ok (.aload_n 0, 1) := dX9_packOf_12_g.2.2.2.2.2.2.1
theorem dX9_packOf_23 : decode cX9_packOf 23 = .ok (.getfield 16, 3) := dX9_packOf_12_g.2.2.2.2.2.2.2
theorem dX9_packOf_26_g : (decode cX9_packOf 26 = .ok (.iload_n 3, 1)) ∧ (decode cX9_packOf 27 = .ok (.iconst 1, 1)) ∧ (decode cX9_packOf 28 = .ok (.iadd, 1)) ∧ (decode cX9_packOf 29 = .ok (.iaload, 1)) ∧ (decode cX9_packOf 30 = .ok (.iconst 3, 1)) ∧ (decode cX9_packOf 31 = .ok (.if_icmp .ne 20, 3)) ∧ (decode cX9_packOf 34 = .ok (.aload_n 1, 1)) ∧ (decode cX9_packOf 35 = .ok (.iload_n 3, 1)) := by decide +kernel
theorem dX9_packOf_26 : decode cX9_packOf 26 = .ok (.iload_n 3, 1) := dX9_packOf_26_g.1
theorem dX9_packOf_27 : decode cX9_packOf 27 = .ok (.iconst 1, 1) := dX9_packOf_26_g.2.1
theorem dX9_packOf_28 : decode cX9_packOf 28 = .ok (.iadd, 1) := dX9_packOf_26_g.2.2.1
theorem dX9_packOf_29 : decode cX9_packOf 29 = .ok (.iaload, 1) := dX9_packOf_26_g.2.2.2.1
theorem dX9_packOf_30 : decode cX9_packOf 30 = .ok (.iconst 3, 1) := dX9_packOf_26_g.2.2.2.2.1
theorem dX9_packOf_31 : decode cX9_packOf 31 = .ok (.if_icmp .ne 20, 3) := dX9_packOf_26_g.2.2.2.2.2.1
theorem dX9_packOf_34 : decode cX9_packOf 34 = .ok (.aload_n 1, 1) := dX9_packOf_26_g.2.2.2.2.2.2.1
theorem dX9_packOf_35 : decode cX9_packOf 35 = .ok (.iload_n 3, 1) := dX9_packOf_26_g.2.2.2.2.2.2.2
theorem dX9_packOf_36_g : (decode cX9_packOf 36 = .ok (.iconst 1, 1)) ∧ (decode cX9_packOf 37 = .ok (.iadd, 1)) ∧ (decode cX9_packOf 38 = .ok (.iaload, 1)) ∧ (decode cX9_packOf 39 = .ok (.aload_n 1, 1)) ∧ (decode cX9_packOf 40 = .ok (.iload_n 2, 1)) ∧ (decode cX9_packOf 41 = .ok (.iaload, 1)) ∧ (decode cX9_packOf 42 = .ok (.if_icmp .ne 9, 3)) ∧ (decode cX9_packOf 45 = .ok (.iinc 3 1, 3)) := by decide +kernel
theorem dX9_packOf_36 : decode cX9_packOf 36 = .ok (.iconst 1, 1) := dX9_packOf_36_g.1
theorem dX9_packOf_37 : decode cX9_packOf 37 = .ok (.iadd, 1) := dX9_packOf_36_g.2.1
theorem dX9_packOf_38 : decode cX9_packOf 38 = .ok (.iaload, 1) := dX9_packOf_36_g.2.2.1
theorem dX9_packOf_39 : decode cX9_packOf 39 = .ok (.aload_n 1, 1) := dX9_packOf_36_g.2.2.2.1
theorem dX9_packOf_40 : decode cX9_packOf 40 = .ok (.iload_n 2, 1) := dX9_packOf_36_g.2.2.2.2.1
theorem dX9_packOf_41 : decode cX9_packOf 41 = .ok (.iaload, 1) := dX9_packOf_36_g.2.2.2.2.2.1
theorem dX9_packOf_42 : decode cX9_packOf 42 = .ok (.if_icmp .ne 9, 3) := dX9_packOf_36_g.2.2.2.2.2.2.1
theorem dX9_packOf_45 : decode cX9_packOf 45 = .ok (.iinc 3 1, 3) := dX9_packOf_36_g.2.2.2.2.2.2.2
theorem dX9_packOf_48_g : (decode cX9_packOf 48 = .ok (.goto (-46), 3)) ∧ (decode cX9_packOf 51 = .ok (.iload_n 3, 1)) ∧ (decode cX9_packOf 52 = .ok (.ireturn, 1)) := by decide +kernel
theorem dX9_packOf_48 : decode cX9_packOf 48 = .ok (.goto (-46), 3) := dX9_packOf_48_g.1
theorem dX9_packOf_51 : decode cX9_packOf 51 = .ok (.iload_n 3, 1) := dX9_packOf_48_g.2.1
theorem dX9_packOf_52 : decode cX9_packOf 52 = .ok (.ireturn, 1) := dX9_packOf_48_g.2.2
theorem dX9_whyOf_0_g : (decode cX9_whyOf 0 = .ok (.aload_n 0, 1)) ∧ (decode cX9_whyOf 1 = .ok (.getfield 26, 3)) ∧ (decode cX9_whyOf 4 = .ok (.iconst 5, 1)) ∧ (decode cX9_whyOf 5 = .ok (.iload_n 2, 1)) ∧ (decode cX9_whyOf 6 = .ok (.imul, 1)) ∧ (decode cX9_whyOf 7 = .ok (.iload_n 3, 1)) ∧ (decode cX9_whyOf 8 = .ok (.iadd, 1)) ∧ (decode cX9_whyOf 9 = .ok (.iaload, 1)) := by decide +kernel
theorem dX9_whyOf_0 : decode cX9_whyOf 0 = .ok (.aload_n 0, 1) := dX9_whyOf_0_g.1
theorem dX9_whyOf_1 : decode cX9_whyOf 1 = .ok (.getfield 26, 3) := dX9_whyOf_0_g.2.1
theorem dX9_whyOf_4 : decode cX9_whyOf 4 = .ok (.iconst 5, 1) := dX9_whyOf_0_g.2.2.1
theorem dX9_whyOf_5 : decode cX9_whyOf 5 = .ok (.iload_n 2, 1) := dX9_whyOf_0_g.2.2.2.1
theorem dX9_whyOf_6 : decode cX9_whyOf 6 = .ok (.imul, 1) := dX9_whyOf_0_g.2.2.2.2.1
theorem dX9_whyOf_7 : decode cX9_whyOf 7 = .ok (.iload_n 3, 1) := dX9_whyOf_0_g.2.2.2.2.2.1
theorem dX9_whyOf_8 : decode cX9_whyOf 8 = .ok (.iadd, 1) := dX9_whyOf_0_g.2.2.2.2.2.2.1
theorem dX9_whyOf_9 : decode cX9_whyOf 9 = .ok (.iaload, 1) := dX9_whyOf_0_g.2.2.2.2.2.2.2
theorem dX9_whyOf_10_g : (decode cX9_whyOf 10 = .ok (.ifCond .ne 5, 3)) ∧ (decode cX9_whyOf 13 = .ok (.iconst 1, 1)) ∧ (decode cX9_whyOf 14 = .ok (.ireturn, 1)) ∧ (decode cX9_whyOf 15 = .ok (.aload_n 0, 1)) ∧ (decode cX9_whyOf 16 = .ok (.aload_n 1, 1)) ∧ (decode cX9_whyOf 17 = .ok (.iload_n 2, 1)) ∧ (decode cX9_whyOf 18 = .ok (.invokevirtual 153, 3)) ∧ (decode cX9_whyOf 21 = .ok (.istore 4, 2)) := by decide +kernel
theorem dX9_whyOf_10 : decode cX9_whyOf 10 = .ok (.ifCond .ne 5, 3) := dX9_whyOf_10_g.1
theorem dX9_whyOf_13 : decode cX9_whyOf 13 = .ok (.iconst 1, 1) := dX9_whyOf_10_g.2.1
theorem dX9_whyOf_14 : decode cX9_whyOf 14 = .ok (.ireturn, 1) := dX9_whyOf_10_g.2.2.1
theorem dX9_whyOf_15 : decode cX9_whyOf 15 = .ok (.aload_n 0, 1) := dX9_whyOf_10_g.2.2.2.1
theorem dX9_whyOf_16 : decode cX9_whyOf 16 = .ok (.aload_n 1, 1) := dX9_whyOf_10_g.2.2.2.2.1
theorem dX9_whyOf_17 : decode cX9_whyOf 17 = .ok (.iload_n 2, 1) := dX9_whyOf_10_g.2.2.2.2.2.1
theorem dX9_whyOf_18 : decode cX9_whyOf 18 = .ok (.invokevirtual 153, 3) := dX9_whyOf_10_g.2.2.2.2.2.2.1
theorem dX9_whyOf_21 : decode cX9_whyOf 21 = .ok (.istore 4, 2) := dX9_whyOf_10_g.2.2.2.2.2.2.2
theorem dX9_whyOf_23_g : (decode cX9_whyOf 23 = .ok (.iload 4, 2)) ∧ (decode cX9_whyOf 25 = .ok (.iconst (-1), 1)) ∧ (decode cX9_whyOf 26 = .ok (.if_icmp .ne 5, 3)) ∧ (decode cX9_whyOf 29 = .ok (.iconst 2, 1)) ∧ (decode cX9_whyOf 30 = .ok (.ireturn, 1)) ∧ (decode cX9_whyOf 31 = .ok (.aload_n 0, 1)) ∧ (decode cX9_whyOf 32 = .ok (.aload_n 1, 1)) ∧ (decode cX9_whyOf 33 = .ok (.iload 4, 2)) := by decide +kernel
theorem dX9_whyOf_23 : decode cX9_whyOf 23 = .ok (.iload 4, 2) := dX9_whyOf_23_g.1
theorem dX9_whyOf_25 : decode cX9_whyOf 25 = .ok (.iconst (-1), 1) := dX9_whyOf_23_g.2.1
theorem dX9_whyOf_26 : decode cX9_whyOf 26 = .ok (.if_icmp .ne 5, 3) := dX9_whyOf_23_g.2.2.1
theorem dX9_whyOf_29 : decode cX9_whyOf 29 = .ok (.iconst 2, 1) := dX9_whyOf_23_g.2.2.2.1
theorem dX9_whyOf_30 : decode cX9_whyOf 30 = .ok (.ireturn, 1) := dX9_whyOf_23_g.2.2.2.2.1
theorem dX9_whyOf_31 : decode cX9_whyOf 31 = .ok (.aload_n 0, 1) := dX9_whyOf_23_g.2.2.2.2.2.1
theorem dX9_whyOf_32 : decode cX9_whyOf 32 = .ok (.aload_n 1, 1) := dX9_whyOf_23_g.2.2.2.2.2.2.1
theorem dX9_whyOf_33 : decode cX9_whyOf 33 = .ok (.iload 4, 2) := dX9_whyOf_23_g.2.2.2.2.2.2.2
theorem dX9_whyOf_35_g : (decode cX9_whyOf 35 = .ok (.invokevirtual 156, 3)) ∧ (decode cX9_whyOf 38 = .ok (.istore 5, 2)) ∧ (decode cX9_whyOf 40 = .ok (.aload_n 0, 1)) ∧ (decode cX9_whyOf 41 = .ok (.getfield 16, 3)) ∧ (decode cX9_whyOf 44 = .ok (.iload 4, 2)) ∧ (decode cX9_whyOf 46 = .ok (.iaload, 1)) ∧ (decode cX9_whyOf 47 = .ok (.iconst 1, 1)) ∧ (decode cX9_whyOf 48 = .ok (.if_icmp .eq 14, 3)) := by decide +kernel
theorem dX9_whyOf_35 : decode cX9_whyOf 35 = .ok (.invokevirtual 156, 3) := dX9_whyOf_35_g.1
theorem dX9_whyOf_38 : decode cX9_whyOf 38 = .ok (.istore 5, 2) := dX9_whyOf_35_g.2.1
theorem dX9_whyOf_40 : decode cX9_whyOf 40 = .ok (.aload_n 0, 1) := dX9_whyOf_35_g.2.2.1
theorem dX9_whyOf_41 : decode cX9_whyOf 41 = .ok (.getfield 16, 3) := dX9_whyOf_35_g.2.2.2.1
theorem dX9_whyOf_44 : decode cX9_whyOf 44 = .ok (.iload 4, 2) := dX9_whyOf_35_g.2.2.2.2.1
theorem dX9_whyOf_46 : decode cX9_whyOf 46 = .ok (.iaload, 1) := dX9_whyOf_35_g.2.2.2.2.2.1
theorem dX9_whyOf_47 : decode cX9_whyOf 47 = .ok (.iconst 1, 1) := dX9_whyOf_35_g.2.2.2.2.2.2.1
theorem dX9_whyOf_48 : decode cX9_whyOf 48 = .ok (.if_icmp .eq 14, 3) := dX9_whyOf_35_g.2.2.2.2.2.2.2
theorem dX9_whyOf_51_g : (decode cX9_whyOf 51 = .ok (.aload_n 0, 1)) ∧ (decode cX9_whyOf 52 = .ok (.getfield 16, 3)) ∧ (decode cX9_whyOf 55 = .ok (.iload 4, 2)) ∧ (decode cX9_whyOf 57 = .ok (.iaload, 1)) ∧ (decode cX9_whyOf 58 = .ok (.iconst 2, 1)) ∧ (decode cX9_whyOf 59 = .ok (.if_icmp .ne 18, 3)) ∧ (decode cX9_whyOf 62 = .ok (.aload_n 0, 1)) ∧ (decode cX9_whyOf 63 = .ok (.getfield 29, 3)) := by decide +kernel
theorem dX9_whyOf_51 : decode cX9_whyOf 51 = .ok (.aload_n 0, 1) := dX9_whyOf_51_g.1
theorem dX9_whyOf_52 : decode cX9_whyOf 52 = .ok (.getfield 16, 3) := dX9_whyOf_51_g.2.1
theorem dX9_whyOf_55 : decode cX9_whyOf 55 = .ok (.iload 4, 2) := dX9_whyOf_51_g.2.2.1
theorem dX9_whyOf_57 : decode cX9_whyOf 57 = .ok (.iaload, 1) := dX9_whyOf_51_g.2.2.2.1
theorem dX9_whyOf_58 : decode cX9_whyOf 58 = .ok (.iconst 2, 1) := dX9_whyOf_51_g.2.2.2.2.1
theorem dX9_whyOf_59 : decode cX9_whyOf 59 = .ok (.if_icmp .ne 18, 3) := dX9_whyOf_51_g.2.2.2.2.2.1
theorem dX9_whyOf_62 : decode cX9_whyOf 62 = .ok (.aload_n 0, 1) := dX9_whyOf_51_g.2.2.2.2.2.2.1
theorem dX9_whyOf_63 : decode cX9_whyOf 63 = .ok (.getfield 29, 3) := dX9_whyOf_51_g.2.2.2.2.2.2.2
theorem dX9_whyOf_66_g : (decode cX9_whyOf 66 = .ok (.iconst 5, 1)) ∧ (decode cX9_whyOf 67 = .ok (.iload_n 2, 1)) ∧ (decode cX9_whyOf 68 = .ok (.imul, 1)) ∧ (decode cX9_whyOf 69 = .ok (.iload_n 3, 1)) ∧ (decode cX9_whyOf 70 = .ok (.iadd, 1)) ∧ (decode cX9_whyOf 71 = .ok (.baload, 1)) ∧ (decode cX9_whyOf 72 = .ok (.ifCond .ne 5, 3)) ∧ (decode cX9_whyOf 75 = .ok (.iconst 3, 1)) := by decide +kernel
theorem dX9_whyOf_66 : decode cX9_whyOf 66 = .ok (.iconst 5, 1) := dX9_whyOf_66_g.1
theorem dX9_whyOf_67 : decode cX9_whyOf 67 = .ok (.iload_n 2, 1) := dX9_whyOf_66_g.2.1
theorem dX9_whyOf_68 : decode cX9_whyOf 68 = .ok (.imul, 1) := dX9_whyOf_66_g.2.2.1
theorem dX9_whyOf_69 : decode cX9_whyOf 69 = .ok (.iload_n 3, 1) := dX9_whyOf_66_g.2.2.2.1
theorem dX9_whyOf_70 : decode cX9_whyOf 70 = .ok (.iadd, 1) := dX9_whyOf_66_g.2.2.2.2.1
theorem dX9_whyOf_71 : decode cX9_whyOf 71 = .ok (.baload, 1) := dX9_whyOf_66_g.2.2.2.2.2.1
theorem dX9_whyOf_72 : decode cX9_whyOf 72 = .ok (.ifCond .ne 5, 3) := dX9_whyOf_66_g.2.2.2.2.2.2.1
theorem dX9_whyOf_75 : decode cX9_whyOf 75 = .ok (.iconst 3, 1) := dX9_whyOf_66_g.2.2.2.2.2.2.2
theorem dX9_whyOf_76_g : (decode cX9_whyOf 76 = .ok (.ireturn, 1)) ∧ (decode cX9_whyOf 77 = .ok (.aload_n 0, 1)) ∧ (decode cX9_whyOf 78 = .ok (.aload_n 1, 1)) ∧ (decode cX9_whyOf 79 = .ok (.iload_n 3, 1)) ∧ (decode cX9_whyOf 80 = .ok (.invokevirtual 153, 3)) ∧ (decode cX9_whyOf 83 = .ok (.istore 6, 2)) ∧ (decode cX9_whyOf 85 = .ok (.iload 6, 2)) ∧ (decode cX9_whyOf 87 = .ok (.iconst (-1), 1)) := by decide +kernel
theorem dX9_whyOf_76 : decode cX9_whyOf 76 = .ok (.ireturn, 1) := dX9_whyOf_76_g.1
theorem dX9_whyOf_77 : decode cX9_whyOf 77 = .ok (.aload_n 0, 1) := dX9_whyOf_76_g.2.1
theorem dX9_whyOf_78 : decode cX9_whyOf 78 = .ok (.aload_n 1, 1) := dX9_whyOf_76_g.2.2.1
theorem dX9_whyOf_79 : decode cX9_whyOf 79 = .ok (.iload_n 3, 1) := dX9_whyOf_76_g.2.2.2.1
theorem dX9_whyOf_80 : decode cX9_whyOf 80 = .ok (.invokevirtual 153, 3) := dX9_whyOf_76_g.2.2.2.2.1
theorem dX9_whyOf_83 : decode cX9_whyOf 83 = .ok (.istore 6, 2) := dX9_whyOf_76_g.2.2.2.2.2.1
theorem dX9_whyOf_85 : decode cX9_whyOf 85 = .ok (.iload 6, 2) := dX9_whyOf_76_g.2.2.2.2.2.2.1
theorem dX9_whyOf_87 : decode cX9_whyOf 87 = .ok (.iconst (-1), 1) := dX9_whyOf_76_g.2.2.2.2.2.2.2
theorem dX9_whyOf_88_g : (decode cX9_whyOf 88 = .ok (.if_icmp .ne 5, 3)) ∧ (decode cX9_whyOf 91 = .ok (.iconst 0, 1)) ∧ (decode cX9_whyOf 92 = .ok (.ireturn, 1)) ∧ (decode cX9_whyOf 93 = .ok (.iload 6, 2)) ∧ (decode cX9_whyOf 95 = .ok (.iload 5, 2)) ∧ (decode cX9_whyOf 97 = .ok (.if_icmp .ge 5, 3)) ∧ (decode cX9_whyOf 100 = .ok (.iconst 4, 1)) ∧ (decode cX9_whyOf 101 = .ok (.ireturn, 1)) := by decide +kernel
theorem dX9_whyOf_88 : decode cX9_whyOf 88 = .ok (.if_icmp .ne 5, 3) := dX9_whyOf_88_g.1
theorem dX9_whyOf_91 : decode cX9_whyOf 91 = .ok (.iconst 0, 1) := dX9_whyOf_88_g.2.1
theorem dX9_whyOf_92 : decode cX9_whyOf 92 = .ok (.ireturn, 1) := dX9_whyOf_88_g.2.2.1
theorem dX9_whyOf_93 : decode cX9_whyOf 93 = .ok (.iload 6, 2) := dX9_whyOf_88_g.2.2.2.1
theorem dX9_whyOf_95 : decode cX9_whyOf 95 = .ok (.iload 5, 2) := dX9_whyOf_88_g.2.2.2.2.1
theorem dX9_whyOf_97 : decode cX9_whyOf 97 = .ok (.if_icmp .ge 5, 3) := dX9_whyOf_88_g.2.2.2.2.2.1
theorem dX9_whyOf_100 : decode cX9_whyOf 100 = .ok (.iconst 4, 1) := dX9_whyOf_88_g.2.2.2.2.2.2.1
theorem dX9_whyOf_101 : decode cX9_whyOf 101 = .ok (.ireturn, 1) := dX9_whyOf_88_g.2.2.2.2.2.2.2
theorem dX9_whyOf_102_g : (decode cX9_whyOf 102 = .ok (.aload_n 0, 1)) ∧ (decode cX9_whyOf 103 = .ok (.getfield 16, 3)) ∧ (decode cX9_whyOf 106 = .ok (.iload 6, 2)) ∧ (decode cX9_whyOf 108 = .ok (.iaload, 1)) ∧ (decode cX9_whyOf 109 = .ok (.iconst 2, 1)) ∧ (decode cX9_whyOf 110 = .ok (.if_icmp .ne 18, 3)) ∧ (decode cX9_whyOf 113 = .ok (.aload_n 0, 1)) ∧ (decode cX9_whyOf 114 = .ok (.getfield 16, 3)) := by decide +kernel
theorem dX9_whyOf_102 : decode cX9_whyOf 102 = .ok (.aload_n 0, 1) := dX9_whyOf_102_g.1
theorem dX9_whyOf_103 : decode cX9_whyOf 103 = .ok (.getfield 16, 3) := dX9_whyOf_102_g.2.1
theorem dX9_whyOf_106 : decode cX9_whyOf 106 = .ok (.iload 6, 2) := dX9_whyOf_102_g.2.2.1
theorem dX9_whyOf_108 : decode cX9_whyOf 108 = .ok (.iaload, 1) := dX9_whyOf_102_g.2.2.2.1
theorem dX9_whyOf_109 : decode cX9_whyOf 109 = .ok (.iconst 2, 1) := dX9_whyOf_102_g.2.2.2.2.1
theorem dX9_whyOf_110 : decode cX9_whyOf 110 = .ok (.if_icmp .ne 18, 3) := dX9_whyOf_102_g.2.2.2.2.2.1
theorem dX9_whyOf_113 : decode cX9_whyOf 113 = .ok (.aload_n 0, 1) := dX9_whyOf_102_g.2.2.2.2.2.2.1
theorem dX9_whyOf_114 : decode cX9_whyOf 114 = .ok (.getfield 16, 3) := dX9_whyOf_102_g.2.2.2.2.2.2.2
theorem dX9_whyOf_117_g : (decode cX9_whyOf 117 = .ok (.iload 5, 2)) ∧ (decode cX9_whyOf 119 = .ok (.iaload, 1)) ∧ (decode cX9_whyOf 120 = .ok (.iconst 2, 1)) ∧ (decode cX9_whyOf 121 = .ok (.if_icmp .eq 7, 3)) ∧ (decode cX9_whyOf 124 = .ok (.iconst 5, 1)) ∧ (decode cX9_whyOf 125 = .ok (.goto 4, 3)) ∧ (decode cX9_whyOf 128 = .ok (.iconst 0, 1)) ∧ (decode cX9_whyOf 129 = .ok (.ireturn, 1)) := by decide +kernel
theorem dX9_whyOf_117 : decode cX9_whyOf 117 = .ok (.iload 5, 2) := dX9_whyOf_117_g.1
theorem dX9_whyOf_119 : decode cX9_whyOf 119 = .ok (.iaload, 1) := dX9_whyOf_117_g.2.1
theorem dX9_whyOf_120 : decode cX9_whyOf 120 = .ok (.iconst 2, 1) := dX9_whyOf_117_g.2.2.1
theorem dX9_whyOf_121 : decode cX9_whyOf 121 = .ok (.if_icmp .eq 7, 3) := dX9_whyOf_117_g.2.2.2.1
theorem dX9_whyOf_124 : decode cX9_whyOf 124 = .ok (.iconst 5, 1) := dX9_whyOf_117_g.2.2.2.2.1
theorem dX9_whyOf_125 : decode cX9_whyOf 125 = .ok (.goto 4, 3) := dX9_whyOf_117_g.2.2.2.2.2.1
theorem dX9_whyOf_128 : decode cX9_whyOf 128 = .ok (.iconst 0, 1) := dX9_whyOf_117_g.2.2.2.2.2.2.1
theorem dX9_whyOf_129 : decode cX9_whyOf 129 = .ok (.ireturn, 1) := dX9_whyOf_117_g.2.2.2.2.2.2.2
theorem dX9_moved_0_g : (decode cX9_moved 0 = .ok (.aload_n 0, 1)) ∧ (decode cX9_moved 1 = .ok (.aload_n 1, 1)) ∧ (decode cX9_moved 2 = .ok (.iload_n 2, 1)) ∧ (decode cX9_moved 3 = .ok (.invokevirtual 153, 3)) ∧ (decode cX9_moved 6 = .ok (.istore 4, 2)) ∧ (decode cX9_moved 8 = .ok (.aload_n 0, 1)) ∧ (decode cX9_moved 9 = .ok (.aload_n 1, 1)) ∧ (decode cX9_moved 10 = .ok (.iload 4, 2)) := by decide +kernel
theorem dX9_moved_0 : decode cX9_moved 0 = .ok (.aload_n 0, 1) := dX9_moved_0_g.1
theorem dX9_moved_1 : decode cX9_moved 1 = .ok (.aload_n 1, 1) := dX9_moved_0_g.2.1
theorem dX9_moved_2 : decode cX9_moved 2 = .ok (.iload_n 2, 1) := dX9_moved_0_g.2.2.1
theorem dX9_moved_3 : decode cX9_moved 3 = .ok (.invokevirtual 153, 3) := dX9_moved_0_g.2.2.2.1
theorem dX9_moved_6 : decode cX9_moved 6 = .ok (.istore 4, 2) := dX9_moved_0_g.2.2.2.2.1
theorem dX9_moved_8 : decode cX9_moved 8 = .ok (.aload_n 0, 1) := dX9_moved_0_g.2.2.2.2.2.1
theorem dX9_moved_9 : decode cX9_moved 9 = .ok (.aload_n 1, 1) := dX9_moved_0_g.2.2.2.2.2.2.1
theorem dX9_moved_10 : decode cX9_moved 10 = .ok (.iload 4, 2) := dX9_moved_0_g.2.2.2.2.2.2.2
theorem dX9_moved_12_g : (decode cX9_moved 12 = .ok (.invokevirtual 156, 3)) ∧ (decode cX9_moved 15 = .ok (.istore 5, 2)) ∧ (decode cX9_moved 17 = .ok (.iload 4, 2)) ∧ (decode cX9_moved 19 = .ok (.istore 6, 2)) ∧ (decode cX9_moved 21 = .ok (.iload 6, 2)) ∧ (decode cX9_moved 23 = .ok (.iload 5, 2)) ∧ (decode cX9_moved 25 = .ok (.if_icmp .gt 14, 3)) ∧ (decode cX9_moved 28 = .ok (.aload_n 1, 1)) := by decide +kernel
theorem dX9_moved_12 : decode cX9_moved 12 = .ok (.invokevirtual 156, 3) := dX9_moved_12_g.1
theorem dX9_moved_15 : decode cX9_moved 15 = .ok (.istore 5, 2) := dX9_moved_12_g.2.1
theorem dX9_moved_17 : decode cX9_moved 17 = .ok (.iload 4, 2) := dX9_moved_12_g.2.2.1
theorem dX9_moved_19 : decode cX9_moved 19 = .ok (.istore 6, 2) := dX9_moved_12_g.2.2.2.1
theorem dX9_moved_21 : decode cX9_moved 21 = .ok (.iload 6, 2) := dX9_moved_12_g.2.2.2.2.1
theorem dX9_moved_23 : decode cX9_moved 23 = .ok (.iload 5, 2) := dX9_moved_12_g.2.2.2.2.2.1
theorem dX9_moved_25 : decode cX9_moved 25 = .ok (.if_icmp .gt 14, 3) := dX9_moved_12_g.2.2.2.2.2.2.1
theorem dX9_moved_28 : decode cX9_moved 28 = .ok (.aload_n 1, 1) := dX9_moved_12_g.2.2.2.2.2.2.2
theorem dX9_moved_29_g : (decode cX9_moved 29 = .ok (.iload 6, 2)) ∧ (decode cX9_moved 31 = .ok (.iload_n 3, 1)) ∧ (decode cX9_moved 32 = .ok (.iastore, 1)) ∧ (decode cX9_moved 33 = .ok (.iinc 6 1, 3)) ∧ (decode cX9_moved 36 = .ok (.goto (-15), 3)) ∧ (decode cX9_moved 39 = .ok (.iload 5, 2)) ∧ (decode cX9_moved 41 = .ok (.iload 4, 2)) ∧ (decode cX9_moved 43 = .ok (.isub, 1)) := by decide +kernel
theorem dX9_moved_29 : decode cX9_moved 29 = .ok (.iload 6, 2) := dX9_moved_29_g.1
theorem dX9_moved_31 : decode cX9_moved 31 = .ok (.iload_n 3, 1) := dX9_moved_29_g.2.1
theorem dX9_moved_32 : decode cX9_moved 32 = .ok (.iastore, 1) := dX9_moved_29_g.2.2.1
theorem dX9_moved_33 : decode cX9_moved 33 = .ok (.iinc 6 1, 3) := dX9_moved_29_g.2.2.2.1
theorem dX9_moved_36 : decode cX9_moved 36 = .ok (.goto (-15), 3) := dX9_moved_29_g.2.2.2.2.1
theorem dX9_moved_39 : decode cX9_moved 39 = .ok (.iload 5, 2) := dX9_moved_29_g.2.2.2.2.2.1
theorem dX9_moved_41 : decode cX9_moved 41 = .ok (.iload 4, 2) := dX9_moved_29_g.2.2.2.2.2.2.1
theorem dX9_moved_43 : decode cX9_moved 43 = .ok (.isub, 1) := dX9_moved_29_g.2.2.2.2.2.2.2
theorem dX9_moved_44_g : (decode cX9_moved 44 = .ok (.iconst 1, 1)) ∧ (decode cX9_moved 45 = .ok (.iadd, 1)) ∧ (decode cX9_moved 46 = .ok (.ireturn, 1)) := by decide +kernel
theorem dX9_moved_44 : decode cX9_moved 44 = .ok (.iconst 1, 1) := dX9_moved_44_g.1
theorem dX9_moved_45 : decode cX9_moved 45 = .ok (.iadd, 1) := dX9_moved_44_g.2.1
theorem dX9_moved_46 : decode cX9_moved 46 = .ok (.ireturn, 1) := dX9_moved_44_g.2.2
theorem dX9_yard_0_g : (decode cX9_yard 0 = .ok (.aload_n 0, 1)) ∧ (decode cX9_yard 1 = .ok (.iconst 0, 1)) ∧ (decode cX9_yard 2 = .ok (.putfield 133, 3)) ∧ (decode cX9_yard 5 = .ok (.aload_n 0, 1)) ∧ (decode cX9_yard 6 = .ok (.iload_n 1, 1)) ∧ (decode cX9_yard 7 = .ok (.iconst 2, 1)) ∧ (decode cX9_yard 8 = .ok (.iconst 5, 1)) ∧ (decode cX9_yard 9 = .ok (.invokevirtual 139, 3)) := by decide +kernel
theorem dX9_yard_0 : decode cX9_yard 0 = .ok (.aload_n 0, 1) := dX9_yard_0_g.1
theorem dX9_yard_1 : decode cX9_yard 1 = .ok (.iconst 0, 1) := dX9_yard_0_g.2.1
theorem dX9_yard_2 : decode cX9_yard 2 = .ok (.putfield 133, 3) := dX9_yard_0_g.2.2.1
theorem dX9_yard_5 : decode cX9_yard 5 = .ok (.aload_n 0, 1) := dX9_yard_0_g.2.2.2.1
theorem dX9_yard_6 : decode cX9_yard 6 = .ok (.iload_n 1, 1) := dX9_yard_0_g.2.2.2.2.1
theorem dX9_yard_7 : decode cX9_yard 7 = .ok (.iconst 2, 1) := dX9_yard_0_g.2.2.2.2.2.1
theorem dX9_yard_8 : decode cX9_yard 8 = .ok (.iconst 5, 1) := dX9_yard_0_g.2.2.2.2.2.2.1
theorem dX9_yard_9 : decode cX9_yard 9 = .ok (.invokevirtual 139, 3) := dX9_yard_0_g.2.2.2.2.2.2.2
theorem dX9_yard_12_g : (decode cX9_yard 12 = .ok (.ifCond .eq 14, 3)) ∧ (decode cX9_yard 15 = .ok (.aload_n 0, 1)) ∧ (decode cX9_yard 16 = .ok (.iload_n 2, 1)) ∧ (decode cX9_yard 17 = .ok (.iconst 1, 1)) ∧ (decode cX9_yard 18 = .ok (.bipush 7, 2)) ∧ (decode cX9_yard 20 = .ok (.invokevirtual 139, 3)) ∧ (decode cX9_yard 23 = .ok (.ifCond .ne 9, 3)) ∧ (decode cX9_yard 26 = .ok (.aload_n 0, 1)) := by decide +kernel
theorem dX9_yard_12 : decode cX9_yard 12 = .ok (.ifCond .eq 14, 3) := dX9_yard_12_g.1
theorem dX9_yard_15 : decode cX9_yard 15 = .ok (.aload_n 0, 1) := dX9_yard_12_g.2.1
theorem dX9_yard_16 : decode cX9_yard 16 = .ok (.iload_n 2, 1) := dX9_yard_12_g.2.2.1
theorem dX9_yard_17 : decode cX9_yard 17 = .ok (.iconst 1, 1) := dX9_yard_12_g.2.2.2.1
theorem dX9_yard_18 : decode cX9_yard 18 = .ok (.bipush 7, 2) := dX9_yard_12_g.2.2.2.2.1
theorem dX9_yard_20 : decode cX9_yard 20 = .ok (.invokevirtual 139, 3) := dX9_yard_12_g.2.2.2.2.2.1
theorem dX9_yard_23 : decode cX9_yard 23 = .ok (.ifCond .ne 9, 3) := dX9_yard_12_g.2.2.2.2.2.2.1
theorem dX9_yard_26 : decode cX9_yard 26 = .ok (.aload_n 0, 1) := dX9_yard_12_g.2.2.2.2.2.2.2
theorem dX9_yard_27_g : (decode cX9_yard 27 = .ok (.iconst 1, 1)) ∧ (decode cX9_yard 28 = .ok (.invokevirtual 159, 3)) ∧ (decode cX9_yard 31 = .ok (.ireturn, 1)) ∧ (decode cX9_yard 32 = .ok (.aload_n 0, 1)) ∧ (decode cX9_yard 33 = .ok (.iload_n 1, 1)) ∧ (decode cX9_yard 34 = .ok (.putfield 7, 3)) ∧ (decode cX9_yard 37 = .ok (.aload_n 0, 1)) ∧ (decode cX9_yard 38 = .ok (.iload_n 2, 1)) := by decide +kernel
theorem dX9_yard_27 : decode cX9_yard 27 = .ok (.iconst 1, 1) := dX9_yard_27_g.1
theorem dX9_yard_28 : decode cX9_yard 28 = .ok (.invokevirtual 159, 3) := dX9_yard_27_g.2.1
theorem dX9_yard_31 : decode cX9_yard 31 = .ok (.ireturn, 1) := dX9_yard_27_g.2.2.1
theorem dX9_yard_32 : decode cX9_yard 32 = .ok (.aload_n 0, 1) := dX9_yard_27_g.2.2.2.1
theorem dX9_yard_33 : decode cX9_yard 33 = .ok (.iload_n 1, 1) := dX9_yard_27_g.2.2.2.2.1
theorem dX9_yard_34 : decode cX9_yard 34 = .ok (.putfield 7, 3) := dX9_yard_27_g.2.2.2.2.2.1
theorem dX9_yard_37 : decode cX9_yard 37 = .ok (.aload_n 0, 1) := dX9_yard_27_g.2.2.2.2.2.2.1
theorem dX9_yard_38 : decode cX9_yard 38 = .ok (.iload_n 2, 1) := dX9_yard_27_g.2.2.2.2.2.2.2
theorem dX9_yard_39_g : (decode cX9_yard 39 = .ok (.putfield 13, 3)) ∧ (decode cX9_yard 42 = .ok (.iconst 0, 1)) ∧ (decode cX9_yard 43 = .ok (.istore_n 3, 1)) ∧ (decode cX9_yard 44 = .ok (.iload_n 3, 1)) ∧ (decode cX9_yard 45 = .ok (.bipush 7, 2)) ∧ (decode cX9_yard 47 = .ok (.if_icmp .ge 30, 3)) ∧ (decode cX9_yard 50 = .ok (.aload_n 0, 1)) ∧ (decode cX9_yard 51 = .ok (.getfield 16, 3)) := by decide +kernel
theorem dX9_yard_39 : decode cX9_yard 39 = .ok (.putfield 13, 3) := dX9_yard_39_g.1
theorem dX9_yard_42 : decode cX9_yard 42 = .ok (.iconst 0, 1) := dX9_yard_39_g.2.1
theorem dX9_yard_43 : decode cX9_yard 43 = .ok (.istore_n 3, 1) := dX9_yard_39_g.2.2.1
theorem dX9_yard_44 : decode cX9_yard 44 = .ok (.iload_n 3, 1) := dX9_yard_39_g.2.2.2.1
theorem dX9_yard_45 : decode cX9_yard 45 = .ok (.bipush 7, 2) := dX9_yard_39_g.2.2.2.2.1
theorem dX9_yard_47 : decode cX9_yard 47 = .ok (.if_icmp .ge 30, 3) := dX9_yard_39_g.2.2.2.2.2.1
theorem dX9_yard_50 : decode cX9_yard 50 = .ok (.aload_n 0, 1) := dX9_yard_39_g.2.2.2.2.2.2.1
theorem dX9_yard_51 : decode cX9_yard 51 = .ok (.getfield 16, 3) := dX9_yard_39_g.2.2.2.2.2.2.2
theorem dX9_yard_54_g : (decode cX9_yard 54 = .ok (.iload_n 3, 1)) ∧ (decode cX9_yard 55 = .ok (.iconst 0, 1)) ∧ (decode cX9_yard 56 = .ok (.iastore, 1)) ∧ (decode cX9_yard 57 = .ok (.aload_n 0, 1)) ∧ (decode cX9_yard 58 = .ok (.getfield 20, 3)) ∧ (decode cX9_yard 61 = .ok (.iload_n 3, 1)) ∧ (decode cX9_yard 62 = .ok (.iconst 0, 1)) ∧ (decode cX9_yard 63 = .ok (.iastore, 1)) := by decide +kernel
theorem dX9_yard_54 : decode cX9_yard 54 = .ok (.iload_n 3, 1) := dX9_yard_54_g.1
theorem dX9_yard_55 : decode cX9_yard 55 = .ok (.iconst 0, 1) := dX9_yard_54_g.2.1
theorem dX9_yard_56 : decode cX9_yard 56 = .ok (.iastore, 1) := dX9_yard_54_g.2.2.1
theorem dX9_yard_57 : decode cX9_yard 57 = .ok (.aload_n 0, 1) := dX9_yard_54_g.2.2.2.1
theorem dX9_yard_58 : decode cX9_yard 58 = .ok (.getfield 20, 3) := dX9_yard_54_g.2.2.2.2.1
theorem dX9_yard_61 : decode cX9_yard 61 = .ok (.iload_n 3, 1) := dX9_yard_54_g.2.2.2.2.2.1
theorem dX9_yard_62 : decode cX9_yard 62 = .ok (.iconst 0, 1) := dX9_yard_54_g.2.2.2.2.2.2.1
theorem dX9_yard_63 : decode cX9_yard 63 = .ok (.iastore, 1) := dX9_yard_54_g.2.2.2.2.2.2.2
theorem dX9_yard_64_g : (decode cX9_yard 64 = .ok (.aload_n 0, 1)) ∧ (decode cX9_yard 65 = .ok (.getfield 23, 3)) ∧ (decode cX9_yard 68 = .ok (.iload_n 3, 1)) ∧ (decode cX9_yard 69 = .ok (.iconst 0, 1)) ∧ (decode cX9_yard 70 = .ok (.iastore, 1)) ∧ (decode cX9_yard 71 = .ok (.iinc 3 1, 3)) ∧ (decode cX9_yard 74 = .ok (.goto (-30), 3)) ∧ (decode cX9_yard 77 = .ok (.iconst 0, 1)) := by decide +kernel
theorem dX9_yard_64 : decode cX9_yard 64 = .ok (.aload_n 0, 1) := dX9_yard_64_g.1
theorem dX9_yard_65 : decode cX9_yard 65 = .ok (.getfield 23, 3) := dX9_yard_64_g.2.1
theorem dX9_yard_68 : decode cX9_yard 68 = .ok (.iload_n 3, 1) := dX9_yard_64_g.2.2.1
theorem dX9_yard_69 : decode cX9_yard 69 = .ok (.iconst 0, 1) := dX9_yard_64_g.2.2.2.1
theorem dX9_yard_70 : decode cX9_yard 70 = .ok (.iastore, 1) := dX9_yard_64_g.2.2.2.2.1
theorem dX9_yard_71 : decode cX9_yard 71 = .ok (.iinc 3 1, 3) := dX9_yard_64_g.2.2.2.2.2.1
theorem dX9_yard_74 : decode cX9_yard 74 = .ok (.goto (-30), 3) := dX9_yard_64_g.2.2.2.2.2.2.1
theorem dX9_yard_77 : decode cX9_yard 77 = .ok (.iconst 0, 1) := dX9_yard_64_g.2.2.2.2.2.2.2
theorem dX9_yard_78_g : (decode cX9_yard 78 = .ok (.istore_n 3, 1)) ∧ (decode cX9_yard 79 = .ok (.iload_n 3, 1)) ∧ (decode cX9_yard 80 = .ok (.bipush 25, 2)) ∧ (decode cX9_yard 82 = .ok (.if_icmp .ge 23, 3)) ∧ (decode cX9_yard 85 = .ok (.aload_n 0, 1)) ∧ (decode cX9_yard 86 = .ok (.getfield 26, 3)) ∧ (decode cX9_yard 89 = .ok (.iload_n 3, 1)) ∧ (decode cX9_yard 90 = .ok (.iconst 0, 1)) := by decide +kernel
theorem dX9_yard_78 : decode cX9_yard 78 = .ok (.istore_n 3, 1) := dX9_yard_78_g.1
theorem dX9_yard_79 : decode cX9_yard 79 = .ok (.iload_n 3, 1) := dX9_yard_78_g.2.1
theorem dX9_yard_80 : decode cX9_yard 80 = .ok (.bipush 25, 2) := dX9_yard_78_g.2.2.1
theorem dX9_yard_82 : decode cX9_yard 82 = .ok (.if_icmp .ge 23, 3) := dX9_yard_78_g.2.2.2.1
theorem dX9_yard_85 : decode cX9_yard 85 = .ok (.aload_n 0, 1) := dX9_yard_78_g.2.2.2.2.1
theorem dX9_yard_86 : decode cX9_yard 86 = .ok (.getfield 26, 3) := dX9_yard_78_g.2.2.2.2.2.1
theorem dX9_yard_89 : decode cX9_yard 89 = .ok (.iload_n 3, 1) := dX9_yard_78_g.2.2.2.2.2.2.1
theorem dX9_yard_90 : decode cX9_yard 90 = .ok (.iconst 0, 1) := dX9_yard_78_g.2.2.2.2.2.2.2
theorem dX9_yard_91_g : (decode cX9_yard 91 = .ok (.iastore, 1)) ∧ (decode cX9_yard 92 = .ok (.aload_n 0, 1)) ∧ (decode cX9_yard 93 = .ok (.getfield 29, 3)) ∧ (decode cX9_yard 96 = .ok (.iload_n 3, 1)) ∧ (decode cX9_yard 97 = .ok (.iconst 0, 1)) ∧ (decode cX9_yard 98 = .ok (.bastore, 1)) ∧ (decode cX9_yard 99 = .ok (.iinc 3 1, 3)) ∧ (decode cX9_yard 102 = .ok (.goto (-23), 3)) := by decide +kernel
theorem dX9_yard_91 : decode cX9_yard 91 = .ok (.iastore, 1) := dX9_yard_91_g.1
theorem dX9_yard_92 : decode cX9_yard 92 = .ok (.aload_n 0, 1) := dX9_yard_91_g.2.1
theorem dX9_yard_93 : decode cX9_yard 93 = .ok (.getfield 29, 3) := dX9_yard_91_g.2.2.1
theorem dX9_yard_96 : decode cX9_yard 96 = .ok (.iload_n 3, 1) := dX9_yard_91_g.2.2.2.1
theorem dX9_yard_97 : decode cX9_yard 97 = .ok (.iconst 0, 1) := dX9_yard_91_g.2.2.2.2.1
theorem dX9_yard_98 : decode cX9_yard 98 = .ok (.bastore, 1) := dX9_yard_91_g.2.2.2.2.2.1
theorem dX9_yard_99 : decode cX9_yard 99 = .ok (.iinc 3 1, 3) := dX9_yard_91_g.2.2.2.2.2.2.1
theorem dX9_yard_102 : decode cX9_yard 102 = .ok (.goto (-23), 3) := dX9_yard_91_g.2.2.2.2.2.2.2
theorem dX9_yard_105_g : (decode cX9_yard 105 = .ok (.aload_n 0, 1)) ∧ (decode cX9_yard 106 = .ok (.invokevirtual 163, 3)) ∧ (decode cX9_yard 109 = .ok (.iconst 1, 1)) ∧ (decode cX9_yard 110 = .ok (.ireturn, 1)) := by decide +kernel
theorem dX9_yard_105 : decode cX9_yard 105 = .ok (.aload_n 0, 1) := dX9_yard_105_g.1
theorem dX9_yard_106 : decode cX9_yard 106 = .ok (.invokevirtual 163, 3) := dX9_yard_105_g.2.1
theorem dX9_yard_109 : decode cX9_yard 109 = .ok (.iconst 1, 1) := dX9_yard_105_g.2.2.1
theorem dX9_yard_110 : decode cX9_yard 110 = .ok (.ireturn, 1) := dX9_yard_105_g.2.2.2
theorem dX9_kind_0_g : (decode cX9_kind 0 = .ok (.aload_n 0, 1)) ∧ (decode cX9_kind 1 = .ok (.iconst 0, 1)) ∧ (decode cX9_kind 2 = .ok (.putfield 133, 3)) ∧ (decode cX9_kind 5 = .ok (.aload_n 0, 1)) ∧ (decode cX9_kind 6 = .ok (.iload_n 1, 1)) ∧ (decode cX9_kind 7 = .ok (.iconst 0, 1)) ∧ (decode cX9_kind 8 = .ok (.aload_n 0, 1)) ∧ (decode cX9_kind 9 = .ok (.getfield 13, 3)) := by decide +kernel
theorem dX9_kind_0 : decode cX9_kind 0 = .ok (.aload_n 0, 1) := dX9_kind_0_g.1
theorem dX9_kind_1 : decode cX9_kind 1 = .ok (.iconst 0, 1) := dX9_kind_0_g.2.1
theorem dX9_kind_2 : decode cX9_kind 2 = .ok (.putfield 133, 3) := dX9_kind_0_g.2.2.1
theorem dX9_kind_5 : decode cX9_kind 5 = .ok (.aload_n 0, 1) := dX9_kind_0_g.2.2.2.1
theorem dX9_kind_6 : decode cX9_kind 6 = .ok (.iload_n 1, 1) := dX9_kind_0_g.2.2.2.2.1
theorem dX9_kind_7 : decode cX9_kind 7 = .ok (.iconst 0, 1) := dX9_kind_0_g.2.2.2.2.2.1
theorem dX9_kind_8 : decode cX9_kind 8 = .ok (.aload_n 0, 1) := dX9_kind_0_g.2.2.2.2.2.2.1
theorem dX9_kind_9 : decode cX9_kind 9 = .ok (.getfield 13, 3) := dX9_kind_0_g.2.2.2.2.2.2.2
theorem dX9_kind_12_g : (decode cX9_kind 12 = .ok (.iconst 1, 1)) ∧ (decode cX9_kind 13 = .ok (.isub, 1)) ∧ (decode cX9_kind 14 = .ok (.invokevirtual 139, 3)) ∧ (decode cX9_kind 17 = .ok (.ifCond .eq 13, 3)) ∧ (decode cX9_kind 20 = .ok (.aload_n 0, 1)) ∧ (decode cX9_kind 21 = .ok (.iload_n 2, 1)) ∧ (decode cX9_kind 22 = .ok (.iconst 0, 1)) ∧ (decode cX9_kind 23 = .ok (.iconst 3, 1)) := by decide +kernel
theorem dX9_kind_12 : decode cX9_kind 12 = .ok (.iconst 1, 1) := dX9_kind_12_g.1
theorem dX9_kind_13 : decode cX9_kind 13 = .ok (.isub, 1) := dX9_kind_12_g.2.1
theorem dX9_kind_14 : decode cX9_kind 14 = .ok (.invokevirtual 139, 3) := dX9_kind_12_g.2.2.1
theorem dX9_kind_17 : decode cX9_kind 17 = .ok (.ifCond .eq 13, 3) := dX9_kind_12_g.2.2.2.1
theorem dX9_kind_20 : decode cX9_kind 20 = .ok (.aload_n 0, 1) := dX9_kind_12_g.2.2.2.2.1
theorem dX9_kind_21 : decode cX9_kind 21 = .ok (.iload_n 2, 1) := dX9_kind_12_g.2.2.2.2.2.1
theorem dX9_kind_22 : decode cX9_kind 22 = .ok (.iconst 0, 1) := dX9_kind_12_g.2.2.2.2.2.2.1
theorem dX9_kind_23 : decode cX9_kind 23 = .ok (.iconst 3, 1) := dX9_kind_12_g.2.2.2.2.2.2.2
theorem dX9_kind_24_g : (decode cX9_kind 24 = .ok (.invokevirtual 139, 3)) ∧ (decode cX9_kind 27 = .ok (.ifCond .ne 9, 3)) ∧ (decode cX9_kind 30 = .ok (.aload_n 0, 1)) ∧ (decode cX9_kind 31 = .ok (.iconst 1, 1)) ∧ (decode cX9_kind 32 = .ok (.invokevirtual 159, 3)) ∧ (decode cX9_kind 35 = .ok (.ireturn, 1)) ∧ (decode cX9_kind 36 = .ok (.aload_n 0, 1)) ∧ (decode cX9_kind 37 = .ok (.getfield 16, 3)) := by decide +kernel
theorem dX9_kind_24 : decode cX9_kind 24 = .ok (.invokevirtual 139, 3) := dX9_kind_24_g.1
theorem dX9_kind_27 : decode cX9_kind 27 = .ok (.ifCond .ne 9, 3) := dX9_kind_24_g.2.1
theorem dX9_kind_30 : decode cX9_kind 30 = .ok (.aload_n 0, 1) := dX9_kind_24_g.2.2.1
theorem dX9_kind_31 : decode cX9_kind 31 = .ok (.iconst 1, 1) := dX9_kind_24_g.2.2.2.1
theorem dX9_kind_32 : decode cX9_kind 32 = .ok (.invokevirtual 159, 3) := dX9_kind_24_g.2.2.2.2.1
theorem dX9_kind_35 : decode cX9_kind 35 = .ok (.ireturn, 1) := dX9_kind_24_g.2.2.2.2.2.1
theorem dX9_kind_36 : decode cX9_kind 36 = .ok (.aload_n 0, 1) := dX9_kind_24_g.2.2.2.2.2.2.1
theorem dX9_kind_37 : decode cX9_kind 37 = .ok (.getfield 16, 3) := dX9_kind_24_g.2.2.2.2.2.2.2
theorem dX9_kind_40_g : (decode cX9_kind 40 = .ok (.iload_n 1, 1)) ∧ (decode cX9_kind 41 = .ok (.iaload, 1)) ∧ (decode cX9_kind 42 = .ok (.istore_n 3, 1)) ∧ (decode cX9_kind 43 = .ok (.aload_n 0, 1)) ∧ (decode cX9_kind 44 = .ok (.getfield 16, 3)) ∧ (decode cX9_kind 47 = .ok (.iload_n 1, 1)) ∧ (decode cX9_kind 48 = .ok (.iload_n 2, 1)) ∧ (decode cX9_kind 49 = .ok (.iastore, 1)) := by decide +kernel
theorem dX9_kind_40 : decode cX9_kind 40 = .ok (.iload_n 1, 1) := dX9_kind_40_g.1
theorem dX9_kind_41 : decode cX9_kind 41 = .ok (.iaload, 1) := dX9_kind_40_g.2.1
theorem dX9_kind_42 : decode cX9_kind 42 = .ok (.istore_n 3, 1) := dX9_kind_40_g.2.2.1
theorem dX9_kind_43 : decode cX9_kind 43 = .ok (.aload_n 0, 1) := dX9_kind_40_g.2.2.2.1
theorem dX9_kind_44 : decode cX9_kind 44 = .ok (.getfield 16, 3) := dX9_kind_40_g.2.2.2.2.1
theorem dX9_kind_47 : decode cX9_kind 47 = .ok (.iload_n 1, 1) := dX9_kind_40_g.2.2.2.2.2.1
theorem dX9_kind_48 : decode cX9_kind 48 = .ok (.iload_n 2, 1) := dX9_kind_40_g.2.2.2.2.2.2.1
theorem dX9_kind_49 : decode cX9_kind 49 = .ok (.iastore, 1) := dX9_kind_40_g.2.2.2.2.2.2.2
theorem dX9_kind_50_g : (decode cX9_kind 50 = .ok (.aload_n 0, 1)) ∧ (decode cX9_kind 51 = .ok (.aload_n 0, 1)) ∧ (decode cX9_kind 52 = .ok (.getfield 20, 3)) ∧ (decode cX9_kind 55 = .ok (.invokevirtual 166, 3)) ∧ (decode cX9_kind 58 = .ok (.ifCond .eq 14, 3)) ∧ (decode cX9_kind 61 = .ok (.aload_n 0, 1)) ∧ (decode cX9_kind 62 = .ok (.aload_n 0, 1)) ∧ (decode cX9_kind 63 = .ok (.getfield 23, 3)) := by decide +kernel
theorem dX9_kind_50 : decode cX9_kind 50 = .ok (.aload_n 0, 1) := dX9_kind_50_g.1
theorem dX9_kind_51 : decode cX9_kind 51 = .ok (.aload_n 0, 1) := dX9_kind_50_g.2.1
theorem dX9_kind_52 : decode cX9_kind 52 = .ok (.getfield 20, 3) := dX9_kind_50_g.2.2.1
theorem dX9_kind_55 : decode cX9_kind 55 = .ok (.invokevirtual 166, 3) := dX9_kind_50_g.2.2.2.1
theorem dX9_kind_58 : decode cX9_kind 58 = .ok (.ifCond .eq 14, 3) := dX9_kind_50_g.2.2.2.2.1
theorem dX9_kind_61 : decode cX9_kind 61 = .ok (.aload_n 0, 1) := dX9_kind_50_g.2.2.2.2.2.1
theorem dX9_kind_62 : decode cX9_kind 62 = .ok (.aload_n 0, 1) := dX9_kind_50_g.2.2.2.2.2.2.1
theorem dX9_kind_63 : decode cX9_kind 63 = .ok (.getfield 23, 3) := dX9_kind_50_g.2.2.2.2.2.2.2
theorem dX9_kind_66_g : (decode cX9_kind 66 = .ok (.invokevirtual 166, 3)) ∧ (decode cX9_kind 69 = .ok (.ifCond .ne 16, 3)) ∧ (decode cX9_kind 72 = .ok (.aload_n 0, 1)) ∧ (decode cX9_kind 73 = .ok (.getfield 16, 3)) ∧ (decode cX9_kind 76 = .ok (.iload_n 1, 1)) ∧ (decode cX9_kind 77 = .ok (.iload_n 3, 1)) ∧ (decode cX9_kind 78 = .ok (.iastore, 1)) ∧ (decode cX9_kind 79 = .ok (.aload_n 0, 1)) := by decide +kernel
theorem dX9_kind_66 : decode cX9_kind 66 = .ok (.invokevirtual 166, 3) := dX9_kind_66_g.1
theorem dX9_kind_69 : decode cX9_kind 69 = .ok (.ifCond .ne 16, 3) := dX9_kind_66_g.2.1
theorem dX9_kind_72 : decode cX9_kind 72 = .ok (.aload_n 0, 1) := dX9_kind_66_g.2.2.1
theorem dX9_kind_73 : decode cX9_kind 73 = .ok (.getfield 16, 3) := dX9_kind_66_g.2.2.2.1
theorem dX9_kind_76 : decode cX9_kind 76 = .ok (.iload_n 1, 1) := dX9_kind_66_g.2.2.2.2.1
theorem dX9_kind_77 : decode cX9_kind 77 = .ok (.iload_n 3, 1) := dX9_kind_66_g.2.2.2.2.2.1
theorem dX9_kind_78 : decode cX9_kind 78 = .ok (.iastore, 1) := dX9_kind_66_g.2.2.2.2.2.2.1
theorem dX9_kind_79 : decode cX9_kind 79 = .ok (.aload_n 0, 1) := dX9_kind_66_g.2.2.2.2.2.2.2
theorem dX9_kind_80_g : (decode cX9_kind 80 = .ok (.iconst 3, 1)) ∧ (decode cX9_kind 81 = .ok (.invokevirtual 159, 3)) ∧ (decode cX9_kind 84 = .ok (.ireturn, 1)) ∧ (decode cX9_kind 85 = .ok (.aload_n 0, 1)) ∧ (decode cX9_kind 86 = .ok (.invokevirtual 163, 3)) ∧ (decode cX9_kind 89 = .ok (.iconst 1, 1)) ∧ (decode cX9_kind 90 = .ok (.ireturn, 1)) := by decide +kernel
theorem dX9_kind_80 : decode cX9_kind 80 = .ok (.iconst 3, 1) := dX9_kind_80_g.1
theorem dX9_kind_81 : decode cX9_kind 81 = .ok (.invokevirtual 159, 3) := dX9_kind_80_g.2.1
theorem dX9_kind_84 : decode cX9_kind 84 = .ok (.ireturn, 1) := dX9_kind_80_g.2.2.1
theorem dX9_kind_85 : decode cX9_kind 85 = .ok (.aload_n 0, 1) := dX9_kind_80_g.2.2.2.1
theorem dX9_kind_86 : decode cX9_kind 86 = .ok (.invokevirtual 163, 3) := dX9_kind_80_g.2.2.2.2.1
theorem dX9_kind_89 : decode cX9_kind 89 = .ok (.iconst 1, 1) := dX9_kind_80_g.2.2.2.2.2.1
theorem dX9_kind_90 : decode cX9_kind 90 = .ok (.ireturn, 1) := dX9_kind_80_g.2.2.2.2.2.2
theorem dX9_lane_0_g : (decode cX9_lane 0 = .ok (.aload_n 0, 1)) ∧ (decode cX9_lane 1 = .ok (.iconst 0, 1)) ∧ (decode cX9_lane 2 = .ok (.putfield 133, 3)) ∧ (decode cX9_lane 5 = .ok (.aload_n 0, 1)) ∧ (decode cX9_lane 6 = .ok (.iload_n 1, 1)) ∧ (decode cX9_lane 7 = .ok (.invokevirtual 170, 3)) ∧ (decode cX9_lane 10 = .ok (.ifCond .eq 27, 3)) ∧ (decode cX9_lane 13 = .ok (.aload_n 0, 1)) := by decide +kernel
theorem dX9_lane_0 : decode cX9_lane 0 = .ok (.aload_n 0, 1) := dX9_lane_0_g.1
theorem dX9_lane_1 : decode cX9_lane 1 = .ok (.iconst 0, 1) := dX9_lane_0_g.2.1
theorem dX9_lane_2 : decode cX9_lane 2 = .ok (.putfield 133, 3) := dX9_lane_0_g.2.2.1
theorem dX9_lane_5 : decode cX9_lane 5 = .ok (.aload_n 0, 1) := dX9_lane_0_g.2.2.2.1
theorem dX9_lane_6 : decode cX9_lane 6 = .ok (.iload_n 1, 1) := dX9_lane_0_g.2.2.2.2.1
theorem dX9_lane_7 : decode cX9_lane 7 = .ok (.invokevirtual 170, 3) := dX9_lane_0_g.2.2.2.2.2.1
theorem dX9_lane_10 : decode cX9_lane 10 = .ok (.ifCond .eq 27, 3) := dX9_lane_0_g.2.2.2.2.2.2.1
theorem dX9_lane_13 : decode cX9_lane 13 = .ok (.aload_n 0, 1) := dX9_lane_0_g.2.2.2.2.2.2.2
theorem dX9_lane_14_g : (decode cX9_lane 14 = .ok (.iload_n 2, 1)) ∧ (decode cX9_lane 15 = .ok (.invokevirtual 170, 3)) ∧ (decode cX9_lane 18 = .ok (.ifCond .eq 19, 3)) ∧ (decode cX9_lane 21 = .ok (.iload_n 1, 1)) ∧ (decode cX9_lane 22 = .ok (.iload_n 2, 1)) ∧ (decode cX9_lane 23 = .ok (.if_icmp .eq 14, 3)) ∧ (decode cX9_lane 26 = .ok (.aload_n 0, 1)) ∧ (decode cX9_lane 27 = .ok (.iload_n 3, 1)) := by decide +kernel
theorem dX9_lane_14 : decode cX9_lane 14 = .ok (.iload_n 2, 1) := dX9_lane_14_g.1
theorem dX9_lane_15 : decode cX9_lane 15 = .ok (.invokevirtual 170, 3) := dX9_lane_14_g.2.1
theorem dX9_lane_18 : decode cX9_lane 18 = .ok (.ifCond .eq 19, 3) := dX9_lane_14_g.2.2.1
theorem dX9_lane_21 : decode cX9_lane 21 = .ok (.iload_n 1, 1) := dX9_lane_14_g.2.2.2.1
theorem dX9_lane_22 : decode cX9_lane 22 = .ok (.iload_n 2, 1) := dX9_lane_14_g.2.2.2.2.1
theorem dX9_lane_23 : decode cX9_lane 23 = .ok (.if_icmp .eq 14, 3) := dX9_lane_14_g.2.2.2.2.2.1
theorem dX9_lane_26 : decode cX9_lane 26 = .ok (.aload_n 0, 1) := dX9_lane_14_g.2.2.2.2.2.2.1
theorem dX9_lane_27 : decode cX9_lane 27 = .ok (.iload_n 3, 1) := dX9_lane_14_g.2.2.2.2.2.2.2
theorem dX9_lane_28_g : (decode cX9_lane 28 = .ok (.iconst 0, 1)) ∧ (decode cX9_lane 29 = .ok (.bipush 100, 2)) ∧ (decode cX9_lane 31 = .ok (.invokevirtual 139, 3)) ∧ (decode cX9_lane 34 = .ok (.ifCond .ne 9, 3)) ∧ (decode cX9_lane 37 = .ok (.aload_n 0, 1)) ∧ (decode cX9_lane 38 = .ok (.iconst 1, 1)) ∧ (decode cX9_lane 39 = .ok (.invokevirtual 159, 3)) ∧ (decode cX9_lane 42 = .ok (.ireturn, 1)) := by decide +kernel
theorem dX9_lane_28 : decode cX9_lane 28 = .ok (.iconst 0, 1) := dX9_lane_28_g.1
theorem dX9_lane_29 : decode cX9_lane 29 = .ok (.bipush 100, 2) := dX9_lane_28_g.2.1
theorem dX9_lane_31 : decode cX9_lane 31 = .ok (.invokevirtual 139, 3) := dX9_lane_28_g.2.2.1
theorem dX9_lane_34 : decode cX9_lane 34 = .ok (.ifCond .ne 9, 3) := dX9_lane_28_g.2.2.2.1
theorem dX9_lane_37 : decode cX9_lane 37 = .ok (.aload_n 0, 1) := dX9_lane_28_g.2.2.2.2.1
theorem dX9_lane_38 : decode cX9_lane 38 = .ok (.iconst 1, 1) := dX9_lane_28_g.2.2.2.2.2.1
theorem dX9_lane_39 : decode cX9_lane 39 = .ok (.invokevirtual 159, 3) := dX9_lane_28_g.2.2.2.2.2.2.1
theorem dX9_lane_42 : decode cX9_lane 42 = .ok (.ireturn, 1) := dX9_lane_28_g.2.2.2.2.2.2.2
theorem dX9_lane_43_g : (decode cX9_lane 43 = .ok (.aload_n 0, 1)) ∧ (decode cX9_lane 44 = .ok (.getfield 26, 3)) ∧ (decode cX9_lane 47 = .ok (.iconst 5, 1)) ∧ (decode cX9_lane 48 = .ok (.iload_n 1, 1)) ∧ (decode cX9_lane 49 = .ok (.imul, 1)) ∧ (decode cX9_lane 50 = .ok (.iload_n 2, 1)) ∧ (decode cX9_lane 51 = .ok (.iadd, 1)) ∧ (decode cX9_lane 52 = .ok (.iload_n 3, 1)) := by decide +kernel
theorem dX9_lane_43 : decode cX9_lane 43 = .ok (.aload_n 0, 1) := dX9_lane_43_g.1
theorem dX9_lane_44 : decode cX9_lane 44 = .ok (.getfield 26, 3) := dX9_lane_43_g.2.1
theorem dX9_lane_47 : decode cX9_lane 47 = .ok (.iconst 5, 1) := dX9_lane_43_g.2.2.1
theorem dX9_lane_48 : decode cX9_lane 48 = .ok (.iload_n 1, 1) := dX9_lane_43_g.2.2.2.1
theorem dX9_lane_49 : decode cX9_lane 49 = .ok (.imul, 1) := dX9_lane_43_g.2.2.2.2.1
theorem dX9_lane_50 : decode cX9_lane 50 = .ok (.iload_n 2, 1) := dX9_lane_43_g.2.2.2.2.2.1
theorem dX9_lane_51 : decode cX9_lane 51 = .ok (.iadd, 1) := dX9_lane_43_g.2.2.2.2.2.2.1
theorem dX9_lane_52 : decode cX9_lane 52 = .ok (.iload_n 3, 1) := dX9_lane_43_g.2.2.2.2.2.2.2
theorem dX9_lane_53_g : (decode cX9_lane 53 = .ok (.iastore, 1)) ∧ (decode cX9_lane 54 = .ok (.aload_n 0, 1)) ∧ (decode cX9_lane 55 = .ok (.getfield 29, 3)) ∧ (decode cX9_lane 58 = .ok (.iconst 5, 1)) ∧ (decode cX9_lane 59 = .ok (.iload_n 1, 1)) ∧ (decode cX9_lane 60 = .ok (.imul, 1)) ∧ (decode cX9_lane 61 = .ok (.iload_n 2, 1)) ∧ (decode cX9_lane 62 = .ok (.iadd, 1)) := by decide +kernel
theorem dX9_lane_53 : decode cX9_lane 53 = .ok (.iastore, 1) := dX9_lane_53_g.1
theorem dX9_lane_54 : decode cX9_lane 54 = .ok (.aload_n 0, 1) := dX9_lane_53_g.2.1
theorem dX9_lane_55 : decode cX9_lane 55 = .ok (.getfield 29, 3) := dX9_lane_53_g.2.2.1
theorem dX9_lane_58 : decode cX9_lane 58 = .ok (.iconst 5, 1) := dX9_lane_53_g.2.2.2.1
theorem dX9_lane_59 : decode cX9_lane 59 = .ok (.iload_n 1, 1) := dX9_lane_53_g.2.2.2.2.1
theorem dX9_lane_60 : decode cX9_lane 60 = .ok (.imul, 1) := dX9_lane_53_g.2.2.2.2.2.1
theorem dX9_lane_61 : decode cX9_lane 61 = .ok (.iload_n 2, 1) := dX9_lane_53_g.2.2.2.2.2.2.1
theorem dX9_lane_62 : decode cX9_lane 62 = .ok (.iadd, 1) := dX9_lane_53_g.2.2.2.2.2.2.2
theorem dX9_lane_63_g : (decode cX9_lane 63 = .ok (.iload 4, 2)) ∧ (decode cX9_lane 65 = .ok (.bastore, 1)) ∧ (decode cX9_lane 66 = .ok (.aload_n 0, 1)) ∧ (decode cX9_lane 67 = .ok (.invokevirtual 163, 3)) ∧ (decode cX9_lane 70 = .ok (.iconst 1, 1)) ∧ (decode cX9_lane 71 = .ok (.ireturn, 1)) := by decide +kernel
theorem dX9_lane_63 : decode cX9_lane 63 = .ok (.iload 4, 2) := dX9_lane_63_g.1
theorem dX9_lane_65 : decode cX9_lane 65 = .ok (.bastore, 1) := dX9_lane_63_g.2.1
theorem dX9_lane_66 : decode cX9_lane 66 = .ok (.aload_n 0, 1) := dX9_lane_63_g.2.2.1
theorem dX9_lane_67 : decode cX9_lane 67 = .ok (.invokevirtual 163, 3) := dX9_lane_63_g.2.2.2.1
theorem dX9_lane_70 : decode cX9_lane 70 = .ok (.iconst 1, 1) := dX9_lane_63_g.2.2.2.2.1
theorem dX9_lane_71 : decode cX9_lane 71 = .ok (.ireturn, 1) := dX9_lane_63_g.2.2.2.2.2
theorem dX9_lanesThere_0_g : (decode cX9_lanesThere 0 = .ok (.iconst 0, 1)) ∧ (decode cX9_lanesThere 1 = .ok (.istore_n 1, 1)) ∧ (decode cX9_lanesThere 2 = .ok (.iconst 0, 1)) ∧ (decode cX9_lanesThere 3 = .ok (.istore_n 2, 1)) ∧ (decode cX9_lanesThere 4 = .ok (.iload_n 2, 1)) ∧ (decode cX9_lanesThere 5 = .ok (.bipush 25, 2)) ∧ (decode cX9_lanesThere 7 = .ok (.if_icmp .ge 26, 3)) ∧ (decode cX9_lanesThere 10 = .ok (.iload_n 1, 1)) := by decide +kernel
theorem dX9_lanesThere_0 : decode cX9_lanesThere 0 = .ok (.iconst 0, 1) := dX9_lanesThere_0_g.1
theorem dX9_lanesThere_1 : decode cX9_lanesThere 1 = .ok (.istore_n 1, 1) := dX9_lanesThere_0_g.2.1
theorem dX9_lanesThere_2 : decode cX9_lanesThere 2 = .ok (.iconst 0, 1) := dX9_lanesThere_0_g.2.2.1
theorem dX9_lanesThere_3 : decode cX9_lanesThere 3 = .ok (.istore_n 2, 1) := dX9_lanesThere_0_g.2.2.2.1
theorem dX9_lanesThere_4 : decode cX9_lanesThere 4 = .ok (.iload_n 2, 1) := dX9_lanesThere_0_g.2.2.2.2.1
theorem dX9_lanesThere_5 : decode cX9_lanesThere 5 = .ok (.bipush 25, 2) := dX9_lanesThere_0_g.2.2.2.2.2.1
theorem dX9_lanesThere_7 : decode cX9_lanesThere 7 = .ok (.if_icmp .ge 26, 3) := dX9_lanesThere_0_g.2.2.2.2.2.2.1
theorem dX9_lanesThere_10 : decode cX9_lanesThere 10 = .ok (.iload_n 1, 1) := dX9_lanesThere_0_g.2.2.2.2.2.2.2
theorem dX9_lanesThere_11_g : (decode cX9_lanesThere 11 = .ok (.aload_n 0, 1)) ∧ (decode cX9_lanesThere 12 = .ok (.getfield 26, 3)) ∧ (decode cX9_lanesThere 15 = .ok (.iload_n 2, 1)) ∧ (decode cX9_lanesThere 16 = .ok (.iaload, 1)) ∧ (decode cX9_lanesThere 17 = .ok (.ifCond .le 7, 3)) ∧ (decode cX9_lanesThere 20 = .ok (.iconst 1, 1)) ∧ (decode cX9_lanesThere 21 = .ok (.goto 4, 3)) ∧ (decode cX9_lanesThere 24 = .ok (.iconst 0, 1)) := by decide +kernel
theorem dX9_lanesThere_11 : decode cX9_lanesThere 11 = .ok (.aload_n 0, 1) := dX9_lanesThere_11_g.1
theorem dX9_lanesThere_12 : decode cX9_lanesThere 12 = .ok (.getfield 26, 3) := dX9_lanesThere_11_g.2.1
theorem dX9_lanesThere_15 : decode cX9_lanesThere 15 = .ok (.iload_n 2, 1) := dX9_lanesThere_11_g.2.2.1
theorem dX9_lanesThere_16 : decode cX9_lanesThere 16 = .ok (.iaload, 1) := dX9_lanesThere_11_g.2.2.2.1
theorem dX9_lanesThere_17 : decode cX9_lanesThere 17 = .ok (.ifCond .le 7, 3) := dX9_lanesThere_11_g.2.2.2.2.1
theorem dX9_lanesThere_20 : decode cX9_lanesThere 20 = .ok (.iconst 1, 1) := dX9_lanesThere_11_g.2.2.2.2.2.1
theorem dX9_lanesThere_21 : decode cX9_lanesThere 21 = .ok (.goto 4, 3) := dX9_lanesThere_11_g.2.2.2.2.2.2.1
theorem dX9_lanesThere_24 : decode cX9_lanesThere 24 = .ok (.iconst 0, 1) := dX9_lanesThere_11_g.2.2.2.2.2.2.2
theorem dX9_lanesThere_25_g : (decode cX9_lanesThere 25 = .ok (.iadd, 1)) ∧ (decode cX9_lanesThere 26 = .ok (.istore_n 1, 1)) ∧ (decode cX9_lanesThere 27 = .ok (.iinc 2 1, 3)) ∧ (decode cX9_lanesThere 30 = .ok (.goto (-26), 3)) ∧ (decode cX9_lanesThere 33 = .ok (.iload_n 1, 1)) ∧ (decode cX9_lanesThere 34 = .ok (.ireturn, 1)) := by decide +kernel
theorem dX9_lanesThere_25 : decode cX9_lanesThere 25 = .ok (.iadd, 1) := dX9_lanesThere_25_g.1
theorem dX9_lanesThere_26 : decode cX9_lanesThere 26 = .ok (.istore_n 1, 1) := dX9_lanesThere_25_g.2.1
theorem dX9_lanesThere_27 : decode cX9_lanesThere 27 = .ok (.iinc 2 1, 3) := dX9_lanesThere_25_g.2.2.1
theorem dX9_lanesThere_30 : decode cX9_lanesThere 30 = .ok (.goto (-26), 3) := dX9_lanesThere_25_g.2.2.2.1
theorem dX9_lanesThere_33 : decode cX9_lanesThere 33 = .ok (.iload_n 1, 1) := dX9_lanesThere_25_g.2.2.2.2.1
theorem dX9_lanesThere_34 : decode cX9_lanesThere 34 = .ok (.ireturn, 1) := dX9_lanesThere_25_g.2.2.2.2.2
theorem dX9_lanes_0_g : (decode cX9_lanes 0 = .ok (.aload_n 0, 1)) ∧ (decode cX9_lanes 1 = .ok (.iconst 0, 1)) ∧ (decode cX9_lanes 2 = .ok (.putfield 133, 3)) ∧ (decode cX9_lanes 5 = .ok (.iconst 0, 1)) ∧ (decode cX9_lanes 6 = .ok (.istore_n 1, 1)) ∧ (decode cX9_lanes 7 = .ok (.iload_n 1, 1)) ∧ (decode cX9_lanes 8 = .ok (.aload_n 0, 1)) ∧ (decode cX9_lanes 9 = .ok (.getfield 7, 3)) := by decide +kernel
theorem dX9_lanes_0 : decode cX9_lanes 0 = .ok (.aload_n 0, 1) := dX9_lanes_0_g.1
theorem dX9_lanes_1 : decode cX9_lanes 1 = .ok (.iconst 0, 1) := dX9_lanes_0_g.2.1
theorem dX9_lanes_2 : decode cX9_lanes 2 = .ok (.putfield 133, 3) := dX9_lanes_0_g.2.2.1
theorem dX9_lanes_5 : decode cX9_lanes 5 = .ok (.iconst 0, 1) := dX9_lanes_0_g.2.2.2.1
theorem dX9_lanes_6 : decode cX9_lanes 6 = .ok (.istore_n 1, 1) := dX9_lanes_0_g.2.2.2.2.1
theorem dX9_lanes_7 : decode cX9_lanes 7 = .ok (.iload_n 1, 1) := dX9_lanes_0_g.2.2.2.2.2.1
theorem dX9_lanes_8 : decode cX9_lanes 8 = .ok (.aload_n 0, 1) := dX9_lanes_0_g.2.2.2.2.2.2.1
theorem dX9_lanes_9 : decode cX9_lanes 9 = .ok (.getfield 7, 3) := dX9_lanes_0_g.2.2.2.2.2.2.2
theorem dX9_lanes_12_g : (decode cX9_lanes 12 = .ok (.if_icmp .ge 55, 3)) ∧ (decode cX9_lanes 15 = .ok (.iconst 0, 1)) ∧ (decode cX9_lanes 16 = .ok (.istore_n 2, 1)) ∧ (decode cX9_lanes 17 = .ok (.iload_n 2, 1)) ∧ (decode cX9_lanes 18 = .ok (.aload_n 0, 1)) ∧ (decode cX9_lanes 19 = .ok (.getfield 7, 3)) ∧ (decode cX9_lanes 22 = .ok (.if_icmp .ge 39, 3)) ∧ (decode cX9_lanes 25 = .ok (.iload_n 1, 1)) := by decide +kernel
theorem dX9_lanes_12 : decode cX9_lanes 12 = .ok (.if_icmp .ge 55, 3) := dX9_lanes_12_g.1
theorem dX9_lanes_15 : decode cX9_lanes 15 = .ok (.iconst 0, 1) := dX9_lanes_12_g.2.1
theorem dX9_lanes_16 : decode cX9_lanes 16 = .ok (.istore_n 2, 1) := dX9_lanes_12_g.2.2.1
theorem dX9_lanes_17 : decode cX9_lanes 17 = .ok (.iload_n 2, 1) := dX9_lanes_12_g.2.2.2.1
theorem dX9_lanes_18 : decode cX9_lanes 18 = .ok (.aload_n 0, 1) := dX9_lanes_12_g.2.2.2.2.1
theorem dX9_lanes_19 : decode cX9_lanes 19 = .ok (.getfield 7, 3) := dX9_lanes_12_g.2.2.2.2.2.1
theorem dX9_lanes_22 : decode cX9_lanes 22 = .ok (.if_icmp .ge 39, 3) := dX9_lanes_12_g.2.2.2.2.2.2.1
theorem dX9_lanes_25 : decode cX9_lanes 25 = .ok (.iload_n 1, 1) := dX9_lanes_12_g.2.2.2.2.2.2.2
theorem dX9_lanes_26_g : (decode cX9_lanes 26 = .ok (.iload_n 2, 1)) ∧ (decode cX9_lanes 27 = .ok (.if_icmp .ne 6, 3)) ∧ (decode cX9_lanes 30 = .ok (.goto 25, 3)) ∧ (decode cX9_lanes 33 = .ok (.aload_n 0, 1)) ∧ (decode cX9_lanes 34 = .ok (.getfield 26, 3)) ∧ (decode cX9_lanes 37 = .ok (.iconst 5, 1)) ∧ (decode cX9_lanes 38 = .ok (.iload_n 1, 1)) ∧ (decode cX9_lanes 39 = .ok (.imul, 1)) := by decide +kernel
theorem dX9_lanes_26 : decode cX9_lanes 26 = .ok (.iload_n 2, 1) := dX9_lanes_26_g.1
theorem dX9_lanes_27 : decode cX9_lanes 27 = .ok (.if_icmp .ne 6, 3) := dX9_lanes_26_g.2.1
theorem dX9_lanes_30 : decode cX9_lanes 30 = .ok (.goto 25, 3) := dX9_lanes_26_g.2.2.1
theorem dX9_lanes_33 : decode cX9_lanes 33 = .ok (.aload_n 0, 1) := dX9_lanes_26_g.2.2.2.1
theorem dX9_lanes_34 : decode cX9_lanes 34 = .ok (.getfield 26, 3) := dX9_lanes_26_g.2.2.2.2.1
theorem dX9_lanes_37 : decode cX9_lanes 37 = .ok (.iconst 5, 1) := dX9_lanes_26_g.2.2.2.2.2.1
theorem dX9_lanes_38 : decode cX9_lanes 38 = .ok (.iload_n 1, 1) := dX9_lanes_26_g.2.2.2.2.2.2.1
theorem dX9_lanes_39 : decode cX9_lanes 39 = .ok (.imul, 1) := dX9_lanes_26_g.2.2.2.2.2.2.2
theorem dX9_lanes_40_g : (decode cX9_lanes 40 = .ok (.iload_n 2, 1)) ∧ (decode cX9_lanes 41 = .ok (.iadd, 1)) ∧ (decode cX9_lanes 42 = .ok (.iconst 1, 1)) ∧ (decode cX9_lanes 43 = .ok (.iastore, 1)) ∧ (decode cX9_lanes 44 = .ok (.aload_n 0, 1)) ∧ (decode cX9_lanes 45 = .ok (.getfield 29, 3)) ∧ (decode cX9_lanes 48 = .ok (.iconst 5, 1)) ∧ (decode cX9_lanes 49 = .ok (.iload_n 1, 1)) := by decide +kernel
theorem dX9_lanes_40 : decode cX9_lanes 40 = .ok (.iload_n 2, 1) := dX9_lanes_40_g.1
theorem dX9_lanes_41 : decode cX9_lanes 41 = .ok (.iadd, 1) := dX9_lanes_40_g.2.1
theorem dX9_lanes_42 : decode cX9_lanes 42 = .ok (.iconst 1, 1) := dX9_lanes_40_g.2.2.1
theorem dX9_lanes_43 : decode cX9_lanes 43 = .ok (.iastore, 1) := dX9_lanes_40_g.2.2.2.1
theorem dX9_lanes_44 : decode cX9_lanes 44 = .ok (.aload_n 0, 1) := dX9_lanes_40_g.2.2.2.2.1
theorem dX9_lanes_45 : decode cX9_lanes 45 = .ok (.getfield 29, 3) := dX9_lanes_40_g.2.2.2.2.2.1
theorem dX9_lanes_48 : decode cX9_lanes 48 = .ok (.iconst 5, 1) := dX9_lanes_40_g.2.2.2.2.2.2.1
theorem dX9_lanes_49 : decode cX9_lanes 49 = .ok (.iload_n 1, 1) := dX9_lanes_40_g.2.2.2.2.2.2.2
theorem dX9_lanes_50_g : (decode cX9_lanes 50 = .ok (.imul, 1)) ∧ (decode cX9_lanes 51 = .ok (.iload_n 2, 1)) ∧ (decode cX9_lanes 52 = .ok (.iadd, 1)) ∧ (decode cX9_lanes 53 = .ok (.iconst 1, 1)) ∧ (decode cX9_lanes 54 = .ok (.bastore, 1)) ∧ (decode cX9_lanes 55 = .ok (.iinc 2 1, 3)) ∧ (decode cX9_lanes 58 = .ok (.goto (-41), 3)) ∧ (decode cX9_lanes 61 = .ok (.iinc 1 1, 3)) := by decide +kernel
theorem dX9_lanes_50 : decode cX9_lanes 50 = .ok (.imul, 1) := dX9_lanes_50_g.1
theorem dX9_lanes_51 : decode cX9_lanes 51 = .ok (.iload_n 2, 1) := dX9_lanes_50_g.2.1
theorem dX9_lanes_52 : decode cX9_lanes 52 = .ok (.iadd, 1) := dX9_lanes_50_g.2.2.1
theorem dX9_lanes_53 : decode cX9_lanes 53 = .ok (.iconst 1, 1) := dX9_lanes_50_g.2.2.2.1
theorem dX9_lanes_54 : decode cX9_lanes 54 = .ok (.bastore, 1) := dX9_lanes_50_g.2.2.2.2.1
theorem dX9_lanes_55 : decode cX9_lanes 55 = .ok (.iinc 2 1, 3) := dX9_lanes_50_g.2.2.2.2.2.1
theorem dX9_lanes_58 : decode cX9_lanes 58 = .ok (.goto (-41), 3) := dX9_lanes_50_g.2.2.2.2.2.2.1
theorem dX9_lanes_61 : decode cX9_lanes 61 = .ok (.iinc 1 1, 3) := dX9_lanes_50_g.2.2.2.2.2.2.2
theorem dX9_lanes_64_g : (decode cX9_lanes 64 = .ok (.goto (-57), 3)) ∧ (decode cX9_lanes 67 = .ok (.aload_n 0, 1)) ∧ (decode cX9_lanes 68 = .ok (.iconst 0, 1)) ∧ (decode cX9_lanes 69 = .ok (.putfield 143, 3)) ∧ (decode cX9_lanes 72 = .ok (.aload_n 0, 1)) ∧ (decode cX9_lanes 73 = .ok (.iconst 0, 1)) ∧ (decode cX9_lanes 74 = .ok (.putfield 146, 3)) ∧ (decode cX9_lanes 77 = .ok (.aload_n 0, 1)) := by decide +kernel
theorem dX9_lanes_64 : decode cX9_lanes 64 = .ok (.goto (-57), 3) := dX9_lanes_64_g.1
theorem dX9_lanes_67 : decode cX9_lanes 67 = .ok (.aload_n 0, 1) := dX9_lanes_64_g.2.1
theorem dX9_lanes_68 : decode cX9_lanes 68 = .ok (.iconst 0, 1) := dX9_lanes_64_g.2.2.1
theorem dX9_lanes_69 : decode cX9_lanes 69 = .ok (.putfield 143, 3) := dX9_lanes_64_g.2.2.2.1
theorem dX9_lanes_72 : decode cX9_lanes 72 = .ok (.aload_n 0, 1) := dX9_lanes_64_g.2.2.2.2.1
theorem dX9_lanes_73 : decode cX9_lanes 73 = .ok (.iconst 0, 1) := dX9_lanes_64_g.2.2.2.2.2.1
theorem dX9_lanes_74 : decode cX9_lanes 74 = .ok (.putfield 146, 3) := dX9_lanes_64_g.2.2.2.2.2.2.1
theorem dX9_lanes_77 : decode cX9_lanes 77 = .ok (.aload_n 0, 1) := dX9_lanes_64_g.2.2.2.2.2.2.2
theorem dX9_lanes_78_g : (decode cX9_lanes 78 = .ok (.invokevirtual 173, 3)) ∧ (decode cX9_lanes 81 = .ok (.ireturn, 1)) := by decide +kernel
theorem dX9_lanes_78 : decode cX9_lanes 78 = .ok (.invokevirtual 173, 3) := dX9_lanes_78_g.1
theorem dX9_lanes_81 : decode cX9_lanes 81 = .ok (.ireturn, 1) := dX9_lanes_78_g.2
theorem dX9_cost_0_g : (decode cX9_cost 0 = .ok (.aload_n 0, 1)) ∧ (decode cX9_cost 1 = .ok (.iconst 0, 1)) ∧ (decode cX9_cost 2 = .ok (.putfield 133, 3)) ∧ (decode cX9_cost 5 = .ok (.aload_n 0, 1)) ∧ (decode cX9_cost 6 = .ok (.iload_n 1, 1)) ∧ (decode cX9_cost 7 = .ok (.invokevirtual 170, 3)) ∧ (decode cX9_cost 10 = .ok (.ifCond .eq 24, 3)) ∧ (decode cX9_cost 13 = .ok (.aload_n 0, 1)) := by decide +kernel
theorem dX9_cost_0 : decode cX9_cost 0 = .ok (.aload_n 0, 1) := dX9_cost_0_g.1
theorem dX9_cost_1 : decode cX9_cost 1 = .ok (.iconst 0, 1) := dX9_cost_0_g.2.1
theorem dX9_cost_2 : decode cX9_cost 2 = .ok (.putfield 133, 3) := dX9_cost_0_g.2.2.1
theorem dX9_cost_5 : decode cX9_cost 5 = .ok (.aload_n 0, 1) := dX9_cost_0_g.2.2.2.1
theorem dX9_cost_6 : decode cX9_cost 6 = .ok (.iload_n 1, 1) := dX9_cost_0_g.2.2.2.2.1
theorem dX9_cost_7 : decode cX9_cost 7 = .ok (.invokevirtual 170, 3) := dX9_cost_0_g.2.2.2.2.2.1
theorem dX9_cost_10 : decode cX9_cost 10 = .ok (.ifCond .eq 24, 3) := dX9_cost_0_g.2.2.2.2.2.2.1
theorem dX9_cost_13 : decode cX9_cost 13 = .ok (.aload_n 0, 1) := dX9_cost_0_g.2.2.2.2.2.2.2
theorem dX9_cost_14_g : (decode cX9_cost 14 = .ok (.iload_n 2, 1)) ∧ (decode cX9_cost 15 = .ok (.invokevirtual 170, 3)) ∧ (decode cX9_cost 18 = .ok (.ifCond .eq 16, 3)) ∧ (decode cX9_cost 21 = .ok (.aload_n 0, 1)) ∧ (decode cX9_cost 22 = .ok (.getfield 26, 3)) ∧ (decode cX9_cost 25 = .ok (.iconst 5, 1)) ∧ (decode cX9_cost 26 = .ok (.iload_n 1, 1)) ∧ (decode cX9_cost 27 = .ok (.imul, 1)) := by decide +kernel
theorem dX9_cost_14 : decode cX9_cost 14 = .ok (.iload_n 2, 1) := dX9_cost_14_g.1
theorem dX9_cost_15 : decode cX9_cost 15 = .ok (.invokevirtual 170, 3) := dX9_cost_14_g.2.1
theorem dX9_cost_18 : decode cX9_cost 18 = .ok (.ifCond .eq 16, 3) := dX9_cost_14_g.2.2.1
theorem dX9_cost_21 : decode cX9_cost 21 = .ok (.aload_n 0, 1) := dX9_cost_14_g.2.2.2.1
theorem dX9_cost_22 : decode cX9_cost 22 = .ok (.getfield 26, 3) := dX9_cost_14_g.2.2.2.2.1
theorem dX9_cost_25 : decode cX9_cost 25 = .ok (.iconst 5, 1) := dX9_cost_14_g.2.2.2.2.2.1
theorem dX9_cost_26 : decode cX9_cost 26 = .ok (.iload_n 1, 1) := dX9_cost_14_g.2.2.2.2.2.2.1
theorem dX9_cost_27 : decode cX9_cost 27 = .ok (.imul, 1) := dX9_cost_14_g.2.2.2.2.2.2.2
theorem dX9_cost_28_g : (decode cX9_cost 28 = .ok (.iload_n 2, 1)) ∧ (decode cX9_cost 29 = .ok (.iadd, 1)) ∧ (decode cX9_cost 30 = .ok (.iaload, 1)) ∧ (decode cX9_cost 31 = .ok (.goto 4, 3)) ∧ (decode cX9_cost 34 = .ok (.iconst (-1), 1)) ∧ (decode cX9_cost 35 = .ok (.ireturn, 1)) := by decide +kernel
theorem dX9_cost_28 : decode cX9_cost 28 = .ok (.iload_n 2, 1) := dX9_cost_28_g.1
theorem dX9_cost_29 : decode cX9_cost 29 = .ok (.iadd, 1) := dX9_cost_28_g.2.1
theorem dX9_cost_30 : decode cX9_cost 30 = .ok (.iaload, 1) := dX9_cost_28_g.2.2.1
theorem dX9_cost_31 : decode cX9_cost 31 = .ok (.goto 4, 3) := dX9_cost_28_g.2.2.2.1
theorem dX9_cost_34 : decode cX9_cost 34 = .ok (.iconst (-1), 1) := dX9_cost_28_g.2.2.2.2.1
theorem dX9_cost_35 : decode cX9_cost 35 = .ok (.ireturn, 1) := dX9_cost_28_g.2.2.2.2.2
theorem dX9_stand_0_g : (decode cX9_stand 0 = .ok (.aload_n 0, 1)) ∧ (decode cX9_stand 1 = .ok (.iconst 0, 1)) ∧ (decode cX9_stand 2 = .ok (.putfield 133, 3)) ∧ (decode cX9_stand 5 = .ok (.aload_n 0, 1)) ∧ (decode cX9_stand 6 = .ok (.iload_n 1, 1)) ∧ (decode cX9_stand 7 = .ok (.iconst 0, 1)) ∧ (decode cX9_stand 8 = .ok (.aload_n 0, 1)) ∧ (decode cX9_stand 9 = .ok (.invokevirtual 177, 3)) := by decide +kernel
theorem dX9_stand_0 : decode cX9_stand 0 = .ok (.aload_n 0, 1) := dX9_stand_0_g.1
theorem dX9_stand_1 : decode cX9_stand 1 = .ok (.iconst 0, 1) := dX9_stand_0_g.2.1
theorem dX9_stand_2 : decode cX9_stand 2 = .ok (.putfield 133, 3) := dX9_stand_0_g.2.2.1
theorem dX9_stand_5 : decode cX9_stand 5 = .ok (.aload_n 0, 1) := dX9_stand_0_g.2.2.2.1
theorem dX9_stand_6 : decode cX9_stand 6 = .ok (.iload_n 1, 1) := dX9_stand_0_g.2.2.2.2.1
theorem dX9_stand_7 : decode cX9_stand 7 = .ok (.iconst 0, 1) := dX9_stand_0_g.2.2.2.2.2.1
theorem dX9_stand_8 : decode cX9_stand 8 = .ok (.aload_n 0, 1) := dX9_stand_0_g.2.2.2.2.2.2.1
theorem dX9_stand_9 : decode cX9_stand 9 = .ok (.invokevirtual 177, 3) := dX9_stand_0_g.2.2.2.2.2.2.2
theorem dX9_stand_12_g : (decode cX9_stand 12 = .ok (.iconst 1, 1)) ∧ (decode cX9_stand 13 = .ok (.isub, 1)) ∧ (decode cX9_stand 14 = .ok (.invokevirtual 139, 3)) ∧ (decode cX9_stand 17 = .ok (.ifCond .ne 9, 3)) ∧ (decode cX9_stand 20 = .ok (.aload_n 0, 1)) ∧ (decode cX9_stand 21 = .ok (.iconst 1, 1)) ∧ (decode cX9_stand 22 = .ok (.invokevirtual 159, 3)) ∧ (decode cX9_stand 25 = .ok (.ireturn, 1)) := by decide +kernel
theorem dX9_stand_12 : decode cX9_stand 12 = .ok (.iconst 1, 1) := dX9_stand_12_g.1
theorem dX9_stand_13 : decode cX9_stand 13 = .ok (.isub, 1) := dX9_stand_12_g.2.1
theorem dX9_stand_14 : decode cX9_stand 14 = .ok (.invokevirtual 139, 3) := dX9_stand_12_g.2.2.1
theorem dX9_stand_17 : decode cX9_stand 17 = .ok (.ifCond .ne 9, 3) := dX9_stand_12_g.2.2.2.1
theorem dX9_stand_20 : decode cX9_stand 20 = .ok (.aload_n 0, 1) := dX9_stand_12_g.2.2.2.2.1
theorem dX9_stand_21 : decode cX9_stand 21 = .ok (.iconst 1, 1) := dX9_stand_12_g.2.2.2.2.2.1
theorem dX9_stand_22 : decode cX9_stand 22 = .ok (.invokevirtual 159, 3) := dX9_stand_12_g.2.2.2.2.2.2.1
theorem dX9_stand_25 : decode cX9_stand 25 = .ok (.ireturn, 1) := dX9_stand_12_g.2.2.2.2.2.2.2
theorem dX9_stand_26_g : (decode cX9_stand 26 = .ok (.aload_n 0, 1)) ∧ (decode cX9_stand 27 = .ok (.iload_n 1, 1)) ∧ (decode cX9_stand 28 = .ok (.aload_n 0, 1)) ∧ (decode cX9_stand 29 = .ok (.getfield 39, 3)) ∧ (decode cX9_stand 32 = .ok (.invokevirtual 180, 3)) ∧ (decode cX9_stand 35 = .ok (.aload_n 0, 1)) ∧ (decode cX9_stand 36 = .ok (.aload_n 0, 1)) ∧ (decode cX9_stand 37 = .ok (.getfield 39, 3)) := by decide +kernel
theorem dX9_stand_26 : decode cX9_stand 26 = .ok (.aload_n 0, 1) := dX9_stand_26_g.1
theorem dX9_stand_27 : decode cX9_stand 27 = .ok (.iload_n 1, 1) := dX9_stand_26_g.2.1
theorem dX9_stand_28 : decode cX9_stand 28 = .ok (.aload_n 0, 1) := dX9_stand_26_g.2.2.1
theorem dX9_stand_29 : decode cX9_stand 29 = .ok (.getfield 39, 3) := dX9_stand_26_g.2.2.2.1
theorem dX9_stand_32 : decode cX9_stand 32 = .ok (.invokevirtual 180, 3) := dX9_stand_26_g.2.2.2.2.1
theorem dX9_stand_35 : decode cX9_stand 35 = .ok (.aload_n 0, 1) := dX9_stand_26_g.2.2.2.2.2.1
theorem dX9_stand_36 : decode cX9_stand 36 = .ok (.aload_n 0, 1) := dX9_stand_26_g.2.2.2.2.2.2.1
theorem dX9_stand_37 : decode cX9_stand 37 = .ok (.getfield 39, 3) := dX9_stand_26_g.2.2.2.2.2.2.2
theorem dX9_stand_40_g : (decode cX9_stand 40 = .ok (.invokevirtual 166, 3)) ∧ (decode cX9_stand 43 = .ok (.ifCond .ne 9, 3)) ∧ (decode cX9_stand 46 = .ok (.aload_n 0, 1)) ∧ (decode cX9_stand 47 = .ok (.iconst 3, 1)) ∧ (decode cX9_stand 48 = .ok (.invokevirtual 159, 3)) ∧ (decode cX9_stand 51 = .ok (.ireturn, 1)) ∧ (decode cX9_stand 52 = .ok (.iconst 0, 1)) ∧ (decode cX9_stand 53 = .ok (.istore_n 3, 1)) := by decide +kernel
theorem dX9_stand_40 : decode cX9_stand 40 = .ok (.invokevirtual 166, 3) := dX9_stand_40_g.1
theorem dX9_stand_43 : decode cX9_stand 43 = .ok (.ifCond .ne 9, 3) := dX9_stand_40_g.2.1
theorem dX9_stand_46 : decode cX9_stand 46 = .ok (.aload_n 0, 1) := dX9_stand_40_g.2.2.1
theorem dX9_stand_47 : decode cX9_stand 47 = .ok (.iconst 3, 1) := dX9_stand_40_g.2.2.2.1
theorem dX9_stand_48 : decode cX9_stand 48 = .ok (.invokevirtual 159, 3) := dX9_stand_40_g.2.2.2.2.1
theorem dX9_stand_51 : decode cX9_stand 51 = .ok (.ireturn, 1) := dX9_stand_40_g.2.2.2.2.2.1
theorem dX9_stand_52 : decode cX9_stand 52 = .ok (.iconst 0, 1) := dX9_stand_40_g.2.2.2.2.2.2.1
theorem dX9_stand_53 : decode cX9_stand 53 = .ok (.istore_n 3, 1) := dX9_stand_40_g.2.2.2.2.2.2.2
theorem dX9_stand_54_g : (decode cX9_stand 54 = .ok (.iload_n 3, 1)) ∧ (decode cX9_stand 55 = .ok (.aload_n 0, 1)) ∧ (decode cX9_stand 56 = .ok (.getfield 13, 3)) ∧ (decode cX9_stand 59 = .ok (.if_icmp .ge 40, 3)) ∧ (decode cX9_stand 62 = .ok (.iload_n 2, 1)) ∧ (decode cX9_stand 63 = .ok (.ifCond .eq 18, 3)) ∧ (decode cX9_stand 66 = .ok (.aload_n 0, 1)) ∧ (decode cX9_stand 67 = .ok (.getfield 23, 3)) := by decide +kernel
theorem dX9_stand_54 : decode cX9_stand 54 = .ok (.iload_n 3, 1) := dX9_stand_54_g.1
theorem dX9_stand_55 : decode cX9_stand 55 = .ok (.aload_n 0, 1) := dX9_stand_54_g.2.1
theorem dX9_stand_56 : decode cX9_stand 56 = .ok (.getfield 13, 3) := dX9_stand_54_g.2.2.1
theorem dX9_stand_59 : decode cX9_stand 59 = .ok (.if_icmp .ge 40, 3) := dX9_stand_54_g.2.2.2.1
theorem dX9_stand_62 : decode cX9_stand 62 = .ok (.iload_n 2, 1) := dX9_stand_54_g.2.2.2.2.1
theorem dX9_stand_63 : decode cX9_stand 63 = .ok (.ifCond .eq 18, 3) := dX9_stand_54_g.2.2.2.2.2.1
theorem dX9_stand_66 : decode cX9_stand 66 = .ok (.aload_n 0, 1) := dX9_stand_54_g.2.2.2.2.2.2.1
theorem dX9_stand_67 : decode cX9_stand 67 = .ok (.getfield 23, 3) := dX9_stand_54_g.2.2.2.2.2.2.2
theorem dX9_stand_70_g : (decode cX9_stand 70 = .ok (.iload_n 3, 1)) ∧ (decode cX9_stand 71 = .ok (.aload_n 0, 1)) ∧ (decode cX9_stand 72 = .ok (.getfield 39, 3)) ∧ (decode cX9_stand 75 = .ok (.iload_n 3, 1)) ∧ (decode cX9_stand 76 = .ok (.iaload, 1)) ∧ (decode cX9_stand 77 = .ok (.iastore, 1)) ∧ (decode cX9_stand 78 = .ok (.goto 15, 3)) ∧ (decode cX9_stand 81 = .ok (.aload_n 0, 1)) := by decide +kernel
theorem dX9_stand_70 : decode cX9_stand 70 = .ok (.iload_n 3, 1) := dX9_stand_70_g.1
theorem dX9_stand_71 : decode cX9_stand 71 = .ok (.aload_n 0, 1) := dX9_stand_70_g.2.1
theorem dX9_stand_72 : decode cX9_stand 72 = .ok (.getfield 39, 3) := dX9_stand_70_g.2.2.1
theorem dX9_stand_75 : decode cX9_stand 75 = .ok (.iload_n 3, 1) := dX9_stand_70_g.2.2.2.1
theorem dX9_stand_76 : decode cX9_stand 76 = .ok (.iaload, 1) := dX9_stand_70_g.2.2.2.2.1
theorem dX9_stand_77 : decode cX9_stand 77 = .ok (.iastore, 1) := dX9_stand_70_g.2.2.2.2.2.1
theorem dX9_stand_78 : decode cX9_stand 78 = .ok (.goto 15, 3) := dX9_stand_70_g.2.2.2.2.2.2.1
theorem dX9_stand_81 : decode cX9_stand 81 = .ok (.aload_n 0, 1) := dX9_stand_70_g.2.2.2.2.2.2.2
theorem dX9_stand_82_g : (decode cX9_stand 82 = .ok (.getfield 20, 3)) ∧ (decode cX9_stand 85 = .ok (.iload_n 3, 1)) ∧ (decode cX9_stand 86 = .ok (.aload_n 0, 1)) ∧ (decode cX9_stand 87 = .ok (.getfield 39, 3)) ∧ (decode cX9_stand 90 = .ok (.iload_n 3, 1)) ∧ (decode cX9_stand 91 = .ok (.iaload, 1)) ∧ (decode cX9_stand 92 = .ok (.iastore, 1)) ∧ (decode cX9_stand 93 = .ok (.iinc 3 1, 3)) := by decide +kernel
theorem dX9_stand_82 : decode cX9_stand 82 = .ok (.getfield 20, 3) := dX9_stand_82_g.1
theorem dX9_stand_85 : decode cX9_stand 85 = .ok (.iload_n 3, 1) := dX9_stand_82_g.2.1
theorem dX9_stand_86 : decode cX9_stand 86 = .ok (.aload_n 0, 1) := dX9_stand_82_g.2.2.1
theorem dX9_stand_87 : decode cX9_stand 87 = .ok (.getfield 39, 3) := dX9_stand_82_g.2.2.2.1
theorem dX9_stand_90 : decode cX9_stand 90 = .ok (.iload_n 3, 1) := dX9_stand_82_g.2.2.2.2.1
theorem dX9_stand_91 : decode cX9_stand 91 = .ok (.iaload, 1) := dX9_stand_82_g.2.2.2.2.2.1
theorem dX9_stand_92 : decode cX9_stand 92 = .ok (.iastore, 1) := dX9_stand_82_g.2.2.2.2.2.2.1
theorem dX9_stand_93 : decode cX9_stand 93 = .ok (.iinc 3 1, 3) := dX9_stand_82_g.2.2.2.2.2.2.2
theorem dX9_stand_96_g : (decode cX9_stand 96 = .ok (.goto (-42), 3)) ∧ (decode cX9_stand 99 = .ok (.aload_n 0, 1)) ∧ (decode cX9_stand 100 = .ok (.iconst 0, 1)) ∧ (decode cX9_stand 101 = .ok (.putfield 136, 3)) ∧ (decode cX9_stand 104 = .ok (.iload_n 2, 1)) ∧ (decode cX9_stand 105 = .ok (.ifCond .ne 7, 3)) ∧ (decode cX9_stand 108 = .ok (.aload_n 0, 1)) ∧ (decode cX9_stand 109 = .ok (.invokevirtual 163, 3)) := by decide +kernel
theorem dX9_stand_96 : decode cX9_stand 96 = .ok (.goto (-42), 3) := dX9_stand_96_g.1
theorem dX9_stand_99 : decode cX9_stand 99 = .ok (.aload_n 0, 1) := dX9_stand_96_g.2.1
theorem dX9_stand_100 : decode cX9_stand 100 = .ok (.iconst 0, 1) := dX9_stand_96_g.2.2.1
theorem dX9_stand_101 : decode cX9_stand 101 = .ok (.putfield 136, 3) := dX9_stand_96_g.2.2.2.1
theorem dX9_stand_104 : decode cX9_stand 104 = .ok (.iload_n 2, 1) := dX9_stand_96_g.2.2.2.2.1
theorem dX9_stand_105 : decode cX9_stand 105 = .ok (.ifCond .ne 7, 3) := dX9_stand_96_g.2.2.2.2.2.1
theorem dX9_stand_108 : decode cX9_stand 108 = .ok (.aload_n 0, 1) := dX9_stand_96_g.2.2.2.2.2.2.1
theorem dX9_stand_109 : decode cX9_stand 109 = .ok (.invokevirtual 163, 3) := dX9_stand_96_g.2.2.2.2.2.2.2
theorem dX9_stand_112_g : (decode cX9_stand 112 = .ok (.iconst 1, 1)) ∧ (decode cX9_stand 113 = .ok (.ireturn, 1)) := by decide +kernel
theorem dX9_stand_112 : decode cX9_stand 112 = .ok (.iconst 1, 1) := dX9_stand_112_g.1
theorem dX9_stand_113 : decode cX9_stand 113 = .ok (.ireturn, 1) := dX9_stand_112_g.2
theorem dX9_number_0_g : (decode cX9_number 0 = .ok (.aload_n 0, 1)) ∧ (decode cX9_number 1 = .ok (.iconst 0, 1)) ∧ (decode cX9_number 2 = .ok (.putfield 133, 3)) ∧ (decode cX9_number 5 = .ok (.aload_n 0, 1)) ∧ (decode cX9_number 6 = .ok (.iload_n 1, 1)) ∧ (decode cX9_number 7 = .ok (.ifCond .eq 10, 3)) ∧ (decode cX9_number 10 = .ok (.aload_n 0, 1)) ∧ (decode cX9_number 11 = .ok (.getfield 23, 3)) := by decide +kernel
theorem dX9_number_0 : decode cX9_number 0 = .ok (.aload_n 0, 1) := dX9_number_0_g.1
theorem dX9_number_1 : decode cX9_number 1 = .ok (.iconst 0, 1) := dX9_number_0_g.2.1
theorem dX9_number_2 : decode cX9_number 2 = .ok (.putfield 133, 3) := dX9_number_0_g.2.2.1
theorem dX9_number_5 : decode cX9_number 5 = .ok (.aload_n 0, 1) := dX9_number_0_g.2.2.2.1
theorem dX9_number_6 : decode cX9_number 6 = .ok (.iload_n 1, 1) := dX9_number_0_g.2.2.2.2.1
theorem dX9_number_7 : decode cX9_number 7 = .ok (.ifCond .eq 10, 3) := dX9_number_0_g.2.2.2.2.2.1
theorem dX9_number_10 : decode cX9_number 10 = .ok (.aload_n 0, 1) := dX9_number_0_g.2.2.2.2.2.2.1
theorem dX9_number_11 : decode cX9_number 11 = .ok (.getfield 23, 3) := dX9_number_0_g.2.2.2.2.2.2.2
theorem dX9_number_14_g : (decode cX9_number 14 = .ok (.goto 7, 3)) ∧ (decode cX9_number 17 = .ok (.aload_n 0, 1)) ∧ (decode cX9_number 18 = .ok (.getfield 20, 3)) ∧ (decode cX9_number 21 = .ok (.invokevirtual 184, 3)) ∧ (decode cX9_number 24 = .ok (.ireturn, 1)) := by decide +kernel
theorem dX9_number_14 : decode cX9_number 14 = .ok (.goto 7, 3) := dX9_number_14_g.1
theorem dX9_number_17 : decode cX9_number 17 = .ok (.aload_n 0, 1) := dX9_number_14_g.2.1
theorem dX9_number_18 : decode cX9_number 18 = .ok (.getfield 20, 3) := dX9_number_14_g.2.2.1
theorem dX9_number_21 : decode cX9_number 21 = .ok (.invokevirtual 184, 3) := dX9_number_14_g.2.2.2.1
theorem dX9_number_24 : decode cX9_number 24 = .ok (.ireturn, 1) := dX9_number_14_g.2.2.2.2
theorem dX9_peg_0_g : (decode cX9_peg 0 = .ok (.aload_n 0, 1)) ∧ (decode cX9_peg 1 = .ok (.iconst 0, 1)) ∧ (decode cX9_peg 2 = .ok (.putfield 133, 3)) ∧ (decode cX9_peg 5 = .ok (.aload_n 0, 1)) ∧ (decode cX9_peg 6 = .ok (.iload_n 1, 1)) ∧ (decode cX9_peg 7 = .ok (.iconst 0, 1)) ∧ (decode cX9_peg 8 = .ok (.aload_n 0, 1)) ∧ (decode cX9_peg 9 = .ok (.getfield 13, 3)) := by decide +kernel
theorem dX9_peg_0 : decode cX9_peg 0 = .ok (.aload_n 0, 1) := dX9_peg_0_g.1
theorem dX9_peg_1 : decode cX9_peg 1 = .ok (.iconst 0, 1) := dX9_peg_0_g.2.1
theorem dX9_peg_2 : decode cX9_peg 2 = .ok (.putfield 133, 3) := dX9_peg_0_g.2.2.1
theorem dX9_peg_5 : decode cX9_peg 5 = .ok (.aload_n 0, 1) := dX9_peg_0_g.2.2.2.1
theorem dX9_peg_6 : decode cX9_peg 6 = .ok (.iload_n 1, 1) := dX9_peg_0_g.2.2.2.2.1
theorem dX9_peg_7 : decode cX9_peg 7 = .ok (.iconst 0, 1) := dX9_peg_0_g.2.2.2.2.2.1
theorem dX9_peg_8 : decode cX9_peg 8 = .ok (.aload_n 0, 1) := dX9_peg_0_g.2.2.2.2.2.2.1
theorem dX9_peg_9 : decode cX9_peg 9 = .ok (.getfield 13, 3) := dX9_peg_0_g.2.2.2.2.2.2.2
theorem dX9_peg_12_g : (decode cX9_peg 12 = .ok (.iconst 1, 1)) ∧ (decode cX9_peg 13 = .ok (.isub, 1)) ∧ (decode cX9_peg 14 = .ok (.invokevirtual 139, 3)) ∧ (decode cX9_peg 17 = .ok (.ifCond .eq 12, 3)) ∧ (decode cX9_peg 20 = .ok (.aload_n 0, 1)) ∧ (decode cX9_peg 21 = .ok (.getfield 20, 3)) ∧ (decode cX9_peg 24 = .ok (.iload_n 1, 1)) ∧ (decode cX9_peg 25 = .ok (.iaload, 1)) := by decide +kernel
theorem dX9_peg_12 : decode cX9_peg 12 = .ok (.iconst 1, 1) := dX9_peg_12_g.1
theorem dX9_peg_13 : decode cX9_peg 13 = .ok (.isub, 1) := dX9_peg_12_g.2.1
theorem dX9_peg_14 : decode cX9_peg 14 = .ok (.invokevirtual 139, 3) := dX9_peg_12_g.2.2.1
theorem dX9_peg_17 : decode cX9_peg 17 = .ok (.ifCond .eq 12, 3) := dX9_peg_12_g.2.2.2.1
theorem dX9_peg_20 : decode cX9_peg 20 = .ok (.aload_n 0, 1) := dX9_peg_12_g.2.2.2.2.1
theorem dX9_peg_21 : decode cX9_peg 21 = .ok (.getfield 20, 3) := dX9_peg_12_g.2.2.2.2.2.1
theorem dX9_peg_24 : decode cX9_peg 24 = .ok (.iload_n 1, 1) := dX9_peg_12_g.2.2.2.2.2.2.1
theorem dX9_peg_25 : decode cX9_peg 25 = .ok (.iaload, 1) := dX9_peg_12_g.2.2.2.2.2.2.2
theorem dX9_peg_26_g : (decode cX9_peg 26 = .ok (.goto 4, 3)) ∧ (decode cX9_peg 29 = .ok (.iconst (-1), 1)) ∧ (decode cX9_peg 30 = .ok (.ireturn, 1)) := by decide +kernel
theorem dX9_peg_26 : decode cX9_peg 26 = .ok (.goto 4, 3) := dX9_peg_26_g.1
theorem dX9_peg_29 : decode cX9_peg 29 = .ok (.iconst (-1), 1) := dX9_peg_26_g.2.1
theorem dX9_peg_30 : decode cX9_peg 30 = .ok (.ireturn, 1) := dX9_peg_26_g.2.2
theorem dX9_disc_0_g : (decode cX9_disc 0 = .ok (.aload_n 0, 1)) ∧ (decode cX9_disc 1 = .ok (.iconst 0, 1)) ∧ (decode cX9_disc 2 = .ok (.putfield 133, 3)) ∧ (decode cX9_disc 5 = .ok (.aload_n 0, 1)) ∧ (decode cX9_disc 6 = .ok (.iload_n 1, 1)) ∧ (decode cX9_disc 7 = .ok (.invokevirtual 170, 3)) ∧ (decode cX9_disc 10 = .ok (.ifCond .ne 5, 3)) ∧ (decode cX9_disc 13 = .ok (.iconst (-1), 1)) := by decide +kernel
theorem dX9_disc_0 : decode cX9_disc 0 = .ok (.aload_n 0, 1) := dX9_disc_0_g.1
theorem dX9_disc_1 : decode cX9_disc 1 = .ok (.iconst 0, 1) := dX9_disc_0_g.2.1
theorem dX9_disc_2 : decode cX9_disc 2 = .ok (.putfield 133, 3) := dX9_disc_0_g.2.2.1
theorem dX9_disc_5 : decode cX9_disc 5 = .ok (.aload_n 0, 1) := dX9_disc_0_g.2.2.2.1
theorem dX9_disc_6 : decode cX9_disc 6 = .ok (.iload_n 1, 1) := dX9_disc_0_g.2.2.2.2.1
theorem dX9_disc_7 : decode cX9_disc 7 = .ok (.invokevirtual 170, 3) := dX9_disc_0_g.2.2.2.2.2.1
theorem dX9_disc_10 : decode cX9_disc 10 = .ok (.ifCond .ne 5, 3) := dX9_disc_0_g.2.2.2.2.2.2.1
theorem dX9_disc_13 : decode cX9_disc 13 = .ok (.iconst (-1), 1) := dX9_disc_0_g.2.2.2.2.2.2.2
theorem dX9_disc_14_g : (decode cX9_disc 14 = .ok (.ireturn, 1)) ∧ (decode cX9_disc 15 = .ok (.iload_n 2, 1)) ∧ (decode cX9_disc 16 = .ok (.istore_n 3, 1)) ∧ (decode cX9_disc 17 = .ok (.aload_n 0, 1)) ∧ (decode cX9_disc 18 = .ok (.getfield 13, 3)) ∧ (decode cX9_disc 21 = .ok (.iconst 1, 1)) ∧ (decode cX9_disc 22 = .ok (.isub, 1)) ∧ (decode cX9_disc 23 = .ok (.istore 4, 2)) := by decide +kernel
theorem dX9_disc_14 : decode cX9_disc 14 = .ok (.ireturn, 1) := dX9_disc_14_g.1
theorem dX9_disc_15 : decode cX9_disc 15 = .ok (.iload_n 2, 1) := dX9_disc_14_g.2.1
theorem dX9_disc_16 : decode cX9_disc 16 = .ok (.istore_n 3, 1) := dX9_disc_14_g.2.2.1
theorem dX9_disc_17 : decode cX9_disc 17 = .ok (.aload_n 0, 1) := dX9_disc_14_g.2.2.2.1
theorem dX9_disc_18 : decode cX9_disc 18 = .ok (.getfield 13, 3) := dX9_disc_14_g.2.2.2.2.1
theorem dX9_disc_21 : decode cX9_disc 21 = .ok (.iconst 1, 1) := dX9_disc_14_g.2.2.2.2.2.1
theorem dX9_disc_22 : decode cX9_disc 22 = .ok (.isub, 1) := dX9_disc_14_g.2.2.2.2.2.2.1
theorem dX9_disc_23 : decode cX9_disc 23 = .ok (.istore 4, 2) := dX9_disc_14_g.2.2.2.2.2.2.2
theorem dX9_disc_25_g : (decode cX9_disc 25 = .ok (.iload 4, 2)) ∧ (decode cX9_disc 27 = .ok (.ifCond .lt 37, 3)) ∧ (decode cX9_disc 30 = .ok (.iload_n 3, 1)) ∧ (decode cX9_disc 31 = .ok (.ifCond .lt 33, 3)) ∧ (decode cX9_disc 34 = .ok (.aload_n 0, 1)) ∧ (decode cX9_disc 35 = .ok (.getfield 20, 3)) ∧ (decode cX9_disc 38 = .ok (.iload 4, 2)) ∧ (decode cX9_disc 40 = .ok (.iaload, 1)) := by decide +kernel
theorem dX9_disc_25 : decode cX9_disc 25 = .ok (.iload 4, 2) := dX9_disc_25_g.1
theorem dX9_disc_27 : decode cX9_disc 27 = .ok (.ifCond .lt 37, 3) := dX9_disc_25_g.2.1
theorem dX9_disc_30 : decode cX9_disc 30 = .ok (.iload_n 3, 1) := dX9_disc_25_g.2.2.1
theorem dX9_disc_31 : decode cX9_disc 31 = .ok (.ifCond .lt 33, 3) := dX9_disc_25_g.2.2.2.1
theorem dX9_disc_34 : decode cX9_disc 34 = .ok (.aload_n 0, 1) := dX9_disc_25_g.2.2.2.2.1
theorem dX9_disc_35 : decode cX9_disc 35 = .ok (.getfield 20, 3) := dX9_disc_25_g.2.2.2.2.2.1
theorem dX9_disc_38 : decode cX9_disc 38 = .ok (.iload 4, 2) := dX9_disc_25_g.2.2.2.2.2.2.1
theorem dX9_disc_40 : decode cX9_disc 40 = .ok (.iaload, 1) := dX9_disc_25_g.2.2.2.2.2.2.2
theorem dX9_disc_41_g : (decode cX9_disc 41 = .ok (.iload_n 1, 1)) ∧ (decode cX9_disc 42 = .ok (.if_icmp .eq 6, 3)) ∧ (decode cX9_disc 45 = .ok (.goto 13, 3)) ∧ (decode cX9_disc 48 = .ok (.iload_n 3, 1)) ∧ (decode cX9_disc 49 = .ok (.ifCond .ne 6, 3)) ∧ (decode cX9_disc 52 = .ok (.iload 4, 2)) ∧ (decode cX9_disc 54 = .ok (.ireturn, 1)) ∧ (decode cX9_disc 55 = .ok (.iinc 3 (-1), 3)) := by decide +kernel
theorem dX9_disc_41 : decode cX9_disc 41 = .ok (.iload_n 1, 1) := dX9_disc_41_g.1
theorem dX9_disc_42 : decode cX9_disc 42 = .ok (.if_icmp .eq 6, 3) := dX9_disc_41_g.2.1
theorem dX9_disc_45 : decode cX9_disc 45 = .ok (.goto 13, 3) := dX9_disc_41_g.2.2.1
theorem dX9_disc_48 : decode cX9_disc 48 = .ok (.iload_n 3, 1) := dX9_disc_41_g.2.2.2.1
theorem dX9_disc_49 : decode cX9_disc 49 = .ok (.ifCond .ne 6, 3) := dX9_disc_41_g.2.2.2.2.1
theorem dX9_disc_52 : decode cX9_disc 52 = .ok (.iload 4, 2) := dX9_disc_41_g.2.2.2.2.2.1
theorem dX9_disc_54 : decode cX9_disc 54 = .ok (.ireturn, 1) := dX9_disc_41_g.2.2.2.2.2.2.1
theorem dX9_disc_55 : decode cX9_disc 55 = .ok (.iinc 3 (-1), 3) := dX9_disc_41_g.2.2.2.2.2.2.2
theorem dX9_disc_58_g : (decode cX9_disc 58 = .ok (.iinc 4 (-1), 3)) ∧ (decode cX9_disc 61 = .ok (.goto (-36), 3)) ∧ (decode cX9_disc 64 = .ok (.iconst (-1), 1)) ∧ (decode cX9_disc 65 = .ok (.ireturn, 1)) := by decide +kernel
theorem dX9_disc_58 : decode cX9_disc 58 = .ok (.iinc 4 (-1), 3) := dX9_disc_58_g.1
theorem dX9_disc_61 : decode cX9_disc 61 = .ok (.goto (-36), 3) := dX9_disc_58_g.2.1
theorem dX9_disc_64 : decode cX9_disc 64 = .ok (.iconst (-1), 1) := dX9_disc_58_g.2.2.1
theorem dX9_disc_65 : decode cX9_disc 65 = .ok (.ireturn, 1) := dX9_disc_58_g.2.2.2
theorem dX9_why_0_g : (decode cX9_why 0 = .ok (.aload_n 0, 1)) ∧ (decode cX9_why 1 = .ok (.iconst 0, 1)) ∧ (decode cX9_why 2 = .ok (.putfield 133, 3)) ∧ (decode cX9_why 5 = .ok (.aload_n 0, 1)) ∧ (decode cX9_why 6 = .ok (.iload_n 1, 1)) ∧ (decode cX9_why 7 = .ok (.invokevirtual 170, 3)) ∧ (decode cX9_why 10 = .ok (.ifCond .eq 24, 3)) ∧ (decode cX9_why 13 = .ok (.aload_n 0, 1)) := by decide +kernel
theorem dX9_why_0 : decode cX9_why 0 = .ok (.aload_n 0, 1) := dX9_why_0_g.1
theorem dX9_why_1 : decode cX9_why 1 = .ok (.iconst 0, 1) := dX9_why_0_g.2.1
theorem dX9_why_2 : decode cX9_why 2 = .ok (.putfield 133, 3) := dX9_why_0_g.2.2.1
theorem dX9_why_5 : decode cX9_why 5 = .ok (.aload_n 0, 1) := dX9_why_0_g.2.2.2.1
theorem dX9_why_6 : decode cX9_why 6 = .ok (.iload_n 1, 1) := dX9_why_0_g.2.2.2.2.1
theorem dX9_why_7 : decode cX9_why 7 = .ok (.invokevirtual 170, 3) := dX9_why_0_g.2.2.2.2.2.1
theorem dX9_why_10 : decode cX9_why 10 = .ok (.ifCond .eq 24, 3) := dX9_why_0_g.2.2.2.2.2.2.1
theorem dX9_why_13 : decode cX9_why 13 = .ok (.aload_n 0, 1) := dX9_why_0_g.2.2.2.2.2.2.2
theorem dX9_why_14_g : (decode cX9_why 14 = .ok (.iload_n 2, 1)) ∧ (decode cX9_why 15 = .ok (.invokevirtual 170, 3)) ∧ (decode cX9_why 18 = .ok (.ifCond .eq 16, 3)) ∧ (decode cX9_why 21 = .ok (.aload_n 0, 1)) ∧ (decode cX9_why 22 = .ok (.aload_n 0, 1)) ∧ (decode cX9_why 23 = .ok (.getfield 20, 3)) ∧ (decode cX9_why 26 = .ok (.iload_n 1, 1)) ∧ (decode cX9_why 27 = .ok (.iload_n 2, 1)) := by decide +kernel
theorem dX9_why_14 : decode cX9_why 14 = .ok (.iload_n 2, 1) := dX9_why_14_g.1
theorem dX9_why_15 : decode cX9_why 15 = .ok (.invokevirtual 170, 3) := dX9_why_14_g.2.1
theorem dX9_why_18 : decode cX9_why 18 = .ok (.ifCond .eq 16, 3) := dX9_why_14_g.2.2.1
theorem dX9_why_21 : decode cX9_why 21 = .ok (.aload_n 0, 1) := dX9_why_14_g.2.2.2.1
theorem dX9_why_22 : decode cX9_why 22 = .ok (.aload_n 0, 1) := dX9_why_14_g.2.2.2.2.1
theorem dX9_why_23 : decode cX9_why 23 = .ok (.getfield 20, 3) := dX9_why_14_g.2.2.2.2.2.1
theorem dX9_why_26 : decode cX9_why 26 = .ok (.iload_n 1, 1) := dX9_why_14_g.2.2.2.2.2.2.1
theorem dX9_why_27 : decode cX9_why 27 = .ok (.iload_n 2, 1) := dX9_why_14_g.2.2.2.2.2.2.2
theorem dX9_why_28_g : (decode cX9_why 28 = .ok (.invokevirtual 188, 3)) ∧ (decode cX9_why 31 = .ok (.goto 4, 3)) ∧ (decode cX9_why 34 = .ok (.iconst (-1), 1)) ∧ (decode cX9_why 35 = .ok (.ireturn, 1)) := by decide +kernel
theorem dX9_why_28 : decode cX9_why 28 = .ok (.invokevirtual 188, 3) := dX9_why_28_g.1
theorem dX9_why_31 : decode cX9_why 31 = .ok (.goto 4, 3) := dX9_why_28_g.2.1
theorem dX9_why_34 : decode cX9_why 34 = .ok (.iconst (-1), 1) := dX9_why_28_g.2.2.1
theorem dX9_why_35 : decode cX9_why 35 = .ok (.ireturn, 1) := dX9_why_28_g.2.2.2
theorem dX9_move_0_g : (decode cX9_move 0 = .ok (.aload_n 0, 1)) ∧ (decode cX9_move 1 = .ok (.iconst 0, 1)) ∧ (decode cX9_move 2 = .ok (.putfield 133, 3)) ∧ (decode cX9_move 5 = .ok (.aload_n 0, 1)) ∧ (decode cX9_move 6 = .ok (.iload_n 1, 1)) ∧ (decode cX9_move 7 = .ok (.invokevirtual 170, 3)) ∧ (decode cX9_move 10 = .ok (.ifCond .eq 11, 3)) ∧ (decode cX9_move 13 = .ok (.aload_n 0, 1)) := by decide +kernel
theorem dX9_move_0 : decode cX9_move 0 = .ok (.aload_n 0, 1) := dX9_move_0_g.1
theorem dX9_move_1 : decode cX9_move 1 = .ok (.iconst 0, 1) := dX9_move_0_g.2.1
theorem dX9_move_2 : decode cX9_move 2 = .ok (.putfield 133, 3) := dX9_move_0_g.2.2.1
theorem dX9_move_5 : decode cX9_move 5 = .ok (.aload_n 0, 1) := dX9_move_0_g.2.2.2.1
theorem dX9_move_6 : decode cX9_move 6 = .ok (.iload_n 1, 1) := dX9_move_0_g.2.2.2.2.1
theorem dX9_move_7 : decode cX9_move 7 = .ok (.invokevirtual 170, 3) := dX9_move_0_g.2.2.2.2.2.1
theorem dX9_move_10 : decode cX9_move 10 = .ok (.ifCond .eq 11, 3) := dX9_move_0_g.2.2.2.2.2.2.1
theorem dX9_move_13 : decode cX9_move 13 = .ok (.aload_n 0, 1) := dX9_move_0_g.2.2.2.2.2.2.2
theorem dX9_move_14_g : (decode cX9_move 14 = .ok (.iload_n 2, 1)) ∧ (decode cX9_move 15 = .ok (.invokevirtual 170, 3)) ∧ (decode cX9_move 18 = .ok (.ifCond .ne 9, 3)) ∧ (decode cX9_move 21 = .ok (.aload_n 0, 1)) ∧ (decode cX9_move 22 = .ok (.iconst 1, 1)) ∧ (decode cX9_move 23 = .ok (.invokevirtual 192, 3)) ∧ (decode cX9_move 26 = .ok (.ireturn, 1)) ∧ (decode cX9_move 27 = .ok (.aload_n 0, 1)) := by decide +kernel
theorem dX9_move_14 : decode cX9_move 14 = .ok (.iload_n 2, 1) := dX9_move_14_g.1
theorem dX9_move_15 : decode cX9_move 15 = .ok (.invokevirtual 170, 3) := dX9_move_14_g.2.1
theorem dX9_move_18 : decode cX9_move 18 = .ok (.ifCond .ne 9, 3) := dX9_move_14_g.2.2.1
theorem dX9_move_21 : decode cX9_move 21 = .ok (.aload_n 0, 1) := dX9_move_14_g.2.2.2.1
theorem dX9_move_22 : decode cX9_move 22 = .ok (.iconst 1, 1) := dX9_move_14_g.2.2.2.2.1
theorem dX9_move_23 : decode cX9_move 23 = .ok (.invokevirtual 192, 3) := dX9_move_14_g.2.2.2.2.2.1
theorem dX9_move_26 : decode cX9_move 26 = .ok (.ireturn, 1) := dX9_move_14_g.2.2.2.2.2.2.1
theorem dX9_move_27 : decode cX9_move 27 = .ok (.aload_n 0, 1) := dX9_move_14_g.2.2.2.2.2.2.2
theorem dX9_move_28_g : (decode cX9_move 28 = .ok (.aload_n 0, 1)) ∧ (decode cX9_move 29 = .ok (.getfield 20, 3)) ∧ (decode cX9_move 32 = .ok (.iload_n 1, 1)) ∧ (decode cX9_move 33 = .ok (.iload_n 2, 1)) ∧ (decode cX9_move 34 = .ok (.invokevirtual 188, 3)) ∧ (decode cX9_move 37 = .ok (.ifCond .le 9, 3)) ∧ (decode cX9_move 40 = .ok (.aload_n 0, 1)) ∧ (decode cX9_move 41 = .ok (.iconst 4, 1)) := by decide +kernel
theorem dX9_move_28 : decode cX9_move 28 = .ok (.aload_n 0, 1) := dX9_move_28_g.1
theorem dX9_move_29 : decode cX9_move 29 = .ok (.getfield 20, 3) := dX9_move_28_g.2.1
theorem dX9_move_32 : decode cX9_move 32 = .ok (.iload_n 1, 1) := dX9_move_28_g.2.2.1
theorem dX9_move_33 : decode cX9_move 33 = .ok (.iload_n 2, 1) := dX9_move_28_g.2.2.2.1
theorem dX9_move_34 : decode cX9_move 34 = .ok (.invokevirtual 188, 3) := dX9_move_28_g.2.2.2.2.1
theorem dX9_move_37 : decode cX9_move 37 = .ok (.ifCond .le 9, 3) := dX9_move_28_g.2.2.2.2.2.1
theorem dX9_move_40 : decode cX9_move 40 = .ok (.aload_n 0, 1) := dX9_move_28_g.2.2.2.2.2.2.1
theorem dX9_move_41 : decode cX9_move 41 = .ok (.iconst 4, 1) := dX9_move_28_g.2.2.2.2.2.2.2
theorem dX9_move_42_g : (decode cX9_move 42 = .ok (.invokevirtual 192, 3)) ∧ (decode cX9_move 45 = .ok (.ireturn, 1)) ∧ (decode cX9_move 46 = .ok (.aload_n 0, 1)) ∧ (decode cX9_move 47 = .ok (.iconst 0, 1)) ∧ (decode cX9_move 48 = .ok (.putfield 136, 3)) ∧ (decode cX9_move 51 = .ok (.aload_n 0, 1)) ∧ (decode cX9_move 52 = .ok (.getfield 143, 3)) ∧ (decode cX9_move 55 = .ok (.sipush 200, 3)) := by decide +kernel
theorem dX9_move_42 : decode cX9_move 42 = .ok (.invokevirtual 192, 3) := dX9_move_42_g.1
theorem dX9_move_45 : decode cX9_move 45 = .ok (.ireturn, 1) := dX9_move_42_g.2.1
theorem dX9_move_46 : decode cX9_move 46 = .ok (.aload_n 0, 1) := dX9_move_42_g.2.2.1
theorem dX9_move_47 : decode cX9_move 47 = .ok (.iconst 0, 1) := dX9_move_42_g.2.2.2.1
theorem dX9_move_48 : decode cX9_move 48 = .ok (.putfield 136, 3) := dX9_move_42_g.2.2.2.2.1
theorem dX9_move_51 : decode cX9_move 51 = .ok (.aload_n 0, 1) := dX9_move_42_g.2.2.2.2.2.1
theorem dX9_move_52 : decode cX9_move 52 = .ok (.getfield 143, 3) := dX9_move_42_g.2.2.2.2.2.2.1
theorem dX9_move_55 : decode cX9_move 55 = .ok (.sipush 200, 3) := dX9_move_42_g.2.2.2.2.2.2.2
theorem dX9_move_58_g : (decode cX9_move 58 = .ok (.if_icmp .ne 43, 3)) ∧ (decode cX9_move 61 = .ok (.iconst 1, 1)) ∧ (decode cX9_move 62 = .ok (.istore_n 3, 1)) ∧ (decode cX9_move 63 = .ok (.iload_n 3, 1)) ∧ (decode cX9_move 64 = .ok (.aload_n 0, 1)) ∧ (decode cX9_move 65 = .ok (.getfield 143, 3)) ∧ (decode cX9_move 68 = .ok (.if_icmp .ge 23, 3)) ∧ (decode cX9_move 71 = .ok (.aload_n 0, 1)) := by decide +kernel
theorem dX9_move_58 : decode cX9_move 58 = .ok (.if_icmp .ne 43, 3) := dX9_move_58_g.1
theorem dX9_move_61 : decode cX9_move 61 = .ok (.iconst 1, 1) := dX9_move_58_g.2.1
theorem dX9_move_62 : decode cX9_move 62 = .ok (.istore_n 3, 1) := dX9_move_58_g.2.2.1
theorem dX9_move_63 : decode cX9_move 63 = .ok (.iload_n 3, 1) := dX9_move_58_g.2.2.2.1
theorem dX9_move_64 : decode cX9_move 64 = .ok (.aload_n 0, 1) := dX9_move_58_g.2.2.2.2.1
theorem dX9_move_65 : decode cX9_move 65 = .ok (.getfield 143, 3) := dX9_move_58_g.2.2.2.2.2.1
theorem dX9_move_68 : decode cX9_move 68 = .ok (.if_icmp .ge 23, 3) := dX9_move_58_g.2.2.2.2.2.2.1
theorem dX9_move_71 : decode cX9_move 71 = .ok (.aload_n 0, 1) := dX9_move_58_g.2.2.2.2.2.2.2
theorem dX9_move_72_g : (decode cX9_move 72 = .ok (.getfield 33, 3)) ∧ (decode cX9_move 75 = .ok (.iload_n 3, 1)) ∧ (decode cX9_move 76 = .ok (.iconst 1, 1)) ∧ (decode cX9_move 77 = .ok (.isub, 1)) ∧ (decode cX9_move 78 = .ok (.aload_n 0, 1)) ∧ (decode cX9_move 79 = .ok (.getfield 33, 3)) ∧ (decode cX9_move 82 = .ok (.iload_n 3, 1)) ∧ (decode cX9_move 83 = .ok (.iaload, 1)) := by decide +kernel
theorem dX9_move_72 : decode cX9_move 72 = .ok (.getfield 33, 3) := dX9_move_72_g.1
theorem dX9_move_75 : decode cX9_move 75 = .ok (.iload_n 3, 1) := dX9_move_72_g.2.1
theorem dX9_move_76 : decode cX9_move 76 = .ok (.iconst 1, 1) := dX9_move_72_g.2.2.1
theorem dX9_move_77 : decode cX9_move 77 = .ok (.isub, 1) := dX9_move_72_g.2.2.2.1
theorem dX9_move_78 : decode cX9_move 78 = .ok (.aload_n 0, 1) := dX9_move_72_g.2.2.2.2.1
theorem dX9_move_79 : decode cX9_move 79 = .ok (.getfield 33, 3) := dX9_move_72_g.2.2.2.2.2.1
theorem dX9_move_82 : decode cX9_move 82 = .ok (.iload_n 3, 1) := dX9_move_72_g.2.2.2.2.2.2.1
theorem dX9_move_83 : decode cX9_move 83 = .ok (.iaload, 1) := dX9_move_72_g.2.2.2.2.2.2.2
theorem dX9_move_84_g : (decode cX9_move 84 = .ok (.iastore, 1)) ∧ (decode cX9_move 85 = .ok (.iinc 3 1, 3)) ∧ (decode cX9_move 88 = .ok (.goto (-25), 3)) ∧ (decode cX9_move 91 = .ok (.aload_n 0, 1)) ∧ (decode cX9_move 92 = .ok (.dup, 1)) ∧ (decode cX9_move 93 = .ok (.getfield 143, 3)) ∧ (decode cX9_move 96 = .ok (.iconst 1, 1)) ∧ (decode cX9_move 97 = .ok (.isub, 1)) := by decide +kernel
theorem dX9_move_84 : decode cX9_move 84 = .ok (.iastore, 1) := dX9_move_84_g.1
theorem dX9_move_85 : decode cX9_move 85 = .ok (.iinc 3 1, 3) := dX9_move_84_g.2.1
theorem dX9_move_88 : decode cX9_move 88 = .ok (.goto (-25), 3) := dX9_move_84_g.2.2.1
theorem dX9_move_91 : decode cX9_move 91 = .ok (.aload_n 0, 1) := dX9_move_84_g.2.2.2.1
theorem dX9_move_92 : decode cX9_move 92 = .ok (.dup, 1) := dX9_move_84_g.2.2.2.2.1
theorem dX9_move_93 : decode cX9_move 93 = .ok (.getfield 143, 3) := dX9_move_84_g.2.2.2.2.2.1
theorem dX9_move_96 : decode cX9_move 96 = .ok (.iconst 1, 1) := dX9_move_84_g.2.2.2.2.2.2.1
theorem dX9_move_97 : decode cX9_move 97 = .ok (.isub, 1) := dX9_move_84_g.2.2.2.2.2.2.2
theorem dX9_move_98_g : (decode cX9_move 98 = .ok (.putfield 143, 3)) ∧ (decode cX9_move 101 = .ok (.aload_n 0, 1)) ∧ (decode cX9_move 102 = .ok (.getfield 33, 3)) ∧ (decode cX9_move 105 = .ok (.aload_n 0, 1)) ∧ (decode cX9_move 106 = .ok (.getfield 143, 3)) ∧ (decode cX9_move 109 = .ok (.aload_n 0, 1)) ∧ (decode cX9_move 110 = .ok (.aload_n 0, 1)) ∧ (decode cX9_move 111 = .ok (.getfield 20, 3)) := by decide +kernel
theorem dX9_move_98 : decode cX9_move 98 = .ok (.putfield 143, 3) := dX9_move_98_g.1
theorem dX9_move_101 : decode cX9_move 101 = .ok (.aload_n 0, 1) := dX9_move_98_g.2.1
theorem dX9_move_102 : decode cX9_move 102 = .ok (.getfield 33, 3) := dX9_move_98_g.2.2.1
theorem dX9_move_105 : decode cX9_move 105 = .ok (.aload_n 0, 1) := dX9_move_98_g.2.2.2.1
theorem dX9_move_106 : decode cX9_move 106 = .ok (.getfield 143, 3) := dX9_move_98_g.2.2.2.2.1
theorem dX9_move_109 : decode cX9_move 109 = .ok (.aload_n 0, 1) := dX9_move_98_g.2.2.2.2.2.1
theorem dX9_move_110 : decode cX9_move 110 = .ok (.aload_n 0, 1) := dX9_move_98_g.2.2.2.2.2.2.1
theorem dX9_move_111 : decode cX9_move 111 = .ok (.getfield 20, 3) := dX9_move_98_g.2.2.2.2.2.2.2
theorem dX9_move_114_g : (decode cX9_move 114 = .ok (.invokevirtual 184, 3)) ∧ (decode cX9_move 117 = .ok (.iastore, 1)) ∧ (decode cX9_move 118 = .ok (.aload_n 0, 1)) ∧ (decode cX9_move 119 = .ok (.dup, 1)) ∧ (decode cX9_move 120 = .ok (.getfield 143, 3)) ∧ (decode cX9_move 123 = .ok (.iconst 1, 1)) ∧ (decode cX9_move 124 = .ok (.iadd, 1)) ∧ (decode cX9_move 125 = .ok (.putfield 143, 3)) := by decide +kernel
theorem dX9_move_114 : decode cX9_move 114 = .ok (.invokevirtual 184, 3) := dX9_move_114_g.1
theorem dX9_move_117 : decode cX9_move 117 = .ok (.iastore, 1) := dX9_move_114_g.2.1
theorem dX9_move_118 : decode cX9_move 118 = .ok (.aload_n 0, 1) := dX9_move_114_g.2.2.1
theorem dX9_move_119 : decode cX9_move 119 = .ok (.dup, 1) := dX9_move_114_g.2.2.2.1
theorem dX9_move_120 : decode cX9_move 120 = .ok (.getfield 143, 3) := dX9_move_114_g.2.2.2.2.1
theorem dX9_move_123 : decode cX9_move 123 = .ok (.iconst 1, 1) := dX9_move_114_g.2.2.2.2.2.1
theorem dX9_move_124 : decode cX9_move 124 = .ok (.iadd, 1) := dX9_move_114_g.2.2.2.2.2.2.1
theorem dX9_move_125 : decode cX9_move 125 = .ok (.putfield 143, 3) := dX9_move_114_g.2.2.2.2.2.2.2
theorem dX9_move_128_g : (decode cX9_move 128 = .ok (.aload_n 0, 1)) ∧ (decode cX9_move 129 = .ok (.iconst 0, 1)) ∧ (decode cX9_move 130 = .ok (.putfield 146, 3)) ∧ (decode cX9_move 133 = .ok (.aload_n 0, 1)) ∧ (decode cX9_move 134 = .ok (.aload_n 0, 1)) ∧ (decode cX9_move 135 = .ok (.getfield 20, 3)) ∧ (decode cX9_move 138 = .ok (.iload_n 1, 1)) ∧ (decode cX9_move 139 = .ok (.iload_n 2, 1)) := by decide +kernel
theorem dX9_move_128 : decode cX9_move 128 = .ok (.aload_n 0, 1) := dX9_move_128_g.1
theorem dX9_move_129 : decode cX9_move 129 = .ok (.iconst 0, 1) := dX9_move_128_g.2.1
theorem dX9_move_130 : decode cX9_move 130 = .ok (.putfield 146, 3) := dX9_move_128_g.2.2.1
theorem dX9_move_133 : decode cX9_move 133 = .ok (.aload_n 0, 1) := dX9_move_128_g.2.2.2.1
theorem dX9_move_134 : decode cX9_move 134 = .ok (.aload_n 0, 1) := dX9_move_128_g.2.2.2.2.1
theorem dX9_move_135 : decode cX9_move 135 = .ok (.getfield 20, 3) := dX9_move_128_g.2.2.2.2.2.1
theorem dX9_move_138 : decode cX9_move 138 = .ok (.iload_n 1, 1) := dX9_move_128_g.2.2.2.2.2.2.1
theorem dX9_move_139 : decode cX9_move 139 = .ok (.iload_n 2, 1) := dX9_move_128_g.2.2.2.2.2.2.2
theorem dX9_move_140_g : (decode cX9_move 140 = .ok (.invokevirtual 196, 3)) ∧ (decode cX9_move 143 = .ok (.ireturn, 1)) := by decide +kernel
theorem dX9_move_140 : decode cX9_move 140 = .ok (.invokevirtual 196, 3) := dX9_move_140_g.1
theorem dX9_move_143 : decode cX9_move 143 = .ok (.ireturn, 1) := dX9_move_140_g.2
theorem dX9_undo_0_g : (decode cX9_undo 0 = .ok (.aload_n 0, 1)) ∧ (decode cX9_undo 1 = .ok (.iconst 0, 1)) ∧ (decode cX9_undo 2 = .ok (.putfield 133, 3)) ∧ (decode cX9_undo 5 = .ok (.aload_n 0, 1)) ∧ (decode cX9_undo 6 = .ok (.getfield 143, 3)) ∧ (decode cX9_undo 9 = .ok (.ifCond .ne 5, 3)) ∧ (decode cX9_undo 12 = .ok (.iconst 0, 1)) ∧ (decode cX9_undo 13 = .ok (.ireturn, 1)) := by decide +kernel
theorem dX9_undo_0 : decode cX9_undo 0 = .ok (.aload_n 0, 1) := dX9_undo_0_g.1
theorem dX9_undo_1 : decode cX9_undo 1 = .ok (.iconst 0, 1) := dX9_undo_0_g.2.1
theorem dX9_undo_2 : decode cX9_undo 2 = .ok (.putfield 133, 3) := dX9_undo_0_g.2.2.1
theorem dX9_undo_5 : decode cX9_undo 5 = .ok (.aload_n 0, 1) := dX9_undo_0_g.2.2.2.1
theorem dX9_undo_6 : decode cX9_undo 6 = .ok (.getfield 143, 3) := dX9_undo_0_g.2.2.2.2.1
theorem dX9_undo_9 : decode cX9_undo 9 = .ok (.ifCond .ne 5, 3) := dX9_undo_0_g.2.2.2.2.2.1
theorem dX9_undo_12 : decode cX9_undo 12 = .ok (.iconst 0, 1) := dX9_undo_0_g.2.2.2.2.2.2.1
theorem dX9_undo_13 : decode cX9_undo 13 = .ok (.ireturn, 1) := dX9_undo_0_g.2.2.2.2.2.2.2
theorem dX9_undo_14_g : (decode cX9_undo 14 = .ok (.aload_n 0, 1)) ∧ (decode cX9_undo 15 = .ok (.dup, 1)) ∧ (decode cX9_undo 16 = .ok (.getfield 143, 3)) ∧ (decode cX9_undo 19 = .ok (.iconst 1, 1)) ∧ (decode cX9_undo 20 = .ok (.isub, 1)) ∧ (decode cX9_undo 21 = .ok (.putfield 143, 3)) ∧ (decode cX9_undo 24 = .ok (.aload_n 0, 1)) ∧ (decode cX9_undo 25 = .ok (.getfield 33, 3)) := by decide +kernel
theorem dX9_undo_14 : decode cX9_undo 14 = .ok (.aload_n 0, 1) := dX9_undo_14_g.1
theorem dX9_undo_15 : decode cX9_undo 15 = .ok (.dup, 1) := dX9_undo_14_g.2.1
theorem dX9_undo_16 : decode cX9_undo 16 = .ok (.getfield 143, 3) := dX9_undo_14_g.2.2.1
theorem dX9_undo_19 : decode cX9_undo 19 = .ok (.iconst 1, 1) := dX9_undo_14_g.2.2.2.1
theorem dX9_undo_20 : decode cX9_undo 20 = .ok (.isub, 1) := dX9_undo_14_g.2.2.2.2.1
theorem dX9_undo_21 : decode cX9_undo 21 = .ok (.putfield 143, 3) := dX9_undo_14_g.2.2.2.2.2.1
theorem dX9_undo_24 : decode cX9_undo 24 = .ok (.aload_n 0, 1) := dX9_undo_14_g.2.2.2.2.2.2.1
theorem dX9_undo_25 : decode cX9_undo 25 = .ok (.getfield 33, 3) := dX9_undo_14_g.2.2.2.2.2.2.2
theorem dX9_undo_28_g : (decode cX9_undo 28 = .ok (.aload_n 0, 1)) ∧ (decode cX9_undo 29 = .ok (.getfield 143, 3)) ∧ (decode cX9_undo 32 = .ok (.iaload, 1)) ∧ (decode cX9_undo 33 = .ok (.istore_n 1, 1)) ∧ (decode cX9_undo 34 = .ok (.aload_n 0, 1)) ∧ (decode cX9_undo 35 = .ok (.getfield 33, 3)) ∧ (decode cX9_undo 38 = .ok (.aload_n 0, 1)) ∧ (decode cX9_undo 39 = .ok (.getfield 143, 3)) := by decide +kernel
theorem dX9_undo_28 : decode cX9_undo 28 = .ok (.aload_n 0, 1) := dX9_undo_28_g.1
theorem dX9_undo_29 : decode cX9_undo 29 = .ok (.getfield 143, 3) := dX9_undo_28_g.2.1
theorem dX9_undo_32 : decode cX9_undo 32 = .ok (.iaload, 1) := dX9_undo_28_g.2.2.1
theorem dX9_undo_33 : decode cX9_undo 33 = .ok (.istore_n 1, 1) := dX9_undo_28_g.2.2.2.1
theorem dX9_undo_34 : decode cX9_undo 34 = .ok (.aload_n 0, 1) := dX9_undo_28_g.2.2.2.2.1
theorem dX9_undo_35 : decode cX9_undo 35 = .ok (.getfield 33, 3) := dX9_undo_28_g.2.2.2.2.2.1
theorem dX9_undo_38 : decode cX9_undo 38 = .ok (.aload_n 0, 1) := dX9_undo_28_g.2.2.2.2.2.2.1
theorem dX9_undo_39 : decode cX9_undo 39 = .ok (.getfield 143, 3) := dX9_undo_28_g.2.2.2.2.2.2.2
theorem dX9_undo_42_g : (decode cX9_undo 42 = .ok (.aload_n 0, 1)) ∧ (decode cX9_undo 43 = .ok (.aload_n 0, 1)) ∧ (decode cX9_undo 44 = .ok (.getfield 20, 3)) ∧ (decode cX9_undo 47 = .ok (.invokevirtual 184, 3)) ∧ (decode cX9_undo 50 = .ok (.iastore, 1)) ∧ (decode cX9_undo 51 = .ok (.aload_n 0, 1)) ∧ (decode cX9_undo 52 = .ok (.dup, 1)) ∧ (decode cX9_undo 53 = .ok (.getfield 146, 3)) := by decide +kernel
theorem dX9_undo_42 : decode cX9_undo 42 = .ok (.aload_n 0, 1) := dX9_undo_42_g.1
theorem dX9_undo_43 : decode cX9_undo 43 = .ok (.aload_n 0, 1) := dX9_undo_42_g.2.1
theorem dX9_undo_44 : decode cX9_undo 44 = .ok (.getfield 20, 3) := dX9_undo_42_g.2.2.1
theorem dX9_undo_47 : decode cX9_undo 47 = .ok (.invokevirtual 184, 3) := dX9_undo_42_g.2.2.2.1
theorem dX9_undo_50 : decode cX9_undo 50 = .ok (.iastore, 1) := dX9_undo_42_g.2.2.2.2.1
theorem dX9_undo_51 : decode cX9_undo 51 = .ok (.aload_n 0, 1) := dX9_undo_42_g.2.2.2.2.2.1
theorem dX9_undo_52 : decode cX9_undo 52 = .ok (.dup, 1) := dX9_undo_42_g.2.2.2.2.2.2.1
theorem dX9_undo_53 : decode cX9_undo 53 = .ok (.getfield 146, 3) := dX9_undo_42_g.2.2.2.2.2.2.2
theorem dX9_undo_56_g : (decode cX9_undo 56 = .ok (.iconst 1, 1)) ∧ (decode cX9_undo 57 = .ok (.iadd, 1)) ∧ (decode cX9_undo 58 = .ok (.putfield 146, 3)) ∧ (decode cX9_undo 61 = .ok (.aload_n 0, 1)) ∧ (decode cX9_undo 62 = .ok (.iload_n 1, 1)) ∧ (decode cX9_undo 63 = .ok (.aload_n 0, 1)) ∧ (decode cX9_undo 64 = .ok (.getfield 20, 3)) ∧ (decode cX9_undo 67 = .ok (.invokevirtual 180, 3)) := by decide +kernel
theorem dX9_undo_56 : decode cX9_undo 56 = .ok (.iconst 1, 1) := dX9_undo_56_g.1
theorem dX9_undo_57 : decode cX9_undo 57 = .ok (.iadd, 1) := dX9_undo_56_g.2.1
theorem dX9_undo_58 : decode cX9_undo 58 = .ok (.putfield 146, 3) := dX9_undo_56_g.2.2.1
theorem dX9_undo_61 : decode cX9_undo 61 = .ok (.aload_n 0, 1) := dX9_undo_56_g.2.2.2.1
theorem dX9_undo_62 : decode cX9_undo 62 = .ok (.iload_n 1, 1) := dX9_undo_56_g.2.2.2.2.1
theorem dX9_undo_63 : decode cX9_undo 63 = .ok (.aload_n 0, 1) := dX9_undo_56_g.2.2.2.2.2.1
theorem dX9_undo_64 : decode cX9_undo 64 = .ok (.getfield 20, 3) := dX9_undo_56_g.2.2.2.2.2.2.1
theorem dX9_undo_67 : decode cX9_undo 67 = .ok (.invokevirtual 180, 3) := dX9_undo_56_g.2.2.2.2.2.2.2
theorem dX9_undo_70_g : (decode cX9_undo 70 = .ok (.iconst 1, 1)) ∧ (decode cX9_undo 71 = .ok (.ireturn, 1)) := by decide +kernel
theorem dX9_undo_70 : decode cX9_undo 70 = .ok (.iconst 1, 1) := dX9_undo_70_g.1
theorem dX9_undo_71 : decode cX9_undo 71 = .ok (.ireturn, 1) := dX9_undo_70_g.2
theorem dX9_redo_0_g : (decode cX9_redo 0 = .ok (.aload_n 0, 1)) ∧ (decode cX9_redo 1 = .ok (.iconst 0, 1)) ∧ (decode cX9_redo 2 = .ok (.putfield 133, 3)) ∧ (decode cX9_redo 5 = .ok (.aload_n 0, 1)) ∧ (decode cX9_redo 6 = .ok (.getfield 146, 3)) ∧ (decode cX9_redo 9 = .ok (.ifCond .ne 5, 3)) ∧ (decode cX9_redo 12 = .ok (.iconst 0, 1)) ∧ (decode cX9_redo 13 = .ok (.ireturn, 1)) := by decide +kernel
theorem dX9_redo_0 : decode cX9_redo 0 = .ok (.aload_n 0, 1) := dX9_redo_0_g.1
theorem dX9_redo_1 : decode cX9_redo 1 = .ok (.iconst 0, 1) := dX9_redo_0_g.2.1
theorem dX9_redo_2 : decode cX9_redo 2 = .ok (.putfield 133, 3) := dX9_redo_0_g.2.2.1
theorem dX9_redo_5 : decode cX9_redo 5 = .ok (.aload_n 0, 1) := dX9_redo_0_g.2.2.2.1
theorem dX9_redo_6 : decode cX9_redo 6 = .ok (.getfield 146, 3) := dX9_redo_0_g.2.2.2.2.1
theorem dX9_redo_9 : decode cX9_redo 9 = .ok (.ifCond .ne 5, 3) := dX9_redo_0_g.2.2.2.2.2.1
theorem dX9_redo_12 : decode cX9_redo 12 = .ok (.iconst 0, 1) := dX9_redo_0_g.2.2.2.2.2.2.1
theorem dX9_redo_13 : decode cX9_redo 13 = .ok (.ireturn, 1) := dX9_redo_0_g.2.2.2.2.2.2.2
theorem dX9_redo_14_g : (decode cX9_redo 14 = .ok (.aload_n 0, 1)) ∧ (decode cX9_redo 15 = .ok (.getfield 33, 3)) ∧ (decode cX9_redo 18 = .ok (.aload_n 0, 1)) ∧ (decode cX9_redo 19 = .ok (.getfield 143, 3)) ∧ (decode cX9_redo 22 = .ok (.iaload, 1)) ∧ (decode cX9_redo 23 = .ok (.istore_n 1, 1)) ∧ (decode cX9_redo 24 = .ok (.aload_n 0, 1)) ∧ (decode cX9_redo 25 = .ok (.getfield 33, 3)) := by decide +kernel
theorem dX9_redo_14 : decode cX9_redo 14 = .ok (.aload_n 0, 1) := dX9_redo_14_g.1
theorem dX9_redo_15 : decode cX9_redo 15 = .ok (.getfield 33, 3) := dX9_redo_14_g.2.1
theorem dX9_redo_18 : decode cX9_redo 18 = .ok (.aload_n 0, 1) := dX9_redo_14_g.2.2.1
theorem dX9_redo_19 : decode cX9_redo 19 = .ok (.getfield 143, 3) := dX9_redo_14_g.2.2.2.1
theorem dX9_redo_22 : decode cX9_redo 22 = .ok (.iaload, 1) := dX9_redo_14_g.2.2.2.2.1
theorem dX9_redo_23 : decode cX9_redo 23 = .ok (.istore_n 1, 1) := dX9_redo_14_g.2.2.2.2.2.1
theorem dX9_redo_24 : decode cX9_redo 24 = .ok (.aload_n 0, 1) := dX9_redo_14_g.2.2.2.2.2.2.1
theorem dX9_redo_25 : decode cX9_redo 25 = .ok (.getfield 33, 3) := dX9_redo_14_g.2.2.2.2.2.2.2
theorem dX9_redo_28_g : (decode cX9_redo 28 = .ok (.aload_n 0, 1)) ∧ (decode cX9_redo 29 = .ok (.getfield 143, 3)) ∧ (decode cX9_redo 32 = .ok (.aload_n 0, 1)) ∧ (decode cX9_redo 33 = .ok (.aload_n 0, 1)) ∧ (decode cX9_redo 34 = .ok (.getfield 20, 3)) ∧ (decode cX9_redo 37 = .ok (.invokevirtual 184, 3)) ∧ (decode cX9_redo 40 = .ok (.iastore, 1)) ∧ (decode cX9_redo 41 = .ok (.aload_n 0, 1)) := by decide +kernel
theorem dX9_redo_28 : decode cX9_redo 28 = .ok (.aload_n 0, 1) := dX9_redo_28_g.1
theorem dX9_redo_29 : decode cX9_redo 29 = .ok (.getfield 143, 3) := dX9_redo_28_g.2.1
theorem dX9_redo_32 : decode cX9_redo 32 = .ok (.aload_n 0, 1) := dX9_redo_28_g.2.2.1
theorem dX9_redo_33 : decode cX9_redo 33 = .ok (.aload_n 0, 1) := dX9_redo_28_g.2.2.2.1
theorem dX9_redo_34 : decode cX9_redo 34 = .ok (.getfield 20, 3) := dX9_redo_28_g.2.2.2.2.1
theorem dX9_redo_37 : decode cX9_redo 37 = .ok (.invokevirtual 184, 3) := dX9_redo_28_g.2.2.2.2.2.1
theorem dX9_redo_40 : decode cX9_redo 40 = .ok (.iastore, 1) := dX9_redo_28_g.2.2.2.2.2.2.1
theorem dX9_redo_41 : decode cX9_redo 41 = .ok (.aload_n 0, 1) := dX9_redo_28_g.2.2.2.2.2.2.2
theorem dX9_redo_42_g : (decode cX9_redo 42 = .ok (.dup, 1)) ∧ (decode cX9_redo 43 = .ok (.getfield 143, 3)) ∧ (decode cX9_redo 46 = .ok (.iconst 1, 1)) ∧ (decode cX9_redo 47 = .ok (.iadd, 1)) ∧ (decode cX9_redo 48 = .ok (.putfield 143, 3)) ∧ (decode cX9_redo 51 = .ok (.aload_n 0, 1)) ∧ (decode cX9_redo 52 = .ok (.dup, 1)) ∧ (decode cX9_redo 53 = .ok (.getfield 146, 3)) := by decide +kernel
theorem dX9_redo_42 : decode cX9_redo 42 = .ok (.dup, 1) := dX9_redo_42_g.1
theorem dX9_redo_43 : decode cX9_redo 43 = .ok (.getfield 143, 3) := dX9_redo_42_g.2.1
theorem dX9_redo_46 : decode cX9_redo 46 = .ok (.iconst 1, 1) := dX9_redo_42_g.2.2.1
theorem dX9_redo_47 : decode cX9_redo 47 = .ok (.iadd, 1) := dX9_redo_42_g.2.2.2.1
theorem dX9_redo_48 : decode cX9_redo 48 = .ok (.putfield 143, 3) := dX9_redo_42_g.2.2.2.2.1
theorem dX9_redo_51 : decode cX9_redo 51 = .ok (.aload_n 0, 1) := dX9_redo_42_g.2.2.2.2.2.1
theorem dX9_redo_52 : decode cX9_redo 52 = .ok (.dup, 1) := dX9_redo_42_g.2.2.2.2.2.2.1
theorem dX9_redo_53 : decode cX9_redo 53 = .ok (.getfield 146, 3) := dX9_redo_42_g.2.2.2.2.2.2.2
theorem dX9_redo_56_g : (decode cX9_redo 56 = .ok (.iconst 1, 1)) ∧ (decode cX9_redo 57 = .ok (.isub, 1)) ∧ (decode cX9_redo 58 = .ok (.putfield 146, 3)) ∧ (decode cX9_redo 61 = .ok (.aload_n 0, 1)) ∧ (decode cX9_redo 62 = .ok (.iload_n 1, 1)) ∧ (decode cX9_redo 63 = .ok (.aload_n 0, 1)) ∧ (decode cX9_redo 64 = .ok (.getfield 20, 3)) ∧ (decode cX9_redo 67 = .ok (.invokevirtual 180, 3)) := by decide +kernel
theorem dX9_redo_56 : decode cX9_redo 56 = .ok (.iconst 1, 1) := dX9_redo_56_g.1
theorem dX9_redo_57 : decode cX9_redo 57 = .ok (.isub, 1) := dX9_redo_56_g.2.1
theorem dX9_redo_58 : decode cX9_redo 58 = .ok (.putfield 146, 3) := dX9_redo_56_g.2.2.1
theorem dX9_redo_61 : decode cX9_redo 61 = .ok (.aload_n 0, 1) := dX9_redo_56_g.2.2.2.1
theorem dX9_redo_62 : decode cX9_redo 62 = .ok (.iload_n 1, 1) := dX9_redo_56_g.2.2.2.2.1
theorem dX9_redo_63 : decode cX9_redo 63 = .ok (.aload_n 0, 1) := dX9_redo_56_g.2.2.2.2.2.1
theorem dX9_redo_64 : decode cX9_redo 64 = .ok (.getfield 20, 3) := dX9_redo_56_g.2.2.2.2.2.2.1
theorem dX9_redo_67 : decode cX9_redo 67 = .ok (.invokevirtual 180, 3) := dX9_redo_56_g.2.2.2.2.2.2.2
theorem dX9_redo_70_g : (decode cX9_redo 70 = .ok (.iconst 1, 1)) ∧ (decode cX9_redo 71 = .ok (.ireturn, 1)) := by decide +kernel
theorem dX9_redo_70 : decode cX9_redo 70 = .ok (.iconst 1, 1) := dX9_redo_70_g.1
theorem dX9_redo_71 : decode cX9_redo 71 = .ok (.ireturn, 1) := dX9_redo_70_g.2
theorem dX9_moves_0_g : (decode cX9_moves 0 = .ok (.aload_n 0, 1)) ∧ (decode cX9_moves 1 = .ok (.iconst 0, 1)) ∧ (decode cX9_moves 2 = .ok (.putfield 133, 3)) ∧ (decode cX9_moves 5 = .ok (.iconst 0, 1)) ∧ (decode cX9_moves 6 = .ok (.istore_n 1, 1)) ∧ (decode cX9_moves 7 = .ok (.iconst 0, 1)) ∧ (decode cX9_moves 8 = .ok (.istore_n 2, 1)) ∧ (decode cX9_moves 9 = .ok (.iload_n 2, 1)) := by decide +kernel
theorem dX9_moves_0 : decode cX9_moves 0 = .ok (.aload_n 0, 1) := dX9_moves_0_g.1
theorem dX9_moves_1 : decode cX9_moves 1 = .ok (.iconst 0, 1) := dX9_moves_0_g.2.1
theorem dX9_moves_2 : decode cX9_moves 2 = .ok (.putfield 133, 3) := dX9_moves_0_g.2.2.1
theorem dX9_moves_5 : decode cX9_moves 5 = .ok (.iconst 0, 1) := dX9_moves_0_g.2.2.2.1
theorem dX9_moves_6 : decode cX9_moves 6 = .ok (.istore_n 1, 1) := dX9_moves_0_g.2.2.2.2.1
theorem dX9_moves_7 : decode cX9_moves 7 = .ok (.iconst 0, 1) := dX9_moves_0_g.2.2.2.2.2.1
theorem dX9_moves_8 : decode cX9_moves 8 = .ok (.istore_n 2, 1) := dX9_moves_0_g.2.2.2.2.2.2.1
theorem dX9_moves_9 : decode cX9_moves 9 = .ok (.iload_n 2, 1) := dX9_moves_0_g.2.2.2.2.2.2.2
theorem dX9_moves_10_g : (decode cX9_moves 10 = .ok (.aload_n 0, 1)) ∧ (decode cX9_moves 11 = .ok (.getfield 7, 3)) ∧ (decode cX9_moves 14 = .ok (.if_icmp .ge 46, 3)) ∧ (decode cX9_moves 17 = .ok (.iconst 0, 1)) ∧ (decode cX9_moves 18 = .ok (.istore_n 3, 1)) ∧ (decode cX9_moves 19 = .ok (.iload_n 3, 1)) ∧ (decode cX9_moves 20 = .ok (.aload_n 0, 1)) ∧ (decode cX9_moves 21 = .ok (.getfield 7, 3)) := by decide +kernel
theorem dX9_moves_10 : decode cX9_moves 10 = .ok (.aload_n 0, 1) := dX9_moves_10_g.1
theorem dX9_moves_11 : decode cX9_moves 11 = .ok (.getfield 7, 3) := dX9_moves_10_g.2.1
theorem dX9_moves_14 : decode cX9_moves 14 = .ok (.if_icmp .ge 46, 3) := dX9_moves_10_g.2.2.1
theorem dX9_moves_17 : decode cX9_moves 17 = .ok (.iconst 0, 1) := dX9_moves_10_g.2.2.2.1
theorem dX9_moves_18 : decode cX9_moves 18 = .ok (.istore_n 3, 1) := dX9_moves_10_g.2.2.2.2.1
theorem dX9_moves_19 : decode cX9_moves 19 = .ok (.iload_n 3, 1) := dX9_moves_10_g.2.2.2.2.2.1
theorem dX9_moves_20 : decode cX9_moves 20 = .ok (.aload_n 0, 1) := dX9_moves_10_g.2.2.2.2.2.2.1
theorem dX9_moves_21 : decode cX9_moves 21 = .ok (.getfield 7, 3) := dX9_moves_10_g.2.2.2.2.2.2.2
theorem dX9_moves_24_g : (decode cX9_moves 24 = .ok (.if_icmp .ge 30, 3)) ∧ (decode cX9_moves 27 = .ok (.iload_n 1, 1)) ∧ (decode cX9_moves 28 = .ok (.aload_n 0, 1)) ∧ (decode cX9_moves 29 = .ok (.aload_n 0, 1)) ∧ (decode cX9_moves 30 = .ok (.getfield 20, 3)) ∧ (decode cX9_moves 33 = .ok (.iload_n 2, 1)) ∧ (decode cX9_moves 34 = .ok (.iload_n 3, 1)) ∧ (decode cX9_moves 35 = .ok (.invokevirtual 188, 3)) := by decide +kernel
theorem dX9_moves_24 : decode cX9_moves 24 = .ok (.if_icmp .ge 30, 3) := dX9_moves_24_g.1
theorem dX9_moves_27 : decode cX9_moves 27 = .ok (.iload_n 1, 1) := dX9_moves_24_g.2.1
theorem dX9_moves_28 : decode cX9_moves 28 = .ok (.aload_n 0, 1) := dX9_moves_24_g.2.2.1
theorem dX9_moves_29 : decode cX9_moves 29 = .ok (.aload_n 0, 1) := dX9_moves_24_g.2.2.2.1
theorem dX9_moves_30 : decode cX9_moves 30 = .ok (.getfield 20, 3) := dX9_moves_24_g.2.2.2.2.1
theorem dX9_moves_33 : decode cX9_moves 33 = .ok (.iload_n 2, 1) := dX9_moves_24_g.2.2.2.2.2.1
theorem dX9_moves_34 : decode cX9_moves 34 = .ok (.iload_n 3, 1) := dX9_moves_24_g.2.2.2.2.2.2.1
theorem dX9_moves_35 : decode cX9_moves 35 = .ok (.invokevirtual 188, 3) := dX9_moves_24_g.2.2.2.2.2.2.2
theorem dX9_moves_38_g : (decode cX9_moves 38 = .ok (.ifCond .ne 7, 3)) ∧ (decode cX9_moves 41 = .ok (.iconst 1, 1)) ∧ (decode cX9_moves 42 = .ok (.goto 4, 3)) ∧ (decode cX9_moves 45 = .ok (.iconst 0, 1)) ∧ (decode cX9_moves 46 = .ok (.iadd, 1)) ∧ (decode cX9_moves 47 = .ok (.istore_n 1, 1)) ∧ (decode cX9_moves 48 = .ok (.iinc 3 1, 3)) ∧ (decode cX9_moves 51 = .ok (.goto (-32), 3)) := by decide +kernel
theorem dX9_moves_38 : decode cX9_moves 38 = .ok (.ifCond .ne 7, 3) := dX9_moves_38_g.1
theorem dX9_moves_41 : decode cX9_moves 41 = .ok (.iconst 1, 1) := dX9_moves_38_g.2.1
theorem dX9_moves_42 : decode cX9_moves 42 = .ok (.goto 4, 3) := dX9_moves_38_g.2.2.1
theorem dX9_moves_45 : decode cX9_moves 45 = .ok (.iconst 0, 1) := dX9_moves_38_g.2.2.2.1
theorem dX9_moves_46 : decode cX9_moves 46 = .ok (.iadd, 1) := dX9_moves_38_g.2.2.2.2.1
theorem dX9_moves_47 : decode cX9_moves 47 = .ok (.istore_n 1, 1) := dX9_moves_38_g.2.2.2.2.2.1
theorem dX9_moves_48 : decode cX9_moves 48 = .ok (.iinc 3 1, 3) := dX9_moves_38_g.2.2.2.2.2.2.1
theorem dX9_moves_51 : decode cX9_moves 51 = .ok (.goto (-32), 3) := dX9_moves_38_g.2.2.2.2.2.2.2
theorem dX9_moves_54_g : (decode cX9_moves 54 = .ok (.iinc 2 1, 3)) ∧ (decode cX9_moves 57 = .ok (.goto (-48), 3)) ∧ (decode cX9_moves 60 = .ok (.iload_n 1, 1)) ∧ (decode cX9_moves 61 = .ok (.ireturn, 1)) := by decide +kernel
theorem dX9_moves_54 : decode cX9_moves 54 = .ok (.iinc 2 1, 3) := dX9_moves_54_g.1
theorem dX9_moves_57 : decode cX9_moves 57 = .ok (.goto (-48), 3) := dX9_moves_54_g.2.1
theorem dX9_moves_60 : decode cX9_moves 60 = .ok (.iload_n 1, 1) := dX9_moves_54_g.2.2.1
theorem dX9_moves_61 : decode cX9_moves 61 = .ok (.ireturn, 1) := dX9_moves_54_g.2.2.2
theorem dX9_fits_0_g : (decode cX9_fits 0 = .ok (.aload_n 0, 1)) ∧ (decode cX9_fits 1 = .ok (.invokevirtual 177, 3)) ∧ (decode cX9_fits 4 = .ok (.sipush 20000, 3)) ∧ (decode cX9_fits 7 = .ok (.if_icmp .gt 7, 3)) ∧ (decode cX9_fits 10 = .ok (.iconst 1, 1)) ∧ (decode cX9_fits 11 = .ok (.goto 4, 3)) ∧ (decode cX9_fits 14 = .ok (.iconst 0, 1)) ∧ (decode cX9_fits 15 = .ok (.ireturn, 1)) := by decide +kernel
theorem dX9_fits_0 : decode cX9_fits 0 = .ok (.aload_n 0, 1) := dX9_fits_0_g.1
theorem dX9_fits_1 : decode cX9_fits 1 = .ok (.invokevirtual 177, 3) := dX9_fits_0_g.2.1
theorem dX9_fits_4 : decode cX9_fits 4 = .ok (.sipush 20000, 3) := dX9_fits_0_g.2.2.1
theorem dX9_fits_7 : decode cX9_fits 7 = .ok (.if_icmp .gt 7, 3) := dX9_fits_0_g.2.2.2.1
theorem dX9_fits_10 : decode cX9_fits 10 = .ok (.iconst 1, 1) := dX9_fits_0_g.2.2.2.2.1
theorem dX9_fits_11 : decode cX9_fits 11 = .ok (.goto 4, 3) := dX9_fits_0_g.2.2.2.2.2.1
theorem dX9_fits_14 : decode cX9_fits 14 = .ok (.iconst 0, 1) := dX9_fits_0_g.2.2.2.2.2.2.1
theorem dX9_fits_15 : decode cX9_fits 15 = .ok (.ireturn, 1) := dX9_fits_0_g.2.2.2.2.2.2.2
theorem dX9_unlink_0_g : (decode cX9_unlink 0 = .ok (.aload_n 0, 1)) ∧ (decode cX9_unlink 1 = .ok (.getfield 45, 3)) ∧ (decode cX9_unlink 4 = .ok (.iload_n 1, 1)) ∧ (decode cX9_unlink 5 = .ok (.iaload, 1)) ∧ (decode cX9_unlink 6 = .ok (.bipush 101, 2)) ∧ (decode cX9_unlink 8 = .ok (.irem, 1)) ∧ (decode cX9_unlink 9 = .ok (.istore_n 2, 1)) ∧ (decode cX9_unlink 10 = .ok (.aload_n 0, 1)) := by decide +kernel
theorem dX9_unlink_0 : decode cX9_unlink 0 = .ok (.aload_n 0, 1) := dX9_unlink_0_g.1
theorem dX9_unlink_1 : decode cX9_unlink 1 = .ok (.getfield 45, 3) := dX9_unlink_0_g.2.1
theorem dX9_unlink_4 : decode cX9_unlink 4 = .ok (.iload_n 1, 1) := dX9_unlink_0_g.2.2.1
theorem dX9_unlink_5 : decode cX9_unlink 5 = .ok (.iaload, 1) := dX9_unlink_0_g.2.2.2.1
theorem dX9_unlink_6 : decode cX9_unlink 6 = .ok (.bipush 101, 2) := dX9_unlink_0_g.2.2.2.2.1
theorem dX9_unlink_8 : decode cX9_unlink 8 = .ok (.irem, 1) := dX9_unlink_0_g.2.2.2.2.2.1
theorem dX9_unlink_9 : decode cX9_unlink 9 = .ok (.istore_n 2, 1) := dX9_unlink_0_g.2.2.2.2.2.2.1
theorem dX9_unlink_10 : decode cX9_unlink 10 = .ok (.aload_n 0, 1) := dX9_unlink_0_g.2.2.2.2.2.2.2
theorem dX9_unlink_11_g : (decode cX9_unlink 11 = .ok (.getfield 51, 3)) ∧ (decode cX9_unlink 14 = .ok (.iload_n 1, 1)) ∧ (decode cX9_unlink 15 = .ok (.iaload, 1)) ∧ (decode cX9_unlink 16 = .ok (.iconst (-1), 1)) ∧ (decode cX9_unlink 17 = .ok (.if_icmp .ne 18, 3)) ∧ (decode cX9_unlink 20 = .ok (.aload_n 0, 1)) ∧ (decode cX9_unlink 21 = .ok (.getfield 54, 3)) ∧ (decode cX9_unlink 24 = .ok (.iload_n 2, 1)) := by decide +kernel
theorem dX9_unlink_11 : decode cX9_unlink 11 = .ok (.getfield 51, 3) := dX9_unlink_11_g.1
theorem dX9_unlink_14 : decode cX9_unlink 14 = .ok (.iload_n 1, 1) := dX9_unlink_11_g.2.1
theorem dX9_unlink_15 : decode cX9_unlink 15 = .ok (.iaload, 1) := dX9_unlink_11_g.2.2.1
theorem dX9_unlink_16 : decode cX9_unlink 16 = .ok (.iconst (-1), 1) := dX9_unlink_11_g.2.2.2.1
theorem dX9_unlink_17 : decode cX9_unlink 17 = .ok (.if_icmp .ne 18, 3) := dX9_unlink_11_g.2.2.2.2.1
theorem dX9_unlink_20 : decode cX9_unlink 20 = .ok (.aload_n 0, 1) := dX9_unlink_11_g.2.2.2.2.2.1
theorem dX9_unlink_21 : decode cX9_unlink 21 = .ok (.getfield 54, 3) := dX9_unlink_11_g.2.2.2.2.2.2.1
theorem dX9_unlink_24 : decode cX9_unlink 24 = .ok (.iload_n 2, 1) := dX9_unlink_11_g.2.2.2.2.2.2.2
theorem dX9_unlink_25_g : (decode cX9_unlink 25 = .ok (.aload_n 0, 1)) ∧ (decode cX9_unlink 26 = .ok (.getfield 48, 3)) ∧ (decode cX9_unlink 29 = .ok (.iload_n 1, 1)) ∧ (decode cX9_unlink 30 = .ok (.iaload, 1)) ∧ (decode cX9_unlink 31 = .ok (.iastore, 1)) ∧ (decode cX9_unlink 32 = .ok (.goto 20, 3)) ∧ (decode cX9_unlink 35 = .ok (.aload_n 0, 1)) ∧ (decode cX9_unlink 36 = .ok (.getfield 48, 3)) := by decide +kernel
theorem dX9_unlink_25 : decode cX9_unlink 25 = .ok (.aload_n 0, 1) := dX9_unlink_25_g.1
theorem dX9_unlink_26 : decode cX9_unlink 26 = .ok (.getfield 48, 3) := dX9_unlink_25_g.2.1
theorem dX9_unlink_29 : decode cX9_unlink 29 = .ok (.iload_n 1, 1) := dX9_unlink_25_g.2.2.1
theorem dX9_unlink_30 : decode cX9_unlink 30 = .ok (.iaload, 1) := dX9_unlink_25_g.2.2.2.1
theorem dX9_unlink_31 : decode cX9_unlink 31 = .ok (.iastore, 1) := dX9_unlink_25_g.2.2.2.2.1
theorem dX9_unlink_32 : decode cX9_unlink 32 = .ok (.goto 20, 3) := dX9_unlink_25_g.2.2.2.2.2.1
theorem dX9_unlink_35 : decode cX9_unlink 35 = .ok (.aload_n 0, 1) := dX9_unlink_25_g.2.2.2.2.2.2.1
theorem dX9_unlink_36 : decode cX9_unlink 36 = .ok (.getfield 48, 3) := dX9_unlink_25_g.2.2.2.2.2.2.2
theorem dX9_unlink_39_g : (decode cX9_unlink 39 = .ok (.aload_n 0, 1)) ∧ (decode cX9_unlink 40 = .ok (.getfield 51, 3)) ∧ (decode cX9_unlink 43 = .ok (.iload_n 1, 1)) ∧ (decode cX9_unlink 44 = .ok (.iaload, 1)) ∧ (decode cX9_unlink 45 = .ok (.aload_n 0, 1)) ∧ (decode cX9_unlink 46 = .ok (.getfield 48, 3)) ∧ (decode cX9_unlink 49 = .ok (.iload_n 1, 1)) ∧ (decode cX9_unlink 50 = .ok (.iaload, 1)) := by decide +kernel
theorem dX9_unlink_39 : decode cX9_unlink 39 = .ok (.aload_n 0, 1) := dX9_unlink_39_g.1
theorem dX9_unlink_40 : decode cX9_unlink 40 = .ok (.getfield 51, 3) := dX9_unlink_39_g.2.1
theorem dX9_unlink_43 : decode cX9_unlink 43 = .ok (.iload_n 1, 1) := dX9_unlink_39_g.2.2.1
theorem dX9_unlink_44 : decode cX9_unlink 44 = .ok (.iaload, 1) := dX9_unlink_39_g.2.2.2.1
theorem dX9_unlink_45 : decode cX9_unlink 45 = .ok (.aload_n 0, 1) := dX9_unlink_39_g.2.2.2.2.1
theorem dX9_unlink_46 : decode cX9_unlink 46 = .ok (.getfield 48, 3) := dX9_unlink_39_g.2.2.2.2.2.1
theorem dX9_unlink_49 : decode cX9_unlink 49 = .ok (.iload_n 1, 1) := dX9_unlink_39_g.2.2.2.2.2.2.1
theorem dX9_unlink_50 : decode cX9_unlink 50 = .ok (.iaload, 1) := dX9_unlink_39_g.2.2.2.2.2.2.2
theorem dX9_unlink_51_g : (decode cX9_unlink 51 = .ok (.iastore, 1)) ∧ (decode cX9_unlink 52 = .ok (.aload_n 0, 1)) ∧ (decode cX9_unlink 53 = .ok (.getfield 48, 3)) ∧ (decode cX9_unlink 56 = .ok (.iload_n 1, 1)) ∧ (decode cX9_unlink 57 = .ok (.iaload, 1)) ∧ (decode cX9_unlink 58 = .ok (.iconst (-1), 1)) ∧ (decode cX9_unlink 59 = .ok (.if_icmp .eq 20, 3)) ∧ (decode cX9_unlink 62 = .ok (.aload_n 0, 1)) := by decide +kernel
theorem dX9_unlink_51 : decode cX9_unlink 51 = .ok (.iastore, 1) := dX9_unlink_51_g.1
theorem dX9_unlink_52 : decode cX9_unlink 52 = .ok (.aload_n 0, 1) := dX9_unlink_51_g.2.1
theorem dX9_unlink_53 : decode cX9_unlink 53 = .ok (.getfield 48, 3) := dX9_unlink_51_g.2.2.1
theorem dX9_unlink_56 : decode cX9_unlink 56 = .ok (.iload_n 1, 1) := dX9_unlink_51_g.2.2.2.1
theorem dX9_unlink_57 : decode cX9_unlink 57 = .ok (.iaload, 1) := dX9_unlink_51_g.2.2.2.2.1
theorem dX9_unlink_58 : decode cX9_unlink 58 = .ok (.iconst (-1), 1) := dX9_unlink_51_g.2.2.2.2.2.1
theorem dX9_unlink_59 : decode cX9_unlink 59 = .ok (.if_icmp .eq 20, 3) := dX9_unlink_51_g.2.2.2.2.2.2.1
theorem dX9_unlink_62 : decode cX9_unlink 62 = .ok (.aload_n 0, 1) := dX9_unlink_51_g.2.2.2.2.2.2.2
theorem dX9_unlink_63_g : (decode cX9_unlink 63 = .ok (.getfield 51, 3)) ∧ (decode cX9_unlink 66 = .ok (.aload_n 0, 1)) ∧ (decode cX9_unlink 67 = .ok (.getfield 48, 3)) ∧ (decode cX9_unlink 70 = .ok (.iload_n 1, 1)) ∧ (decode cX9_unlink 71 = .ok (.iaload, 1)) ∧ (decode cX9_unlink 72 = .ok (.aload_n 0, 1)) ∧ (decode cX9_unlink 73 = .ok (.getfield 51, 3)) ∧ (decode cX9_unlink 76 = .ok (.iload_n 1, 1)) := by decide +kernel
theorem dX9_unlink_63 : decode cX9_unlink 63 = .ok (.getfield 51, 3) := dX9_unlink_63_g.1
theorem dX9_unlink_66 : decode cX9_unlink 66 = .ok (.aload_n 0, 1) := dX9_unlink_63_g.2.1
theorem dX9_unlink_67 : decode cX9_unlink 67 = .ok (.getfield 48, 3) := dX9_unlink_63_g.2.2.1
theorem dX9_unlink_70 : decode cX9_unlink 70 = .ok (.iload_n 1, 1) := dX9_unlink_63_g.2.2.2.1
theorem dX9_unlink_71 : decode cX9_unlink 71 = .ok (.iaload, 1) := dX9_unlink_63_g.2.2.2.2.1
theorem dX9_unlink_72 : decode cX9_unlink 72 = .ok (.aload_n 0, 1) := dX9_unlink_63_g.2.2.2.2.2.1
theorem dX9_unlink_73 : decode cX9_unlink 73 = .ok (.getfield 51, 3) := dX9_unlink_63_g.2.2.2.2.2.2.1
theorem dX9_unlink_76 : decode cX9_unlink 76 = .ok (.iload_n 1, 1) := dX9_unlink_63_g.2.2.2.2.2.2.2
theorem dX9_unlink_77_g : (decode cX9_unlink 77 = .ok (.iaload, 1)) ∧ (decode cX9_unlink 78 = .ok (.iastore, 1)) ∧ (decode cX9_unlink 79 = .ok (.return_, 1)) := by decide +kernel
theorem dX9_unlink_77 : decode cX9_unlink 77 = .ok (.iaload, 1) := dX9_unlink_77_g.1
theorem dX9_unlink_78 : decode cX9_unlink 78 = .ok (.iastore, 1) := dX9_unlink_77_g.2.1
theorem dX9_unlink_79 : decode cX9_unlink 79 = .ok (.return_, 1) := dX9_unlink_77_g.2.2
theorem dX9_link_0_g : (decode cX9_link 0 = .ok (.aload_n 0, 1)) ∧ (decode cX9_link 1 = .ok (.getfield 45, 3)) ∧ (decode cX9_link 4 = .ok (.iload_n 1, 1)) ∧ (decode cX9_link 5 = .ok (.iload_n 2, 1)) ∧ (decode cX9_link 6 = .ok (.iastore, 1)) ∧ (decode cX9_link 7 = .ok (.iload_n 2, 1)) ∧ (decode cX9_link 8 = .ok (.bipush 101, 2)) ∧ (decode cX9_link 10 = .ok (.irem, 1)) := by decide +kernel
theorem dX9_link_0 : decode cX9_link 0 = .ok (.aload_n 0, 1) := dX9_link_0_g.1
theorem dX9_link_1 : decode cX9_link 1 = .ok (.getfield 45, 3) := dX9_link_0_g.2.1
theorem dX9_link_4 : decode cX9_link 4 = .ok (.iload_n 1, 1) := dX9_link_0_g.2.2.1
theorem dX9_link_5 : decode cX9_link 5 = .ok (.iload_n 2, 1) := dX9_link_0_g.2.2.2.1
theorem dX9_link_6 : decode cX9_link 6 = .ok (.iastore, 1) := dX9_link_0_g.2.2.2.2.1
theorem dX9_link_7 : decode cX9_link 7 = .ok (.iload_n 2, 1) := dX9_link_0_g.2.2.2.2.2.1
theorem dX9_link_8 : decode cX9_link 8 = .ok (.bipush 101, 2) := dX9_link_0_g.2.2.2.2.2.2.1
theorem dX9_link_10 : decode cX9_link 10 = .ok (.irem, 1) := dX9_link_0_g.2.2.2.2.2.2.2
theorem dX9_link_11_g : (decode cX9_link 11 = .ok (.istore_n 3, 1)) ∧ (decode cX9_link 12 = .ok (.aload_n 0, 1)) ∧ (decode cX9_link 13 = .ok (.getfield 51, 3)) ∧ (decode cX9_link 16 = .ok (.iload_n 1, 1)) ∧ (decode cX9_link 17 = .ok (.iconst (-1), 1)) ∧ (decode cX9_link 18 = .ok (.iastore, 1)) ∧ (decode cX9_link 19 = .ok (.aload_n 0, 1)) ∧ (decode cX9_link 20 = .ok (.getfield 48, 3)) := by decide +kernel
theorem dX9_link_11 : decode cX9_link 11 = .ok (.istore_n 3, 1) := dX9_link_11_g.1
theorem dX9_link_12 : decode cX9_link 12 = .ok (.aload_n 0, 1) := dX9_link_11_g.2.1
theorem dX9_link_13 : decode cX9_link 13 = .ok (.getfield 51, 3) := dX9_link_11_g.2.2.1
theorem dX9_link_16 : decode cX9_link 16 = .ok (.iload_n 1, 1) := dX9_link_11_g.2.2.2.1
theorem dX9_link_17 : decode cX9_link 17 = .ok (.iconst (-1), 1) := dX9_link_11_g.2.2.2.2.1
theorem dX9_link_18 : decode cX9_link 18 = .ok (.iastore, 1) := dX9_link_11_g.2.2.2.2.2.1
theorem dX9_link_19 : decode cX9_link 19 = .ok (.aload_n 0, 1) := dX9_link_11_g.2.2.2.2.2.2.1
theorem dX9_link_20 : decode cX9_link 20 = .ok (.getfield 48, 3) := dX9_link_11_g.2.2.2.2.2.2.2
theorem dX9_link_23_g : (decode cX9_link 23 = .ok (.iload_n 1, 1)) ∧ (decode cX9_link 24 = .ok (.aload_n 0, 1)) ∧ (decode cX9_link 25 = .ok (.getfield 54, 3)) ∧ (decode cX9_link 28 = .ok (.iload_n 3, 1)) ∧ (decode cX9_link 29 = .ok (.iaload, 1)) ∧ (decode cX9_link 30 = .ok (.iastore, 1)) ∧ (decode cX9_link 31 = .ok (.aload_n 0, 1)) ∧ (decode cX9_link 32 = .ok (.getfield 54, 3)) := by decide +kernel
theorem dX9_link_23 : decode cX9_link 23 = .ok (.iload_n 1, 1) := dX9_link_23_g.1
theorem dX9_link_24 : decode cX9_link 24 = .ok (.aload_n 0, 1) := dX9_link_23_g.2.1
theorem dX9_link_25 : decode cX9_link 25 = .ok (.getfield 54, 3) := dX9_link_23_g.2.2.1
theorem dX9_link_28 : decode cX9_link 28 = .ok (.iload_n 3, 1) := dX9_link_23_g.2.2.2.1
theorem dX9_link_29 : decode cX9_link 29 = .ok (.iaload, 1) := dX9_link_23_g.2.2.2.2.1
theorem dX9_link_30 : decode cX9_link 30 = .ok (.iastore, 1) := dX9_link_23_g.2.2.2.2.2.1
theorem dX9_link_31 : decode cX9_link 31 = .ok (.aload_n 0, 1) := dX9_link_23_g.2.2.2.2.2.2.1
theorem dX9_link_32 : decode cX9_link 32 = .ok (.getfield 54, 3) := dX9_link_23_g.2.2.2.2.2.2.2
theorem dX9_link_35_g : (decode cX9_link 35 = .ok (.iload_n 3, 1)) ∧ (decode cX9_link 36 = .ok (.iaload, 1)) ∧ (decode cX9_link 37 = .ok (.iconst (-1), 1)) ∧ (decode cX9_link 38 = .ok (.if_icmp .eq 15, 3)) ∧ (decode cX9_link 41 = .ok (.aload_n 0, 1)) ∧ (decode cX9_link 42 = .ok (.getfield 51, 3)) ∧ (decode cX9_link 45 = .ok (.aload_n 0, 1)) ∧ (decode cX9_link 46 = .ok (.getfield 54, 3)) := by decide +kernel
theorem dX9_link_35 : decode cX9_link 35 = .ok (.iload_n 3, 1) := dX9_link_35_g.1
theorem dX9_link_36 : decode cX9_link 36 = .ok (.iaload, 1) := dX9_link_35_g.2.1
theorem dX9_link_37 : decode cX9_link 37 = .ok (.iconst (-1), 1) := dX9_link_35_g.2.2.1
theorem dX9_link_38 : decode cX9_link 38 = .ok (.if_icmp .eq 15, 3) := dX9_link_35_g.2.2.2.1
theorem dX9_link_41 : decode cX9_link 41 = .ok (.aload_n 0, 1) := dX9_link_35_g.2.2.2.2.1
theorem dX9_link_42 : decode cX9_link 42 = .ok (.getfield 51, 3) := dX9_link_35_g.2.2.2.2.2.1
theorem dX9_link_45 : decode cX9_link 45 = .ok (.aload_n 0, 1) := dX9_link_35_g.2.2.2.2.2.2.1
theorem dX9_link_46 : decode cX9_link 46 = .ok (.getfield 54, 3) := dX9_link_35_g.2.2.2.2.2.2.2
theorem dX9_link_49_g : (decode cX9_link 49 = .ok (.iload_n 3, 1)) ∧ (decode cX9_link 50 = .ok (.iaload, 1)) ∧ (decode cX9_link 51 = .ok (.iload_n 1, 1)) ∧ (decode cX9_link 52 = .ok (.iastore, 1)) ∧ (decode cX9_link 53 = .ok (.aload_n 0, 1)) ∧ (decode cX9_link 54 = .ok (.getfield 54, 3)) ∧ (decode cX9_link 57 = .ok (.iload_n 3, 1)) ∧ (decode cX9_link 58 = .ok (.iload_n 1, 1)) := by decide +kernel
theorem dX9_link_49 : decode cX9_link 49 = .ok (.iload_n 3, 1) := dX9_link_49_g.1
theorem dX9_link_50 : decode cX9_link 50 = .ok (.iaload, 1) := dX9_link_49_g.2.1
theorem dX9_link_51 : decode cX9_link 51 = .ok (.iload_n 1, 1) := dX9_link_49_g.2.2.1
theorem dX9_link_52 : decode cX9_link 52 = .ok (.iastore, 1) := dX9_link_49_g.2.2.2.1
theorem dX9_link_53 : decode cX9_link 53 = .ok (.aload_n 0, 1) := dX9_link_49_g.2.2.2.2.1
theorem dX9_link_54 : decode cX9_link 54 = .ok (.getfield 54, 3) := dX9_link_49_g.2.2.2.2.2.1
theorem dX9_link_57 : decode cX9_link 57 = .ok (.iload_n 3, 1) := dX9_link_49_g.2.2.2.2.2.2.1
theorem dX9_link_58 : decode cX9_link 58 = .ok (.iload_n 1, 1) := dX9_link_49_g.2.2.2.2.2.2.2
theorem dX9_link_59_g : (decode cX9_link 59 = .ok (.iastore, 1)) ∧ (decode cX9_link 60 = .ok (.return_, 1)) := by decide +kernel
theorem dX9_link_59 : decode cX9_link 59 = .ok (.iastore, 1) := dX9_link_59_g.1
theorem dX9_link_60 : decode cX9_link 60 = .ok (.return_, 1) := dX9_link_59_g.2
theorem dX9_leads_0_g : (decode cX9_leads 0 = .ok (.iload_n 1, 1)) ∧ (decode cX9_leads 1 = .ok (.iload_n 2, 1)) ∧ (decode cX9_leads 2 = .ok (.if_icmp .eq 16, 3)) ∧ (decode cX9_leads 5 = .ok (.aload_n 0, 1)) ∧ (decode cX9_leads 6 = .ok (.aload_n 0, 1)) ∧ (decode cX9_leads 7 = .ok (.getfield 39, 3)) ∧ (decode cX9_leads 10 = .ok (.iload_n 1, 1)) ∧ (decode cX9_leads 11 = .ok (.iload_n 2, 1)) := by decide +kernel
theorem dX9_leads_0 : decode cX9_leads 0 = .ok (.iload_n 1, 1) := dX9_leads_0_g.1
theorem dX9_leads_1 : decode cX9_leads 1 = .ok (.iload_n 2, 1) := dX9_leads_0_g.2.1
theorem dX9_leads_2 : decode cX9_leads 2 = .ok (.if_icmp .eq 16, 3) := dX9_leads_0_g.2.2.1
theorem dX9_leads_5 : decode cX9_leads 5 = .ok (.aload_n 0, 1) := dX9_leads_0_g.2.2.2.1
theorem dX9_leads_6 : decode cX9_leads 6 = .ok (.aload_n 0, 1) := dX9_leads_0_g.2.2.2.2.1
theorem dX9_leads_7 : decode cX9_leads 7 = .ok (.getfield 39, 3) := dX9_leads_0_g.2.2.2.2.2.1
theorem dX9_leads_10 : decode cX9_leads 10 = .ok (.iload_n 1, 1) := dX9_leads_0_g.2.2.2.2.2.2.1
theorem dX9_leads_11 : decode cX9_leads 11 = .ok (.iload_n 2, 1) := dX9_leads_0_g.2.2.2.2.2.2.2
theorem dX9_leads_12_g : (decode cX9_leads 12 = .ok (.invokevirtual 188, 3)) ∧ (decode cX9_leads 15 = .ok (.ifCond .le 5, 3)) ∧ (decode cX9_leads 18 = .ok (.iconst (-1), 1)) ∧ (decode cX9_leads 19 = .ok (.ireturn, 1)) ∧ (decode cX9_leads 20 = .ok (.iconst 0, 1)) ∧ (decode cX9_leads 21 = .ok (.istore_n 3, 1)) ∧ (decode cX9_leads 22 = .ok (.iload_n 3, 1)) ∧ (decode cX9_leads 23 = .ok (.aload_n 0, 1)) := by decide +kernel
theorem dX9_leads_12 : decode cX9_leads 12 = .ok (.invokevirtual 188, 3) := dX9_leads_12_g.1
theorem dX9_leads_15 : decode cX9_leads 15 = .ok (.ifCond .le 5, 3) := dX9_leads_12_g.2.1
theorem dX9_leads_18 : decode cX9_leads 18 = .ok (.iconst (-1), 1) := dX9_leads_12_g.2.2.1
theorem dX9_leads_19 : decode cX9_leads 19 = .ok (.ireturn, 1) := dX9_leads_12_g.2.2.2.1
theorem dX9_leads_20 : decode cX9_leads 20 = .ok (.iconst 0, 1) := dX9_leads_12_g.2.2.2.2.1
theorem dX9_leads_21 : decode cX9_leads 21 = .ok (.istore_n 3, 1) := dX9_leads_12_g.2.2.2.2.2.1
theorem dX9_leads_22 : decode cX9_leads 22 = .ok (.iload_n 3, 1) := dX9_leads_12_g.2.2.2.2.2.2.1
theorem dX9_leads_23 : decode cX9_leads 23 = .ok (.aload_n 0, 1) := dX9_leads_12_g.2.2.2.2.2.2.2
theorem dX9_leads_24_g : (decode cX9_leads 24 = .ok (.getfield 13, 3)) ∧ (decode cX9_leads 27 = .ok (.if_icmp .ge 21, 3)) ∧ (decode cX9_leads 30 = .ok (.aload_n 0, 1)) ∧ (decode cX9_leads 31 = .ok (.getfield 42, 3)) ∧ (decode cX9_leads 34 = .ok (.iload_n 3, 1)) ∧ (decode cX9_leads 35 = .ok (.aload_n 0, 1)) ∧ (decode cX9_leads 36 = .ok (.getfield 39, 3)) ∧ (decode cX9_leads 39 = .ok (.iload_n 3, 1)) := by decide +kernel
theorem dX9_leads_24 : decode cX9_leads 24 = .ok (.getfield 13, 3) := dX9_leads_24_g.1
theorem dX9_leads_27 : decode cX9_leads 27 = .ok (.if_icmp .ge 21, 3) := dX9_leads_24_g.2.1
theorem dX9_leads_30 : decode cX9_leads 30 = .ok (.aload_n 0, 1) := dX9_leads_24_g.2.2.1
theorem dX9_leads_31 : decode cX9_leads 31 = .ok (.getfield 42, 3) := dX9_leads_24_g.2.2.2.1
theorem dX9_leads_34 : decode cX9_leads 34 = .ok (.iload_n 3, 1) := dX9_leads_24_g.2.2.2.2.1
theorem dX9_leads_35 : decode cX9_leads 35 = .ok (.aload_n 0, 1) := dX9_leads_24_g.2.2.2.2.2.1
theorem dX9_leads_36 : decode cX9_leads 36 = .ok (.getfield 39, 3) := dX9_leads_24_g.2.2.2.2.2.2.1
theorem dX9_leads_39 : decode cX9_leads 39 = .ok (.iload_n 3, 1) := dX9_leads_24_g.2.2.2.2.2.2.2
theorem dX9_leads_40_g : (decode cX9_leads 40 = .ok (.iaload, 1)) ∧ (decode cX9_leads 41 = .ok (.iastore, 1)) ∧ (decode cX9_leads 42 = .ok (.iinc 3 1, 3)) ∧ (decode cX9_leads 45 = .ok (.goto (-23), 3)) ∧ (decode cX9_leads 48 = .ok (.aload_n 0, 1)) ∧ (decode cX9_leads 49 = .ok (.aload_n 0, 1)) ∧ (decode cX9_leads 50 = .ok (.getfield 42, 3)) ∧ (decode cX9_leads 53 = .ok (.iload_n 1, 1)) := by decide +kernel
theorem dX9_leads_40 : decode cX9_leads 40 = .ok (.iaload, 1) := dX9_leads_40_g.1
theorem dX9_leads_41 : decode cX9_leads 41 = .ok (.iastore, 1) := dX9_leads_40_g.2.1
theorem dX9_leads_42 : decode cX9_leads 42 = .ok (.iinc 3 1, 3) := dX9_leads_40_g.2.2.1
theorem dX9_leads_45 : decode cX9_leads 45 = .ok (.goto (-23), 3) := dX9_leads_40_g.2.2.2.1
theorem dX9_leads_48 : decode cX9_leads 48 = .ok (.aload_n 0, 1) := dX9_leads_40_g.2.2.2.2.1
theorem dX9_leads_49 : decode cX9_leads 49 = .ok (.aload_n 0, 1) := dX9_leads_40_g.2.2.2.2.2.1
theorem dX9_leads_50 : decode cX9_leads 50 = .ok (.getfield 42, 3) := dX9_leads_40_g.2.2.2.2.2.2.1
theorem dX9_leads_53 : decode cX9_leads 53 = .ok (.iload_n 1, 1) := dX9_leads_40_g.2.2.2.2.2.2.2
theorem dX9_leads_54_g : (decode cX9_leads 54 = .ok (.iload_n 2, 1)) ∧ (decode cX9_leads 55 = .ok (.invokevirtual 196, 3)) ∧ (decode cX9_leads 58 = .ok (.istore_n 3, 1)) ∧ (decode cX9_leads 59 = .ok (.iload_n 3, 1)) ∧ (decode cX9_leads 60 = .ok (.ifCond .le 14, 3)) ∧ (decode cX9_leads 63 = .ok (.aload_n 0, 1)) ∧ (decode cX9_leads 64 = .ok (.aload_n 0, 1)) ∧ (decode cX9_leads 65 = .ok (.getfield 42, 3)) := by decide +kernel
theorem dX9_leads_54 : decode cX9_leads 54 = .ok (.iload_n 2, 1) := dX9_leads_54_g.1
theorem dX9_leads_55 : decode cX9_leads 55 = .ok (.invokevirtual 196, 3) := dX9_leads_54_g.2.1
theorem dX9_leads_58 : decode cX9_leads 58 = .ok (.istore_n 3, 1) := dX9_leads_54_g.2.2.1
theorem dX9_leads_59 : decode cX9_leads 59 = .ok (.iload_n 3, 1) := dX9_leads_54_g.2.2.2.1
theorem dX9_leads_60 : decode cX9_leads 60 = .ok (.ifCond .le 14, 3) := dX9_leads_54_g.2.2.2.2.1
theorem dX9_leads_63 : decode cX9_leads 63 = .ok (.aload_n 0, 1) := dX9_leads_54_g.2.2.2.2.2.1
theorem dX9_leads_64 : decode cX9_leads 64 = .ok (.aload_n 0, 1) := dX9_leads_54_g.2.2.2.2.2.2.1
theorem dX9_leads_65 : decode cX9_leads 65 = .ok (.getfield 42, 3) := dX9_leads_54_g.2.2.2.2.2.2.2
theorem dX9_leads_68_g : (decode cX9_leads 68 = .ok (.invokevirtual 184, 3)) ∧ (decode cX9_leads 71 = .ok (.goto 4, 3)) ∧ (decode cX9_leads 74 = .ok (.iconst (-1), 1)) ∧ (decode cX9_leads 75 = .ok (.ireturn, 1)) := by decide +kernel
theorem dX9_leads_68 : decode cX9_leads 68 = .ok (.invokevirtual 184, 3) := dX9_leads_68_g.1
theorem dX9_leads_71 : decode cX9_leads 71 = .ok (.goto 4, 3) := dX9_leads_68_g.2.1
theorem dX9_leads_74 : decode cX9_leads 74 = .ok (.iconst (-1), 1) := dX9_leads_68_g.2.2.1
theorem dX9_leads_75 : decode cX9_leads 75 = .ok (.ireturn, 1) := dX9_leads_68_g.2.2.2
theorem dX9_measure_0_g : (decode cX9_measure 0 = .ok (.aload_n 0, 1)) ∧ (decode cX9_measure 1 = .ok (.invokevirtual 177, 3)) ∧ (decode cX9_measure 4 = .ok (.istore_n 1, 1)) ∧ (decode cX9_measure 5 = .ok (.iconst 0, 1)) ∧ (decode cX9_measure 6 = .ok (.istore_n 2, 1)) ∧ (decode cX9_measure 7 = .ok (.iload_n 2, 1)) ∧ (decode cX9_measure 8 = .ok (.iload_n 1, 1)) ∧ (decode cX9_measure 9 = .ok (.if_icmp .ge 24, 3)) := by decide +kernel
theorem dX9_measure_0 : decode cX9_measure 0 = .ok (.aload_n 0, 1) := dX9_measure_0_g.1
theorem dX9_measure_1 : decode cX9_measure 1 = .ok (.invokevirtual 177, 3) := dX9_measure_0_g.2.1
theorem dX9_measure_4 : decode cX9_measure 4 = .ok (.istore_n 1, 1) := dX9_measure_0_g.2.2.1
theorem dX9_measure_5 : decode cX9_measure 5 = .ok (.iconst 0, 1) := dX9_measure_0_g.2.2.2.1
theorem dX9_measure_6 : decode cX9_measure 6 = .ok (.istore_n 2, 1) := dX9_measure_0_g.2.2.2.2.1
theorem dX9_measure_7 : decode cX9_measure 7 = .ok (.iload_n 2, 1) := dX9_measure_0_g.2.2.2.2.2.1
theorem dX9_measure_8 : decode cX9_measure 8 = .ok (.iload_n 1, 1) := dX9_measure_0_g.2.2.2.2.2.2.1
theorem dX9_measure_9 : decode cX9_measure 9 = .ok (.if_icmp .ge 24, 3) := dX9_measure_0_g.2.2.2.2.2.2.2
theorem dX9_measure_12_g : (decode cX9_measure 12 = .ok (.aload_n 0, 1)) ∧ (decode cX9_measure 13 = .ok (.getfield 45, 3)) ∧ (decode cX9_measure 16 = .ok (.iload_n 2, 1)) ∧ (decode cX9_measure 17 = .ok (.ldc 199, 2)) ∧ (decode cX9_measure 19 = .ok (.iastore, 1)) ∧ (decode cX9_measure 20 = .ok (.aload_n 0, 1)) ∧ (decode cX9_measure 21 = .ok (.getfield 67, 3)) ∧ (decode cX9_measure 24 = .ok (.iload_n 2, 1)) := by decide +kernel
theorem dX9_measure_12 : decode cX9_measure 12 = .ok (.aload_n 0, 1) := dX9_measure_12_g.1
theorem dX9_measure_13 : decode cX9_measure 13 = .ok (.getfield 45, 3) := dX9_measure_12_g.2.1
theorem dX9_measure_16 : decode cX9_measure 16 = .ok (.iload_n 2, 1) := dX9_measure_12_g.2.2.1
theorem dX9_measure_17 : decode cX9_measure 17 = .ok (.ldc 199, 2) := dX9_measure_12_g.2.2.2.1
theorem dX9_measure_19 : decode cX9_measure 19 = .ok (.iastore, 1) := dX9_measure_12_g.2.2.2.2.1
theorem dX9_measure_20 : decode cX9_measure 20 = .ok (.aload_n 0, 1) := dX9_measure_12_g.2.2.2.2.2.1
theorem dX9_measure_21 : decode cX9_measure 21 = .ok (.getfield 67, 3) := dX9_measure_12_g.2.2.2.2.2.2.1
theorem dX9_measure_24 : decode cX9_measure 24 = .ok (.iload_n 2, 1) := dX9_measure_12_g.2.2.2.2.2.2.2
theorem dX9_measure_25_g : (decode cX9_measure 25 = .ok (.iconst 0, 1)) ∧ (decode cX9_measure 26 = .ok (.bastore, 1)) ∧ (decode cX9_measure 27 = .ok (.iinc 2 1, 3)) ∧ (decode cX9_measure 30 = .ok (.goto (-23), 3)) ∧ (decode cX9_measure 33 = .ok (.iconst 0, 1)) ∧ (decode cX9_measure 34 = .ok (.istore_n 2, 1)) ∧ (decode cX9_measure 35 = .ok (.iload_n 2, 1)) ∧ (decode cX9_measure 36 = .ok (.bipush 101, 2)) := by decide +kernel
theorem dX9_measure_25 : decode cX9_measure 25 = .ok (.iconst 0, 1) := dX9_measure_25_g.1
theorem dX9_measure_26 : decode cX9_measure 26 = .ok (.bastore, 1) := dX9_measure_25_g.2.1
theorem dX9_measure_27 : decode cX9_measure 27 = .ok (.iinc 2 1, 3) := dX9_measure_25_g.2.2.1
theorem dX9_measure_30 : decode cX9_measure 30 = .ok (.goto (-23), 3) := dX9_measure_25_g.2.2.2.1
theorem dX9_measure_33 : decode cX9_measure 33 = .ok (.iconst 0, 1) := dX9_measure_25_g.2.2.2.2.1
theorem dX9_measure_34 : decode cX9_measure 34 = .ok (.istore_n 2, 1) := dX9_measure_25_g.2.2.2.2.2.1
theorem dX9_measure_35 : decode cX9_measure 35 = .ok (.iload_n 2, 1) := dX9_measure_25_g.2.2.2.2.2.2.1
theorem dX9_measure_36 : decode cX9_measure 36 = .ok (.bipush 101, 2) := dX9_measure_25_g.2.2.2.2.2.2.2
theorem dX9_measure_38_g : (decode cX9_measure 38 = .ok (.if_icmp .ge 16, 3)) ∧ (decode cX9_measure 41 = .ok (.aload_n 0, 1)) ∧ (decode cX9_measure 42 = .ok (.getfield 54, 3)) ∧ (decode cX9_measure 45 = .ok (.iload_n 2, 1)) ∧ (decode cX9_measure 46 = .ok (.iconst (-1), 1)) ∧ (decode cX9_measure 47 = .ok (.iastore, 1)) ∧ (decode cX9_measure 48 = .ok (.iinc 2 1, 3)) ∧ (decode cX9_measure 51 = .ok (.goto (-16), 3)) := by decide +kernel
theorem dX9_measure_38 : decode cX9_measure 38 = .ok (.if_icmp .ge 16, 3) := dX9_measure_38_g.1
theorem dX9_measure_41 : decode cX9_measure 41 = .ok (.aload_n 0, 1) := dX9_measure_38_g.2.1
theorem dX9_measure_42 : decode cX9_measure 42 = .ok (.getfield 54, 3) := dX9_measure_38_g.2.2.1
theorem dX9_measure_45 : decode cX9_measure 45 = .ok (.iload_n 2, 1) := dX9_measure_38_g.2.2.2.1
theorem dX9_measure_46 : decode cX9_measure 46 = .ok (.iconst (-1), 1) := dX9_measure_38_g.2.2.2.2.1
theorem dX9_measure_47 : decode cX9_measure 47 = .ok (.iastore, 1) := dX9_measure_38_g.2.2.2.2.2.1
theorem dX9_measure_48 : decode cX9_measure 48 = .ok (.iinc 2 1, 3) := dX9_measure_38_g.2.2.2.2.2.2.1
theorem dX9_measure_51 : decode cX9_measure 51 = .ok (.goto (-16), 3) := dX9_measure_38_g.2.2.2.2.2.2.2
theorem dX9_measure_54_g : (decode cX9_measure 54 = .ok (.aload_n 0, 1)) ∧ (decode cX9_measure 55 = .ok (.iconst 0, 1)) ∧ (decode cX9_measure 56 = .ok (.putfield 200, 3)) ∧ (decode cX9_measure 59 = .ok (.aload_n 0, 1)) ∧ (decode cX9_measure 60 = .ok (.aload_n 0, 1)) ∧ (decode cX9_measure 61 = .ok (.aload_n 0, 1)) ∧ (decode cX9_measure 62 = .ok (.getfield 20, 3)) ∧ (decode cX9_measure 65 = .ok (.invokevirtual 184, 3)) := by decide +kernel
theorem dX9_measure_54 : decode cX9_measure 54 = .ok (.aload_n 0, 1) := dX9_measure_54_g.1
theorem dX9_measure_55 : decode cX9_measure 55 = .ok (.iconst 0, 1) := dX9_measure_54_g.2.1
theorem dX9_measure_56 : decode cX9_measure 56 = .ok (.putfield 200, 3) := dX9_measure_54_g.2.2.1
theorem dX9_measure_59 : decode cX9_measure 59 = .ok (.aload_n 0, 1) := dX9_measure_54_g.2.2.2.1
theorem dX9_measure_60 : decode cX9_measure 60 = .ok (.aload_n 0, 1) := dX9_measure_54_g.2.2.2.2.1
theorem dX9_measure_61 : decode cX9_measure 61 = .ok (.aload_n 0, 1) := dX9_measure_54_g.2.2.2.2.2.1
theorem dX9_measure_62 : decode cX9_measure 62 = .ok (.getfield 20, 3) := dX9_measure_54_g.2.2.2.2.2.2.1
theorem dX9_measure_65 : decode cX9_measure 65 = .ok (.invokevirtual 184, 3) := dX9_measure_54_g.2.2.2.2.2.2.2
theorem dX9_measure_68_g : (decode cX9_measure 68 = .ok (.iconst 0, 1)) ∧ (decode cX9_measure 69 = .ok (.invokevirtual 203, 3)) ∧ (decode cX9_measure 72 = .ok (.iconst 1, 1)) ∧ (decode cX9_measure 73 = .ok (.istore_n 2, 1)) ∧ (decode cX9_measure 74 = .ok (.iconst 0, 1)) ∧ (decode cX9_measure 75 = .ok (.istore_n 3, 1)) ∧ (decode cX9_measure 76 = .ok (.iload_n 2, 1)) ∧ (decode cX9_measure 77 = .ok (.ifCond .le 219, 3)) := by decide +kernel
theorem dX9_measure_68 : decode cX9_measure 68 = .ok (.iconst 0, 1) := dX9_measure_68_g.1
theorem dX9_measure_69 : decode cX9_measure 69 = .ok (.invokevirtual 203, 3) := dX9_measure_68_g.2.1
theorem dX9_measure_72 : decode cX9_measure 72 = .ok (.iconst 1, 1) := dX9_measure_68_g.2.2.1
theorem dX9_measure_73 : decode cX9_measure 73 = .ok (.istore_n 2, 1) := dX9_measure_68_g.2.2.2.1
theorem dX9_measure_74 : decode cX9_measure 74 = .ok (.iconst 0, 1) := dX9_measure_68_g.2.2.2.2.1
theorem dX9_measure_75 : decode cX9_measure 75 = .ok (.istore_n 3, 1) := dX9_measure_68_g.2.2.2.2.2.1
theorem dX9_measure_76 : decode cX9_measure 76 = .ok (.iload_n 2, 1) := dX9_measure_68_g.2.2.2.2.2.2.1
theorem dX9_measure_77 : decode cX9_measure 77 = .ok (.ifCond .le 219, 3) := dX9_measure_68_g.2.2.2.2.2.2.2
theorem dX9_measure_80_g : (decode cX9_measure 80 = .ok (.iload_n 3, 1)) ∧ (decode cX9_measure 81 = .ok (.bipush 101, 2)) ∧ (decode cX9_measure 83 = .ok (.irem, 1)) ∧ (decode cX9_measure 84 = .ok (.istore 4, 2)) ∧ (decode cX9_measure 86 = .ok (.aload_n 0, 1)) ∧ (decode cX9_measure 87 = .ok (.getfield 54, 3)) ∧ (decode cX9_measure 90 = .ok (.iload 4, 2)) ∧ (decode cX9_measure 92 = .ok (.iaload, 1)) := by decide +kernel
theorem dX9_measure_80 : decode cX9_measure 80 = .ok (.iload_n 3, 1) := dX9_measure_80_g.1
theorem dX9_measure_81 : decode cX9_measure 81 = .ok (.bipush 101, 2) := dX9_measure_80_g.2.1
theorem dX9_measure_83 : decode cX9_measure 83 = .ok (.irem, 1) := dX9_measure_80_g.2.2.1
theorem dX9_measure_84 : decode cX9_measure 84 = .ok (.istore 4, 2) := dX9_measure_80_g.2.2.2.1
theorem dX9_measure_86 : decode cX9_measure 86 = .ok (.aload_n 0, 1) := dX9_measure_80_g.2.2.2.2.1
theorem dX9_measure_87 : decode cX9_measure 87 = .ok (.getfield 54, 3) := dX9_measure_80_g.2.2.2.2.2.1
theorem dX9_measure_90 : decode cX9_measure 90 = .ok (.iload 4, 2) := dX9_measure_80_g.2.2.2.2.2.2.1
theorem dX9_measure_92 : decode cX9_measure 92 = .ok (.iaload, 1) := dX9_measure_80_g.2.2.2.2.2.2.2
theorem dX9_measure_93_g : (decode cX9_measure 93 = .ok (.iconst (-1), 1)) ∧ (decode cX9_measure 94 = .ok (.if_icmp .eq 196, 3)) ∧ (decode cX9_measure 97 = .ok (.aload_n 0, 1)) ∧ (decode cX9_measure 98 = .ok (.getfield 54, 3)) ∧ (decode cX9_measure 101 = .ok (.iload 4, 2)) ∧ (decode cX9_measure 103 = .ok (.iaload, 1)) ∧ (decode cX9_measure 104 = .ok (.istore 5, 2)) ∧ (decode cX9_measure 106 = .ok (.aload_n 0, 1)) := by decide +kernel
theorem dX9_measure_93 : decode cX9_measure 93 = .ok (.iconst (-1), 1) := dX9_measure_93_g.1
theorem dX9_measure_94 : decode cX9_measure 94 = .ok (.if_icmp .eq 196, 3) := dX9_measure_93_g.2.1
theorem dX9_measure_97 : decode cX9_measure 97 = .ok (.aload_n 0, 1) := dX9_measure_93_g.2.2.1
theorem dX9_measure_98 : decode cX9_measure 98 = .ok (.getfield 54, 3) := dX9_measure_93_g.2.2.2.1
theorem dX9_measure_101 : decode cX9_measure 101 = .ok (.iload 4, 2) := dX9_measure_93_g.2.2.2.2.1
theorem dX9_measure_103 : decode cX9_measure 103 = .ok (.iaload, 1) := dX9_measure_93_g.2.2.2.2.2.1
theorem dX9_measure_104 : decode cX9_measure 104 = .ok (.istore 5, 2) := dX9_measure_93_g.2.2.2.2.2.2.1
theorem dX9_measure_106 : decode cX9_measure 106 = .ok (.aload_n 0, 1) := dX9_measure_93_g.2.2.2.2.2.2.2
theorem dX9_measure_107_g : (decode cX9_measure 107 = .ok (.iload 5, 2)) ∧ (decode cX9_measure 109 = .ok (.invokevirtual 207, 3)) ∧ (decode cX9_measure 112 = .ok (.aload_n 0, 1)) ∧ (decode cX9_measure 113 = .ok (.getfield 67, 3)) ∧ (decode cX9_measure 116 = .ok (.iload 5, 2)) ∧ (decode cX9_measure 118 = .ok (.iconst 1, 1)) ∧ (decode cX9_measure 119 = .ok (.bastore, 1)) ∧ (decode cX9_measure 120 = .ok (.iinc 2 (-1), 3)) := by decide +kernel
theorem dX9_measure_107 : decode cX9_measure 107 = .ok (.iload 5, 2) := dX9_measure_107_g.1
theorem dX9_measure_109 : decode cX9_measure 109 = .ok (.invokevirtual 207, 3) := dX9_measure_107_g.2.1
theorem dX9_measure_112 : decode cX9_measure 112 = .ok (.aload_n 0, 1) := dX9_measure_107_g.2.2.1
theorem dX9_measure_113 : decode cX9_measure 113 = .ok (.getfield 67, 3) := dX9_measure_107_g.2.2.2.1
theorem dX9_measure_116 : decode cX9_measure 116 = .ok (.iload 5, 2) := dX9_measure_107_g.2.2.2.2.1
theorem dX9_measure_118 : decode cX9_measure 118 = .ok (.iconst 1, 1) := dX9_measure_107_g.2.2.2.2.2.1
theorem dX9_measure_119 : decode cX9_measure 119 = .ok (.bastore, 1) := dX9_measure_107_g.2.2.2.2.2.2.1
theorem dX9_measure_120 : decode cX9_measure 120 = .ok (.iinc 2 (-1), 3) := dX9_measure_107_g.2.2.2.2.2.2.2
theorem dX9_measure_123_g : (decode cX9_measure 123 = .ok (.aload_n 0, 1)) ∧ (decode cX9_measure 124 = .ok (.getfield 57, 3)) ∧ (decode cX9_measure 127 = .ok (.aload_n 0, 1)) ∧ (decode cX9_measure 128 = .ok (.getfield 200, 3)) ∧ (decode cX9_measure 131 = .ok (.iload 5, 2)) ∧ (decode cX9_measure 133 = .ok (.iastore, 1)) ∧ (decode cX9_measure 134 = .ok (.aload_n 0, 1)) ∧ (decode cX9_measure 135 = .ok (.dup, 1)) := by decide +kernel
theorem dX9_measure_123 : decode cX9_measure 123 = .ok (.aload_n 0, 1) := dX9_measure_123_g.1
theorem dX9_measure_124 : decode cX9_measure 124 = .ok (.getfield 57, 3) := dX9_measure_123_g.2.1
theorem dX9_measure_127 : decode cX9_measure 127 = .ok (.aload_n 0, 1) := dX9_measure_123_g.2.2.1
theorem dX9_measure_128 : decode cX9_measure 128 = .ok (.getfield 200, 3) := dX9_measure_123_g.2.2.2.1
theorem dX9_measure_131 : decode cX9_measure 131 = .ok (.iload 5, 2) := dX9_measure_123_g.2.2.2.2.1
theorem dX9_measure_133 : decode cX9_measure 133 = .ok (.iastore, 1) := dX9_measure_123_g.2.2.2.2.2.1
theorem dX9_measure_134 : decode cX9_measure 134 = .ok (.aload_n 0, 1) := dX9_measure_123_g.2.2.2.2.2.2.1
theorem dX9_measure_135 : decode cX9_measure 135 = .ok (.dup, 1) := dX9_measure_123_g.2.2.2.2.2.2.2
theorem dX9_measure_136_g : (decode cX9_measure 136 = .ok (.getfield 200, 3)) ∧ (decode cX9_measure 139 = .ok (.iconst 1, 1)) ∧ (decode cX9_measure 140 = .ok (.iadd, 1)) ∧ (decode cX9_measure 141 = .ok (.putfield 200, 3)) ∧ (decode cX9_measure 144 = .ok (.aload_n 0, 1)) ∧ (decode cX9_measure 145 = .ok (.iload 5, 2)) ∧ (decode cX9_measure 147 = .ok (.aload_n 0, 1)) ∧ (decode cX9_measure 148 = .ok (.getfield 39, 3)) := by decide +kernel
theorem dX9_measure_136 : decode cX9_measure 136 = .ok (.getfield 200, 3) := dX9_measure_136_g.1
theorem dX9_measure_139 : decode cX9_measure 139 = .ok (.iconst 1, 1) := dX9_measure_136_g.2.1
theorem dX9_measure_140 : decode cX9_measure 140 = .ok (.iadd, 1) := dX9_measure_136_g.2.2.1
theorem dX9_measure_141 : decode cX9_measure 141 = .ok (.putfield 200, 3) := dX9_measure_136_g.2.2.2.1
theorem dX9_measure_144 : decode cX9_measure 144 = .ok (.aload_n 0, 1) := dX9_measure_136_g.2.2.2.2.1
theorem dX9_measure_145 : decode cX9_measure 145 = .ok (.iload 5, 2) := dX9_measure_136_g.2.2.2.2.2.1
theorem dX9_measure_147 : decode cX9_measure 147 = .ok (.aload_n 0, 1) := dX9_measure_136_g.2.2.2.2.2.2.1
theorem dX9_measure_148 : decode cX9_measure 148 = .ok (.getfield 39, 3) := dX9_measure_136_g.2.2.2.2.2.2.2
theorem dX9_measure_151_g : (decode cX9_measure 151 = .ok (.invokevirtual 180, 3)) ∧ (decode cX9_measure 154 = .ok (.iconst 0, 1)) ∧ (decode cX9_measure 155 = .ok (.istore 6, 2)) ∧ (decode cX9_measure 157 = .ok (.iload 6, 2)) ∧ (decode cX9_measure 159 = .ok (.aload_n 0, 1)) ∧ (decode cX9_measure 160 = .ok (.getfield 7, 3)) ∧ (decode cX9_measure 163 = .ok (.if_icmp .ge 124, 3)) ∧ (decode cX9_measure 166 = .ok (.iconst 0, 1)) := by decide +kernel
theorem dX9_measure_151 : decode cX9_measure 151 = .ok (.invokevirtual 180, 3) := dX9_measure_151_g.1
theorem dX9_measure_154 : decode cX9_measure 154 = .ok (.iconst 0, 1) := dX9_measure_151_g.2.1
theorem dX9_measure_155 : decode cX9_measure 155 = .ok (.istore 6, 2) := dX9_measure_151_g.2.2.1
theorem dX9_measure_157 : decode cX9_measure 157 = .ok (.iload 6, 2) := dX9_measure_151_g.2.2.2.1
theorem dX9_measure_159 : decode cX9_measure 159 = .ok (.aload_n 0, 1) := dX9_measure_151_g.2.2.2.2.1
theorem dX9_measure_160 : decode cX9_measure 160 = .ok (.getfield 7, 3) := dX9_measure_151_g.2.2.2.2.2.1
theorem dX9_measure_163 : decode cX9_measure 163 = .ok (.if_icmp .ge 124, 3) := dX9_measure_151_g.2.2.2.2.2.2.1
theorem dX9_measure_166 : decode cX9_measure 166 = .ok (.iconst 0, 1) := dX9_measure_151_g.2.2.2.2.2.2.2
theorem dX9_measure_167_g : (decode cX9_measure 167 = .ok (.istore 7, 2)) ∧ (decode cX9_measure 169 = .ok (.iload 7, 2)) ∧ (decode cX9_measure 171 = .ok (.aload_n 0, 1)) ∧ (decode cX9_measure 172 = .ok (.getfield 7, 3)) ∧ (decode cX9_measure 175 = .ok (.if_icmp .ge 106, 3)) ∧ (decode cX9_measure 178 = .ok (.aload_n 0, 1)) ∧ (decode cX9_measure 179 = .ok (.iload 6, 2)) ∧ (decode cX9_measure 181 = .ok (.iload 7, 2)) := by decide +kernel
theorem dX9_measure_167 : decode cX9_measure 167 = .ok (.istore 7, 2) := dX9_measure_167_g.1
theorem dX9_measure_169 : decode cX9_measure 169 = .ok (.iload 7, 2) := dX9_measure_167_g.2.1
theorem dX9_measure_171 : decode cX9_measure 171 = .ok (.aload_n 0, 1) := dX9_measure_167_g.2.2.1
theorem dX9_measure_172 : decode cX9_measure 172 = .ok (.getfield 7, 3) := dX9_measure_167_g.2.2.2.1
theorem dX9_measure_175 : decode cX9_measure 175 = .ok (.if_icmp .ge 106, 3) := dX9_measure_167_g.2.2.2.2.1
theorem dX9_measure_178 : decode cX9_measure 178 = .ok (.aload_n 0, 1) := dX9_measure_167_g.2.2.2.2.2.1
theorem dX9_measure_179 : decode cX9_measure 179 = .ok (.iload 6, 2) := dX9_measure_167_g.2.2.2.2.2.2.1
theorem dX9_measure_181 : decode cX9_measure 181 = .ok (.iload 7, 2) := dX9_measure_167_g.2.2.2.2.2.2.2
theorem dX9_measure_183_g : (decode cX9_measure 183 = .ok (.invokevirtual 211, 3)) ∧ (decode cX9_measure 186 = .ok (.istore 8, 2)) ∧ (decode cX9_measure 188 = .ok (.iload 8, 2)) ∧ (decode cX9_measure 190 = .ok (.iconst (-1), 1)) ∧ (decode cX9_measure 191 = .ok (.if_icmp .eq 84, 3)) ∧ (decode cX9_measure 194 = .ok (.aload_n 0, 1)) ∧ (decode cX9_measure 195 = .ok (.getfield 67, 3)) ∧ (decode cX9_measure 198 = .ok (.iload 8, 2)) := by decide +kernel
theorem dX9_measure_183 : decode cX9_measure 183 = .ok (.invokevirtual 211, 3) := dX9_measure_183_g.1
theorem dX9_measure_186 : decode cX9_measure 186 = .ok (.istore 8, 2) := dX9_measure_183_g.2.1
theorem dX9_measure_188 : decode cX9_measure 188 = .ok (.iload 8, 2) := dX9_measure_183_g.2.2.1
theorem dX9_measure_190 : decode cX9_measure 190 = .ok (.iconst (-1), 1) := dX9_measure_183_g.2.2.2.1
theorem dX9_measure_191 : decode cX9_measure 191 = .ok (.if_icmp .eq 84, 3) := dX9_measure_183_g.2.2.2.2.1
theorem dX9_measure_194 : decode cX9_measure 194 = .ok (.aload_n 0, 1) := dX9_measure_183_g.2.2.2.2.2.1
theorem dX9_measure_195 : decode cX9_measure 195 = .ok (.getfield 67, 3) := dX9_measure_183_g.2.2.2.2.2.2.1
theorem dX9_measure_198 : decode cX9_measure 198 = .ok (.iload 8, 2) := dX9_measure_183_g.2.2.2.2.2.2.2
theorem dX9_measure_200_g : (decode cX9_measure 200 = .ok (.baload, 1)) ∧ (decode cX9_measure 201 = .ok (.ifCond .ne 74, 3)) ∧ (decode cX9_measure 204 = .ok (.aload_n 0, 1)) ∧ (decode cX9_measure 205 = .ok (.getfield 45, 3)) ∧ (decode cX9_measure 208 = .ok (.iload 8, 2)) ∧ (decode cX9_measure 210 = .ok (.iaload, 1)) ∧ (decode cX9_measure 211 = .ok (.iload_n 3, 1)) ∧ (decode cX9_measure 212 = .ok (.aload_n 0, 1)) := by decide +kernel
theorem dX9_measure_200 : decode cX9_measure 200 = .ok (.baload, 1) := dX9_measure_200_g.1
theorem dX9_measure_201 : decode cX9_measure 201 = .ok (.ifCond .ne 74, 3) := dX9_measure_200_g.2.1
theorem dX9_measure_204 : decode cX9_measure 204 = .ok (.aload_n 0, 1) := dX9_measure_200_g.2.2.1
theorem dX9_measure_205 : decode cX9_measure 205 = .ok (.getfield 45, 3) := dX9_measure_200_g.2.2.2.1
theorem dX9_measure_208 : decode cX9_measure 208 = .ok (.iload 8, 2) := dX9_measure_200_g.2.2.2.2.1
theorem dX9_measure_210 : decode cX9_measure 210 = .ok (.iaload, 1) := dX9_measure_200_g.2.2.2.2.2.1
theorem dX9_measure_211 : decode cX9_measure 211 = .ok (.iload_n 3, 1) := dX9_measure_200_g.2.2.2.2.2.2.1
theorem dX9_measure_212 : decode cX9_measure 212 = .ok (.aload_n 0, 1) := dX9_measure_200_g.2.2.2.2.2.2.2
theorem dX9_measure_213_g : (decode cX9_measure 213 = .ok (.getfield 26, 3)) ∧ (decode cX9_measure 216 = .ok (.iconst 5, 1)) ∧ (decode cX9_measure 217 = .ok (.iload 6, 2)) ∧ (decode cX9_measure 219 = .ok (.imul, 1)) ∧ (decode cX9_measure 220 = .ok (.iload 7, 2)) ∧ (decode cX9_measure 222 = .ok (.iadd, 1)) ∧ (decode cX9_measure 223 = .ok (.iaload, 1)) ∧ (decode cX9_measure 224 = .ok (.iadd, 1)) := by decide +kernel
theorem dX9_measure_213 : decode cX9_measure 213 = .ok (.getfield 26, 3) := dX9_measure_213_g.1
theorem dX9_measure_216 : decode cX9_measure 216 = .ok (.iconst 5, 1) := dX9_measure_213_g.2.1
theorem dX9_measure_217 : decode cX9_measure 217 = .ok (.iload 6, 2) := dX9_measure_213_g.2.2.1
theorem dX9_measure_219 : decode cX9_measure 219 = .ok (.imul, 1) := dX9_measure_213_g.2.2.2.1
theorem dX9_measure_220 : decode cX9_measure 220 = .ok (.iload 7, 2) := dX9_measure_213_g.2.2.2.2.1
theorem dX9_measure_222 : decode cX9_measure 222 = .ok (.iadd, 1) := dX9_measure_213_g.2.2.2.2.2.1
theorem dX9_measure_223 : decode cX9_measure 223 = .ok (.iaload, 1) := dX9_measure_213_g.2.2.2.2.2.2.1
theorem dX9_measure_224 : decode cX9_measure 224 = .ok (.iadd, 1) := dX9_measure_213_g.2.2.2.2.2.2.2
theorem dX9_measure_225_g : (decode cX9_measure 225 = .ok (.if_icmp .gt 6, 3)) ∧ (decode cX9_measure 228 = .ok (.goto 47, 3)) ∧ (decode cX9_measure 231 = .ok (.aload_n 0, 1)) ∧ (decode cX9_measure 232 = .ok (.getfield 45, 3)) ∧ (decode cX9_measure 235 = .ok (.iload 8, 2)) ∧ (decode cX9_measure 237 = .ok (.iaload, 1)) ∧ (decode cX9_measure 238 = .ok (.ldc 199, 2)) ∧ (decode cX9_measure 240 = .ok (.if_icmp .ne 9, 3)) := by decide +kernel
theorem dX9_measure_225 : decode cX9_measure 225 = .ok (.if_icmp .gt 6, 3) := dX9_measure_225_g.1
theorem dX9_measure_228 : decode cX9_measure 228 = .ok (.goto 47, 3) := dX9_measure_225_g.2.1
theorem dX9_measure_231 : decode cX9_measure 231 = .ok (.aload_n 0, 1) := dX9_measure_225_g.2.2.1
theorem dX9_measure_232 : decode cX9_measure 232 = .ok (.getfield 45, 3) := dX9_measure_225_g.2.2.2.1
theorem dX9_measure_235 : decode cX9_measure 235 = .ok (.iload 8, 2) := dX9_measure_225_g.2.2.2.2.1
theorem dX9_measure_237 : decode cX9_measure 237 = .ok (.iaload, 1) := dX9_measure_225_g.2.2.2.2.2.1
theorem dX9_measure_238 : decode cX9_measure 238 = .ok (.ldc 199, 2) := dX9_measure_225_g.2.2.2.2.2.2.1
theorem dX9_measure_240 : decode cX9_measure 240 = .ok (.if_icmp .ne 9, 3) := dX9_measure_225_g.2.2.2.2.2.2.2
theorem dX9_measure_243_g : (decode cX9_measure 243 = .ok (.iinc 2 1, 3)) ∧ (decode cX9_measure 246 = .ok (.goto 9, 3)) ∧ (decode cX9_measure 249 = .ok (.aload_n 0, 1)) ∧ (decode cX9_measure 250 = .ok (.iload 8, 2)) ∧ (decode cX9_measure 252 = .ok (.invokevirtual 207, 3)) ∧ (decode cX9_measure 255 = .ok (.aload_n 0, 1)) ∧ (decode cX9_measure 256 = .ok (.iload 8, 2)) ∧ (decode cX9_measure 258 = .ok (.iload_n 3, 1)) := by decide +kernel
theorem dX9_measure_243 : decode cX9_measure 243 = .ok (.iinc 2 1, 3) := dX9_measure_243_g.1
theorem dX9_measure_246 : decode cX9_measure 246 = .ok (.goto 9, 3) := dX9_measure_243_g.2.1
theorem dX9_measure_249 : decode cX9_measure 249 = .ok (.aload_n 0, 1) := dX9_measure_243_g.2.2.1
theorem dX9_measure_250 : decode cX9_measure 250 = .ok (.iload 8, 2) := dX9_measure_243_g.2.2.2.1
theorem dX9_measure_252 : decode cX9_measure 252 = .ok (.invokevirtual 207, 3) := dX9_measure_243_g.2.2.2.2.1
theorem dX9_measure_255 : decode cX9_measure 255 = .ok (.aload_n 0, 1) := dX9_measure_243_g.2.2.2.2.2.1
theorem dX9_measure_256 : decode cX9_measure 256 = .ok (.iload 8, 2) := dX9_measure_243_g.2.2.2.2.2.2.1
theorem dX9_measure_258 : decode cX9_measure 258 = .ok (.iload_n 3, 1) := dX9_measure_243_g.2.2.2.2.2.2.2
theorem dX9_measure_259_g : (decode cX9_measure 259 = .ok (.aload_n 0, 1)) ∧ (decode cX9_measure 260 = .ok (.getfield 26, 3)) ∧ (decode cX9_measure 263 = .ok (.iconst 5, 1)) ∧ (decode cX9_measure 264 = .ok (.iload 6, 2)) ∧ (decode cX9_measure 266 = .ok (.imul, 1)) ∧ (decode cX9_measure 267 = .ok (.iload 7, 2)) ∧ (decode cX9_measure 269 = .ok (.iadd, 1)) ∧ (decode cX9_measure 270 = .ok (.iaload, 1)) := by decide +kernel
theorem dX9_measure_259 : decode cX9_measure 259 = .ok (.aload_n 0, 1) := dX9_measure_259_g.1
theorem dX9_measure_260 : decode cX9_measure 260 = .ok (.getfield 26, 3) := dX9_measure_259_g.2.1
theorem dX9_measure_263 : decode cX9_measure 263 = .ok (.iconst 5, 1) := dX9_measure_259_g.2.2.1
theorem dX9_measure_264 : decode cX9_measure 264 = .ok (.iload 6, 2) := dX9_measure_259_g.2.2.2.1
theorem dX9_measure_266 : decode cX9_measure 266 = .ok (.imul, 1) := dX9_measure_259_g.2.2.2.2.1
theorem dX9_measure_267 : decode cX9_measure 267 = .ok (.iload 7, 2) := dX9_measure_259_g.2.2.2.2.2.1
theorem dX9_measure_269 : decode cX9_measure 269 = .ok (.iadd, 1) := dX9_measure_259_g.2.2.2.2.2.2.1
theorem dX9_measure_270 : decode cX9_measure 270 = .ok (.iaload, 1) := dX9_measure_259_g.2.2.2.2.2.2.2
theorem dX9_measure_271_g : (decode cX9_measure 271 = .ok (.iadd, 1)) ∧ (decode cX9_measure 272 = .ok (.invokevirtual 203, 3)) ∧ (decode cX9_measure 275 = .ok (.iinc 7 1, 3)) ∧ (decode cX9_measure 278 = .ok (.goto (-109), 3)) ∧ (decode cX9_measure 281 = .ok (.iinc 6 1, 3)) ∧ (decode cX9_measure 284 = .ok (.goto (-127), 3)) ∧ (decode cX9_measure 287 = .ok (.goto (-201), 3)) ∧ (decode cX9_measure 290 = .ok (.iinc 3 1, 3)) := by decide +kernel
theorem dX9_measure_271 : decode cX9_measure 271 = .ok (.iadd, 1) := dX9_measure_271_g.1
theorem dX9_measure_272 : decode cX9_measure 272 = .ok (.invokevirtual 203, 3) := dX9_measure_271_g.2.1
theorem dX9_measure_275 : decode cX9_measure 275 = .ok (.iinc 7 1, 3) := dX9_measure_271_g.2.2.1
theorem dX9_measure_278 : decode cX9_measure 278 = .ok (.goto (-109), 3) := dX9_measure_271_g.2.2.2.1
theorem dX9_measure_281 : decode cX9_measure 281 = .ok (.iinc 6 1, 3) := dX9_measure_271_g.2.2.2.2.1
theorem dX9_measure_284 : decode cX9_measure 284 = .ok (.goto (-127), 3) := dX9_measure_271_g.2.2.2.2.2.1
theorem dX9_measure_287 : decode cX9_measure 287 = .ok (.goto (-201), 3) := dX9_measure_271_g.2.2.2.2.2.2.1
theorem dX9_measure_290 : decode cX9_measure 290 = .ok (.iinc 3 1, 3) := dX9_measure_271_g.2.2.2.2.2.2.2
theorem dX9_measure_293_g : (decode cX9_measure 293 = .ok (.goto (-217), 3)) ∧ (decode cX9_measure 296 = .ok (.return_, 1)) := by decide +kernel
theorem dX9_measure_293 : decode cX9_measure 293 = .ok (.goto (-217), 3) := dX9_measure_293_g.1
theorem dX9_measure_296 : decode cX9_measure 296 = .ok (.return_, 1) := dX9_measure_293_g.2
theorem dX9_fewest_0_g : (decode cX9_fewest 0 = .ok (.aload_n 0, 1)) ∧ (decode cX9_fewest 1 = .ok (.iconst 0, 1)) ∧ (decode cX9_fewest 2 = .ok (.putfield 133, 3)) ∧ (decode cX9_fewest 5 = .ok (.aload_n 0, 1)) ∧ (decode cX9_fewest 6 = .ok (.invokevirtual 215, 3)) ∧ (decode cX9_fewest 9 = .ok (.ifCond .ne 9, 3)) ∧ (decode cX9_fewest 12 = .ok (.aload_n 0, 1)) ∧ (decode cX9_fewest 13 = .ok (.iconst 2, 1)) := by decide +kernel
theorem dX9_fewest_0 : decode cX9_fewest 0 = .ok (.aload_n 0, 1) := dX9_fewest_0_g.1
theorem dX9_fewest_1 : decode cX9_fewest 1 = .ok (.iconst 0, 1) := dX9_fewest_0_g.2.1
theorem dX9_fewest_2 : decode cX9_fewest 2 = .ok (.putfield 133, 3) := dX9_fewest_0_g.2.2.1
theorem dX9_fewest_5 : decode cX9_fewest 5 = .ok (.aload_n 0, 1) := dX9_fewest_0_g.2.2.2.1
theorem dX9_fewest_6 : decode cX9_fewest 6 = .ok (.invokevirtual 215, 3) := dX9_fewest_0_g.2.2.2.2.1
theorem dX9_fewest_9 : decode cX9_fewest 9 = .ok (.ifCond .ne 9, 3) := dX9_fewest_0_g.2.2.2.2.2.1
theorem dX9_fewest_12 : decode cX9_fewest 12 = .ok (.aload_n 0, 1) := dX9_fewest_0_g.2.2.2.2.2.2.1
theorem dX9_fewest_13 : decode cX9_fewest 13 = .ok (.iconst 2, 1) := dX9_fewest_0_g.2.2.2.2.2.2.2
theorem dX9_fewest_14_g : (decode cX9_fewest 14 = .ok (.invokevirtual 192, 3)) ∧ (decode cX9_fewest 17 = .ok (.ireturn, 1)) ∧ (decode cX9_fewest 18 = .ok (.aload_n 0, 1)) ∧ (decode cX9_fewest 19 = .ok (.iconst 0, 1)) ∧ (decode cX9_fewest 20 = .ok (.putfield 136, 3)) ∧ (decode cX9_fewest 23 = .ok (.aload_n 0, 1)) ∧ (decode cX9_fewest 24 = .ok (.invokevirtual 219, 3)) ∧ (decode cX9_fewest 27 = .ok (.aload_n 0, 1)) := by decide +kernel
theorem dX9_fewest_14 : decode cX9_fewest 14 = .ok (.invokevirtual 192, 3) := dX9_fewest_14_g.1
theorem dX9_fewest_17 : decode cX9_fewest 17 = .ok (.ireturn, 1) := dX9_fewest_14_g.2.1
theorem dX9_fewest_18 : decode cX9_fewest 18 = .ok (.aload_n 0, 1) := dX9_fewest_14_g.2.2.1
theorem dX9_fewest_19 : decode cX9_fewest 19 = .ok (.iconst 0, 1) := dX9_fewest_14_g.2.2.2.1
theorem dX9_fewest_20 : decode cX9_fewest 20 = .ok (.putfield 136, 3) := dX9_fewest_14_g.2.2.2.2.1
theorem dX9_fewest_23 : decode cX9_fewest 23 = .ok (.aload_n 0, 1) := dX9_fewest_14_g.2.2.2.2.2.1
theorem dX9_fewest_24 : decode cX9_fewest 24 = .ok (.invokevirtual 219, 3) := dX9_fewest_14_g.2.2.2.2.2.2.1
theorem dX9_fewest_27 : decode cX9_fewest 27 = .ok (.aload_n 0, 1) := dX9_fewest_14_g.2.2.2.2.2.2.2
theorem dX9_fewest_28_g : (decode cX9_fewest 28 = .ok (.getfield 45, 3)) ∧ (decode cX9_fewest 31 = .ok (.aload_n 0, 1)) ∧ (decode cX9_fewest 32 = .ok (.aload_n 0, 1)) ∧ (decode cX9_fewest 33 = .ok (.getfield 23, 3)) ∧ (decode cX9_fewest 36 = .ok (.invokevirtual 184, 3)) ∧ (decode cX9_fewest 39 = .ok (.iaload, 1)) ∧ (decode cX9_fewest 40 = .ok (.istore_n 1, 1)) ∧ (decode cX9_fewest 41 = .ok (.iload_n 1, 1)) := by decide +kernel
theorem dX9_fewest_28 : decode cX9_fewest 28 = .ok (.getfield 45, 3) := dX9_fewest_28_g.1
theorem dX9_fewest_31 : decode cX9_fewest 31 = .ok (.aload_n 0, 1) := dX9_fewest_28_g.2.1
theorem dX9_fewest_32 : decode cX9_fewest 32 = .ok (.aload_n 0, 1) := dX9_fewest_28_g.2.2.1
theorem dX9_fewest_33 : decode cX9_fewest 33 = .ok (.getfield 23, 3) := dX9_fewest_28_g.2.2.2.1
theorem dX9_fewest_36 : decode cX9_fewest 36 = .ok (.invokevirtual 184, 3) := dX9_fewest_28_g.2.2.2.2.1
theorem dX9_fewest_39 : decode cX9_fewest 39 = .ok (.iaload, 1) := dX9_fewest_28_g.2.2.2.2.2.1
theorem dX9_fewest_40 : decode cX9_fewest 40 = .ok (.istore_n 1, 1) := dX9_fewest_28_g.2.2.2.2.2.2.1
theorem dX9_fewest_41 : decode cX9_fewest 41 = .ok (.iload_n 1, 1) := dX9_fewest_28_g.2.2.2.2.2.2.2
theorem dX9_fewest_42_g : (decode cX9_fewest 42 = .ok (.ldc 199, 2)) ∧ (decode cX9_fewest 44 = .ok (.if_icmp .ne 8, 3)) ∧ (decode cX9_fewest 47 = .ok (.bipush (-2), 2)) ∧ (decode cX9_fewest 49 = .ok (.goto 4, 3)) ∧ (decode cX9_fewest 52 = .ok (.iload_n 1, 1)) ∧ (decode cX9_fewest 53 = .ok (.ireturn, 1)) := by decide +kernel
theorem dX9_fewest_42 : decode cX9_fewest 42 = .ok (.ldc 199, 2) := dX9_fewest_42_g.1
theorem dX9_fewest_44 : decode cX9_fewest 44 = .ok (.if_icmp .ne 8, 3) := dX9_fewest_42_g.2.1
theorem dX9_fewest_47 : decode cX9_fewest 47 = .ok (.bipush (-2), 2) := dX9_fewest_42_g.2.2.1
theorem dX9_fewest_49 : decode cX9_fewest 49 = .ok (.goto 4, 3) := dX9_fewest_42_g.2.2.2.1
theorem dX9_fewest_52 : decode cX9_fewest 52 = .ok (.iload_n 1, 1) := dX9_fewest_42_g.2.2.2.2.1
theorem dX9_fewest_53 : decode cX9_fewest 53 = .ok (.ireturn, 1) := dX9_fewest_42_g.2.2.2.2.2
theorem dX9_isNear_0_g : (decode cX9_isNear 0 = .ok (.iload_n 2, 1)) ∧ (decode cX9_isNear 1 = .ok (.iconst (-1), 1)) ∧ (decode cX9_isNear 2 = .ok (.if_icmp .eq 34, 3)) ∧ (decode cX9_isNear 5 = .ok (.aload_n 0, 1)) ∧ (decode cX9_isNear 6 = .ok (.getfield 45, 3)) ∧ (decode cX9_isNear 9 = .ok (.iload_n 2, 1)) ∧ (decode cX9_isNear 10 = .ok (.iaload, 1)) ∧ (decode cX9_isNear 11 = .ok (.aload_n 0, 1)) := by decide +kernel
theorem dX9_isNear_0 : decode cX9_isNear 0 = .ok (.iload_n 2, 1) := dX9_isNear_0_g.1
theorem dX9_isNear_1 : decode cX9_isNear 1 = .ok (.iconst (-1), 1) := dX9_isNear_0_g.2.1
theorem dX9_isNear_2 : decode cX9_isNear 2 = .ok (.if_icmp .eq 34, 3) := dX9_isNear_0_g.2.2.1
theorem dX9_isNear_5 : decode cX9_isNear 5 = .ok (.aload_n 0, 1) := dX9_isNear_0_g.2.2.2.1
theorem dX9_isNear_6 : decode cX9_isNear 6 = .ok (.getfield 45, 3) := dX9_isNear_0_g.2.2.2.2.1
theorem dX9_isNear_9 : decode cX9_isNear 9 = .ok (.iload_n 2, 1) := dX9_isNear_0_g.2.2.2.2.2.1
theorem dX9_isNear_10 : decode cX9_isNear 10 = .ok (.iaload, 1) := dX9_isNear_0_g.2.2.2.2.2.2.1
theorem dX9_isNear_11 : decode cX9_isNear 11 = .ok (.aload_n 0, 1) := dX9_isNear_0_g.2.2.2.2.2.2.2
theorem dX9_isNear_12_g : (decode cX9_isNear 12 = .ok (.getfield 45, 3)) ∧ (decode cX9_isNear 15 = .ok (.iload_n 1, 1)) ∧ (decode cX9_isNear 16 = .ok (.iaload, 1)) ∧ (decode cX9_isNear 17 = .ok (.aload_n 0, 1)) ∧ (decode cX9_isNear 18 = .ok (.getfield 26, 3)) ∧ (decode cX9_isNear 21 = .ok (.iconst 5, 1)) ∧ (decode cX9_isNear 22 = .ok (.iload_n 3, 1)) ∧ (decode cX9_isNear 23 = .ok (.imul, 1)) := by decide +kernel
theorem dX9_isNear_12 : decode cX9_isNear 12 = .ok (.getfield 45, 3) := dX9_isNear_12_g.1
theorem dX9_isNear_15 : decode cX9_isNear 15 = .ok (.iload_n 1, 1) := dX9_isNear_12_g.2.1
theorem dX9_isNear_16 : decode cX9_isNear 16 = .ok (.iaload, 1) := dX9_isNear_12_g.2.2.1
theorem dX9_isNear_17 : decode cX9_isNear 17 = .ok (.aload_n 0, 1) := dX9_isNear_12_g.2.2.2.1
theorem dX9_isNear_18 : decode cX9_isNear 18 = .ok (.getfield 26, 3) := dX9_isNear_12_g.2.2.2.2.1
theorem dX9_isNear_21 : decode cX9_isNear 21 = .ok (.iconst 5, 1) := dX9_isNear_12_g.2.2.2.2.2.1
theorem dX9_isNear_22 : decode cX9_isNear 22 = .ok (.iload_n 3, 1) := dX9_isNear_12_g.2.2.2.2.2.2.1
theorem dX9_isNear_23 : decode cX9_isNear 23 = .ok (.imul, 1) := dX9_isNear_12_g.2.2.2.2.2.2.2
theorem dX9_isNear_24_g : (decode cX9_isNear 24 = .ok (.iload 4, 2)) ∧ (decode cX9_isNear 26 = .ok (.iadd, 1)) ∧ (decode cX9_isNear 27 = .ok (.iaload, 1)) ∧ (decode cX9_isNear 28 = .ok (.iadd, 1)) ∧ (decode cX9_isNear 29 = .ok (.if_icmp .ne 7, 3)) ∧ (decode cX9_isNear 32 = .ok (.iconst 1, 1)) ∧ (decode cX9_isNear 33 = .ok (.goto 4, 3)) ∧ (decode cX9_isNear 36 = .ok (.iconst 0, 1)) := by decide +kernel
theorem dX9_isNear_24 : decode cX9_isNear 24 = .ok (.iload 4, 2) := dX9_isNear_24_g.1
theorem dX9_isNear_26 : decode cX9_isNear 26 = .ok (.iadd, 1) := dX9_isNear_24_g.2.1
theorem dX9_isNear_27 : decode cX9_isNear 27 = .ok (.iaload, 1) := dX9_isNear_24_g.2.2.1
theorem dX9_isNear_28 : decode cX9_isNear 28 = .ok (.iadd, 1) := dX9_isNear_24_g.2.2.2.1
theorem dX9_isNear_29 : decode cX9_isNear 29 = .ok (.if_icmp .ne 7, 3) := dX9_isNear_24_g.2.2.2.2.1
theorem dX9_isNear_32 : decode cX9_isNear 32 = .ok (.iconst 1, 1) := dX9_isNear_24_g.2.2.2.2.2.1
theorem dX9_isNear_33 : decode cX9_isNear 33 = .ok (.goto 4, 3) := dX9_isNear_24_g.2.2.2.2.2.2.1
theorem dX9_isNear_36 : decode cX9_isNear 36 = .ok (.iconst 0, 1) := dX9_isNear_24_g.2.2.2.2.2.2.2
theorem dX9_isNear_37 : decode cX9_isNear 37 = .ok (.ireturn, 1) := by decide +kernel
theorem dX9_plan_0_g : (decode cX9_plan 0 = .ok (.aload_n 0, 1)) ∧ (decode cX9_plan 1 = .ok (.iconst 0, 1)) ∧ (decode cX9_plan 2 = .ok (.putfield 133, 3)) ∧ (decode cX9_plan 5 = .ok (.aload_n 0, 1)) ∧ (decode cX9_plan 6 = .ok (.invokevirtual 215, 3)) ∧ (decode cX9_plan 9 = .ok (.ifCond .ne 9, 3)) ∧ (decode cX9_plan 12 = .ok (.aload_n 0, 1)) ∧ (decode cX9_plan 13 = .ok (.iconst 2, 1)) := by decide +kernel
theorem dX9_plan_0 : decode cX9_plan 0 = .ok (.aload_n 0, 1) := dX9_plan_0_g.1
theorem dX9_plan_1 : decode cX9_plan 1 = .ok (.iconst 0, 1) := dX9_plan_0_g.2.1
theorem dX9_plan_2 : decode cX9_plan 2 = .ok (.putfield 133, 3) := dX9_plan_0_g.2.2.1
theorem dX9_plan_5 : decode cX9_plan 5 = .ok (.aload_n 0, 1) := dX9_plan_0_g.2.2.2.1
theorem dX9_plan_6 : decode cX9_plan 6 = .ok (.invokevirtual 215, 3) := dX9_plan_0_g.2.2.2.2.1
theorem dX9_plan_9 : decode cX9_plan 9 = .ok (.ifCond .ne 9, 3) := dX9_plan_0_g.2.2.2.2.2.1
theorem dX9_plan_12 : decode cX9_plan 12 = .ok (.aload_n 0, 1) := dX9_plan_0_g.2.2.2.2.2.2.1
theorem dX9_plan_13 : decode cX9_plan 13 = .ok (.iconst 2, 1) := dX9_plan_0_g.2.2.2.2.2.2.2
theorem dX9_plan_14_g : (decode cX9_plan 14 = .ok (.invokevirtual 192, 3)) ∧ (decode cX9_plan 17 = .ok (.ireturn, 1)) ∧ (decode cX9_plan 18 = .ok (.aload_n 0, 1)) ∧ (decode cX9_plan 19 = .ok (.iconst 0, 1)) ∧ (decode cX9_plan 20 = .ok (.putfield 136, 3)) ∧ (decode cX9_plan 23 = .ok (.aload_n 0, 1)) ∧ (decode cX9_plan 24 = .ok (.invokevirtual 219, 3)) ∧ (decode cX9_plan 27 = .ok (.aload_n 0, 1)) := by decide +kernel
theorem dX9_plan_14 : decode cX9_plan 14 = .ok (.invokevirtual 192, 3) := dX9_plan_14_g.1
theorem dX9_plan_17 : decode cX9_plan 17 = .ok (.ireturn, 1) := dX9_plan_14_g.2.1
theorem dX9_plan_18 : decode cX9_plan 18 = .ok (.aload_n 0, 1) := dX9_plan_14_g.2.2.1
theorem dX9_plan_19 : decode cX9_plan 19 = .ok (.iconst 0, 1) := dX9_plan_14_g.2.2.2.1
theorem dX9_plan_20 : decode cX9_plan 20 = .ok (.putfield 136, 3) := dX9_plan_14_g.2.2.2.2.1
theorem dX9_plan_23 : decode cX9_plan 23 = .ok (.aload_n 0, 1) := dX9_plan_14_g.2.2.2.2.2.1
theorem dX9_plan_24 : decode cX9_plan 24 = .ok (.invokevirtual 219, 3) := dX9_plan_14_g.2.2.2.2.2.2.1
theorem dX9_plan_27 : decode cX9_plan 27 = .ok (.aload_n 0, 1) := dX9_plan_14_g.2.2.2.2.2.2.2
theorem dX9_plan_28_g : (decode cX9_plan 28 = .ok (.aload_n 0, 1)) ∧ (decode cX9_plan 29 = .ok (.getfield 23, 3)) ∧ (decode cX9_plan 32 = .ok (.invokevirtual 184, 3)) ∧ (decode cX9_plan 35 = .ok (.istore_n 1, 1)) ∧ (decode cX9_plan 36 = .ok (.aload_n 0, 1)) ∧ (decode cX9_plan 37 = .ok (.getfield 45, 3)) ∧ (decode cX9_plan 40 = .ok (.iload_n 1, 1)) ∧ (decode cX9_plan 41 = .ok (.iaload, 1)) := by decide +kernel
theorem dX9_plan_28 : decode cX9_plan 28 = .ok (.aload_n 0, 1) := dX9_plan_28_g.1
theorem dX9_plan_29 : decode cX9_plan 29 = .ok (.getfield 23, 3) := dX9_plan_28_g.2.1
theorem dX9_plan_32 : decode cX9_plan 32 = .ok (.invokevirtual 184, 3) := dX9_plan_28_g.2.2.1
theorem dX9_plan_35 : decode cX9_plan 35 = .ok (.istore_n 1, 1) := dX9_plan_28_g.2.2.2.1
theorem dX9_plan_36 : decode cX9_plan 36 = .ok (.aload_n 0, 1) := dX9_plan_28_g.2.2.2.2.1
theorem dX9_plan_37 : decode cX9_plan 37 = .ok (.getfield 45, 3) := dX9_plan_28_g.2.2.2.2.2.1
theorem dX9_plan_40 : decode cX9_plan 40 = .ok (.iload_n 1, 1) := dX9_plan_28_g.2.2.2.2.2.2.1
theorem dX9_plan_41 : decode cX9_plan 41 = .ok (.iaload, 1) := dX9_plan_28_g.2.2.2.2.2.2.2
theorem dX9_plan_42_g : (decode cX9_plan 42 = .ok (.ldc 199, 2)) ∧ (decode cX9_plan 44 = .ok (.if_icmp .ne 6, 3)) ∧ (decode cX9_plan 47 = .ok (.bipush (-2), 2)) ∧ (decode cX9_plan 49 = .ok (.ireturn, 1)) ∧ (decode cX9_plan 50 = .ok (.aload_n 0, 1)) ∧ (decode cX9_plan 51 = .ok (.getfield 200, 3)) ∧ (decode cX9_plan 54 = .ok (.iconst 1, 1)) ∧ (decode cX9_plan 55 = .ok (.isub, 1)) := by decide +kernel
theorem dX9_plan_42 : decode cX9_plan 42 = .ok (.ldc 199, 2) := dX9_plan_42_g.1
theorem dX9_plan_44 : decode cX9_plan 44 = .ok (.if_icmp .ne 6, 3) := dX9_plan_42_g.2.1
theorem dX9_plan_47 : decode cX9_plan 47 = .ok (.bipush (-2), 2) := dX9_plan_42_g.2.2.1
theorem dX9_plan_49 : decode cX9_plan 49 = .ok (.ireturn, 1) := dX9_plan_42_g.2.2.2.1
theorem dX9_plan_50 : decode cX9_plan 50 = .ok (.aload_n 0, 1) := dX9_plan_42_g.2.2.2.2.1
theorem dX9_plan_51 : decode cX9_plan 51 = .ok (.getfield 200, 3) := dX9_plan_42_g.2.2.2.2.2.1
theorem dX9_plan_54 : decode cX9_plan 54 = .ok (.iconst 1, 1) := dX9_plan_42_g.2.2.2.2.2.2.1
theorem dX9_plan_55 : decode cX9_plan 55 = .ok (.isub, 1) := dX9_plan_42_g.2.2.2.2.2.2.2
theorem dX9_plan_56_g : (decode cX9_plan 56 = .ok (.istore_n 2, 1)) ∧ (decode cX9_plan 57 = .ok (.iload_n 2, 1)) ∧ (decode cX9_plan 58 = .ok (.ifCond .lt 118, 3)) ∧ (decode cX9_plan 61 = .ok (.aload_n 0, 1)) ∧ (decode cX9_plan 62 = .ok (.getfield 57, 3)) ∧ (decode cX9_plan 65 = .ok (.iload_n 2, 1)) ∧ (decode cX9_plan 66 = .ok (.iaload, 1)) ∧ (decode cX9_plan 67 = .ok (.istore_n 3, 1)) := by decide +kernel
theorem dX9_plan_56 : decode cX9_plan 56 = .ok (.istore_n 2, 1) := dX9_plan_56_g.1
theorem dX9_plan_57 : decode cX9_plan 57 = .ok (.iload_n 2, 1) := dX9_plan_56_g.2.1
theorem dX9_plan_58 : decode cX9_plan 58 = .ok (.ifCond .lt 118, 3) := dX9_plan_56_g.2.2.1
theorem dX9_plan_61 : decode cX9_plan 61 = .ok (.aload_n 0, 1) := dX9_plan_56_g.2.2.2.1
theorem dX9_plan_62 : decode cX9_plan 62 = .ok (.getfield 57, 3) := dX9_plan_56_g.2.2.2.2.1
theorem dX9_plan_65 : decode cX9_plan 65 = .ok (.iload_n 2, 1) := dX9_plan_56_g.2.2.2.2.2.1
theorem dX9_plan_66 : decode cX9_plan 66 = .ok (.iaload, 1) := dX9_plan_56_g.2.2.2.2.2.2.1
theorem dX9_plan_67 : decode cX9_plan 67 = .ok (.istore_n 3, 1) := dX9_plan_56_g.2.2.2.2.2.2.2
theorem dX9_plan_68_g : (decode cX9_plan 68 = .ok (.aload_n 0, 1)) ∧ (decode cX9_plan 69 = .ok (.getfield 64, 3)) ∧ (decode cX9_plan 72 = .ok (.iload_n 3, 1)) ∧ (decode cX9_plan 73 = .ok (.iload_n 3, 1)) ∧ (decode cX9_plan 74 = .ok (.iload_n 1, 1)) ∧ (decode cX9_plan 75 = .ok (.if_icmp .ne 7, 3)) ∧ (decode cX9_plan 78 = .ok (.iconst 1, 1)) ∧ (decode cX9_plan 79 = .ok (.goto 4, 3)) := by decide +kernel
theorem dX9_plan_68 : decode cX9_plan 68 = .ok (.aload_n 0, 1) := dX9_plan_68_g.1
theorem dX9_plan_69 : decode cX9_plan 69 = .ok (.getfield 64, 3) := dX9_plan_68_g.2.1
theorem dX9_plan_72 : decode cX9_plan 72 = .ok (.iload_n 3, 1) := dX9_plan_68_g.2.2.1
theorem dX9_plan_73 : decode cX9_plan 73 = .ok (.iload_n 3, 1) := dX9_plan_68_g.2.2.2.1
theorem dX9_plan_74 : decode cX9_plan 74 = .ok (.iload_n 1, 1) := dX9_plan_68_g.2.2.2.2.1
theorem dX9_plan_75 : decode cX9_plan 75 = .ok (.if_icmp .ne 7, 3) := dX9_plan_68_g.2.2.2.2.2.1
theorem dX9_plan_78 : decode cX9_plan 78 = .ok (.iconst 1, 1) := dX9_plan_68_g.2.2.2.2.2.2.1
theorem dX9_plan_79 : decode cX9_plan 79 = .ok (.goto 4, 3) := dX9_plan_68_g.2.2.2.2.2.2.2
theorem dX9_plan_82_g : (decode cX9_plan 82 = .ok (.iconst 0, 1)) ∧ (decode cX9_plan 83 = .ok (.bastore, 1)) ∧ (decode cX9_plan 84 = .ok (.aload_n 0, 1)) ∧ (decode cX9_plan 85 = .ok (.iload_n 3, 1)) ∧ (decode cX9_plan 86 = .ok (.aload_n 0, 1)) ∧ (decode cX9_plan 87 = .ok (.getfield 39, 3)) ∧ (decode cX9_plan 90 = .ok (.invokevirtual 180, 3)) ∧ (decode cX9_plan 93 = .ok (.iconst 0, 1)) := by decide +kernel
theorem dX9_plan_82 : decode cX9_plan 82 = .ok (.iconst 0, 1) := dX9_plan_82_g.1
theorem dX9_plan_83 : decode cX9_plan 83 = .ok (.bastore, 1) := dX9_plan_82_g.2.1
theorem dX9_plan_84 : decode cX9_plan 84 = .ok (.aload_n 0, 1) := dX9_plan_82_g.2.2.1
theorem dX9_plan_85 : decode cX9_plan 85 = .ok (.iload_n 3, 1) := dX9_plan_82_g.2.2.2.1
theorem dX9_plan_86 : decode cX9_plan 86 = .ok (.aload_n 0, 1) := dX9_plan_82_g.2.2.2.2.1
theorem dX9_plan_87 : decode cX9_plan 87 = .ok (.getfield 39, 3) := dX9_plan_82_g.2.2.2.2.2.1
theorem dX9_plan_90 : decode cX9_plan 90 = .ok (.invokevirtual 180, 3) := dX9_plan_82_g.2.2.2.2.2.2.1
theorem dX9_plan_93 : decode cX9_plan 93 = .ok (.iconst 0, 1) := dX9_plan_82_g.2.2.2.2.2.2.2
theorem dX9_plan_94_g : (decode cX9_plan 94 = .ok (.istore 4, 2)) ∧ (decode cX9_plan 96 = .ok (.iload 4, 2)) ∧ (decode cX9_plan 98 = .ok (.aload_n 0, 1)) ∧ (decode cX9_plan 99 = .ok (.getfield 7, 3)) ∧ (decode cX9_plan 102 = .ok (.if_icmp .ge 68, 3)) ∧ (decode cX9_plan 105 = .ok (.iconst 0, 1)) ∧ (decode cX9_plan 106 = .ok (.istore 5, 2)) ∧ (decode cX9_plan 108 = .ok (.iload 5, 2)) := by decide +kernel
theorem dX9_plan_94 : decode cX9_plan 94 = .ok (.istore 4, 2) := dX9_plan_94_g.1
theorem dX9_plan_96 : decode cX9_plan 96 = .ok (.iload 4, 2) := dX9_plan_94_g.2.1
theorem dX9_plan_98 : decode cX9_plan 98 = .ok (.aload_n 0, 1) := dX9_plan_94_g.2.2.1
theorem dX9_plan_99 : decode cX9_plan 99 = .ok (.getfield 7, 3) := dX9_plan_94_g.2.2.2.1
theorem dX9_plan_102 : decode cX9_plan 102 = .ok (.if_icmp .ge 68, 3) := dX9_plan_94_g.2.2.2.2.1
theorem dX9_plan_105 : decode cX9_plan 105 = .ok (.iconst 0, 1) := dX9_plan_94_g.2.2.2.2.2.1
theorem dX9_plan_106 : decode cX9_plan 106 = .ok (.istore 5, 2) := dX9_plan_94_g.2.2.2.2.2.2.1
theorem dX9_plan_108 : decode cX9_plan 108 = .ok (.iload 5, 2) := dX9_plan_94_g.2.2.2.2.2.2.2
theorem dX9_plan_110_g : (decode cX9_plan 110 = .ok (.aload_n 0, 1)) ∧ (decode cX9_plan 111 = .ok (.getfield 7, 3)) ∧ (decode cX9_plan 114 = .ok (.if_icmp .ge 50, 3)) ∧ (decode cX9_plan 117 = .ok (.aload_n 0, 1)) ∧ (decode cX9_plan 118 = .ok (.iload 4, 2)) ∧ (decode cX9_plan 120 = .ok (.iload 5, 2)) ∧ (decode cX9_plan 122 = .ok (.invokevirtual 211, 3)) ∧ (decode cX9_plan 125 = .ok (.istore 6, 2)) := by decide +kernel
theorem dX9_plan_110 : decode cX9_plan 110 = .ok (.aload_n 0, 1) := dX9_plan_110_g.1
theorem dX9_plan_111 : decode cX9_plan 111 = .ok (.getfield 7, 3) := dX9_plan_110_g.2.1
theorem dX9_plan_114 : decode cX9_plan 114 = .ok (.if_icmp .ge 50, 3) := dX9_plan_110_g.2.2.1
theorem dX9_plan_117 : decode cX9_plan 117 = .ok (.aload_n 0, 1) := dX9_plan_110_g.2.2.2.1
theorem dX9_plan_118 : decode cX9_plan 118 = .ok (.iload 4, 2) := dX9_plan_110_g.2.2.2.2.1
theorem dX9_plan_120 : decode cX9_plan 120 = .ok (.iload 5, 2) := dX9_plan_110_g.2.2.2.2.2.1
theorem dX9_plan_122 : decode cX9_plan 122 = .ok (.invokevirtual 211, 3) := dX9_plan_110_g.2.2.2.2.2.2.1
theorem dX9_plan_125 : decode cX9_plan 125 = .ok (.istore 6, 2) := dX9_plan_110_g.2.2.2.2.2.2.2
theorem dX9_plan_127_g : (decode cX9_plan 127 = .ok (.aload_n 0, 1)) ∧ (decode cX9_plan 128 = .ok (.iload_n 3, 1)) ∧ (decode cX9_plan 129 = .ok (.iload 6, 2)) ∧ (decode cX9_plan 131 = .ok (.iload 4, 2)) ∧ (decode cX9_plan 133 = .ok (.iload 5, 2)) ∧ (decode cX9_plan 135 = .ok (.invokevirtual 222, 3)) ∧ (decode cX9_plan 138 = .ok (.ifCond .eq 20, 3)) ∧ (decode cX9_plan 141 = .ok (.aload_n 0, 1)) := by decide +kernel
theorem dX9_plan_127 : decode cX9_plan 127 = .ok (.aload_n 0, 1) := dX9_plan_127_g.1
theorem dX9_plan_128 : decode cX9_plan 128 = .ok (.iload_n 3, 1) := dX9_plan_127_g.2.1
theorem dX9_plan_129 : decode cX9_plan 129 = .ok (.iload 6, 2) := dX9_plan_127_g.2.2.1
theorem dX9_plan_131 : decode cX9_plan 131 = .ok (.iload 4, 2) := dX9_plan_127_g.2.2.2.1
theorem dX9_plan_133 : decode cX9_plan 133 = .ok (.iload 5, 2) := dX9_plan_127_g.2.2.2.2.1
theorem dX9_plan_135 : decode cX9_plan 135 = .ok (.invokevirtual 222, 3) := dX9_plan_127_g.2.2.2.2.2.1
theorem dX9_plan_138 : decode cX9_plan 138 = .ok (.ifCond .eq 20, 3) := dX9_plan_127_g.2.2.2.2.2.2.1
theorem dX9_plan_141 : decode cX9_plan 141 = .ok (.aload_n 0, 1) := dX9_plan_127_g.2.2.2.2.2.2.2
theorem dX9_plan_142_g : (decode cX9_plan 142 = .ok (.getfield 64, 3)) ∧ (decode cX9_plan 145 = .ok (.iload 6, 2)) ∧ (decode cX9_plan 147 = .ok (.baload, 1)) ∧ (decode cX9_plan 148 = .ok (.ifCond .eq 10, 3)) ∧ (decode cX9_plan 151 = .ok (.aload_n 0, 1)) ∧ (decode cX9_plan 152 = .ok (.getfield 64, 3)) ∧ (decode cX9_plan 155 = .ok (.iload_n 3, 1)) ∧ (decode cX9_plan 156 = .ok (.iconst 1, 1)) := by decide +kernel
theorem dX9_plan_142 : decode cX9_plan 142 = .ok (.getfield 64, 3) := dX9_plan_142_g.1
theorem dX9_plan_145 : decode cX9_plan 145 = .ok (.iload 6, 2) := dX9_plan_142_g.2.1
theorem dX9_plan_147 : decode cX9_plan 147 = .ok (.baload, 1) := dX9_plan_142_g.2.2.1
theorem dX9_plan_148 : decode cX9_plan 148 = .ok (.ifCond .eq 10, 3) := dX9_plan_142_g.2.2.2.1
theorem dX9_plan_151 : decode cX9_plan 151 = .ok (.aload_n 0, 1) := dX9_plan_142_g.2.2.2.2.1
theorem dX9_plan_152 : decode cX9_plan 152 = .ok (.getfield 64, 3) := dX9_plan_142_g.2.2.2.2.2.1
theorem dX9_plan_155 : decode cX9_plan 155 = .ok (.iload_n 3, 1) := dX9_plan_142_g.2.2.2.2.2.2.1
theorem dX9_plan_156 : decode cX9_plan 156 = .ok (.iconst 1, 1) := dX9_plan_142_g.2.2.2.2.2.2.2
theorem dX9_plan_157_g : (decode cX9_plan 157 = .ok (.bastore, 1)) ∧ (decode cX9_plan 158 = .ok (.iinc 5 1, 3)) ∧ (decode cX9_plan 161 = .ok (.goto (-53), 3)) ∧ (decode cX9_plan 164 = .ok (.iinc 4 1, 3)) ∧ (decode cX9_plan 167 = .ok (.goto (-71), 3)) ∧ (decode cX9_plan 170 = .ok (.iinc 2 (-1), 3)) ∧ (decode cX9_plan 173 = .ok (.goto (-116), 3)) ∧ (decode cX9_plan 176 = .ok (.aload_n 0, 1)) := by decide +kernel
theorem dX9_plan_157 : decode cX9_plan 157 = .ok (.bastore, 1) := dX9_plan_157_g.1
theorem dX9_plan_158 : decode cX9_plan 158 = .ok (.iinc 5 1, 3) := dX9_plan_157_g.2.1
theorem dX9_plan_161 : decode cX9_plan 161 = .ok (.goto (-53), 3) := dX9_plan_157_g.2.2.1
theorem dX9_plan_164 : decode cX9_plan 164 = .ok (.iinc 4 1, 3) := dX9_plan_157_g.2.2.2.1
theorem dX9_plan_167 : decode cX9_plan 167 = .ok (.goto (-71), 3) := dX9_plan_157_g.2.2.2.2.1
theorem dX9_plan_170 : decode cX9_plan 170 = .ok (.iinc 2 (-1), 3) := dX9_plan_157_g.2.2.2.2.2.1
theorem dX9_plan_173 : decode cX9_plan 173 = .ok (.goto (-116), 3) := dX9_plan_157_g.2.2.2.2.2.2.1
theorem dX9_plan_176 : decode cX9_plan 176 = .ok (.aload_n 0, 1) := dX9_plan_157_g.2.2.2.2.2.2.2
theorem dX9_plan_177_g : (decode cX9_plan 177 = .ok (.iconst 0, 1)) ∧ (decode cX9_plan 178 = .ok (.putfield 226, 3)) ∧ (decode cX9_plan 181 = .ok (.aload_n 0, 1)) ∧ (decode cX9_plan 182 = .ok (.aload_n 0, 1)) ∧ (decode cX9_plan 183 = .ok (.getfield 20, 3)) ∧ (decode cX9_plan 186 = .ok (.invokevirtual 184, 3)) ∧ (decode cX9_plan 189 = .ok (.istore_n 2, 1)) ∧ (decode cX9_plan 190 = .ok (.iload_n 2, 1)) := by decide +kernel
theorem dX9_plan_177 : decode cX9_plan 177 = .ok (.iconst 0, 1) := dX9_plan_177_g.1
theorem dX9_plan_178 : decode cX9_plan 178 = .ok (.putfield 226, 3) := dX9_plan_177_g.2.1
theorem dX9_plan_181 : decode cX9_plan 181 = .ok (.aload_n 0, 1) := dX9_plan_177_g.2.2.1
theorem dX9_plan_182 : decode cX9_plan 182 = .ok (.aload_n 0, 1) := dX9_plan_177_g.2.2.2.1
theorem dX9_plan_183 : decode cX9_plan 183 = .ok (.getfield 20, 3) := dX9_plan_177_g.2.2.2.2.1
theorem dX9_plan_186 : decode cX9_plan 186 = .ok (.invokevirtual 184, 3) := dX9_plan_177_g.2.2.2.2.2.1
theorem dX9_plan_189 : decode cX9_plan 189 = .ok (.istore_n 2, 1) := dX9_plan_177_g.2.2.2.2.2.2.1
theorem dX9_plan_190 : decode cX9_plan 190 = .ok (.iload_n 2, 1) := dX9_plan_177_g.2.2.2.2.2.2.2
theorem dX9_plan_191_g : (decode cX9_plan 191 = .ok (.iload_n 1, 1)) ∧ (decode cX9_plan 192 = .ok (.if_icmp .eq 132, 3)) ∧ (decode cX9_plan 195 = .ok (.aload_n 0, 1)) ∧ (decode cX9_plan 196 = .ok (.iload_n 2, 1)) ∧ (decode cX9_plan 197 = .ok (.aload_n 0, 1)) ∧ (decode cX9_plan 198 = .ok (.getfield 39, 3)) ∧ (decode cX9_plan 201 = .ok (.invokevirtual 180, 3)) ∧ (decode cX9_plan 204 = .ok (.iconst (-1), 1)) := by decide +kernel
theorem dX9_plan_191 : decode cX9_plan 191 = .ok (.iload_n 1, 1) := dX9_plan_191_g.1
theorem dX9_plan_192 : decode cX9_plan 192 = .ok (.if_icmp .eq 132, 3) := dX9_plan_191_g.2.1
theorem dX9_plan_195 : decode cX9_plan 195 = .ok (.aload_n 0, 1) := dX9_plan_191_g.2.2.1
theorem dX9_plan_196 : decode cX9_plan 196 = .ok (.iload_n 2, 1) := dX9_plan_191_g.2.2.2.1
theorem dX9_plan_197 : decode cX9_plan 197 = .ok (.aload_n 0, 1) := dX9_plan_191_g.2.2.2.2.1
theorem dX9_plan_198 : decode cX9_plan 198 = .ok (.getfield 39, 3) := dX9_plan_191_g.2.2.2.2.2.1
theorem dX9_plan_201 : decode cX9_plan 201 = .ok (.invokevirtual 180, 3) := dX9_plan_191_g.2.2.2.2.2.2.1
theorem dX9_plan_204 : decode cX9_plan 204 = .ok (.iconst (-1), 1) := dX9_plan_191_g.2.2.2.2.2.2.2
theorem dX9_plan_205_g : (decode cX9_plan 205 = .ok (.istore_n 3, 1)) ∧ (decode cX9_plan 206 = .ok (.iconst 0, 1)) ∧ (decode cX9_plan 207 = .ok (.istore 4, 2)) ∧ (decode cX9_plan 209 = .ok (.iload 4, 2)) ∧ (decode cX9_plan 211 = .ok (.aload_n 0, 1)) ∧ (decode cX9_plan 212 = .ok (.getfield 7, 3)) ∧ (decode cX9_plan 215 = .ok (.if_icmp .ge 104, 3)) ∧ (decode cX9_plan 218 = .ok (.iload_n 3, 1)) := by decide +kernel
theorem dX9_plan_205 : decode cX9_plan 205 = .ok (.istore_n 3, 1) := dX9_plan_205_g.1
theorem dX9_plan_206 : decode cX9_plan 206 = .ok (.iconst 0, 1) := dX9_plan_205_g.2.1
theorem dX9_plan_207 : decode cX9_plan 207 = .ok (.istore 4, 2) := dX9_plan_205_g.2.2.1
theorem dX9_plan_209 : decode cX9_plan 209 = .ok (.iload 4, 2) := dX9_plan_205_g.2.2.2.1
theorem dX9_plan_211 : decode cX9_plan 211 = .ok (.aload_n 0, 1) := dX9_plan_205_g.2.2.2.2.1
theorem dX9_plan_212 : decode cX9_plan 212 = .ok (.getfield 7, 3) := dX9_plan_205_g.2.2.2.2.2.1
theorem dX9_plan_215 : decode cX9_plan 215 = .ok (.if_icmp .ge 104, 3) := dX9_plan_205_g.2.2.2.2.2.2.1
theorem dX9_plan_218 : decode cX9_plan 218 = .ok (.iload_n 3, 1) := dX9_plan_205_g.2.2.2.2.2.2.2
theorem dX9_plan_219_g : (decode cX9_plan 219 = .ok (.iconst (-1), 1)) ∧ (decode cX9_plan 220 = .ok (.if_icmp .ne 99, 3)) ∧ (decode cX9_plan 223 = .ok (.iconst 0, 1)) ∧ (decode cX9_plan 224 = .ok (.istore 5, 2)) ∧ (decode cX9_plan 226 = .ok (.iload 5, 2)) ∧ (decode cX9_plan 228 = .ok (.aload_n 0, 1)) ∧ (decode cX9_plan 229 = .ok (.getfield 7, 3)) ∧ (decode cX9_plan 232 = .ok (.if_icmp .ge 81, 3)) := by decide +kernel
theorem dX9_plan_219 : decode cX9_plan 219 = .ok (.iconst (-1), 1) := dX9_plan_219_g.1
theorem dX9_plan_220 : decode cX9_plan 220 = .ok (.if_icmp .ne 99, 3) := dX9_plan_219_g.2.1
theorem dX9_plan_223 : decode cX9_plan 223 = .ok (.iconst 0, 1) := dX9_plan_219_g.2.2.1
theorem dX9_plan_224 : decode cX9_plan 224 = .ok (.istore 5, 2) := dX9_plan_219_g.2.2.2.1
theorem dX9_plan_226 : decode cX9_plan 226 = .ok (.iload 5, 2) := dX9_plan_219_g.2.2.2.2.1
theorem dX9_plan_228 : decode cX9_plan 228 = .ok (.aload_n 0, 1) := dX9_plan_219_g.2.2.2.2.2.1
theorem dX9_plan_229 : decode cX9_plan 229 = .ok (.getfield 7, 3) := dX9_plan_219_g.2.2.2.2.2.2.1
theorem dX9_plan_232 : decode cX9_plan 232 = .ok (.if_icmp .ge 81, 3) := dX9_plan_219_g.2.2.2.2.2.2.2
theorem dX9_plan_235_g : (decode cX9_plan 235 = .ok (.iload_n 3, 1)) ∧ (decode cX9_plan 236 = .ok (.iconst (-1), 1)) ∧ (decode cX9_plan 237 = .ok (.if_icmp .ne 76, 3)) ∧ (decode cX9_plan 240 = .ok (.aload_n 0, 1)) ∧ (decode cX9_plan 241 = .ok (.iload 4, 2)) ∧ (decode cX9_plan 243 = .ok (.iload 5, 2)) ∧ (decode cX9_plan 245 = .ok (.invokevirtual 211, 3)) ∧ (decode cX9_plan 248 = .ok (.istore 6, 2)) := by decide +kernel
theorem dX9_plan_235 : decode cX9_plan 235 = .ok (.iload_n 3, 1) := dX9_plan_235_g.1
theorem dX9_plan_236 : decode cX9_plan 236 = .ok (.iconst (-1), 1) := dX9_plan_235_g.2.1
theorem dX9_plan_237 : decode cX9_plan 237 = .ok (.if_icmp .ne 76, 3) := dX9_plan_235_g.2.2.1
theorem dX9_plan_240 : decode cX9_plan 240 = .ok (.aload_n 0, 1) := dX9_plan_235_g.2.2.2.1
theorem dX9_plan_241 : decode cX9_plan 241 = .ok (.iload 4, 2) := dX9_plan_235_g.2.2.2.2.1
theorem dX9_plan_243 : decode cX9_plan 243 = .ok (.iload 5, 2) := dX9_plan_235_g.2.2.2.2.2.1
theorem dX9_plan_245 : decode cX9_plan 245 = .ok (.invokevirtual 211, 3) := dX9_plan_235_g.2.2.2.2.2.2.1
theorem dX9_plan_248 : decode cX9_plan 248 = .ok (.istore 6, 2) := dX9_plan_235_g.2.2.2.2.2.2.2
theorem dX9_plan_250_g : (decode cX9_plan 250 = .ok (.aload_n 0, 1)) ∧ (decode cX9_plan 251 = .ok (.iload_n 2, 1)) ∧ (decode cX9_plan 252 = .ok (.iload 6, 2)) ∧ (decode cX9_plan 254 = .ok (.iload 4, 2)) ∧ (decode cX9_plan 256 = .ok (.iload 5, 2)) ∧ (decode cX9_plan 258 = .ok (.invokevirtual 222, 3)) ∧ (decode cX9_plan 261 = .ok (.ifCond .eq 46, 3)) ∧ (decode cX9_plan 264 = .ok (.aload_n 0, 1)) := by decide +kernel
theorem dX9_plan_250 : decode cX9_plan 250 = .ok (.aload_n 0, 1) := dX9_plan_250_g.1
theorem dX9_plan_251 : decode cX9_plan 251 = .ok (.iload_n 2, 1) := dX9_plan_250_g.2.1
theorem dX9_plan_252 : decode cX9_plan 252 = .ok (.iload 6, 2) := dX9_plan_250_g.2.2.1
theorem dX9_plan_254 : decode cX9_plan 254 = .ok (.iload 4, 2) := dX9_plan_250_g.2.2.2.1
theorem dX9_plan_256 : decode cX9_plan 256 = .ok (.iload 5, 2) := dX9_plan_250_g.2.2.2.2.1
theorem dX9_plan_258 : decode cX9_plan 258 = .ok (.invokevirtual 222, 3) := dX9_plan_250_g.2.2.2.2.2.1
theorem dX9_plan_261 : decode cX9_plan 261 = .ok (.ifCond .eq 46, 3) := dX9_plan_250_g.2.2.2.2.2.2.1
theorem dX9_plan_264 : decode cX9_plan 264 = .ok (.aload_n 0, 1) := dX9_plan_250_g.2.2.2.2.2.2.2
theorem dX9_plan_265_g : (decode cX9_plan 265 = .ok (.getfield 64, 3)) ∧ (decode cX9_plan 268 = .ok (.iload 6, 2)) ∧ (decode cX9_plan 270 = .ok (.baload, 1)) ∧ (decode cX9_plan 271 = .ok (.ifCond .ne 6, 3)) ∧ (decode cX9_plan 274 = .ok (.goto 33, 3)) ∧ (decode cX9_plan 277 = .ok (.iload 6, 2)) ∧ (decode cX9_plan 279 = .ok (.istore_n 3, 1)) ∧ (decode cX9_plan 280 = .ok (.aload_n 0, 1)) := by decide +kernel
theorem dX9_plan_265 : decode cX9_plan 265 = .ok (.getfield 64, 3) := dX9_plan_265_g.1
theorem dX9_plan_268 : decode cX9_plan 268 = .ok (.iload 6, 2) := dX9_plan_265_g.2.1
theorem dX9_plan_270 : decode cX9_plan 270 = .ok (.baload, 1) := dX9_plan_265_g.2.2.1
theorem dX9_plan_271 : decode cX9_plan 271 = .ok (.ifCond .ne 6, 3) := dX9_plan_265_g.2.2.2.1
theorem dX9_plan_274 : decode cX9_plan 274 = .ok (.goto 33, 3) := dX9_plan_265_g.2.2.2.2.1
theorem dX9_plan_277 : decode cX9_plan 277 = .ok (.iload 6, 2) := dX9_plan_265_g.2.2.2.2.2.1
theorem dX9_plan_279 : decode cX9_plan 279 = .ok (.istore_n 3, 1) := dX9_plan_265_g.2.2.2.2.2.2.1
theorem dX9_plan_280 : decode cX9_plan 280 = .ok (.aload_n 0, 1) := dX9_plan_265_g.2.2.2.2.2.2.2
theorem dX9_plan_281_g : (decode cX9_plan 281 = .ok (.getfield 36, 3)) ∧ (decode cX9_plan 284 = .ok (.aload_n 0, 1)) ∧ (decode cX9_plan 285 = .ok (.getfield 226, 3)) ∧ (decode cX9_plan 288 = .ok (.bipush 10, 2)) ∧ (decode cX9_plan 290 = .ok (.iload 4, 2)) ∧ (decode cX9_plan 292 = .ok (.imul, 1)) ∧ (decode cX9_plan 293 = .ok (.iload 5, 2)) ∧ (decode cX9_plan 295 = .ok (.iadd, 1)) := by decide +kernel
theorem dX9_plan_281 : decode cX9_plan 281 = .ok (.getfield 36, 3) := dX9_plan_281_g.1
theorem dX9_plan_284 : decode cX9_plan 284 = .ok (.aload_n 0, 1) := dX9_plan_281_g.2.1
theorem dX9_plan_285 : decode cX9_plan 285 = .ok (.getfield 226, 3) := dX9_plan_281_g.2.2.1
theorem dX9_plan_288 : decode cX9_plan 288 = .ok (.bipush 10, 2) := dX9_plan_281_g.2.2.2.1
theorem dX9_plan_290 : decode cX9_plan 290 = .ok (.iload 4, 2) := dX9_plan_281_g.2.2.2.2.1
theorem dX9_plan_292 : decode cX9_plan 292 = .ok (.imul, 1) := dX9_plan_281_g.2.2.2.2.2.1
theorem dX9_plan_293 : decode cX9_plan 293 = .ok (.iload 5, 2) := dX9_plan_281_g.2.2.2.2.2.2.1
theorem dX9_plan_295 : decode cX9_plan 295 = .ok (.iadd, 1) := dX9_plan_281_g.2.2.2.2.2.2.2
theorem dX9_plan_296_g : (decode cX9_plan 296 = .ok (.iastore, 1)) ∧ (decode cX9_plan 297 = .ok (.aload_n 0, 1)) ∧ (decode cX9_plan 298 = .ok (.dup, 1)) ∧ (decode cX9_plan 299 = .ok (.getfield 226, 3)) ∧ (decode cX9_plan 302 = .ok (.iconst 1, 1)) ∧ (decode cX9_plan 303 = .ok (.iadd, 1)) ∧ (decode cX9_plan 304 = .ok (.putfield 226, 3)) ∧ (decode cX9_plan 307 = .ok (.iinc 5 1, 3)) := by decide +kernel
theorem dX9_plan_296 : decode cX9_plan 296 = .ok (.iastore, 1) := dX9_plan_296_g.1
theorem dX9_plan_297 : decode cX9_plan 297 = .ok (.aload_n 0, 1) := dX9_plan_296_g.2.1
theorem dX9_plan_298 : decode cX9_plan 298 = .ok (.dup, 1) := dX9_plan_296_g.2.2.1
theorem dX9_plan_299 : decode cX9_plan 299 = .ok (.getfield 226, 3) := dX9_plan_296_g.2.2.2.1
theorem dX9_plan_302 : decode cX9_plan 302 = .ok (.iconst 1, 1) := dX9_plan_296_g.2.2.2.2.1
theorem dX9_plan_303 : decode cX9_plan 303 = .ok (.iadd, 1) := dX9_plan_296_g.2.2.2.2.2.1
theorem dX9_plan_304 : decode cX9_plan 304 = .ok (.putfield 226, 3) := dX9_plan_296_g.2.2.2.2.2.2.1
theorem dX9_plan_307 : decode cX9_plan 307 = .ok (.iinc 5 1, 3) := dX9_plan_296_g.2.2.2.2.2.2.2
theorem dX9_plan_310_g : (decode cX9_plan 310 = .ok (.goto (-84), 3)) ∧ (decode cX9_plan 313 = .ok (.iinc 4 1, 3)) ∧ (decode cX9_plan 316 = .ok (.goto (-107), 3)) ∧ (decode cX9_plan 319 = .ok (.iload_n 3, 1)) ∧ (decode cX9_plan 320 = .ok (.istore_n 2, 1)) ∧ (decode cX9_plan 321 = .ok (.goto (-131), 3)) ∧ (decode cX9_plan 324 = .ok (.aload_n 0, 1)) ∧ (decode cX9_plan 325 = .ok (.getfield 226, 3)) := by decide +kernel
theorem dX9_plan_310 : decode cX9_plan 310 = .ok (.goto (-84), 3) := dX9_plan_310_g.1
theorem dX9_plan_313 : decode cX9_plan 313 = .ok (.iinc 4 1, 3) := dX9_plan_310_g.2.1
theorem dX9_plan_316 : decode cX9_plan 316 = .ok (.goto (-107), 3) := dX9_plan_310_g.2.2.1
theorem dX9_plan_319 : decode cX9_plan 319 = .ok (.iload_n 3, 1) := dX9_plan_310_g.2.2.2.1
theorem dX9_plan_320 : decode cX9_plan 320 = .ok (.istore_n 2, 1) := dX9_plan_310_g.2.2.2.2.1
theorem dX9_plan_321 : decode cX9_plan 321 = .ok (.goto (-131), 3) := dX9_plan_310_g.2.2.2.2.2.1
theorem dX9_plan_324 : decode cX9_plan 324 = .ok (.aload_n 0, 1) := dX9_plan_310_g.2.2.2.2.2.2.1
theorem dX9_plan_325 : decode cX9_plan 325 = .ok (.getfield 226, 3) := dX9_plan_310_g.2.2.2.2.2.2.2
theorem dX9_plan_328 : decode cX9_plan 328 = .ok (.ireturn, 1) := by decide +kernel
theorem dX9_planned_0_g : (decode cX9_planned 0 = .ok (.aload_n 0, 1)) ∧ (decode cX9_planned 1 = .ok (.iconst 0, 1)) ∧ (decode cX9_planned 2 = .ok (.putfield 133, 3)) ∧ (decode cX9_planned 5 = .ok (.aload_n 0, 1)) ∧ (decode cX9_planned 6 = .ok (.iload_n 1, 1)) ∧ (decode cX9_planned 7 = .ok (.iconst 0, 1)) ∧ (decode cX9_planned 8 = .ok (.aload_n 0, 1)) ∧ (decode cX9_planned 9 = .ok (.getfield 226, 3)) := by decide +kernel
theorem dX9_planned_0 : decode cX9_planned 0 = .ok (.aload_n 0, 1) := dX9_planned_0_g.1
theorem dX9_planned_1 : decode cX9_planned 1 = .ok (.iconst 0, 1) := dX9_planned_0_g.2.1
theorem dX9_planned_2 : decode cX9_planned 2 = .ok (.putfield 133, 3) := dX9_planned_0_g.2.2.1
theorem dX9_planned_5 : decode cX9_planned 5 = .ok (.aload_n 0, 1) := dX9_planned_0_g.2.2.2.1
theorem dX9_planned_6 : decode cX9_planned 6 = .ok (.iload_n 1, 1) := dX9_planned_0_g.2.2.2.2.1
theorem dX9_planned_7 : decode cX9_planned 7 = .ok (.iconst 0, 1) := dX9_planned_0_g.2.2.2.2.2.1
theorem dX9_planned_8 : decode cX9_planned 8 = .ok (.aload_n 0, 1) := dX9_planned_0_g.2.2.2.2.2.2.1
theorem dX9_planned_9 : decode cX9_planned 9 = .ok (.getfield 226, 3) := dX9_planned_0_g.2.2.2.2.2.2.2
theorem dX9_planned_12_g : (decode cX9_planned 12 = .ok (.iconst 1, 1)) ∧ (decode cX9_planned 13 = .ok (.isub, 1)) ∧ (decode cX9_planned 14 = .ok (.invokevirtual 139, 3)) ∧ (decode cX9_planned 17 = .ok (.ifCond .eq 12, 3)) ∧ (decode cX9_planned 20 = .ok (.aload_n 0, 1)) ∧ (decode cX9_planned 21 = .ok (.getfield 36, 3)) ∧ (decode cX9_planned 24 = .ok (.iload_n 1, 1)) ∧ (decode cX9_planned 25 = .ok (.iaload, 1)) := by decide +kernel
theorem dX9_planned_12 : decode cX9_planned 12 = .ok (.iconst 1, 1) := dX9_planned_12_g.1
theorem dX9_planned_13 : decode cX9_planned 13 = .ok (.isub, 1) := dX9_planned_12_g.2.1
theorem dX9_planned_14 : decode cX9_planned 14 = .ok (.invokevirtual 139, 3) := dX9_planned_12_g.2.2.1
theorem dX9_planned_17 : decode cX9_planned 17 = .ok (.ifCond .eq 12, 3) := dX9_planned_12_g.2.2.2.1
theorem dX9_planned_20 : decode cX9_planned 20 = .ok (.aload_n 0, 1) := dX9_planned_12_g.2.2.2.2.1
theorem dX9_planned_21 : decode cX9_planned 21 = .ok (.getfield 36, 3) := dX9_planned_12_g.2.2.2.2.2.1
theorem dX9_planned_24 : decode cX9_planned 24 = .ok (.iload_n 1, 1) := dX9_planned_12_g.2.2.2.2.2.2.1
theorem dX9_planned_25 : decode cX9_planned 25 = .ok (.iaload, 1) := dX9_planned_12_g.2.2.2.2.2.2.2
theorem dX9_planned_26_g : (decode cX9_planned 26 = .ok (.goto 4, 3)) ∧ (decode cX9_planned 29 = .ok (.iconst (-1), 1)) ∧ (decode cX9_planned 30 = .ok (.ireturn, 1)) := by decide +kernel
theorem dX9_planned_26 : decode cX9_planned 26 = .ok (.goto 4, 3) := dX9_planned_26_g.1
theorem dX9_planned_29 : decode cX9_planned 29 = .ok (.iconst (-1), 1) := dX9_planned_26_g.2.1
theorem dX9_planned_30 : decode cX9_planned 30 = .ok (.ireturn, 1) := dX9_planned_26_g.2.2
theorem dX9_ways_0_g : (decode cX9_ways 0 = .ok (.aload_n 0, 1)) ∧ (decode cX9_ways 1 = .ok (.iconst 0, 1)) ∧ (decode cX9_ways 2 = .ok (.putfield 133, 3)) ∧ (decode cX9_ways 5 = .ok (.aload_n 0, 1)) ∧ (decode cX9_ways 6 = .ok (.invokevirtual 215, 3)) ∧ (decode cX9_ways 9 = .ok (.ifCond .ne 10, 3)) ∧ (decode cX9_ways 12 = .ok (.aload_n 0, 1)) ∧ (decode cX9_ways 13 = .ok (.iconst 2, 1)) := by decide +kernel
theorem dX9_ways_0 : decode cX9_ways 0 = .ok (.aload_n 0, 1) := dX9_ways_0_g.1
theorem dX9_ways_1 : decode cX9_ways 1 = .ok (.iconst 0, 1) := dX9_ways_0_g.2.1
theorem dX9_ways_2 : decode cX9_ways 2 = .ok (.putfield 133, 3) := dX9_ways_0_g.2.2.1
theorem dX9_ways_5 : decode cX9_ways 5 = .ok (.aload_n 0, 1) := dX9_ways_0_g.2.2.2.1
theorem dX9_ways_6 : decode cX9_ways 6 = .ok (.invokevirtual 215, 3) := dX9_ways_0_g.2.2.2.2.1
theorem dX9_ways_9 : decode cX9_ways 9 = .ok (.ifCond .ne 10, 3) := dX9_ways_0_g.2.2.2.2.2.1
theorem dX9_ways_12 : decode cX9_ways 12 = .ok (.aload_n 0, 1) := dX9_ways_0_g.2.2.2.2.2.2.1
theorem dX9_ways_13 : decode cX9_ways 13 = .ok (.iconst 2, 1) := dX9_ways_0_g.2.2.2.2.2.2.2
theorem dX9_ways_14_g : (decode cX9_ways 14 = .ok (.invokevirtual 192, 3)) ∧ (decode cX9_ways 17 = .ok (.i2l, 1)) ∧ (decode cX9_ways 18 = .ok (.lreturn, 1)) ∧ (decode cX9_ways 19 = .ok (.aload_n 0, 1)) ∧ (decode cX9_ways 20 = .ok (.iconst 0, 1)) ∧ (decode cX9_ways 21 = .ok (.putfield 136, 3)) ∧ (decode cX9_ways 24 = .ok (.aload_n 0, 1)) ∧ (decode cX9_ways 25 = .ok (.invokevirtual 219, 3)) := by decide +kernel
theorem dX9_ways_14 : decode cX9_ways 14 = .ok (.invokevirtual 192, 3) := dX9_ways_14_g.1
theorem dX9_ways_17 : decode cX9_ways 17 = .ok (.i2l, 1) := dX9_ways_14_g.2.1
theorem dX9_ways_18 : decode cX9_ways 18 = .ok (.lreturn, 1) := dX9_ways_14_g.2.2.1
theorem dX9_ways_19 : decode cX9_ways 19 = .ok (.aload_n 0, 1) := dX9_ways_14_g.2.2.2.1
theorem dX9_ways_20 : decode cX9_ways 20 = .ok (.iconst 0, 1) := dX9_ways_14_g.2.2.2.2.1
theorem dX9_ways_21 : decode cX9_ways 21 = .ok (.putfield 136, 3) := dX9_ways_14_g.2.2.2.2.2.1
theorem dX9_ways_24 : decode cX9_ways 24 = .ok (.aload_n 0, 1) := dX9_ways_14_g.2.2.2.2.2.2.1
theorem dX9_ways_25 : decode cX9_ways 25 = .ok (.invokevirtual 219, 3) := dX9_ways_14_g.2.2.2.2.2.2.2
theorem dX9_ways_28_g : (decode cX9_ways 28 = .ok (.aload_n 0, 1)) ∧ (decode cX9_ways 29 = .ok (.aload_n 0, 1)) ∧ (decode cX9_ways 30 = .ok (.getfield 23, 3)) ∧ (decode cX9_ways 33 = .ok (.invokevirtual 184, 3)) ∧ (decode cX9_ways 36 = .ok (.istore_n 1, 1)) ∧ (decode cX9_ways 37 = .ok (.aload_n 0, 1)) ∧ (decode cX9_ways 38 = .ok (.getfield 45, 3)) ∧ (decode cX9_ways 41 = .ok (.iload_n 1, 1)) := by decide +kernel
theorem dX9_ways_28 : decode cX9_ways 28 = .ok (.aload_n 0, 1) := dX9_ways_28_g.1
theorem dX9_ways_29 : decode cX9_ways 29 = .ok (.aload_n 0, 1) := dX9_ways_28_g.2.1
theorem dX9_ways_30 : decode cX9_ways 30 = .ok (.getfield 23, 3) := dX9_ways_28_g.2.2.1
theorem dX9_ways_33 : decode cX9_ways 33 = .ok (.invokevirtual 184, 3) := dX9_ways_28_g.2.2.2.1
theorem dX9_ways_36 : decode cX9_ways 36 = .ok (.istore_n 1, 1) := dX9_ways_28_g.2.2.2.2.1
theorem dX9_ways_37 : decode cX9_ways 37 = .ok (.aload_n 0, 1) := dX9_ways_28_g.2.2.2.2.2.1
theorem dX9_ways_38 : decode cX9_ways 38 = .ok (.getfield 45, 3) := dX9_ways_28_g.2.2.2.2.2.2.1
theorem dX9_ways_41 : decode cX9_ways 41 = .ok (.iload_n 1, 1) := dX9_ways_28_g.2.2.2.2.2.2.2
theorem dX9_ways_42_g : (decode cX9_ways 42 = .ok (.iaload, 1)) ∧ (decode cX9_ways 43 = .ok (.ldc 199, 2)) ∧ (decode cX9_ways 45 = .ok (.if_icmp .ne 5, 3)) ∧ (decode cX9_ways 48 = .ok (.lconst 0, 1)) ∧ (decode cX9_ways 49 = .ok (.lreturn, 1)) ∧ (decode cX9_ways 50 = .ok (.iconst 0, 1)) ∧ (decode cX9_ways 51 = .ok (.istore_n 2, 1)) ∧ (decode cX9_ways 52 = .ok (.iload_n 2, 1)) := by decide +kernel
theorem dX9_ways_42 : decode cX9_ways 42 = .ok (.iaload, 1) := dX9_ways_42_g.1
theorem dX9_ways_43 : decode cX9_ways 43 = .ok (.ldc 199, 2) := dX9_ways_42_g.2.1
theorem dX9_ways_45 : decode cX9_ways 45 = .ok (.if_icmp .ne 5, 3) := dX9_ways_42_g.2.2.1
theorem dX9_ways_48 : decode cX9_ways 48 = .ok (.lconst 0, 1) := dX9_ways_42_g.2.2.2.1
theorem dX9_ways_49 : decode cX9_ways 49 = .ok (.lreturn, 1) := dX9_ways_42_g.2.2.2.2.1
theorem dX9_ways_50 : decode cX9_ways 50 = .ok (.iconst 0, 1) := dX9_ways_42_g.2.2.2.2.2.1
theorem dX9_ways_51 : decode cX9_ways 51 = .ok (.istore_n 2, 1) := dX9_ways_42_g.2.2.2.2.2.2.1
theorem dX9_ways_52 : decode cX9_ways 52 = .ok (.iload_n 2, 1) := dX9_ways_42_g.2.2.2.2.2.2.2
theorem dX9_ways_53_g : (decode cX9_ways 53 = .ok (.aload_n 0, 1)) ∧ (decode cX9_ways 54 = .ok (.getfield 200, 3)) ∧ (decode cX9_ways 57 = .ok (.if_icmp .ge 29, 3)) ∧ (decode cX9_ways 60 = .ok (.aload_n 0, 1)) ∧ (decode cX9_ways 61 = .ok (.getfield 60, 3)) ∧ (decode cX9_ways 64 = .ok (.aload_n 0, 1)) ∧ (decode cX9_ways 65 = .ok (.getfield 57, 3)) ∧ (decode cX9_ways 68 = .ok (.iload_n 2, 1)) := by decide +kernel
theorem dX9_ways_53 : decode cX9_ways 53 = .ok (.aload_n 0, 1) := dX9_ways_53_g.1
theorem dX9_ways_54 : decode cX9_ways 54 = .ok (.getfield 200, 3) := dX9_ways_53_g.2.1
theorem dX9_ways_57 : decode cX9_ways 57 = .ok (.if_icmp .ge 29, 3) := dX9_ways_53_g.2.2.1
theorem dX9_ways_60 : decode cX9_ways 60 = .ok (.aload_n 0, 1) := dX9_ways_53_g.2.2.2.1
theorem dX9_ways_61 : decode cX9_ways 61 = .ok (.getfield 60, 3) := dX9_ways_53_g.2.2.2.2.1
theorem dX9_ways_64 : decode cX9_ways 64 = .ok (.aload_n 0, 1) := dX9_ways_53_g.2.2.2.2.2.1
theorem dX9_ways_65 : decode cX9_ways 65 = .ok (.getfield 57, 3) := dX9_ways_53_g.2.2.2.2.2.2.1
theorem dX9_ways_68 : decode cX9_ways 68 = .ok (.iload_n 2, 1) := dX9_ways_53_g.2.2.2.2.2.2.2
theorem dX9_ways_69_g : (decode cX9_ways 69 = .ok (.iaload, 1)) ∧ (decode cX9_ways 70 = .ok (.iload_n 2, 1)) ∧ (decode cX9_ways 71 = .ok (.ifCond .ne 7, 3)) ∧ (decode cX9_ways 74 = .ok (.lconst 1, 1)) ∧ (decode cX9_ways 75 = .ok (.goto 4, 3)) ∧ (decode cX9_ways 78 = .ok (.lconst 0, 1)) ∧ (decode cX9_ways 79 = .ok (.lastore, 1)) ∧ (decode cX9_ways 80 = .ok (.iinc 2 1, 3)) := by decide +kernel
theorem dX9_ways_69 : decode cX9_ways 69 = .ok (.iaload, 1) := dX9_ways_69_g.1
theorem dX9_ways_70 : decode cX9_ways 70 = .ok (.iload_n 2, 1) := dX9_ways_69_g.2.1
theorem dX9_ways_71 : decode cX9_ways 71 = .ok (.ifCond .ne 7, 3) := dX9_ways_69_g.2.2.1
theorem dX9_ways_74 : decode cX9_ways 74 = .ok (.lconst 1, 1) := dX9_ways_69_g.2.2.2.1
theorem dX9_ways_75 : decode cX9_ways 75 = .ok (.goto 4, 3) := dX9_ways_69_g.2.2.2.2.1
theorem dX9_ways_78 : decode cX9_ways 78 = .ok (.lconst 0, 1) := dX9_ways_69_g.2.2.2.2.2.1
theorem dX9_ways_79 : decode cX9_ways 79 = .ok (.lastore, 1) := dX9_ways_69_g.2.2.2.2.2.2.1
theorem dX9_ways_80 : decode cX9_ways 80 = .ok (.iinc 2 1, 3) := dX9_ways_69_g.2.2.2.2.2.2.2
theorem dX9_ways_83_g : (decode cX9_ways 83 = .ok (.goto (-31), 3)) ∧ (decode cX9_ways 86 = .ok (.iconst 0, 1)) ∧ (decode cX9_ways 87 = .ok (.istore_n 2, 1)) ∧ (decode cX9_ways 88 = .ok (.iload_n 2, 1)) ∧ (decode cX9_ways 89 = .ok (.aload_n 0, 1)) ∧ (decode cX9_ways 90 = .ok (.getfield 200, 3)) ∧ (decode cX9_ways 93 = .ok (.if_icmp .ge 101, 3)) ∧ (decode cX9_ways 96 = .ok (.aload_n 0, 1)) := by decide +kernel
theorem dX9_ways_83 : decode cX9_ways 83 = .ok (.goto (-31), 3) := dX9_ways_83_g.1
theorem dX9_ways_86 : decode cX9_ways 86 = .ok (.iconst 0, 1) := dX9_ways_83_g.2.1
theorem dX9_ways_87 : decode cX9_ways 87 = .ok (.istore_n 2, 1) := dX9_ways_83_g.2.2.1
theorem dX9_ways_88 : decode cX9_ways 88 = .ok (.iload_n 2, 1) := dX9_ways_83_g.2.2.2.1
theorem dX9_ways_89 : decode cX9_ways 89 = .ok (.aload_n 0, 1) := dX9_ways_83_g.2.2.2.2.1
theorem dX9_ways_90 : decode cX9_ways 90 = .ok (.getfield 200, 3) := dX9_ways_83_g.2.2.2.2.2.1
theorem dX9_ways_93 : decode cX9_ways 93 = .ok (.if_icmp .ge 101, 3) := dX9_ways_83_g.2.2.2.2.2.2.1
theorem dX9_ways_96 : decode cX9_ways 96 = .ok (.aload_n 0, 1) := dX9_ways_83_g.2.2.2.2.2.2.2
theorem dX9_ways_97_g : (decode cX9_ways 97 = .ok (.getfield 57, 3)) ∧ (decode cX9_ways 100 = .ok (.iload_n 2, 1)) ∧ (decode cX9_ways 101 = .ok (.iaload, 1)) ∧ (decode cX9_ways 102 = .ok (.istore_n 3, 1)) ∧ (decode cX9_ways 103 = .ok (.aload_n 0, 1)) ∧ (decode cX9_ways 104 = .ok (.iload_n 3, 1)) ∧ (decode cX9_ways 105 = .ok (.aload_n 0, 1)) ∧ (decode cX9_ways 106 = .ok (.getfield 39, 3)) := by decide +kernel
theorem dX9_ways_97 : decode cX9_ways 97 = .ok (.getfield 57, 3) := dX9_ways_97_g.1
theorem dX9_ways_100 : decode cX9_ways 100 = .ok (.iload_n 2, 1) := dX9_ways_97_g.2.1
theorem dX9_ways_101 : decode cX9_ways 101 = .ok (.iaload, 1) := dX9_ways_97_g.2.2.1
theorem dX9_ways_102 : decode cX9_ways 102 = .ok (.istore_n 3, 1) := dX9_ways_97_g.2.2.2.1
theorem dX9_ways_103 : decode cX9_ways 103 = .ok (.aload_n 0, 1) := dX9_ways_97_g.2.2.2.2.1
theorem dX9_ways_104 : decode cX9_ways 104 = .ok (.iload_n 3, 1) := dX9_ways_97_g.2.2.2.2.2.1
theorem dX9_ways_105 : decode cX9_ways 105 = .ok (.aload_n 0, 1) := dX9_ways_97_g.2.2.2.2.2.2.1
theorem dX9_ways_106 : decode cX9_ways 106 = .ok (.getfield 39, 3) := dX9_ways_97_g.2.2.2.2.2.2.2
theorem dX9_ways_109_g : (decode cX9_ways 109 = .ok (.invokevirtual 180, 3)) ∧ (decode cX9_ways 112 = .ok (.iconst 0, 1)) ∧ (decode cX9_ways 113 = .ok (.istore 4, 2)) ∧ (decode cX9_ways 115 = .ok (.iload 4, 2)) ∧ (decode cX9_ways 117 = .ok (.aload_n 0, 1)) ∧ (decode cX9_ways 118 = .ok (.getfield 7, 3)) ∧ (decode cX9_ways 121 = .ok (.if_icmp .ge 67, 3)) ∧ (decode cX9_ways 124 = .ok (.iconst 0, 1)) := by decide +kernel
theorem dX9_ways_109 : decode cX9_ways 109 = .ok (.invokevirtual 180, 3) := dX9_ways_109_g.1
theorem dX9_ways_112 : decode cX9_ways 112 = .ok (.iconst 0, 1) := dX9_ways_109_g.2.1
theorem dX9_ways_113 : decode cX9_ways 113 = .ok (.istore 4, 2) := dX9_ways_109_g.2.2.1
theorem dX9_ways_115 : decode cX9_ways 115 = .ok (.iload 4, 2) := dX9_ways_109_g.2.2.2.1
theorem dX9_ways_117 : decode cX9_ways 117 = .ok (.aload_n 0, 1) := dX9_ways_109_g.2.2.2.2.1
theorem dX9_ways_118 : decode cX9_ways 118 = .ok (.getfield 7, 3) := dX9_ways_109_g.2.2.2.2.2.1
theorem dX9_ways_121 : decode cX9_ways 121 = .ok (.if_icmp .ge 67, 3) := dX9_ways_109_g.2.2.2.2.2.2.1
theorem dX9_ways_124 : decode cX9_ways 124 = .ok (.iconst 0, 1) := dX9_ways_109_g.2.2.2.2.2.2.2
theorem dX9_ways_125_g : (decode cX9_ways 125 = .ok (.istore 5, 2)) ∧ (decode cX9_ways 127 = .ok (.iload 5, 2)) ∧ (decode cX9_ways 129 = .ok (.aload_n 0, 1)) ∧ (decode cX9_ways 130 = .ok (.getfield 7, 3)) ∧ (decode cX9_ways 133 = .ok (.if_icmp .ge 49, 3)) ∧ (decode cX9_ways 136 = .ok (.aload_n 0, 1)) ∧ (decode cX9_ways 137 = .ok (.iload 4, 2)) ∧ (decode cX9_ways 139 = .ok (.iload 5, 2)) := by decide +kernel
theorem dX9_ways_125 : decode cX9_ways 125 = .ok (.istore 5, 2) := dX9_ways_125_g.1
theorem dX9_ways_127 : decode cX9_ways 127 = .ok (.iload 5, 2) := dX9_ways_125_g.2.1
theorem dX9_ways_129 : decode cX9_ways 129 = .ok (.aload_n 0, 1) := dX9_ways_125_g.2.2.1
theorem dX9_ways_130 : decode cX9_ways 130 = .ok (.getfield 7, 3) := dX9_ways_125_g.2.2.2.1
theorem dX9_ways_133 : decode cX9_ways 133 = .ok (.if_icmp .ge 49, 3) := dX9_ways_125_g.2.2.2.2.1
theorem dX9_ways_136 : decode cX9_ways 136 = .ok (.aload_n 0, 1) := dX9_ways_125_g.2.2.2.2.2.1
theorem dX9_ways_137 : decode cX9_ways 137 = .ok (.iload 4, 2) := dX9_ways_125_g.2.2.2.2.2.2.1
theorem dX9_ways_139 : decode cX9_ways 139 = .ok (.iload 5, 2) := dX9_ways_125_g.2.2.2.2.2.2.2
theorem dX9_ways_141_g : (decode cX9_ways 141 = .ok (.invokevirtual 211, 3)) ∧ (decode cX9_ways 144 = .ok (.istore 6, 2)) ∧ (decode cX9_ways 146 = .ok (.aload_n 0, 1)) ∧ (decode cX9_ways 147 = .ok (.iload_n 3, 1)) ∧ (decode cX9_ways 148 = .ok (.iload 6, 2)) ∧ (decode cX9_ways 150 = .ok (.iload 4, 2)) ∧ (decode cX9_ways 152 = .ok (.iload 5, 2)) ∧ (decode cX9_ways 154 = .ok (.invokevirtual 222, 3)) := by decide +kernel
theorem dX9_ways_141 : decode cX9_ways 141 = .ok (.invokevirtual 211, 3) := dX9_ways_141_g.1
theorem dX9_ways_144 : decode cX9_ways 144 = .ok (.istore 6, 2) := dX9_ways_141_g.2.1
theorem dX9_ways_146 : decode cX9_ways 146 = .ok (.aload_n 0, 1) := dX9_ways_141_g.2.2.1
theorem dX9_ways_147 : decode cX9_ways 147 = .ok (.iload_n 3, 1) := dX9_ways_141_g.2.2.2.1
theorem dX9_ways_148 : decode cX9_ways 148 = .ok (.iload 6, 2) := dX9_ways_141_g.2.2.2.2.1
theorem dX9_ways_150 : decode cX9_ways 150 = .ok (.iload 4, 2) := dX9_ways_141_g.2.2.2.2.2.1
theorem dX9_ways_152 : decode cX9_ways 152 = .ok (.iload 5, 2) := dX9_ways_141_g.2.2.2.2.2.2.1
theorem dX9_ways_154 : decode cX9_ways 154 = .ok (.invokevirtual 222, 3) := dX9_ways_141_g.2.2.2.2.2.2.2
theorem dX9_ways_157_g : (decode cX9_ways 157 = .ok (.ifCond .eq 19, 3)) ∧ (decode cX9_ways 160 = .ok (.aload_n 0, 1)) ∧ (decode cX9_ways 161 = .ok (.getfield 60, 3)) ∧ (decode cX9_ways 164 = .ok (.iload 6, 2)) ∧ (decode cX9_ways 166 = .ok (.dup2, 1)) ∧ (decode cX9_ways 167 = .ok (.laload, 1)) ∧ (decode cX9_ways 168 = .ok (.aload_n 0, 1)) ∧ (decode cX9_ways 169 = .ok (.getfield 60, 3)) := by decide +kernel
theorem dX9_ways_157 : decode cX9_ways 157 = .ok (.ifCond .eq 19, 3) := dX9_ways_157_g.1
theorem dX9_ways_160 : decode cX9_ways 160 = .ok (.aload_n 0, 1) := dX9_ways_157_g.2.1
theorem dX9_ways_161 : decode cX9_ways 161 = .ok (.getfield 60, 3) := dX9_ways_157_g.2.2.1
theorem dX9_ways_164 : decode cX9_ways 164 = .ok (.iload 6, 2) := dX9_ways_157_g.2.2.2.1
theorem dX9_ways_166 : decode cX9_ways 166 = .ok (.dup2, 1) := dX9_ways_157_g.2.2.2.2.1
theorem dX9_ways_167 : decode cX9_ways 167 = .ok (.laload, 1) := dX9_ways_157_g.2.2.2.2.2.1
theorem dX9_ways_168 : decode cX9_ways 168 = .ok (.aload_n 0, 1) := dX9_ways_157_g.2.2.2.2.2.2.1
theorem dX9_ways_169 : decode cX9_ways 169 = .ok (.getfield 60, 3) := dX9_ways_157_g.2.2.2.2.2.2.2
theorem dX9_ways_172_g : (decode cX9_ways 172 = .ok (.iload_n 3, 1)) ∧ (decode cX9_ways 173 = .ok (.laload, 1)) ∧ (decode cX9_ways 174 = .ok (.ladd, 1)) ∧ (decode cX9_ways 175 = .ok (.lastore, 1)) ∧ (decode cX9_ways 176 = .ok (.iinc 5 1, 3)) ∧ (decode cX9_ways 179 = .ok (.goto (-52), 3)) ∧ (decode cX9_ways 182 = .ok (.iinc 4 1, 3)) ∧ (decode cX9_ways 185 = .ok (.goto (-70), 3)) := by decide +kernel
theorem dX9_ways_172 : decode cX9_ways 172 = .ok (.iload_n 3, 1) := dX9_ways_172_g.1
theorem dX9_ways_173 : decode cX9_ways 173 = .ok (.laload, 1) := dX9_ways_172_g.2.1
theorem dX9_ways_174 : decode cX9_ways 174 = .ok (.ladd, 1) := dX9_ways_172_g.2.2.1
theorem dX9_ways_175 : decode cX9_ways 175 = .ok (.lastore, 1) := dX9_ways_172_g.2.2.2.1
theorem dX9_ways_176 : decode cX9_ways 176 = .ok (.iinc 5 1, 3) := dX9_ways_172_g.2.2.2.2.1
theorem dX9_ways_179 : decode cX9_ways 179 = .ok (.goto (-52), 3) := dX9_ways_172_g.2.2.2.2.2.1
theorem dX9_ways_182 : decode cX9_ways 182 = .ok (.iinc 4 1, 3) := dX9_ways_172_g.2.2.2.2.2.2.1
theorem dX9_ways_185 : decode cX9_ways 185 = .ok (.goto (-70), 3) := dX9_ways_172_g.2.2.2.2.2.2.2
theorem dX9_ways_188_g : (decode cX9_ways 188 = .ok (.iinc 2 1, 3)) ∧ (decode cX9_ways 191 = .ok (.goto (-103), 3)) ∧ (decode cX9_ways 194 = .ok (.aload_n 0, 1)) ∧ (decode cX9_ways 195 = .ok (.getfield 60, 3)) ∧ (decode cX9_ways 198 = .ok (.iload_n 1, 1)) ∧ (decode cX9_ways 199 = .ok (.laload, 1)) ∧ (decode cX9_ways 200 = .ok (.lreturn, 1)) := by decide +kernel
theorem dX9_ways_188 : decode cX9_ways 188 = .ok (.iinc 2 1, 3) := dX9_ways_188_g.1
theorem dX9_ways_191 : decode cX9_ways 191 = .ok (.goto (-103), 3) := dX9_ways_188_g.2.1
theorem dX9_ways_194 : decode cX9_ways 194 = .ok (.aload_n 0, 1) := dX9_ways_188_g.2.2.1
theorem dX9_ways_195 : decode cX9_ways 195 = .ok (.getfield 60, 3) := dX9_ways_188_g.2.2.2.1
theorem dX9_ways_198 : decode cX9_ways 198 = .ok (.iload_n 1, 1) := dX9_ways_188_g.2.2.2.2.1
theorem dX9_ways_199 : decode cX9_ways 199 = .ok (.laload, 1) := dX9_ways_188_g.2.2.2.2.2.1
theorem dX9_ways_200 : decode cX9_ways 200 = .ok (.lreturn, 1) := dX9_ways_188_g.2.2.2.2.2.2
theorem dX9_reach_0_g : (decode cX9_reach 0 = .ok (.aload_n 0, 1)) ∧ (decode cX9_reach 1 = .ok (.iconst 0, 1)) ∧ (decode cX9_reach 2 = .ok (.putfield 133, 3)) ∧ (decode cX9_reach 5 = .ok (.aload_n 0, 1)) ∧ (decode cX9_reach 6 = .ok (.invokevirtual 215, 3)) ∧ (decode cX9_reach 9 = .ok (.ifCond .ne 9, 3)) ∧ (decode cX9_reach 12 = .ok (.aload_n 0, 1)) ∧ (decode cX9_reach 13 = .ok (.iconst 2, 1)) := by decide +kernel
theorem dX9_reach_0 : decode cX9_reach 0 = .ok (.aload_n 0, 1) := dX9_reach_0_g.1
theorem dX9_reach_1 : decode cX9_reach 1 = .ok (.iconst 0, 1) := dX9_reach_0_g.2.1
theorem dX9_reach_2 : decode cX9_reach 2 = .ok (.putfield 133, 3) := dX9_reach_0_g.2.2.1
theorem dX9_reach_5 : decode cX9_reach 5 = .ok (.aload_n 0, 1) := dX9_reach_0_g.2.2.2.1
theorem dX9_reach_6 : decode cX9_reach 6 = .ok (.invokevirtual 215, 3) := dX9_reach_0_g.2.2.2.2.1
theorem dX9_reach_9 : decode cX9_reach 9 = .ok (.ifCond .ne 9, 3) := dX9_reach_0_g.2.2.2.2.2.1
theorem dX9_reach_12 : decode cX9_reach 12 = .ok (.aload_n 0, 1) := dX9_reach_0_g.2.2.2.2.2.2.1
theorem dX9_reach_13 : decode cX9_reach 13 = .ok (.iconst 2, 1) := dX9_reach_0_g.2.2.2.2.2.2.2
theorem dX9_reach_14_g : (decode cX9_reach 14 = .ok (.invokevirtual 192, 3)) ∧ (decode cX9_reach 17 = .ok (.ireturn, 1)) ∧ (decode cX9_reach 18 = .ok (.aload_n 0, 1)) ∧ (decode cX9_reach 19 = .ok (.iconst 0, 1)) ∧ (decode cX9_reach 20 = .ok (.putfield 136, 3)) ∧ (decode cX9_reach 23 = .ok (.aload_n 0, 1)) ∧ (decode cX9_reach 24 = .ok (.invokevirtual 219, 3)) ∧ (decode cX9_reach 27 = .ok (.aload_n 0, 1)) := by decide +kernel
theorem dX9_reach_14 : decode cX9_reach 14 = .ok (.invokevirtual 192, 3) := dX9_reach_14_g.1
theorem dX9_reach_17 : decode cX9_reach 17 = .ok (.ireturn, 1) := dX9_reach_14_g.2.1
theorem dX9_reach_18 : decode cX9_reach 18 = .ok (.aload_n 0, 1) := dX9_reach_14_g.2.2.1
theorem dX9_reach_19 : decode cX9_reach 19 = .ok (.iconst 0, 1) := dX9_reach_14_g.2.2.2.1
theorem dX9_reach_20 : decode cX9_reach 20 = .ok (.putfield 136, 3) := dX9_reach_14_g.2.2.2.2.1
theorem dX9_reach_23 : decode cX9_reach 23 = .ok (.aload_n 0, 1) := dX9_reach_14_g.2.2.2.2.2.1
theorem dX9_reach_24 : decode cX9_reach 24 = .ok (.invokevirtual 219, 3) := dX9_reach_14_g.2.2.2.2.2.2.1
theorem dX9_reach_27 : decode cX9_reach 27 = .ok (.aload_n 0, 1) := dX9_reach_14_g.2.2.2.2.2.2.2
theorem dX9_reach_28_g : (decode cX9_reach 28 = .ok (.getfield 200, 3)) ∧ (decode cX9_reach 31 = .ok (.ireturn, 1)) := by decide +kernel
theorem dX9_reach_28 : decode cX9_reach 28 = .ok (.getfield 200, 3) := dX9_reach_28_g.1
theorem dX9_reach_31 : decode cX9_reach 31 = .ok (.ireturn, 1) := dX9_reach_28_g.2
theorem dX9_far_0_g : (decode cX9_far 0 = .ok (.aload_n 0, 1)) ∧ (decode cX9_far 1 = .ok (.iconst 0, 1)) ∧ (decode cX9_far 2 = .ok (.putfield 133, 3)) ∧ (decode cX9_far 5 = .ok (.aload_n 0, 1)) ∧ (decode cX9_far 6 = .ok (.invokevirtual 215, 3)) ∧ (decode cX9_far 9 = .ok (.ifCond .ne 9, 3)) ∧ (decode cX9_far 12 = .ok (.aload_n 0, 1)) ∧ (decode cX9_far 13 = .ok (.iconst 2, 1)) := by decide +kernel
theorem dX9_far_0 : decode cX9_far 0 = .ok (.aload_n 0, 1) := dX9_far_0_g.1
theorem dX9_far_1 : decode cX9_far 1 = .ok (.iconst 0, 1) := dX9_far_0_g.2.1
theorem dX9_far_2 : decode cX9_far 2 = .ok (.putfield 133, 3) := dX9_far_0_g.2.2.1
theorem dX9_far_5 : decode cX9_far 5 = .ok (.aload_n 0, 1) := dX9_far_0_g.2.2.2.1
theorem dX9_far_6 : decode cX9_far 6 = .ok (.invokevirtual 215, 3) := dX9_far_0_g.2.2.2.2.1
theorem dX9_far_9 : decode cX9_far 9 = .ok (.ifCond .ne 9, 3) := dX9_far_0_g.2.2.2.2.2.1
theorem dX9_far_12 : decode cX9_far 12 = .ok (.aload_n 0, 1) := dX9_far_0_g.2.2.2.2.2.2.1
theorem dX9_far_13 : decode cX9_far 13 = .ok (.iconst 2, 1) := dX9_far_0_g.2.2.2.2.2.2.2
theorem dX9_far_14_g : (decode cX9_far 14 = .ok (.invokevirtual 192, 3)) ∧ (decode cX9_far 17 = .ok (.ireturn, 1)) ∧ (decode cX9_far 18 = .ok (.aload_n 0, 1)) ∧ (decode cX9_far 19 = .ok (.iconst 0, 1)) ∧ (decode cX9_far 20 = .ok (.putfield 136, 3)) ∧ (decode cX9_far 23 = .ok (.aload_n 0, 1)) ∧ (decode cX9_far 24 = .ok (.invokevirtual 219, 3)) ∧ (decode cX9_far 27 = .ok (.aload_n 0, 1)) := by decide +kernel
theorem dX9_far_14 : decode cX9_far 14 = .ok (.invokevirtual 192, 3) := dX9_far_14_g.1
theorem dX9_far_17 : decode cX9_far 17 = .ok (.ireturn, 1) := dX9_far_14_g.2.1
theorem dX9_far_18 : decode cX9_far 18 = .ok (.aload_n 0, 1) := dX9_far_14_g.2.2.1
theorem dX9_far_19 : decode cX9_far 19 = .ok (.iconst 0, 1) := dX9_far_14_g.2.2.2.1
theorem dX9_far_20 : decode cX9_far 20 = .ok (.putfield 136, 3) := dX9_far_14_g.2.2.2.2.1
theorem dX9_far_23 : decode cX9_far 23 = .ok (.aload_n 0, 1) := dX9_far_14_g.2.2.2.2.2.1
theorem dX9_far_24 : decode cX9_far 24 = .ok (.invokevirtual 219, 3) := dX9_far_14_g.2.2.2.2.2.2.1
theorem dX9_far_27 : decode cX9_far 27 = .ok (.aload_n 0, 1) := dX9_far_14_g.2.2.2.2.2.2.2
theorem dX9_far_28_g : (decode cX9_far 28 = .ok (.getfield 45, 3)) ∧ (decode cX9_far 31 = .ok (.aload_n 0, 1)) ∧ (decode cX9_far 32 = .ok (.getfield 57, 3)) ∧ (decode cX9_far 35 = .ok (.aload_n 0, 1)) ∧ (decode cX9_far 36 = .ok (.getfield 200, 3)) ∧ (decode cX9_far 39 = .ok (.iconst 1, 1)) ∧ (decode cX9_far 40 = .ok (.isub, 1)) ∧ (decode cX9_far 41 = .ok (.iaload, 1)) := by decide +kernel
theorem dX9_far_28 : decode cX9_far 28 = .ok (.getfield 45, 3) := dX9_far_28_g.1
theorem dX9_far_31 : decode cX9_far 31 = .ok (.aload_n 0, 1) := dX9_far_28_g.2.1
theorem dX9_far_32 : decode cX9_far 32 = .ok (.getfield 57, 3) := dX9_far_28_g.2.2.1
theorem dX9_far_35 : decode cX9_far 35 = .ok (.aload_n 0, 1) := dX9_far_28_g.2.2.2.1
theorem dX9_far_36 : decode cX9_far 36 = .ok (.getfield 200, 3) := dX9_far_28_g.2.2.2.2.1
theorem dX9_far_39 : decode cX9_far 39 = .ok (.iconst 1, 1) := dX9_far_28_g.2.2.2.2.2.1
theorem dX9_far_40 : decode cX9_far 40 = .ok (.isub, 1) := dX9_far_28_g.2.2.2.2.2.2.1
theorem dX9_far_41 : decode cX9_far 41 = .ok (.iaload, 1) := dX9_far_28_g.2.2.2.2.2.2.2
theorem dX9_far_42_g : (decode cX9_far 42 = .ok (.iaload, 1)) ∧ (decode cX9_far 43 = .ok (.ireturn, 1)) := by decide +kernel
theorem dX9_far_42 : decode cX9_far 42 = .ok (.iaload, 1) := dX9_far_42_g.1
theorem dX9_far_43 : decode cX9_far 43 = .ok (.ireturn, 1) := dX9_far_42_g.2
theorem dX9_farthest_0_g : (decode cX9_farthest 0 = .ok (.aload_n 0, 1)) ∧ (decode cX9_farthest 1 = .ok (.iconst 0, 1)) ∧ (decode cX9_farthest 2 = .ok (.putfield 133, 3)) ∧ (decode cX9_farthest 5 = .ok (.aload_n 0, 1)) ∧ (decode cX9_farthest 6 = .ok (.invokevirtual 215, 3)) ∧ (decode cX9_farthest 9 = .ok (.ifCond .ne 9, 3)) ∧ (decode cX9_farthest 12 = .ok (.aload_n 0, 1)) ∧ (decode cX9_farthest 13 = .ok (.iconst 2, 1)) := by decide +kernel
theorem dX9_farthest_0 : decode cX9_farthest 0 = .ok (.aload_n 0, 1) := dX9_farthest_0_g.1
theorem dX9_farthest_1 : decode cX9_farthest 1 = .ok (.iconst 0, 1) := dX9_farthest_0_g.2.1
theorem dX9_farthest_2 : decode cX9_farthest 2 = .ok (.putfield 133, 3) := dX9_farthest_0_g.2.2.1
theorem dX9_farthest_5 : decode cX9_farthest 5 = .ok (.aload_n 0, 1) := dX9_farthest_0_g.2.2.2.1
theorem dX9_farthest_6 : decode cX9_farthest 6 = .ok (.invokevirtual 215, 3) := dX9_farthest_0_g.2.2.2.2.1
theorem dX9_farthest_9 : decode cX9_farthest 9 = .ok (.ifCond .ne 9, 3) := dX9_farthest_0_g.2.2.2.2.2.1
theorem dX9_farthest_12 : decode cX9_farthest 12 = .ok (.aload_n 0, 1) := dX9_farthest_0_g.2.2.2.2.2.2.1
theorem dX9_farthest_13 : decode cX9_farthest 13 = .ok (.iconst 2, 1) := dX9_farthest_0_g.2.2.2.2.2.2.2
theorem dX9_farthest_14_g : (decode cX9_farthest 14 = .ok (.invokevirtual 192, 3)) ∧ (decode cX9_farthest 17 = .ok (.ireturn, 1)) ∧ (decode cX9_farthest 18 = .ok (.aload_n 0, 1)) ∧ (decode cX9_farthest 19 = .ok (.iconst 0, 1)) ∧ (decode cX9_farthest 20 = .ok (.putfield 136, 3)) ∧ (decode cX9_farthest 23 = .ok (.aload_n 0, 1)) ∧ (decode cX9_farthest 24 = .ok (.invokevirtual 219, 3)) ∧ (decode cX9_farthest 27 = .ok (.aload_n 0, 1)) := by decide +kernel
theorem dX9_farthest_14 : decode cX9_farthest 14 = .ok (.invokevirtual 192, 3) := dX9_farthest_14_g.1
theorem dX9_farthest_17 : decode cX9_farthest 17 = .ok (.ireturn, 1) := dX9_farthest_14_g.2.1
theorem dX9_farthest_18 : decode cX9_farthest 18 = .ok (.aload_n 0, 1) := dX9_farthest_14_g.2.2.1
theorem dX9_farthest_19 : decode cX9_farthest 19 = .ok (.iconst 0, 1) := dX9_farthest_14_g.2.2.2.1
theorem dX9_farthest_20 : decode cX9_farthest 20 = .ok (.putfield 136, 3) := dX9_farthest_14_g.2.2.2.2.1
theorem dX9_farthest_23 : decode cX9_farthest 23 = .ok (.aload_n 0, 1) := dX9_farthest_14_g.2.2.2.2.2.1
theorem dX9_farthest_24 : decode cX9_farthest 24 = .ok (.invokevirtual 219, 3) := dX9_farthest_14_g.2.2.2.2.2.2.1
theorem dX9_farthest_27 : decode cX9_farthest 27 = .ok (.aload_n 0, 1) := dX9_farthest_14_g.2.2.2.2.2.2.2
theorem dX9_farthest_28_g : (decode cX9_farthest 28 = .ok (.getfield 57, 3)) ∧ (decode cX9_farthest 31 = .ok (.aload_n 0, 1)) ∧ (decode cX9_farthest 32 = .ok (.getfield 200, 3)) ∧ (decode cX9_farthest 35 = .ok (.iconst 1, 1)) ∧ (decode cX9_farthest 36 = .ok (.isub, 1)) ∧ (decode cX9_farthest 37 = .ok (.iaload, 1)) ∧ (decode cX9_farthest 38 = .ok (.istore_n 1, 1)) ∧ (decode cX9_farthest 39 = .ok (.iconst 0, 1)) := by decide +kernel
theorem dX9_farthest_28 : decode cX9_farthest 28 = .ok (.getfield 57, 3) := dX9_farthest_28_g.1
theorem dX9_farthest_31 : decode cX9_farthest 31 = .ok (.aload_n 0, 1) := dX9_farthest_28_g.2.1
theorem dX9_farthest_32 : decode cX9_farthest 32 = .ok (.getfield 200, 3) := dX9_farthest_28_g.2.2.1
theorem dX9_farthest_35 : decode cX9_farthest 35 = .ok (.iconst 1, 1) := dX9_farthest_28_g.2.2.2.1
theorem dX9_farthest_36 : decode cX9_farthest 36 = .ok (.isub, 1) := dX9_farthest_28_g.2.2.2.2.1
theorem dX9_farthest_37 : decode cX9_farthest 37 = .ok (.iaload, 1) := dX9_farthest_28_g.2.2.2.2.2.1
theorem dX9_farthest_38 : decode cX9_farthest 38 = .ok (.istore_n 1, 1) := dX9_farthest_28_g.2.2.2.2.2.2.1
theorem dX9_farthest_39 : decode cX9_farthest 39 = .ok (.iconst 0, 1) := dX9_farthest_28_g.2.2.2.2.2.2.2
theorem dX9_farthest_40_g : (decode cX9_farthest 40 = .ok (.istore_n 2, 1)) ∧ (decode cX9_farthest 41 = .ok (.iload_n 2, 1)) ∧ (decode cX9_farthest 42 = .ok (.aload_n 0, 1)) ∧ (decode cX9_farthest 43 = .ok (.getfield 200, 3)) ∧ (decode cX9_farthest 46 = .ok (.if_icmp .ge 46, 3)) ∧ (decode cX9_farthest 49 = .ok (.aload_n 0, 1)) ∧ (decode cX9_farthest 50 = .ok (.getfield 45, 3)) ∧ (decode cX9_farthest 53 = .ok (.aload_n 0, 1)) := by decide +kernel
theorem dX9_farthest_40 : decode cX9_farthest 40 = .ok (.istore_n 2, 1) := dX9_farthest_40_g.1
theorem dX9_farthest_41 : decode cX9_farthest 41 = .ok (.iload_n 2, 1) := dX9_farthest_40_g.2.1
theorem dX9_farthest_42 : decode cX9_farthest 42 = .ok (.aload_n 0, 1) := dX9_farthest_40_g.2.2.1
theorem dX9_farthest_43 : decode cX9_farthest 43 = .ok (.getfield 200, 3) := dX9_farthest_40_g.2.2.2.1
theorem dX9_farthest_46 : decode cX9_farthest 46 = .ok (.if_icmp .ge 46, 3) := dX9_farthest_40_g.2.2.2.2.1
theorem dX9_farthest_49 : decode cX9_farthest 49 = .ok (.aload_n 0, 1) := dX9_farthest_40_g.2.2.2.2.2.1
theorem dX9_farthest_50 : decode cX9_farthest 50 = .ok (.getfield 45, 3) := dX9_farthest_40_g.2.2.2.2.2.2.1
theorem dX9_farthest_53 : decode cX9_farthest 53 = .ok (.aload_n 0, 1) := dX9_farthest_40_g.2.2.2.2.2.2.2
theorem dX9_farthest_54_g : (decode cX9_farthest 54 = .ok (.getfield 57, 3)) ∧ (decode cX9_farthest 57 = .ok (.iload_n 2, 1)) ∧ (decode cX9_farthest 58 = .ok (.iaload, 1)) ∧ (decode cX9_farthest 59 = .ok (.iaload, 1)) ∧ (decode cX9_farthest 60 = .ok (.aload_n 0, 1)) ∧ (decode cX9_farthest 61 = .ok (.getfield 45, 3)) ∧ (decode cX9_farthest 64 = .ok (.iload_n 1, 1)) ∧ (decode cX9_farthest 65 = .ok (.iaload, 1)) := by decide +kernel
theorem dX9_farthest_54 : decode cX9_farthest 54 = .ok (.getfield 57, 3) := dX9_farthest_54_g.1
theorem dX9_farthest_57 : decode cX9_farthest 57 = .ok (.iload_n 2, 1) := dX9_farthest_54_g.2.1
theorem dX9_farthest_58 : decode cX9_farthest 58 = .ok (.iaload, 1) := dX9_farthest_54_g.2.2.1
theorem dX9_farthest_59 : decode cX9_farthest 59 = .ok (.iaload, 1) := dX9_farthest_54_g.2.2.2.1
theorem dX9_farthest_60 : decode cX9_farthest 60 = .ok (.aload_n 0, 1) := dX9_farthest_54_g.2.2.2.2.1
theorem dX9_farthest_61 : decode cX9_farthest 61 = .ok (.getfield 45, 3) := dX9_farthest_54_g.2.2.2.2.2.1
theorem dX9_farthest_64 : decode cX9_farthest 64 = .ok (.iload_n 1, 1) := dX9_farthest_54_g.2.2.2.2.2.2.1
theorem dX9_farthest_65 : decode cX9_farthest 65 = .ok (.iaload, 1) := dX9_farthest_54_g.2.2.2.2.2.2.2
theorem dX9_farthest_66_g : (decode cX9_farthest 66 = .ok (.if_icmp .ne 20, 3)) ∧ (decode cX9_farthest 69 = .ok (.aload_n 0, 1)) ∧ (decode cX9_farthest 70 = .ok (.getfield 57, 3)) ∧ (decode cX9_farthest 73 = .ok (.iload_n 2, 1)) ∧ (decode cX9_farthest 74 = .ok (.iaload, 1)) ∧ (decode cX9_farthest 75 = .ok (.iload_n 1, 1)) ∧ (decode cX9_farthest 76 = .ok (.if_icmp .ge 10, 3)) ∧ (decode cX9_farthest 79 = .ok (.aload_n 0, 1)) := by decide +kernel
theorem dX9_farthest_66 : decode cX9_farthest 66 = .ok (.if_icmp .ne 20, 3) := dX9_farthest_66_g.1
theorem dX9_farthest_69 : decode cX9_farthest 69 = .ok (.aload_n 0, 1) := dX9_farthest_66_g.2.1
theorem dX9_farthest_70 : decode cX9_farthest 70 = .ok (.getfield 57, 3) := dX9_farthest_66_g.2.2.1
theorem dX9_farthest_73 : decode cX9_farthest 73 = .ok (.iload_n 2, 1) := dX9_farthest_66_g.2.2.2.1
theorem dX9_farthest_74 : decode cX9_farthest 74 = .ok (.iaload, 1) := dX9_farthest_66_g.2.2.2.2.1
theorem dX9_farthest_75 : decode cX9_farthest 75 = .ok (.iload_n 1, 1) := dX9_farthest_66_g.2.2.2.2.2.1
theorem dX9_farthest_76 : decode cX9_farthest 76 = .ok (.if_icmp .ge 10, 3) := dX9_farthest_66_g.2.2.2.2.2.2.1
theorem dX9_farthest_79 : decode cX9_farthest 79 = .ok (.aload_n 0, 1) := dX9_farthest_66_g.2.2.2.2.2.2.2
theorem dX9_farthest_80_g : (decode cX9_farthest 80 = .ok (.getfield 57, 3)) ∧ (decode cX9_farthest 83 = .ok (.iload_n 2, 1)) ∧ (decode cX9_farthest 84 = .ok (.iaload, 1)) ∧ (decode cX9_farthest 85 = .ok (.istore_n 1, 1)) ∧ (decode cX9_farthest 86 = .ok (.iinc 2 1, 3)) ∧ (decode cX9_farthest 89 = .ok (.goto (-48), 3)) ∧ (decode cX9_farthest 92 = .ok (.iload_n 1, 1)) ∧ (decode cX9_farthest 93 = .ok (.ireturn, 1)) := by decide +kernel
theorem dX9_farthest_80 : decode cX9_farthest 80 = .ok (.getfield 57, 3) := dX9_farthest_80_g.1
theorem dX9_farthest_83 : decode cX9_farthest 83 = .ok (.iload_n 2, 1) := dX9_farthest_80_g.2.1
theorem dX9_farthest_84 : decode cX9_farthest 84 = .ok (.iaload, 1) := dX9_farthest_80_g.2.2.1
theorem dX9_farthest_85 : decode cX9_farthest 85 = .ok (.istore_n 1, 1) := dX9_farthest_80_g.2.2.2.1
theorem dX9_farthest_86 : decode cX9_farthest 86 = .ok (.iinc 2 1, 3) := dX9_farthest_80_g.2.2.2.2.1
theorem dX9_farthest_89 : decode cX9_farthest 89 = .ok (.goto (-48), 3) := dX9_farthest_80_g.2.2.2.2.2.1
theorem dX9_farthest_92 : decode cX9_farthest 92 = .ok (.iload_n 1, 1) := dX9_farthest_80_g.2.2.2.2.2.2.1
theorem dX9_farthest_93 : decode cX9_farthest 93 = .ok (.ireturn, 1) := dX9_farthest_80_g.2.2.2.2.2.2.2
theorem dX9_joinAll_0_g : (decode cX9_joinAll 0 = .ok (.aload_n 0, 1)) ∧ (decode cX9_joinAll 1 = .ok (.invokevirtual 177, 3)) ∧ (decode cX9_joinAll 4 = .ok (.istore_n 1, 1)) ∧ (decode cX9_joinAll 5 = .ok (.iconst 0, 1)) ∧ (decode cX9_joinAll 6 = .ok (.istore_n 2, 1)) ∧ (decode cX9_joinAll 7 = .ok (.iload_n 2, 1)) ∧ (decode cX9_joinAll 8 = .ok (.iload_n 1, 1)) ∧ (decode cX9_joinAll 9 = .ok (.if_icmp .ge 23, 3)) := by decide +kernel
theorem dX9_joinAll_0 : decode cX9_joinAll 0 = .ok (.aload_n 0, 1) := dX9_joinAll_0_g.1
theorem dX9_joinAll_1 : decode cX9_joinAll 1 = .ok (.invokevirtual 177, 3) := dX9_joinAll_0_g.2.1
theorem dX9_joinAll_4 : decode cX9_joinAll 4 = .ok (.istore_n 1, 1) := dX9_joinAll_0_g.2.2.1
theorem dX9_joinAll_5 : decode cX9_joinAll 5 = .ok (.iconst 0, 1) := dX9_joinAll_0_g.2.2.2.1
theorem dX9_joinAll_6 : decode cX9_joinAll 6 = .ok (.istore_n 2, 1) := dX9_joinAll_0_g.2.2.2.2.1
theorem dX9_joinAll_7 : decode cX9_joinAll 7 = .ok (.iload_n 2, 1) := dX9_joinAll_0_g.2.2.2.2.2.1
theorem dX9_joinAll_8 : decode cX9_joinAll 8 = .ok (.iload_n 1, 1) := dX9_joinAll_0_g.2.2.2.2.2.2.1
theorem dX9_joinAll_9 : decode cX9_joinAll 9 = .ok (.if_icmp .ge 23, 3) := dX9_joinAll_0_g.2.2.2.2.2.2.2
theorem dX9_joinAll_12_g : (decode cX9_joinAll 12 = .ok (.aload_n 0, 1)) ∧ (decode cX9_joinAll 13 = .ok (.getfield 70, 3)) ∧ (decode cX9_joinAll 16 = .ok (.iload_n 2, 1)) ∧ (decode cX9_joinAll 17 = .ok (.iconst (-1), 1)) ∧ (decode cX9_joinAll 18 = .ok (.iastore, 1)) ∧ (decode cX9_joinAll 19 = .ok (.aload_n 0, 1)) ∧ (decode cX9_joinAll 20 = .ok (.getfield 76, 3)) ∧ (decode cX9_joinAll 23 = .ok (.iload_n 2, 1)) := by decide +kernel
theorem dX9_joinAll_12 : decode cX9_joinAll 12 = .ok (.aload_n 0, 1) := dX9_joinAll_12_g.1
theorem dX9_joinAll_13 : decode cX9_joinAll 13 = .ok (.getfield 70, 3) := dX9_joinAll_12_g.2.1
theorem dX9_joinAll_16 : decode cX9_joinAll 16 = .ok (.iload_n 2, 1) := dX9_joinAll_12_g.2.2.1
theorem dX9_joinAll_17 : decode cX9_joinAll 17 = .ok (.iconst (-1), 1) := dX9_joinAll_12_g.2.2.2.1
theorem dX9_joinAll_18 : decode cX9_joinAll 18 = .ok (.iastore, 1) := dX9_joinAll_12_g.2.2.2.2.1
theorem dX9_joinAll_19 : decode cX9_joinAll 19 = .ok (.aload_n 0, 1) := dX9_joinAll_12_g.2.2.2.2.2.1
theorem dX9_joinAll_20 : decode cX9_joinAll 20 = .ok (.getfield 76, 3) := dX9_joinAll_12_g.2.2.2.2.2.2.1
theorem dX9_joinAll_23 : decode cX9_joinAll 23 = .ok (.iload_n 2, 1) := dX9_joinAll_12_g.2.2.2.2.2.2.2
theorem dX9_joinAll_24_g : (decode cX9_joinAll 24 = .ok (.iconst (-1), 1)) ∧ (decode cX9_joinAll 25 = .ok (.iastore, 1)) ∧ (decode cX9_joinAll 26 = .ok (.iinc 2 1, 3)) ∧ (decode cX9_joinAll 29 = .ok (.goto (-22), 3)) ∧ (decode cX9_joinAll 32 = .ok (.aload_n 0, 1)) ∧ (decode cX9_joinAll 33 = .ok (.iconst 0, 1)) ∧ (decode cX9_joinAll 34 = .ok (.putfield 229, 3)) ∧ (decode cX9_joinAll 37 = .ok (.iconst 0, 1)) := by decide +kernel
theorem dX9_joinAll_24 : decode cX9_joinAll 24 = .ok (.iconst (-1), 1) := dX9_joinAll_24_g.1
theorem dX9_joinAll_25 : decode cX9_joinAll 25 = .ok (.iastore, 1) := dX9_joinAll_24_g.2.1
theorem dX9_joinAll_26 : decode cX9_joinAll 26 = .ok (.iinc 2 1, 3) := dX9_joinAll_24_g.2.2.1
theorem dX9_joinAll_29 : decode cX9_joinAll 29 = .ok (.goto (-22), 3) := dX9_joinAll_24_g.2.2.2.1
theorem dX9_joinAll_32 : decode cX9_joinAll 32 = .ok (.aload_n 0, 1) := dX9_joinAll_24_g.2.2.2.2.1
theorem dX9_joinAll_33 : decode cX9_joinAll 33 = .ok (.iconst 0, 1) := dX9_joinAll_24_g.2.2.2.2.2.1
theorem dX9_joinAll_34 : decode cX9_joinAll 34 = .ok (.putfield 229, 3) := dX9_joinAll_24_g.2.2.2.2.2.2.1
theorem dX9_joinAll_37 : decode cX9_joinAll 37 = .ok (.iconst 0, 1) := dX9_joinAll_24_g.2.2.2.2.2.2.2
theorem dX9_joinAll_38_g : (decode cX9_joinAll 38 = .ok (.istore_n 2, 1)) ∧ (decode cX9_joinAll 39 = .ok (.iconst 0, 1)) ∧ (decode cX9_joinAll 40 = .ok (.istore_n 3, 1)) ∧ (decode cX9_joinAll 41 = .ok (.iload_n 3, 1)) ∧ (decode cX9_joinAll 42 = .ok (.iload_n 1, 1)) ∧ (decode cX9_joinAll 43 = .ok (.if_icmp .ge 465, 3)) ∧ (decode cX9_joinAll 46 = .ok (.aload_n 0, 1)) ∧ (decode cX9_joinAll 47 = .ok (.iload_n 3, 1)) := by decide +kernel
theorem dX9_joinAll_38 : decode cX9_joinAll 38 = .ok (.istore_n 2, 1) := dX9_joinAll_38_g.1
theorem dX9_joinAll_39 : decode cX9_joinAll 39 = .ok (.iconst 0, 1) := dX9_joinAll_38_g.2.1
theorem dX9_joinAll_40 : decode cX9_joinAll 40 = .ok (.istore_n 3, 1) := dX9_joinAll_38_g.2.2.1
theorem dX9_joinAll_41 : decode cX9_joinAll 41 = .ok (.iload_n 3, 1) := dX9_joinAll_38_g.2.2.2.1
theorem dX9_joinAll_42 : decode cX9_joinAll 42 = .ok (.iload_n 1, 1) := dX9_joinAll_38_g.2.2.2.2.1
theorem dX9_joinAll_43 : decode cX9_joinAll 43 = .ok (.if_icmp .ge 465, 3) := dX9_joinAll_38_g.2.2.2.2.2.1
theorem dX9_joinAll_46 : decode cX9_joinAll 46 = .ok (.aload_n 0, 1) := dX9_joinAll_38_g.2.2.2.2.2.2.1
theorem dX9_joinAll_47 : decode cX9_joinAll 47 = .ok (.iload_n 3, 1) := dX9_joinAll_38_g.2.2.2.2.2.2.2
theorem dX9_joinAll_48_g : (decode cX9_joinAll 48 = .ok (.aload_n 0, 1)) ∧ (decode cX9_joinAll 49 = .ok (.getfield 39, 3)) ∧ (decode cX9_joinAll 52 = .ok (.invokevirtual 180, 3)) ∧ (decode cX9_joinAll 55 = .ok (.aload_n 0, 1)) ∧ (decode cX9_joinAll 56 = .ok (.getfield 70, 3)) ∧ (decode cX9_joinAll 59 = .ok (.iload_n 3, 1)) ∧ (decode cX9_joinAll 60 = .ok (.iaload, 1)) ∧ (decode cX9_joinAll 61 = .ok (.iconst (-1), 1)) := by decide +kernel
theorem dX9_joinAll_48 : decode cX9_joinAll 48 = .ok (.aload_n 0, 1) := dX9_joinAll_48_g.1
theorem dX9_joinAll_49 : decode cX9_joinAll 49 = .ok (.getfield 39, 3) := dX9_joinAll_48_g.2.1
theorem dX9_joinAll_52 : decode cX9_joinAll 52 = .ok (.invokevirtual 180, 3) := dX9_joinAll_48_g.2.2.1
theorem dX9_joinAll_55 : decode cX9_joinAll 55 = .ok (.aload_n 0, 1) := dX9_joinAll_48_g.2.2.2.1
theorem dX9_joinAll_56 : decode cX9_joinAll 56 = .ok (.getfield 70, 3) := dX9_joinAll_48_g.2.2.2.2.1
theorem dX9_joinAll_59 : decode cX9_joinAll 59 = .ok (.iload_n 3, 1) := dX9_joinAll_48_g.2.2.2.2.2.1
theorem dX9_joinAll_60 : decode cX9_joinAll 60 = .ok (.iaload, 1) := dX9_joinAll_48_g.2.2.2.2.2.2.1
theorem dX9_joinAll_61 : decode cX9_joinAll 61 = .ok (.iconst (-1), 1) := dX9_joinAll_48_g.2.2.2.2.2.2.2
theorem dX9_joinAll_62_g : (decode cX9_joinAll 62 = .ok (.if_icmp .ne 440, 3)) ∧ (decode cX9_joinAll 65 = .ok (.aload_n 0, 1)) ∧ (decode cX9_joinAll 66 = .ok (.aload_n 0, 1)) ∧ (decode cX9_joinAll 67 = .ok (.getfield 39, 3)) ∧ (decode cX9_joinAll 70 = .ok (.invokevirtual 166, 3)) ∧ (decode cX9_joinAll 73 = .ok (.ifCond .ne 6, 3)) ∧ (decode cX9_joinAll 76 = .ok (.goto 426, 3)) ∧ (decode cX9_joinAll 79 = .ok (.iconst 0, 1)) := by decide +kernel
theorem dX9_joinAll_62 : decode cX9_joinAll 62 = .ok (.if_icmp .ne 440, 3) := dX9_joinAll_62_g.1
theorem dX9_joinAll_65 : decode cX9_joinAll 65 = .ok (.aload_n 0, 1) := dX9_joinAll_62_g.2.1
theorem dX9_joinAll_66 : decode cX9_joinAll 66 = .ok (.aload_n 0, 1) := dX9_joinAll_62_g.2.2.1
theorem dX9_joinAll_67 : decode cX9_joinAll 67 = .ok (.getfield 39, 3) := dX9_joinAll_62_g.2.2.2.1
theorem dX9_joinAll_70 : decode cX9_joinAll 70 = .ok (.invokevirtual 166, 3) := dX9_joinAll_62_g.2.2.2.2.1
theorem dX9_joinAll_73 : decode cX9_joinAll 73 = .ok (.ifCond .ne 6, 3) := dX9_joinAll_62_g.2.2.2.2.2.1
theorem dX9_joinAll_76 : decode cX9_joinAll 76 = .ok (.goto 426, 3) := dX9_joinAll_62_g.2.2.2.2.2.2.1
theorem dX9_joinAll_79 : decode cX9_joinAll 79 = .ok (.iconst 0, 1) := dX9_joinAll_62_g.2.2.2.2.2.2.2
theorem dX9_joinAll_80_g : (decode cX9_joinAll 80 = .ok (.istore 4, 2)) ∧ (decode cX9_joinAll 82 = .ok (.iconst 0, 1)) ∧ (decode cX9_joinAll 83 = .ok (.istore 5, 2)) ∧ (decode cX9_joinAll 85 = .ok (.aload_n 0, 1)) ∧ (decode cX9_joinAll 86 = .ok (.getfield 79, 3)) ∧ (decode cX9_joinAll 89 = .ok (.iconst 0, 1)) ∧ (decode cX9_joinAll 90 = .ok (.iload_n 3, 1)) ∧ (decode cX9_joinAll 91 = .ok (.iastore, 1)) := by decide +kernel
theorem dX9_joinAll_80 : decode cX9_joinAll 80 = .ok (.istore 4, 2) := dX9_joinAll_80_g.1
theorem dX9_joinAll_82 : decode cX9_joinAll 82 = .ok (.iconst 0, 1) := dX9_joinAll_80_g.2.1
theorem dX9_joinAll_83 : decode cX9_joinAll 83 = .ok (.istore 5, 2) := dX9_joinAll_80_g.2.2.1
theorem dX9_joinAll_85 : decode cX9_joinAll 85 = .ok (.aload_n 0, 1) := dX9_joinAll_80_g.2.2.2.1
theorem dX9_joinAll_86 : decode cX9_joinAll 86 = .ok (.getfield 79, 3) := dX9_joinAll_80_g.2.2.2.2.1
theorem dX9_joinAll_89 : decode cX9_joinAll 89 = .ok (.iconst 0, 1) := dX9_joinAll_80_g.2.2.2.2.2.1
theorem dX9_joinAll_90 : decode cX9_joinAll 90 = .ok (.iload_n 3, 1) := dX9_joinAll_80_g.2.2.2.2.2.2.1
theorem dX9_joinAll_91 : decode cX9_joinAll 91 = .ok (.iastore, 1) := dX9_joinAll_80_g.2.2.2.2.2.2.2
theorem dX9_joinAll_92_g : (decode cX9_joinAll 92 = .ok (.aload_n 0, 1)) ∧ (decode cX9_joinAll 93 = .ok (.getfield 85, 3)) ∧ (decode cX9_joinAll 96 = .ok (.iload_n 3, 1)) ∧ (decode cX9_joinAll 97 = .ok (.iconst 0, 1)) ∧ (decode cX9_joinAll 98 = .ok (.iastore, 1)) ∧ (decode cX9_joinAll 99 = .ok (.aload_n 0, 1)) ∧ (decode cX9_joinAll 100 = .ok (.getfield 70, 3)) ∧ (decode cX9_joinAll 103 = .ok (.iload_n 3, 1)) := by decide +kernel
theorem dX9_joinAll_92 : decode cX9_joinAll 92 = .ok (.aload_n 0, 1) := dX9_joinAll_92_g.1
theorem dX9_joinAll_93 : decode cX9_joinAll 93 = .ok (.getfield 85, 3) := dX9_joinAll_92_g.2.1
theorem dX9_joinAll_96 : decode cX9_joinAll 96 = .ok (.iload_n 3, 1) := dX9_joinAll_92_g.2.2.1
theorem dX9_joinAll_97 : decode cX9_joinAll 97 = .ok (.iconst 0, 1) := dX9_joinAll_92_g.2.2.2.1
theorem dX9_joinAll_98 : decode cX9_joinAll 98 = .ok (.iastore, 1) := dX9_joinAll_92_g.2.2.2.2.1
theorem dX9_joinAll_99 : decode cX9_joinAll 99 = .ok (.aload_n 0, 1) := dX9_joinAll_92_g.2.2.2.2.2.1
theorem dX9_joinAll_100 : decode cX9_joinAll 100 = .ok (.getfield 70, 3) := dX9_joinAll_92_g.2.2.2.2.2.2.1
theorem dX9_joinAll_103 : decode cX9_joinAll 103 = .ok (.iload_n 3, 1) := dX9_joinAll_92_g.2.2.2.2.2.2.2
theorem dX9_joinAll_104_g : (decode cX9_joinAll 104 = .ok (.iload_n 2, 1)) ∧ (decode cX9_joinAll 105 = .ok (.iastore, 1)) ∧ (decode cX9_joinAll 106 = .ok (.aload_n 0, 1)) ∧ (decode cX9_joinAll 107 = .ok (.getfield 73, 3)) ∧ (decode cX9_joinAll 110 = .ok (.iload_n 3, 1)) ∧ (decode cX9_joinAll 111 = .ok (.iload_n 2, 1)) ∧ (decode cX9_joinAll 112 = .ok (.iastore, 1)) ∧ (decode cX9_joinAll 113 = .ok (.iinc 2 1, 3)) := by decide +kernel
theorem dX9_joinAll_104 : decode cX9_joinAll 104 = .ok (.iload_n 2, 1) := dX9_joinAll_104_g.1
theorem dX9_joinAll_105 : decode cX9_joinAll 105 = .ok (.iastore, 1) := dX9_joinAll_104_g.2.1
theorem dX9_joinAll_106 : decode cX9_joinAll 106 = .ok (.aload_n 0, 1) := dX9_joinAll_104_g.2.2.1
theorem dX9_joinAll_107 : decode cX9_joinAll 107 = .ok (.getfield 73, 3) := dX9_joinAll_104_g.2.2.2.1
theorem dX9_joinAll_110 : decode cX9_joinAll 110 = .ok (.iload_n 3, 1) := dX9_joinAll_104_g.2.2.2.2.1
theorem dX9_joinAll_111 : decode cX9_joinAll 111 = .ok (.iload_n 2, 1) := dX9_joinAll_104_g.2.2.2.2.2.1
theorem dX9_joinAll_112 : decode cX9_joinAll 112 = .ok (.iastore, 1) := dX9_joinAll_104_g.2.2.2.2.2.2.1
theorem dX9_joinAll_113 : decode cX9_joinAll 113 = .ok (.iinc 2 1, 3) := dX9_joinAll_104_g.2.2.2.2.2.2.2
theorem dX9_joinAll_116_g : (decode cX9_joinAll 116 = .ok (.aload_n 0, 1)) ∧ (decode cX9_joinAll 117 = .ok (.getfield 82, 3)) ∧ (decode cX9_joinAll 120 = .ok (.iconst 0, 1)) ∧ (decode cX9_joinAll 121 = .ok (.iload_n 3, 1)) ∧ (decode cX9_joinAll 122 = .ok (.iastore, 1)) ∧ (decode cX9_joinAll 123 = .ok (.iconst 1, 1)) ∧ (decode cX9_joinAll 124 = .ok (.istore 5, 2)) ∧ (decode cX9_joinAll 126 = .ok (.iconst 1, 1)) := by decide +kernel
theorem dX9_joinAll_116 : decode cX9_joinAll 116 = .ok (.aload_n 0, 1) := dX9_joinAll_116_g.1
theorem dX9_joinAll_117 : decode cX9_joinAll 117 = .ok (.getfield 82, 3) := dX9_joinAll_116_g.2.1
theorem dX9_joinAll_120 : decode cX9_joinAll 120 = .ok (.iconst 0, 1) := dX9_joinAll_116_g.2.2.1
theorem dX9_joinAll_121 : decode cX9_joinAll 121 = .ok (.iload_n 3, 1) := dX9_joinAll_116_g.2.2.2.1
theorem dX9_joinAll_122 : decode cX9_joinAll 122 = .ok (.iastore, 1) := dX9_joinAll_116_g.2.2.2.2.1
theorem dX9_joinAll_123 : decode cX9_joinAll 123 = .ok (.iconst 1, 1) := dX9_joinAll_116_g.2.2.2.2.2.1
theorem dX9_joinAll_124 : decode cX9_joinAll 124 = .ok (.istore 5, 2) := dX9_joinAll_116_g.2.2.2.2.2.2.1
theorem dX9_joinAll_126 : decode cX9_joinAll 126 = .ok (.iconst 1, 1) := dX9_joinAll_116_g.2.2.2.2.2.2.2
theorem dX9_joinAll_127_g : (decode cX9_joinAll 127 = .ok (.istore 4, 2)) ∧ (decode cX9_joinAll 129 = .ok (.iload 4, 2)) ∧ (decode cX9_joinAll 131 = .ok (.ifCond .le 371, 3)) ∧ (decode cX9_joinAll 134 = .ok (.aload_n 0, 1)) ∧ (decode cX9_joinAll 135 = .ok (.getfield 79, 3)) ∧ (decode cX9_joinAll 138 = .ok (.iload 4, 2)) ∧ (decode cX9_joinAll 140 = .ok (.iconst 1, 1)) ∧ (decode cX9_joinAll 141 = .ok (.isub, 1)) := by decide +kernel
theorem dX9_joinAll_127 : decode cX9_joinAll 127 = .ok (.istore 4, 2) := dX9_joinAll_127_g.1
theorem dX9_joinAll_129 : decode cX9_joinAll 129 = .ok (.iload 4, 2) := dX9_joinAll_127_g.2.1
theorem dX9_joinAll_131 : decode cX9_joinAll 131 = .ok (.ifCond .le 371, 3) := dX9_joinAll_127_g.2.2.1
theorem dX9_joinAll_134 : decode cX9_joinAll 134 = .ok (.aload_n 0, 1) := dX9_joinAll_127_g.2.2.2.1
theorem dX9_joinAll_135 : decode cX9_joinAll 135 = .ok (.getfield 79, 3) := dX9_joinAll_127_g.2.2.2.2.1
theorem dX9_joinAll_138 : decode cX9_joinAll 138 = .ok (.iload 4, 2) := dX9_joinAll_127_g.2.2.2.2.2.1
theorem dX9_joinAll_140 : decode cX9_joinAll 140 = .ok (.iconst 1, 1) := dX9_joinAll_127_g.2.2.2.2.2.2.1
theorem dX9_joinAll_141 : decode cX9_joinAll 141 = .ok (.isub, 1) := dX9_joinAll_127_g.2.2.2.2.2.2.2
theorem dX9_joinAll_142_g : (decode cX9_joinAll 142 = .ok (.iaload, 1)) ∧ (decode cX9_joinAll 143 = .ok (.istore 6, 2)) ∧ (decode cX9_joinAll 145 = .ok (.aload_n 0, 1)) ∧ (decode cX9_joinAll 146 = .ok (.getfield 85, 3)) ∧ (decode cX9_joinAll 149 = .ok (.iload 6, 2)) ∧ (decode cX9_joinAll 151 = .ok (.iaload, 1)) ∧ (decode cX9_joinAll 152 = .ok (.bipush 25, 2)) ∧ (decode cX9_joinAll 154 = .ok (.if_icmp .ge 191, 3)) := by decide +kernel
theorem dX9_joinAll_142 : decode cX9_joinAll 142 = .ok (.iaload, 1) := dX9_joinAll_142_g.1
theorem dX9_joinAll_143 : decode cX9_joinAll 143 = .ok (.istore 6, 2) := dX9_joinAll_142_g.2.1
theorem dX9_joinAll_145 : decode cX9_joinAll 145 = .ok (.aload_n 0, 1) := dX9_joinAll_142_g.2.2.1
theorem dX9_joinAll_146 : decode cX9_joinAll 146 = .ok (.getfield 85, 3) := dX9_joinAll_142_g.2.2.2.1
theorem dX9_joinAll_149 : decode cX9_joinAll 149 = .ok (.iload 6, 2) := dX9_joinAll_142_g.2.2.2.2.1
theorem dX9_joinAll_151 : decode cX9_joinAll 151 = .ok (.iaload, 1) := dX9_joinAll_142_g.2.2.2.2.2.1
theorem dX9_joinAll_152 : decode cX9_joinAll 152 = .ok (.bipush 25, 2) := dX9_joinAll_142_g.2.2.2.2.2.2.1
theorem dX9_joinAll_154 : decode cX9_joinAll 154 = .ok (.if_icmp .ge 191, 3) := dX9_joinAll_142_g.2.2.2.2.2.2.2
theorem dX9_joinAll_157_g : (decode cX9_joinAll 157 = .ok (.aload_n 0, 1)) ∧ (decode cX9_joinAll 158 = .ok (.getfield 85, 3)) ∧ (decode cX9_joinAll 161 = .ok (.iload 6, 2)) ∧ (decode cX9_joinAll 163 = .ok (.iaload, 1)) ∧ (decode cX9_joinAll 164 = .ok (.istore 7, 2)) ∧ (decode cX9_joinAll 166 = .ok (.aload_n 0, 1)) ∧ (decode cX9_joinAll 167 = .ok (.getfield 85, 3)) ∧ (decode cX9_joinAll 170 = .ok (.iload 6, 2)) := by decide +kernel
theorem dX9_joinAll_157 : decode cX9_joinAll 157 = .ok (.aload_n 0, 1) := dX9_joinAll_157_g.1
theorem dX9_joinAll_158 : decode cX9_joinAll 158 = .ok (.getfield 85, 3) := dX9_joinAll_157_g.2.1
theorem dX9_joinAll_161 : decode cX9_joinAll 161 = .ok (.iload 6, 2) := dX9_joinAll_157_g.2.2.1
theorem dX9_joinAll_163 : decode cX9_joinAll 163 = .ok (.iaload, 1) := dX9_joinAll_157_g.2.2.2.1
theorem dX9_joinAll_164 : decode cX9_joinAll 164 = .ok (.istore 7, 2) := dX9_joinAll_157_g.2.2.2.2.1
theorem dX9_joinAll_166 : decode cX9_joinAll 166 = .ok (.aload_n 0, 1) := dX9_joinAll_157_g.2.2.2.2.2.1
theorem dX9_joinAll_167 : decode cX9_joinAll 167 = .ok (.getfield 85, 3) := dX9_joinAll_157_g.2.2.2.2.2.2.1
theorem dX9_joinAll_170 : decode cX9_joinAll 170 = .ok (.iload 6, 2) := dX9_joinAll_157_g.2.2.2.2.2.2.2
theorem dX9_joinAll_172_g : (decode cX9_joinAll 172 = .ok (.dup2, 1)) ∧ (decode cX9_joinAll 173 = .ok (.iaload, 1)) ∧ (decode cX9_joinAll 174 = .ok (.iconst 1, 1)) ∧ (decode cX9_joinAll 175 = .ok (.iadd, 1)) ∧ (decode cX9_joinAll 176 = .ok (.iastore, 1)) ∧ (decode cX9_joinAll 177 = .ok (.iload 7, 2)) ∧ (decode cX9_joinAll 179 = .ok (.iconst 5, 1)) ∧ (decode cX9_joinAll 180 = .ok (.idiv, 1)) := by decide +kernel
theorem dX9_joinAll_172 : decode cX9_joinAll 172 = .ok (.dup2, 1) := dX9_joinAll_172_g.1
theorem dX9_joinAll_173 : decode cX9_joinAll 173 = .ok (.iaload, 1) := dX9_joinAll_172_g.2.1
theorem dX9_joinAll_174 : decode cX9_joinAll 174 = .ok (.iconst 1, 1) := dX9_joinAll_172_g.2.2.1
theorem dX9_joinAll_175 : decode cX9_joinAll 175 = .ok (.iadd, 1) := dX9_joinAll_172_g.2.2.2.1
theorem dX9_joinAll_176 : decode cX9_joinAll 176 = .ok (.iastore, 1) := dX9_joinAll_172_g.2.2.2.2.1
theorem dX9_joinAll_177 : decode cX9_joinAll 177 = .ok (.iload 7, 2) := dX9_joinAll_172_g.2.2.2.2.2.1
theorem dX9_joinAll_179 : decode cX9_joinAll 179 = .ok (.iconst 5, 1) := dX9_joinAll_172_g.2.2.2.2.2.2.1
theorem dX9_joinAll_180 : decode cX9_joinAll 180 = .ok (.idiv, 1) := dX9_joinAll_172_g.2.2.2.2.2.2.2
theorem dX9_joinAll_181_g : (decode cX9_joinAll 181 = .ok (.aload_n 0, 1)) ∧ (decode cX9_joinAll 182 = .ok (.getfield 7, 3)) ∧ (decode cX9_joinAll 185 = .ok (.if_icmp .ge (-56), 3)) ∧ (decode cX9_joinAll 188 = .ok (.iload 7, 2)) ∧ (decode cX9_joinAll 190 = .ok (.iconst 5, 1)) ∧ (decode cX9_joinAll 191 = .ok (.irem, 1)) ∧ (decode cX9_joinAll 192 = .ok (.aload_n 0, 1)) ∧ (decode cX9_joinAll 193 = .ok (.getfield 7, 3)) := by decide +kernel
theorem dX9_joinAll_181 : decode cX9_joinAll 181 = .ok (.aload_n 0, 1) := dX9_joinAll_181_g.1
theorem dX9_joinAll_182 : decode cX9_joinAll 182 = .ok (.getfield 7, 3) := dX9_joinAll_181_g.2.1
theorem dX9_joinAll_185 : decode cX9_joinAll 185 = .ok (.if_icmp .ge (-56), 3) := dX9_joinAll_181_g.2.2.1
theorem dX9_joinAll_188 : decode cX9_joinAll 188 = .ok (.iload 7, 2) := dX9_joinAll_181_g.2.2.2.1
theorem dX9_joinAll_190 : decode cX9_joinAll 190 = .ok (.iconst 5, 1) := dX9_joinAll_181_g.2.2.2.2.1
theorem dX9_joinAll_191 : decode cX9_joinAll 191 = .ok (.irem, 1) := dX9_joinAll_181_g.2.2.2.2.2.1
theorem dX9_joinAll_192 : decode cX9_joinAll 192 = .ok (.aload_n 0, 1) := dX9_joinAll_181_g.2.2.2.2.2.2.1
theorem dX9_joinAll_193 : decode cX9_joinAll 193 = .ok (.getfield 7, 3) := dX9_joinAll_181_g.2.2.2.2.2.2.2
theorem dX9_joinAll_196_g : (decode cX9_joinAll 196 = .ok (.if_icmp .lt 6, 3)) ∧ (decode cX9_joinAll 199 = .ok (.goto (-70), 3)) ∧ (decode cX9_joinAll 202 = .ok (.aload_n 0, 1)) ∧ (decode cX9_joinAll 203 = .ok (.iload 6, 2)) ∧ (decode cX9_joinAll 205 = .ok (.aload_n 0, 1)) ∧ (decode cX9_joinAll 206 = .ok (.getfield 39, 3)) ∧ (decode cX9_joinAll 209 = .ok (.invokevirtual 180, 3)) ∧ (decode cX9_joinAll 212 = .ok (.aload_n 0, 1)) := by decide +kernel
theorem dX9_joinAll_196 : decode cX9_joinAll 196 = .ok (.if_icmp .lt 6, 3) := dX9_joinAll_196_g.1
theorem dX9_joinAll_199 : decode cX9_joinAll 199 = .ok (.goto (-70), 3) := dX9_joinAll_196_g.2.1
theorem dX9_joinAll_202 : decode cX9_joinAll 202 = .ok (.aload_n 0, 1) := dX9_joinAll_196_g.2.2.1
theorem dX9_joinAll_203 : decode cX9_joinAll 203 = .ok (.iload 6, 2) := dX9_joinAll_196_g.2.2.2.1
theorem dX9_joinAll_205 : decode cX9_joinAll 205 = .ok (.aload_n 0, 1) := dX9_joinAll_196_g.2.2.2.2.1
theorem dX9_joinAll_206 : decode cX9_joinAll 206 = .ok (.getfield 39, 3) := dX9_joinAll_196_g.2.2.2.2.2.1
theorem dX9_joinAll_209 : decode cX9_joinAll 209 = .ok (.invokevirtual 180, 3) := dX9_joinAll_196_g.2.2.2.2.2.2.1
theorem dX9_joinAll_212 : decode cX9_joinAll 212 = .ok (.aload_n 0, 1) := dX9_joinAll_196_g.2.2.2.2.2.2.2
theorem dX9_joinAll_213_g : (decode cX9_joinAll 213 = .ok (.iload 7, 2)) ∧ (decode cX9_joinAll 215 = .ok (.iconst 5, 1)) ∧ (decode cX9_joinAll 216 = .ok (.idiv, 1)) ∧ (decode cX9_joinAll 217 = .ok (.iload 7, 2)) ∧ (decode cX9_joinAll 219 = .ok (.iconst 5, 1)) ∧ (decode cX9_joinAll 220 = .ok (.irem, 1)) ∧ (decode cX9_joinAll 221 = .ok (.invokevirtual 211, 3)) ∧ (decode cX9_joinAll 224 = .ok (.istore 8, 2)) := by decide +kernel
theorem dX9_joinAll_213 : decode cX9_joinAll 213 = .ok (.iload 7, 2) := dX9_joinAll_213_g.1
theorem dX9_joinAll_215 : decode cX9_joinAll 215 = .ok (.iconst 5, 1) := dX9_joinAll_213_g.2.1
theorem dX9_joinAll_216 : decode cX9_joinAll 216 = .ok (.idiv, 1) := dX9_joinAll_213_g.2.2.1
theorem dX9_joinAll_217 : decode cX9_joinAll 217 = .ok (.iload 7, 2) := dX9_joinAll_213_g.2.2.2.1
theorem dX9_joinAll_219 : decode cX9_joinAll 219 = .ok (.iconst 5, 1) := dX9_joinAll_213_g.2.2.2.2.1
theorem dX9_joinAll_220 : decode cX9_joinAll 220 = .ok (.irem, 1) := dX9_joinAll_213_g.2.2.2.2.2.1
theorem dX9_joinAll_221 : decode cX9_joinAll 221 = .ok (.invokevirtual 211, 3) := dX9_joinAll_213_g.2.2.2.2.2.2.1
theorem dX9_joinAll_224 : decode cX9_joinAll 224 = .ok (.istore 8, 2) := dX9_joinAll_213_g.2.2.2.2.2.2.2
theorem dX9_joinAll_226_g : (decode cX9_joinAll 226 = .ok (.iload 8, 2)) ∧ (decode cX9_joinAll 228 = .ok (.iconst (-1), 1)) ∧ (decode cX9_joinAll 229 = .ok (.if_icmp .ne 6, 3)) ∧ (decode cX9_joinAll 232 = .ok (.goto (-103), 3)) ∧ (decode cX9_joinAll 235 = .ok (.aload_n 0, 1)) ∧ (decode cX9_joinAll 236 = .ok (.getfield 70, 3)) ∧ (decode cX9_joinAll 239 = .ok (.iload 8, 2)) ∧ (decode cX9_joinAll 241 = .ok (.iaload, 1)) := by decide +kernel
theorem dX9_joinAll_226 : decode cX9_joinAll 226 = .ok (.iload 8, 2) := dX9_joinAll_226_g.1
theorem dX9_joinAll_228 : decode cX9_joinAll 228 = .ok (.iconst (-1), 1) := dX9_joinAll_226_g.2.1
theorem dX9_joinAll_229 : decode cX9_joinAll 229 = .ok (.if_icmp .ne 6, 3) := dX9_joinAll_226_g.2.2.1
theorem dX9_joinAll_232 : decode cX9_joinAll 232 = .ok (.goto (-103), 3) := dX9_joinAll_226_g.2.2.2.1
theorem dX9_joinAll_235 : decode cX9_joinAll 235 = .ok (.aload_n 0, 1) := dX9_joinAll_226_g.2.2.2.2.1
theorem dX9_joinAll_236 : decode cX9_joinAll 236 = .ok (.getfield 70, 3) := dX9_joinAll_226_g.2.2.2.2.2.1
theorem dX9_joinAll_239 : decode cX9_joinAll 239 = .ok (.iload 8, 2) := dX9_joinAll_226_g.2.2.2.2.2.2.1
theorem dX9_joinAll_241 : decode cX9_joinAll 241 = .ok (.iaload, 1) := dX9_joinAll_226_g.2.2.2.2.2.2.2
theorem dX9_joinAll_242_g : (decode cX9_joinAll 242 = .ok (.iconst (-1), 1)) ∧ (decode cX9_joinAll 243 = .ok (.if_icmp .ne 57, 3)) ∧ (decode cX9_joinAll 246 = .ok (.aload_n 0, 1)) ∧ (decode cX9_joinAll 247 = .ok (.getfield 70, 3)) ∧ (decode cX9_joinAll 250 = .ok (.iload 8, 2)) ∧ (decode cX9_joinAll 252 = .ok (.iload_n 2, 1)) ∧ (decode cX9_joinAll 253 = .ok (.iastore, 1)) ∧ (decode cX9_joinAll 254 = .ok (.aload_n 0, 1)) := by decide +kernel
theorem dX9_joinAll_242 : decode cX9_joinAll 242 = .ok (.iconst (-1), 1) := dX9_joinAll_242_g.1
theorem dX9_joinAll_243 : decode cX9_joinAll 243 = .ok (.if_icmp .ne 57, 3) := dX9_joinAll_242_g.2.1
theorem dX9_joinAll_246 : decode cX9_joinAll 246 = .ok (.aload_n 0, 1) := dX9_joinAll_242_g.2.2.1
theorem dX9_joinAll_247 : decode cX9_joinAll 247 = .ok (.getfield 70, 3) := dX9_joinAll_242_g.2.2.2.1
theorem dX9_joinAll_250 : decode cX9_joinAll 250 = .ok (.iload 8, 2) := dX9_joinAll_242_g.2.2.2.2.1
theorem dX9_joinAll_252 : decode cX9_joinAll 252 = .ok (.iload_n 2, 1) := dX9_joinAll_242_g.2.2.2.2.2.1
theorem dX9_joinAll_253 : decode cX9_joinAll 253 = .ok (.iastore, 1) := dX9_joinAll_242_g.2.2.2.2.2.2.1
theorem dX9_joinAll_254 : decode cX9_joinAll 254 = .ok (.aload_n 0, 1) := dX9_joinAll_242_g.2.2.2.2.2.2.2
theorem dX9_joinAll_255_g : (decode cX9_joinAll 255 = .ok (.getfield 73, 3)) ∧ (decode cX9_joinAll 258 = .ok (.iload 8, 2)) ∧ (decode cX9_joinAll 260 = .ok (.iload_n 2, 1)) ∧ (decode cX9_joinAll 261 = .ok (.iastore, 1)) ∧ (decode cX9_joinAll 262 = .ok (.iinc 2 1, 3)) ∧ (decode cX9_joinAll 265 = .ok (.aload_n 0, 1)) ∧ (decode cX9_joinAll 266 = .ok (.getfield 85, 3)) ∧ (decode cX9_joinAll 269 = .ok (.iload 8, 2)) := by decide +kernel
theorem dX9_joinAll_255 : decode cX9_joinAll 255 = .ok (.getfield 73, 3) := dX9_joinAll_255_g.1
theorem dX9_joinAll_258 : decode cX9_joinAll 258 = .ok (.iload 8, 2) := dX9_joinAll_255_g.2.1
theorem dX9_joinAll_260 : decode cX9_joinAll 260 = .ok (.iload_n 2, 1) := dX9_joinAll_255_g.2.2.1
theorem dX9_joinAll_261 : decode cX9_joinAll 261 = .ok (.iastore, 1) := dX9_joinAll_255_g.2.2.2.1
theorem dX9_joinAll_262 : decode cX9_joinAll 262 = .ok (.iinc 2 1, 3) := dX9_joinAll_255_g.2.2.2.2.1
theorem dX9_joinAll_265 : decode cX9_joinAll 265 = .ok (.aload_n 0, 1) := dX9_joinAll_255_g.2.2.2.2.2.1
theorem dX9_joinAll_266 : decode cX9_joinAll 266 = .ok (.getfield 85, 3) := dX9_joinAll_255_g.2.2.2.2.2.2.1
theorem dX9_joinAll_269 : decode cX9_joinAll 269 = .ok (.iload 8, 2) := dX9_joinAll_255_g.2.2.2.2.2.2.2
theorem dX9_joinAll_271_g : (decode cX9_joinAll 271 = .ok (.iconst 0, 1)) ∧ (decode cX9_joinAll 272 = .ok (.iastore, 1)) ∧ (decode cX9_joinAll 273 = .ok (.aload_n 0, 1)) ∧ (decode cX9_joinAll 274 = .ok (.getfield 82, 3)) ∧ (decode cX9_joinAll 277 = .ok (.iload 5, 2)) ∧ (decode cX9_joinAll 279 = .ok (.iload 8, 2)) ∧ (decode cX9_joinAll 281 = .ok (.iastore, 1)) ∧ (decode cX9_joinAll 282 = .ok (.iinc 5 1, 3)) := by decide +kernel
theorem dX9_joinAll_271 : decode cX9_joinAll 271 = .ok (.iconst 0, 1) := dX9_joinAll_271_g.1
theorem dX9_joinAll_272 : decode cX9_joinAll 272 = .ok (.iastore, 1) := dX9_joinAll_271_g.2.1
theorem dX9_joinAll_273 : decode cX9_joinAll 273 = .ok (.aload_n 0, 1) := dX9_joinAll_271_g.2.2.1
theorem dX9_joinAll_274 : decode cX9_joinAll 274 = .ok (.getfield 82, 3) := dX9_joinAll_271_g.2.2.2.1
theorem dX9_joinAll_277 : decode cX9_joinAll 277 = .ok (.iload 5, 2) := dX9_joinAll_271_g.2.2.2.2.1
theorem dX9_joinAll_279 : decode cX9_joinAll 279 = .ok (.iload 8, 2) := dX9_joinAll_271_g.2.2.2.2.2.1
theorem dX9_joinAll_281 : decode cX9_joinAll 281 = .ok (.iastore, 1) := dX9_joinAll_271_g.2.2.2.2.2.2.1
theorem dX9_joinAll_282 : decode cX9_joinAll 282 = .ok (.iinc 5 1, 3) := dX9_joinAll_271_g.2.2.2.2.2.2.2
theorem dX9_joinAll_285_g : (decode cX9_joinAll 285 = .ok (.aload_n 0, 1)) ∧ (decode cX9_joinAll 286 = .ok (.getfield 79, 3)) ∧ (decode cX9_joinAll 289 = .ok (.iload 4, 2)) ∧ (decode cX9_joinAll 291 = .ok (.iload 8, 2)) ∧ (decode cX9_joinAll 293 = .ok (.iastore, 1)) ∧ (decode cX9_joinAll 294 = .ok (.iinc 4 1, 3)) ∧ (decode cX9_joinAll 297 = .ok (.goto (-168), 3)) ∧ (decode cX9_joinAll 300 = .ok (.aload_n 0, 1)) := by decide +kernel
theorem dX9_joinAll_285 : decode cX9_joinAll 285 = .ok (.aload_n 0, 1) := dX9_joinAll_285_g.1
theorem dX9_joinAll_286 : decode cX9_joinAll 286 = .ok (.getfield 79, 3) := dX9_joinAll_285_g.2.1
theorem dX9_joinAll_289 : decode cX9_joinAll 289 = .ok (.iload 4, 2) := dX9_joinAll_285_g.2.2.1
theorem dX9_joinAll_291 : decode cX9_joinAll 291 = .ok (.iload 8, 2) := dX9_joinAll_285_g.2.2.2.1
theorem dX9_joinAll_293 : decode cX9_joinAll 293 = .ok (.iastore, 1) := dX9_joinAll_285_g.2.2.2.2.1
theorem dX9_joinAll_294 : decode cX9_joinAll 294 = .ok (.iinc 4 1, 3) := dX9_joinAll_285_g.2.2.2.2.2.1
theorem dX9_joinAll_297 : decode cX9_joinAll 297 = .ok (.goto (-168), 3) := dX9_joinAll_285_g.2.2.2.2.2.2.1
theorem dX9_joinAll_300 : decode cX9_joinAll 300 = .ok (.aload_n 0, 1) := dX9_joinAll_285_g.2.2.2.2.2.2.2
theorem dX9_joinAll_301_g : (decode cX9_joinAll 301 = .ok (.getfield 76, 3)) ∧ (decode cX9_joinAll 304 = .ok (.iload 8, 2)) ∧ (decode cX9_joinAll 306 = .ok (.iaload, 1)) ∧ (decode cX9_joinAll 307 = .ok (.iconst (-1), 1)) ∧ (decode cX9_joinAll 308 = .ok (.if_icmp .ne (-179), 3)) ∧ (decode cX9_joinAll 311 = .ok (.aload_n 0, 1)) ∧ (decode cX9_joinAll 312 = .ok (.getfield 70, 3)) ∧ (decode cX9_joinAll 315 = .ok (.iload 8, 2)) := by decide +kernel
theorem dX9_joinAll_301 : decode cX9_joinAll 301 = .ok (.getfield 76, 3) := dX9_joinAll_301_g.1
theorem dX9_joinAll_304 : decode cX9_joinAll 304 = .ok (.iload 8, 2) := dX9_joinAll_301_g.2.1
theorem dX9_joinAll_306 : decode cX9_joinAll 306 = .ok (.iaload, 1) := dX9_joinAll_301_g.2.2.1
theorem dX9_joinAll_307 : decode cX9_joinAll 307 = .ok (.iconst (-1), 1) := dX9_joinAll_301_g.2.2.2.1
theorem dX9_joinAll_308 : decode cX9_joinAll 308 = .ok (.if_icmp .ne (-179), 3) := dX9_joinAll_301_g.2.2.2.2.1
theorem dX9_joinAll_311 : decode cX9_joinAll 311 = .ok (.aload_n 0, 1) := dX9_joinAll_301_g.2.2.2.2.2.1
theorem dX9_joinAll_312 : decode cX9_joinAll 312 = .ok (.getfield 70, 3) := dX9_joinAll_301_g.2.2.2.2.2.2.1
theorem dX9_joinAll_315 : decode cX9_joinAll 315 = .ok (.iload 8, 2) := dX9_joinAll_301_g.2.2.2.2.2.2.2
theorem dX9_joinAll_317_g : (decode cX9_joinAll 317 = .ok (.iaload, 1)) ∧ (decode cX9_joinAll 318 = .ok (.aload_n 0, 1)) ∧ (decode cX9_joinAll 319 = .ok (.getfield 73, 3)) ∧ (decode cX9_joinAll 322 = .ok (.iload 6, 2)) ∧ (decode cX9_joinAll 324 = .ok (.iaload, 1)) ∧ (decode cX9_joinAll 325 = .ok (.if_icmp .ge (-196), 3)) ∧ (decode cX9_joinAll 328 = .ok (.aload_n 0, 1)) ∧ (decode cX9_joinAll 329 = .ok (.getfield 73, 3)) := by decide +kernel
theorem dX9_joinAll_317 : decode cX9_joinAll 317 = .ok (.iaload, 1) := dX9_joinAll_317_g.1
theorem dX9_joinAll_318 : decode cX9_joinAll 318 = .ok (.aload_n 0, 1) := dX9_joinAll_317_g.2.1
theorem dX9_joinAll_319 : decode cX9_joinAll 319 = .ok (.getfield 73, 3) := dX9_joinAll_317_g.2.2.1
theorem dX9_joinAll_322 : decode cX9_joinAll 322 = .ok (.iload 6, 2) := dX9_joinAll_317_g.2.2.2.1
theorem dX9_joinAll_324 : decode cX9_joinAll 324 = .ok (.iaload, 1) := dX9_joinAll_317_g.2.2.2.2.1
theorem dX9_joinAll_325 : decode cX9_joinAll 325 = .ok (.if_icmp .ge (-196), 3) := dX9_joinAll_317_g.2.2.2.2.2.1
theorem dX9_joinAll_328 : decode cX9_joinAll 328 = .ok (.aload_n 0, 1) := dX9_joinAll_317_g.2.2.2.2.2.2.1
theorem dX9_joinAll_329 : decode cX9_joinAll 329 = .ok (.getfield 73, 3) := dX9_joinAll_317_g.2.2.2.2.2.2.2
theorem dX9_joinAll_332_g : (decode cX9_joinAll 332 = .ok (.iload 6, 2)) ∧ (decode cX9_joinAll 334 = .ok (.aload_n 0, 1)) ∧ (decode cX9_joinAll 335 = .ok (.getfield 70, 3)) ∧ (decode cX9_joinAll 338 = .ok (.iload 8, 2)) ∧ (decode cX9_joinAll 340 = .ok (.iaload, 1)) ∧ (decode cX9_joinAll 341 = .ok (.iastore, 1)) ∧ (decode cX9_joinAll 342 = .ok (.goto (-213), 3)) ∧ (decode cX9_joinAll 345 = .ok (.iinc 4 (-1), 3)) := by decide +kernel
theorem dX9_joinAll_332 : decode cX9_joinAll 332 = .ok (.iload 6, 2) := dX9_joinAll_332_g.1
theorem dX9_joinAll_334 : decode cX9_joinAll 334 = .ok (.aload_n 0, 1) := dX9_joinAll_332_g.2.1
theorem dX9_joinAll_335 : decode cX9_joinAll 335 = .ok (.getfield 70, 3) := dX9_joinAll_332_g.2.2.1
theorem dX9_joinAll_338 : decode cX9_joinAll 338 = .ok (.iload 8, 2) := dX9_joinAll_332_g.2.2.2.1
theorem dX9_joinAll_340 : decode cX9_joinAll 340 = .ok (.iaload, 1) := dX9_joinAll_332_g.2.2.2.2.1
theorem dX9_joinAll_341 : decode cX9_joinAll 341 = .ok (.iastore, 1) := dX9_joinAll_332_g.2.2.2.2.2.1
theorem dX9_joinAll_342 : decode cX9_joinAll 342 = .ok (.goto (-213), 3) := dX9_joinAll_332_g.2.2.2.2.2.2.1
theorem dX9_joinAll_345 : decode cX9_joinAll 345 = .ok (.iinc 4 (-1), 3) := dX9_joinAll_332_g.2.2.2.2.2.2.2
theorem dX9_joinAll_348_g : (decode cX9_joinAll 348 = .ok (.iload 4, 2)) ∧ (decode cX9_joinAll 350 = .ok (.ifCond .le 48, 3)) ∧ (decode cX9_joinAll 353 = .ok (.aload_n 0, 1)) ∧ (decode cX9_joinAll 354 = .ok (.getfield 73, 3)) ∧ (decode cX9_joinAll 357 = .ok (.iload 6, 2)) ∧ (decode cX9_joinAll 359 = .ok (.iaload, 1)) ∧ (decode cX9_joinAll 360 = .ok (.aload_n 0, 1)) ∧ (decode cX9_joinAll 361 = .ok (.getfield 73, 3)) := by decide +kernel
theorem dX9_joinAll_348 : decode cX9_joinAll 348 = .ok (.iload 4, 2) := dX9_joinAll_348_g.1
theorem dX9_joinAll_350 : decode cX9_joinAll 350 = .ok (.ifCond .le 48, 3) := dX9_joinAll_348_g.2.1
theorem dX9_joinAll_353 : decode cX9_joinAll 353 = .ok (.aload_n 0, 1) := dX9_joinAll_348_g.2.2.1
theorem dX9_joinAll_354 : decode cX9_joinAll 354 = .ok (.getfield 73, 3) := dX9_joinAll_348_g.2.2.2.1
theorem dX9_joinAll_357 : decode cX9_joinAll 357 = .ok (.iload 6, 2) := dX9_joinAll_348_g.2.2.2.2.1
theorem dX9_joinAll_359 : decode cX9_joinAll 359 = .ok (.iaload, 1) := dX9_joinAll_348_g.2.2.2.2.2.1
theorem dX9_joinAll_360 : decode cX9_joinAll 360 = .ok (.aload_n 0, 1) := dX9_joinAll_348_g.2.2.2.2.2.2.1
theorem dX9_joinAll_361 : decode cX9_joinAll 361 = .ok (.getfield 73, 3) := dX9_joinAll_348_g.2.2.2.2.2.2.2
theorem dX9_joinAll_364_g : (decode cX9_joinAll 364 = .ok (.aload_n 0, 1)) ∧ (decode cX9_joinAll 365 = .ok (.getfield 79, 3)) ∧ (decode cX9_joinAll 368 = .ok (.iload 4, 2)) ∧ (decode cX9_joinAll 370 = .ok (.iconst 1, 1)) ∧ (decode cX9_joinAll 371 = .ok (.isub, 1)) ∧ (decode cX9_joinAll 372 = .ok (.iaload, 1)) ∧ (decode cX9_joinAll 373 = .ok (.iaload, 1)) ∧ (decode cX9_joinAll 374 = .ok (.if_icmp .ge 24, 3)) := by decide +kernel
theorem dX9_joinAll_364 : decode cX9_joinAll 364 = .ok (.aload_n 0, 1) := dX9_joinAll_364_g.1
theorem dX9_joinAll_365 : decode cX9_joinAll 365 = .ok (.getfield 79, 3) := dX9_joinAll_364_g.2.1
theorem dX9_joinAll_368 : decode cX9_joinAll 368 = .ok (.iload 4, 2) := dX9_joinAll_364_g.2.2.1
theorem dX9_joinAll_370 : decode cX9_joinAll 370 = .ok (.iconst 1, 1) := dX9_joinAll_364_g.2.2.2.1
theorem dX9_joinAll_371 : decode cX9_joinAll 371 = .ok (.isub, 1) := dX9_joinAll_364_g.2.2.2.2.1
theorem dX9_joinAll_372 : decode cX9_joinAll 372 = .ok (.iaload, 1) := dX9_joinAll_364_g.2.2.2.2.2.1
theorem dX9_joinAll_373 : decode cX9_joinAll 373 = .ok (.iaload, 1) := dX9_joinAll_364_g.2.2.2.2.2.2.1
theorem dX9_joinAll_374 : decode cX9_joinAll 374 = .ok (.if_icmp .ge 24, 3) := dX9_joinAll_364_g.2.2.2.2.2.2.2
theorem dX9_joinAll_377_g : (decode cX9_joinAll 377 = .ok (.aload_n 0, 1)) ∧ (decode cX9_joinAll 378 = .ok (.getfield 73, 3)) ∧ (decode cX9_joinAll 381 = .ok (.aload_n 0, 1)) ∧ (decode cX9_joinAll 382 = .ok (.getfield 79, 3)) ∧ (decode cX9_joinAll 385 = .ok (.iload 4, 2)) ∧ (decode cX9_joinAll 387 = .ok (.iconst 1, 1)) ∧ (decode cX9_joinAll 388 = .ok (.isub, 1)) ∧ (decode cX9_joinAll 389 = .ok (.iaload, 1)) := by decide +kernel
theorem dX9_joinAll_377 : decode cX9_joinAll 377 = .ok (.aload_n 0, 1) := dX9_joinAll_377_g.1
theorem dX9_joinAll_378 : decode cX9_joinAll 378 = .ok (.getfield 73, 3) := dX9_joinAll_377_g.2.1
theorem dX9_joinAll_381 : decode cX9_joinAll 381 = .ok (.aload_n 0, 1) := dX9_joinAll_377_g.2.2.1
theorem dX9_joinAll_382 : decode cX9_joinAll 382 = .ok (.getfield 79, 3) := dX9_joinAll_377_g.2.2.2.1
theorem dX9_joinAll_385 : decode cX9_joinAll 385 = .ok (.iload 4, 2) := dX9_joinAll_377_g.2.2.2.2.1
theorem dX9_joinAll_387 : decode cX9_joinAll 387 = .ok (.iconst 1, 1) := dX9_joinAll_377_g.2.2.2.2.2.1
theorem dX9_joinAll_388 : decode cX9_joinAll 388 = .ok (.isub, 1) := dX9_joinAll_377_g.2.2.2.2.2.2.1
theorem dX9_joinAll_389 : decode cX9_joinAll 389 = .ok (.iaload, 1) := dX9_joinAll_377_g.2.2.2.2.2.2.2
theorem dX9_joinAll_390_g : (decode cX9_joinAll 390 = .ok (.aload_n 0, 1)) ∧ (decode cX9_joinAll 391 = .ok (.getfield 73, 3)) ∧ (decode cX9_joinAll 394 = .ok (.iload 6, 2)) ∧ (decode cX9_joinAll 396 = .ok (.iaload, 1)) ∧ (decode cX9_joinAll 397 = .ok (.iastore, 1)) ∧ (decode cX9_joinAll 398 = .ok (.aload_n 0, 1)) ∧ (decode cX9_joinAll 399 = .ok (.getfield 73, 3)) ∧ (decode cX9_joinAll 402 = .ok (.iload 6, 2)) := by decide +kernel
theorem dX9_joinAll_390 : decode cX9_joinAll 390 = .ok (.aload_n 0, 1) := dX9_joinAll_390_g.1
theorem dX9_joinAll_391 : decode cX9_joinAll 391 = .ok (.getfield 73, 3) := dX9_joinAll_390_g.2.1
theorem dX9_joinAll_394 : decode cX9_joinAll 394 = .ok (.iload 6, 2) := dX9_joinAll_390_g.2.2.1
theorem dX9_joinAll_396 : decode cX9_joinAll 396 = .ok (.iaload, 1) := dX9_joinAll_390_g.2.2.2.1
theorem dX9_joinAll_397 : decode cX9_joinAll 397 = .ok (.iastore, 1) := dX9_joinAll_390_g.2.2.2.2.1
theorem dX9_joinAll_398 : decode cX9_joinAll 398 = .ok (.aload_n 0, 1) := dX9_joinAll_390_g.2.2.2.2.2.1
theorem dX9_joinAll_399 : decode cX9_joinAll 399 = .ok (.getfield 73, 3) := dX9_joinAll_390_g.2.2.2.2.2.2.1
theorem dX9_joinAll_402 : decode cX9_joinAll 402 = .ok (.iload 6, 2) := dX9_joinAll_390_g.2.2.2.2.2.2.2
theorem dX9_joinAll_404_g : (decode cX9_joinAll 404 = .ok (.iaload, 1)) ∧ (decode cX9_joinAll 405 = .ok (.aload_n 0, 1)) ∧ (decode cX9_joinAll 406 = .ok (.getfield 70, 3)) ∧ (decode cX9_joinAll 409 = .ok (.iload 6, 2)) ∧ (decode cX9_joinAll 411 = .ok (.iaload, 1)) ∧ (decode cX9_joinAll 412 = .ok (.if_icmp .eq 6, 3)) ∧ (decode cX9_joinAll 415 = .ok (.goto (-286), 3)) ∧ (decode cX9_joinAll 418 = .ok (.aload_n 0, 1)) := by decide +kernel
theorem dX9_joinAll_404 : decode cX9_joinAll 404 = .ok (.iaload, 1) := dX9_joinAll_404_g.1
theorem dX9_joinAll_405 : decode cX9_joinAll 405 = .ok (.aload_n 0, 1) := dX9_joinAll_404_g.2.1
theorem dX9_joinAll_406 : decode cX9_joinAll 406 = .ok (.getfield 70, 3) := dX9_joinAll_404_g.2.2.1
theorem dX9_joinAll_409 : decode cX9_joinAll 409 = .ok (.iload 6, 2) := dX9_joinAll_404_g.2.2.2.1
theorem dX9_joinAll_411 : decode cX9_joinAll 411 = .ok (.iaload, 1) := dX9_joinAll_404_g.2.2.2.2.1
theorem dX9_joinAll_412 : decode cX9_joinAll 412 = .ok (.if_icmp .eq 6, 3) := dX9_joinAll_404_g.2.2.2.2.2.1
theorem dX9_joinAll_415 : decode cX9_joinAll 415 = .ok (.goto (-286), 3) := dX9_joinAll_404_g.2.2.2.2.2.2.1
theorem dX9_joinAll_418 : decode cX9_joinAll 418 = .ok (.aload_n 0, 1) := dX9_joinAll_404_g.2.2.2.2.2.2.2
theorem dX9_joinAll_419_g : (decode cX9_joinAll 419 = .ok (.getfield 88, 3)) ∧ (decode cX9_joinAll 422 = .ok (.aload_n 0, 1)) ∧ (decode cX9_joinAll 423 = .ok (.getfield 229, 3)) ∧ (decode cX9_joinAll 426 = .ok (.iconst 0, 1)) ∧ (decode cX9_joinAll 427 = .ok (.iastore, 1)) ∧ (decode cX9_joinAll 428 = .ok (.iconst 1, 1)) ∧ (decode cX9_joinAll 429 = .ok (.istore 7, 2)) ∧ (decode cX9_joinAll 431 = .ok (.iload 7, 2)) := by decide +kernel
theorem dX9_joinAll_419 : decode cX9_joinAll 419 = .ok (.getfield 88, 3) := dX9_joinAll_419_g.1
theorem dX9_joinAll_422 : decode cX9_joinAll 422 = .ok (.aload_n 0, 1) := dX9_joinAll_419_g.2.1
theorem dX9_joinAll_423 : decode cX9_joinAll 423 = .ok (.getfield 229, 3) := dX9_joinAll_419_g.2.2.1
theorem dX9_joinAll_426 : decode cX9_joinAll 426 = .ok (.iconst 0, 1) := dX9_joinAll_419_g.2.2.2.1
theorem dX9_joinAll_427 : decode cX9_joinAll 427 = .ok (.iastore, 1) := dX9_joinAll_419_g.2.2.2.2.1
theorem dX9_joinAll_428 : decode cX9_joinAll 428 = .ok (.iconst 1, 1) := dX9_joinAll_419_g.2.2.2.2.2.1
theorem dX9_joinAll_429 : decode cX9_joinAll 429 = .ok (.istore 7, 2) := dX9_joinAll_419_g.2.2.2.2.2.2.1
theorem dX9_joinAll_431 : decode cX9_joinAll 431 = .ok (.iload 7, 2) := dX9_joinAll_419_g.2.2.2.2.2.2.2
theorem dX9_joinAll_433_g : (decode cX9_joinAll 433 = .ok (.ifCond .eq 56, 3)) ∧ (decode cX9_joinAll 436 = .ok (.iinc 5 (-1), 3)) ∧ (decode cX9_joinAll 439 = .ok (.aload_n 0, 1)) ∧ (decode cX9_joinAll 440 = .ok (.getfield 82, 3)) ∧ (decode cX9_joinAll 443 = .ok (.iload 5, 2)) ∧ (decode cX9_joinAll 445 = .ok (.iaload, 1)) ∧ (decode cX9_joinAll 446 = .ok (.istore 8, 2)) ∧ (decode cX9_joinAll 448 = .ok (.aload_n 0, 1)) := by decide +kernel
theorem dX9_joinAll_433 : decode cX9_joinAll 433 = .ok (.ifCond .eq 56, 3) := dX9_joinAll_433_g.1
theorem dX9_joinAll_436 : decode cX9_joinAll 436 = .ok (.iinc 5 (-1), 3) := dX9_joinAll_433_g.2.1
theorem dX9_joinAll_439 : decode cX9_joinAll 439 = .ok (.aload_n 0, 1) := dX9_joinAll_433_g.2.2.1
theorem dX9_joinAll_440 : decode cX9_joinAll 440 = .ok (.getfield 82, 3) := dX9_joinAll_433_g.2.2.2.1
theorem dX9_joinAll_443 : decode cX9_joinAll 443 = .ok (.iload 5, 2) := dX9_joinAll_433_g.2.2.2.2.1
theorem dX9_joinAll_445 : decode cX9_joinAll 445 = .ok (.iaload, 1) := dX9_joinAll_433_g.2.2.2.2.2.1
theorem dX9_joinAll_446 : decode cX9_joinAll 446 = .ok (.istore 8, 2) := dX9_joinAll_433_g.2.2.2.2.2.2.1
theorem dX9_joinAll_448 : decode cX9_joinAll 448 = .ok (.aload_n 0, 1) := dX9_joinAll_433_g.2.2.2.2.2.2.2
theorem dX9_joinAll_449_g : (decode cX9_joinAll 449 = .ok (.getfield 76, 3)) ∧ (decode cX9_joinAll 452 = .ok (.iload 8, 2)) ∧ (decode cX9_joinAll 454 = .ok (.aload_n 0, 1)) ∧ (decode cX9_joinAll 455 = .ok (.getfield 229, 3)) ∧ (decode cX9_joinAll 458 = .ok (.iastore, 1)) ∧ (decode cX9_joinAll 459 = .ok (.aload_n 0, 1)) ∧ (decode cX9_joinAll 460 = .ok (.getfield 88, 3)) ∧ (decode cX9_joinAll 463 = .ok (.aload_n 0, 1)) := by decide +kernel
theorem dX9_joinAll_449 : decode cX9_joinAll 449 = .ok (.getfield 76, 3) := dX9_joinAll_449_g.1
theorem dX9_joinAll_452 : decode cX9_joinAll 452 = .ok (.iload 8, 2) := dX9_joinAll_449_g.2.1
theorem dX9_joinAll_454 : decode cX9_joinAll 454 = .ok (.aload_n 0, 1) := dX9_joinAll_449_g.2.2.1
theorem dX9_joinAll_455 : decode cX9_joinAll 455 = .ok (.getfield 229, 3) := dX9_joinAll_449_g.2.2.2.1
theorem dX9_joinAll_458 : decode cX9_joinAll 458 = .ok (.iastore, 1) := dX9_joinAll_449_g.2.2.2.2.1
theorem dX9_joinAll_459 : decode cX9_joinAll 459 = .ok (.aload_n 0, 1) := dX9_joinAll_449_g.2.2.2.2.2.1
theorem dX9_joinAll_460 : decode cX9_joinAll 460 = .ok (.getfield 88, 3) := dX9_joinAll_449_g.2.2.2.2.2.2.1
theorem dX9_joinAll_463 : decode cX9_joinAll 463 = .ok (.aload_n 0, 1) := dX9_joinAll_449_g.2.2.2.2.2.2.2
theorem dX9_joinAll_464_g : (decode cX9_joinAll 464 = .ok (.getfield 229, 3)) ∧ (decode cX9_joinAll 467 = .ok (.dup2, 1)) ∧ (decode cX9_joinAll 468 = .ok (.iaload, 1)) ∧ (decode cX9_joinAll 469 = .ok (.iconst 1, 1)) ∧ (decode cX9_joinAll 470 = .ok (.iadd, 1)) ∧ (decode cX9_joinAll 471 = .ok (.iastore, 1)) ∧ (decode cX9_joinAll 472 = .ok (.iload 8, 2)) ∧ (decode cX9_joinAll 474 = .ok (.iload 6, 2)) := by decide +kernel
theorem dX9_joinAll_464 : decode cX9_joinAll 464 = .ok (.getfield 229, 3) := dX9_joinAll_464_g.1
theorem dX9_joinAll_467 : decode cX9_joinAll 467 = .ok (.dup2, 1) := dX9_joinAll_464_g.2.1
theorem dX9_joinAll_468 : decode cX9_joinAll 468 = .ok (.iaload, 1) := dX9_joinAll_464_g.2.2.1
theorem dX9_joinAll_469 : decode cX9_joinAll 469 = .ok (.iconst 1, 1) := dX9_joinAll_464_g.2.2.2.1
theorem dX9_joinAll_470 : decode cX9_joinAll 470 = .ok (.iadd, 1) := dX9_joinAll_464_g.2.2.2.2.1
theorem dX9_joinAll_471 : decode cX9_joinAll 471 = .ok (.iastore, 1) := dX9_joinAll_464_g.2.2.2.2.2.1
theorem dX9_joinAll_472 : decode cX9_joinAll 472 = .ok (.iload 8, 2) := dX9_joinAll_464_g.2.2.2.2.2.2.1
theorem dX9_joinAll_474 : decode cX9_joinAll 474 = .ok (.iload 6, 2) := dX9_joinAll_464_g.2.2.2.2.2.2.2
theorem dX9_joinAll_476_g : (decode cX9_joinAll 476 = .ok (.if_icmp .eq 7, 3)) ∧ (decode cX9_joinAll 479 = .ok (.iconst 1, 1)) ∧ (decode cX9_joinAll 480 = .ok (.goto 4, 3)) ∧ (decode cX9_joinAll 483 = .ok (.iconst 0, 1)) ∧ (decode cX9_joinAll 484 = .ok (.istore 7, 2)) ∧ (decode cX9_joinAll 486 = .ok (.goto (-55), 3)) ∧ (decode cX9_joinAll 489 = .ok (.aload_n 0, 1)) ∧ (decode cX9_joinAll 490 = .ok (.dup, 1)) := by decide +kernel
theorem dX9_joinAll_476 : decode cX9_joinAll 476 = .ok (.if_icmp .eq 7, 3) := dX9_joinAll_476_g.1
theorem dX9_joinAll_479 : decode cX9_joinAll 479 = .ok (.iconst 1, 1) := dX9_joinAll_476_g.2.1
theorem dX9_joinAll_480 : decode cX9_joinAll 480 = .ok (.goto 4, 3) := dX9_joinAll_476_g.2.2.1
theorem dX9_joinAll_483 : decode cX9_joinAll 483 = .ok (.iconst 0, 1) := dX9_joinAll_476_g.2.2.2.1
theorem dX9_joinAll_484 : decode cX9_joinAll 484 = .ok (.istore 7, 2) := dX9_joinAll_476_g.2.2.2.2.1
theorem dX9_joinAll_486 : decode cX9_joinAll 486 = .ok (.goto (-55), 3) := dX9_joinAll_476_g.2.2.2.2.2.1
theorem dX9_joinAll_489 : decode cX9_joinAll 489 = .ok (.aload_n 0, 1) := dX9_joinAll_476_g.2.2.2.2.2.2.1
theorem dX9_joinAll_490 : decode cX9_joinAll 490 = .ok (.dup, 1) := dX9_joinAll_476_g.2.2.2.2.2.2.2
theorem dX9_joinAll_491_g : (decode cX9_joinAll 491 = .ok (.getfield 229, 3)) ∧ (decode cX9_joinAll 494 = .ok (.iconst 1, 1)) ∧ (decode cX9_joinAll 495 = .ok (.iadd, 1)) ∧ (decode cX9_joinAll 496 = .ok (.putfield 229, 3)) ∧ (decode cX9_joinAll 499 = .ok (.goto (-370), 3)) ∧ (decode cX9_joinAll 502 = .ok (.iinc 3 1, 3)) ∧ (decode cX9_joinAll 505 = .ok (.goto (-464), 3)) ∧ (decode cX9_joinAll 508 = .ok (.return_, 1)) := by decide +kernel
theorem dX9_joinAll_491 : decode cX9_joinAll 491 = .ok (.getfield 229, 3) := dX9_joinAll_491_g.1
theorem dX9_joinAll_494 : decode cX9_joinAll 494 = .ok (.iconst 1, 1) := dX9_joinAll_491_g.2.1
theorem dX9_joinAll_495 : decode cX9_joinAll 495 = .ok (.iadd, 1) := dX9_joinAll_491_g.2.2.1
theorem dX9_joinAll_496 : decode cX9_joinAll 496 = .ok (.putfield 229, 3) := dX9_joinAll_491_g.2.2.2.1
theorem dX9_joinAll_499 : decode cX9_joinAll 499 = .ok (.goto (-370), 3) := dX9_joinAll_491_g.2.2.2.2.1
theorem dX9_joinAll_502 : decode cX9_joinAll 502 = .ok (.iinc 3 1, 3) := dX9_joinAll_491_g.2.2.2.2.2.1
theorem dX9_joinAll_505 : decode cX9_joinAll 505 = .ok (.goto (-464), 3) := dX9_joinAll_491_g.2.2.2.2.2.2.1
theorem dX9_joinAll_508 : decode cX9_joinAll 508 = .ok (.return_, 1) := dX9_joinAll_491_g.2.2.2.2.2.2.2
theorem dX9_joined_0_g : (decode cX9_joined 0 = .ok (.aload_n 0, 1)) ∧ (decode cX9_joined 1 = .ok (.iconst 0, 1)) ∧ (decode cX9_joined 2 = .ok (.putfield 133, 3)) ∧ (decode cX9_joined 5 = .ok (.aload_n 0, 1)) ∧ (decode cX9_joined 6 = .ok (.invokevirtual 215, 3)) ∧ (decode cX9_joined 9 = .ok (.ifCond .ne 9, 3)) ∧ (decode cX9_joined 12 = .ok (.aload_n 0, 1)) ∧ (decode cX9_joined 13 = .ok (.iconst 2, 1)) := by decide +kernel
theorem dX9_joined_0 : decode cX9_joined 0 = .ok (.aload_n 0, 1) := dX9_joined_0_g.1
theorem dX9_joined_1 : decode cX9_joined 1 = .ok (.iconst 0, 1) := dX9_joined_0_g.2.1
theorem dX9_joined_2 : decode cX9_joined 2 = .ok (.putfield 133, 3) := dX9_joined_0_g.2.2.1
theorem dX9_joined_5 : decode cX9_joined 5 = .ok (.aload_n 0, 1) := dX9_joined_0_g.2.2.2.1
theorem dX9_joined_6 : decode cX9_joined 6 = .ok (.invokevirtual 215, 3) := dX9_joined_0_g.2.2.2.2.1
theorem dX9_joined_9 : decode cX9_joined 9 = .ok (.ifCond .ne 9, 3) := dX9_joined_0_g.2.2.2.2.2.1
theorem dX9_joined_12 : decode cX9_joined 12 = .ok (.aload_n 0, 1) := dX9_joined_0_g.2.2.2.2.2.2.1
theorem dX9_joined_13 : decode cX9_joined 13 = .ok (.iconst 2, 1) := dX9_joined_0_g.2.2.2.2.2.2.2
theorem dX9_joined_14_g : (decode cX9_joined 14 = .ok (.invokevirtual 192, 3)) ∧ (decode cX9_joined 17 = .ok (.ireturn, 1)) ∧ (decode cX9_joined 18 = .ok (.aload_n 0, 1)) ∧ (decode cX9_joined 19 = .ok (.iload_n 1, 1)) ∧ (decode cX9_joined 20 = .ok (.iconst 0, 1)) ∧ (decode cX9_joined 21 = .ok (.iconst 3, 1)) ∧ (decode cX9_joined 22 = .ok (.invokevirtual 139, 3)) ∧ (decode cX9_joined 25 = .ok (.ifCond .ne 9, 3)) := by decide +kernel
theorem dX9_joined_14 : decode cX9_joined 14 = .ok (.invokevirtual 192, 3) := dX9_joined_14_g.1
theorem dX9_joined_17 : decode cX9_joined 17 = .ok (.ireturn, 1) := dX9_joined_14_g.2.1
theorem dX9_joined_18 : decode cX9_joined 18 = .ok (.aload_n 0, 1) := dX9_joined_14_g.2.2.1
theorem dX9_joined_19 : decode cX9_joined 19 = .ok (.iload_n 1, 1) := dX9_joined_14_g.2.2.2.1
theorem dX9_joined_20 : decode cX9_joined 20 = .ok (.iconst 0, 1) := dX9_joined_14_g.2.2.2.2.1
theorem dX9_joined_21 : decode cX9_joined 21 = .ok (.iconst 3, 1) := dX9_joined_14_g.2.2.2.2.2.1
theorem dX9_joined_22 : decode cX9_joined 22 = .ok (.invokevirtual 139, 3) := dX9_joined_14_g.2.2.2.2.2.2.1
theorem dX9_joined_25 : decode cX9_joined 25 = .ok (.ifCond .ne 9, 3) := dX9_joined_14_g.2.2.2.2.2.2.2
theorem dX9_joined_28_g : (decode cX9_joined 28 = .ok (.aload_n 0, 1)) ∧ (decode cX9_joined 29 = .ok (.iconst 1, 1)) ∧ (decode cX9_joined 30 = .ok (.invokevirtual 192, 3)) ∧ (decode cX9_joined 33 = .ok (.ireturn, 1)) ∧ (decode cX9_joined 34 = .ok (.aload_n 0, 1)) ∧ (decode cX9_joined 35 = .ok (.iconst 0, 1)) ∧ (decode cX9_joined 36 = .ok (.putfield 136, 3)) ∧ (decode cX9_joined 39 = .ok (.aload_n 0, 1)) := by decide +kernel
theorem dX9_joined_28 : decode cX9_joined 28 = .ok (.aload_n 0, 1) := dX9_joined_28_g.1
theorem dX9_joined_29 : decode cX9_joined 29 = .ok (.iconst 1, 1) := dX9_joined_28_g.2.1
theorem dX9_joined_30 : decode cX9_joined 30 = .ok (.invokevirtual 192, 3) := dX9_joined_28_g.2.2.1
theorem dX9_joined_33 : decode cX9_joined 33 = .ok (.ireturn, 1) := dX9_joined_28_g.2.2.2.1
theorem dX9_joined_34 : decode cX9_joined 34 = .ok (.aload_n 0, 1) := dX9_joined_28_g.2.2.2.2.1
theorem dX9_joined_35 : decode cX9_joined 35 = .ok (.iconst 0, 1) := dX9_joined_28_g.2.2.2.2.2.1
theorem dX9_joined_36 : decode cX9_joined 36 = .ok (.putfield 136, 3) := dX9_joined_28_g.2.2.2.2.2.2.1
theorem dX9_joined_39 : decode cX9_joined 39 = .ok (.aload_n 0, 1) := dX9_joined_28_g.2.2.2.2.2.2.2
theorem dX9_joined_40_g : (decode cX9_joined 40 = .ok (.invokevirtual 232, 3)) ∧ (decode cX9_joined 43 = .ok (.iload_n 1, 1)) ∧ (decode cX9_joined 44 = .ok (.ifCond .ne 8, 3)) ∧ (decode cX9_joined 47 = .ok (.aload_n 0, 1)) ∧ (decode cX9_joined 48 = .ok (.getfield 229, 3)) ∧ (decode cX9_joined 51 = .ok (.ireturn, 1)) ∧ (decode cX9_joined 52 = .ok (.iload_n 1, 1)) ∧ (decode cX9_joined 53 = .ok (.iconst 1, 1)) := by decide +kernel
theorem dX9_joined_40 : decode cX9_joined 40 = .ok (.invokevirtual 232, 3) := dX9_joined_40_g.1
theorem dX9_joined_43 : decode cX9_joined 43 = .ok (.iload_n 1, 1) := dX9_joined_40_g.2.1
theorem dX9_joined_44 : decode cX9_joined 44 = .ok (.ifCond .ne 8, 3) := dX9_joined_40_g.2.2.1
theorem dX9_joined_47 : decode cX9_joined 47 = .ok (.aload_n 0, 1) := dX9_joined_40_g.2.2.2.1
theorem dX9_joined_48 : decode cX9_joined 48 = .ok (.getfield 229, 3) := dX9_joined_40_g.2.2.2.2.1
theorem dX9_joined_51 : decode cX9_joined 51 = .ok (.ireturn, 1) := dX9_joined_40_g.2.2.2.2.2.1
theorem dX9_joined_52 : decode cX9_joined 52 = .ok (.iload_n 1, 1) := dX9_joined_40_g.2.2.2.2.2.2.1
theorem dX9_joined_53 : decode cX9_joined 53 = .ok (.iconst 1, 1) := dX9_joined_40_g.2.2.2.2.2.2.2
theorem dX9_joined_54_g : (decode cX9_joined 54 = .ok (.if_icmp .ne 22, 3)) ∧ (decode cX9_joined 57 = .ok (.aload_n 0, 1)) ∧ (decode cX9_joined 58 = .ok (.getfield 88, 3)) ∧ (decode cX9_joined 61 = .ok (.aload_n 0, 1)) ∧ (decode cX9_joined 62 = .ok (.getfield 76, 3)) ∧ (decode cX9_joined 65 = .ok (.aload_n 0, 1)) ∧ (decode cX9_joined 66 = .ok (.aload_n 0, 1)) ∧ (decode cX9_joined 67 = .ok (.getfield 20, 3)) := by decide +kernel
theorem dX9_joined_54 : decode cX9_joined 54 = .ok (.if_icmp .ne 22, 3) := dX9_joined_54_g.1
theorem dX9_joined_57 : decode cX9_joined 57 = .ok (.aload_n 0, 1) := dX9_joined_54_g.2.1
theorem dX9_joined_58 : decode cX9_joined 58 = .ok (.getfield 88, 3) := dX9_joined_54_g.2.2.1
theorem dX9_joined_61 : decode cX9_joined 61 = .ok (.aload_n 0, 1) := dX9_joined_54_g.2.2.2.1
theorem dX9_joined_62 : decode cX9_joined 62 = .ok (.getfield 76, 3) := dX9_joined_54_g.2.2.2.2.1
theorem dX9_joined_65 : decode cX9_joined 65 = .ok (.aload_n 0, 1) := dX9_joined_54_g.2.2.2.2.2.1
theorem dX9_joined_66 : decode cX9_joined 66 = .ok (.aload_n 0, 1) := dX9_joined_54_g.2.2.2.2.2.2.1
theorem dX9_joined_67 : decode cX9_joined 67 = .ok (.getfield 20, 3) := dX9_joined_54_g.2.2.2.2.2.2.2
theorem dX9_joined_70_g : (decode cX9_joined 70 = .ok (.invokevirtual 184, 3)) ∧ (decode cX9_joined 73 = .ok (.iaload, 1)) ∧ (decode cX9_joined 74 = .ok (.iaload, 1)) ∧ (decode cX9_joined 75 = .ok (.ireturn, 1)) ∧ (decode cX9_joined 76 = .ok (.iconst 0, 1)) ∧ (decode cX9_joined 77 = .ok (.istore_n 2, 1)) ∧ (decode cX9_joined 78 = .ok (.iconst 0, 1)) ∧ (decode cX9_joined 79 = .ok (.istore_n 3, 1)) := by decide +kernel
theorem dX9_joined_70 : decode cX9_joined 70 = .ok (.invokevirtual 184, 3) := dX9_joined_70_g.1
theorem dX9_joined_73 : decode cX9_joined 73 = .ok (.iaload, 1) := dX9_joined_70_g.2.1
theorem dX9_joined_74 : decode cX9_joined 74 = .ok (.iaload, 1) := dX9_joined_70_g.2.2.1
theorem dX9_joined_75 : decode cX9_joined 75 = .ok (.ireturn, 1) := dX9_joined_70_g.2.2.2.1
theorem dX9_joined_76 : decode cX9_joined 76 = .ok (.iconst 0, 1) := dX9_joined_70_g.2.2.2.2.1
theorem dX9_joined_77 : decode cX9_joined 77 = .ok (.istore_n 2, 1) := dX9_joined_70_g.2.2.2.2.2.1
theorem dX9_joined_78 : decode cX9_joined 78 = .ok (.iconst 0, 1) := dX9_joined_70_g.2.2.2.2.2.2.1
theorem dX9_joined_79 : decode cX9_joined 79 = .ok (.istore_n 3, 1) := dX9_joined_70_g.2.2.2.2.2.2.2
theorem dX9_joined_80_g : (decode cX9_joined 80 = .ok (.iload_n 3, 1)) ∧ (decode cX9_joined 81 = .ok (.aload_n 0, 1)) ∧ (decode cX9_joined 82 = .ok (.getfield 229, 3)) ∧ (decode cX9_joined 85 = .ok (.if_icmp .ge 37, 3)) ∧ (decode cX9_joined 88 = .ok (.aload_n 0, 1)) ∧ (decode cX9_joined 89 = .ok (.getfield 88, 3)) ∧ (decode cX9_joined 92 = .ok (.iload_n 3, 1)) ∧ (decode cX9_joined 93 = .ok (.iaload, 1)) := by decide +kernel
theorem dX9_joined_80 : decode cX9_joined 80 = .ok (.iload_n 3, 1) := dX9_joined_80_g.1
theorem dX9_joined_81 : decode cX9_joined 81 = .ok (.aload_n 0, 1) := dX9_joined_80_g.2.1
theorem dX9_joined_82 : decode cX9_joined 82 = .ok (.getfield 229, 3) := dX9_joined_80_g.2.2.1
theorem dX9_joined_85 : decode cX9_joined 85 = .ok (.if_icmp .ge 37, 3) := dX9_joined_80_g.2.2.2.1
theorem dX9_joined_88 : decode cX9_joined 88 = .ok (.aload_n 0, 1) := dX9_joined_80_g.2.2.2.2.1
theorem dX9_joined_89 : decode cX9_joined 89 = .ok (.getfield 88, 3) := dX9_joined_80_g.2.2.2.2.2.1
theorem dX9_joined_92 : decode cX9_joined 92 = .ok (.iload_n 3, 1) := dX9_joined_80_g.2.2.2.2.2.2.1
theorem dX9_joined_93 : decode cX9_joined 93 = .ok (.iaload, 1) := dX9_joined_80_g.2.2.2.2.2.2.2
theorem dX9_joined_94_g : (decode cX9_joined 94 = .ok (.iload_n 2, 1)) ∧ (decode cX9_joined 95 = .ok (.if_icmp .le 12, 3)) ∧ (decode cX9_joined 98 = .ok (.aload_n 0, 1)) ∧ (decode cX9_joined 99 = .ok (.getfield 88, 3)) ∧ (decode cX9_joined 102 = .ok (.iload_n 3, 1)) ∧ (decode cX9_joined 103 = .ok (.iaload, 1)) ∧ (decode cX9_joined 104 = .ok (.goto 4, 3)) ∧ (decode cX9_joined 107 = .ok (.iload_n 2, 1)) := by decide +kernel
theorem dX9_joined_94 : decode cX9_joined 94 = .ok (.iload_n 2, 1) := dX9_joined_94_g.1
theorem dX9_joined_95 : decode cX9_joined 95 = .ok (.if_icmp .le 12, 3) := dX9_joined_94_g.2.1
theorem dX9_joined_98 : decode cX9_joined 98 = .ok (.aload_n 0, 1) := dX9_joined_94_g.2.2.1
theorem dX9_joined_99 : decode cX9_joined 99 = .ok (.getfield 88, 3) := dX9_joined_94_g.2.2.2.1
theorem dX9_joined_102 : decode cX9_joined 102 = .ok (.iload_n 3, 1) := dX9_joined_94_g.2.2.2.2.1
theorem dX9_joined_103 : decode cX9_joined 103 = .ok (.iaload, 1) := dX9_joined_94_g.2.2.2.2.2.1
theorem dX9_joined_104 : decode cX9_joined 104 = .ok (.goto 4, 3) := dX9_joined_94_g.2.2.2.2.2.2.1
theorem dX9_joined_107 : decode cX9_joined 107 = .ok (.iload_n 2, 1) := dX9_joined_94_g.2.2.2.2.2.2.2
theorem dX9_joined_108_g : (decode cX9_joined 108 = .ok (.istore_n 2, 1)) ∧ (decode cX9_joined 109 = .ok (.aload_n 0, 1)) ∧ (decode cX9_joined 110 = .ok (.getfield 91, 3)) ∧ (decode cX9_joined 113 = .ok (.iload_n 3, 1)) ∧ (decode cX9_joined 114 = .ok (.iconst 0, 1)) ∧ (decode cX9_joined 115 = .ok (.bastore, 1)) ∧ (decode cX9_joined 116 = .ok (.iinc 3 1, 3)) ∧ (decode cX9_joined 119 = .ok (.goto (-39), 3)) := by decide +kernel
theorem dX9_joined_108 : decode cX9_joined 108 = .ok (.istore_n 2, 1) := dX9_joined_108_g.1
theorem dX9_joined_109 : decode cX9_joined 109 = .ok (.aload_n 0, 1) := dX9_joined_108_g.2.1
theorem dX9_joined_110 : decode cX9_joined 110 = .ok (.getfield 91, 3) := dX9_joined_108_g.2.2.1
theorem dX9_joined_113 : decode cX9_joined 113 = .ok (.iload_n 3, 1) := dX9_joined_108_g.2.2.2.1
theorem dX9_joined_114 : decode cX9_joined 114 = .ok (.iconst 0, 1) := dX9_joined_108_g.2.2.2.2.1
theorem dX9_joined_115 : decode cX9_joined 115 = .ok (.bastore, 1) := dX9_joined_108_g.2.2.2.2.2.1
theorem dX9_joined_116 : decode cX9_joined 116 = .ok (.iinc 3 1, 3) := dX9_joined_108_g.2.2.2.2.2.2.1
theorem dX9_joined_119 : decode cX9_joined 119 = .ok (.goto (-39), 3) := dX9_joined_108_g.2.2.2.2.2.2.2
theorem dX9_joined_122_g : (decode cX9_joined 122 = .ok (.iload_n 1, 1)) ∧ (decode cX9_joined 123 = .ok (.iconst 3, 1)) ∧ (decode cX9_joined 124 = .ok (.if_icmp .ne 5, 3)) ∧ (decode cX9_joined 127 = .ok (.iload_n 2, 1)) ∧ (decode cX9_joined 128 = .ok (.ireturn, 1)) ∧ (decode cX9_joined 129 = .ok (.aload_n 0, 1)) ∧ (decode cX9_joined 130 = .ok (.invokevirtual 177, 3)) ∧ (decode cX9_joined 133 = .ok (.istore_n 3, 1)) := by decide +kernel
theorem dX9_joined_122 : decode cX9_joined 122 = .ok (.iload_n 1, 1) := dX9_joined_122_g.1
theorem dX9_joined_123 : decode cX9_joined 123 = .ok (.iconst 3, 1) := dX9_joined_122_g.2.1
theorem dX9_joined_124 : decode cX9_joined 124 = .ok (.if_icmp .ne 5, 3) := dX9_joined_122_g.2.2.1
theorem dX9_joined_127 : decode cX9_joined 127 = .ok (.iload_n 2, 1) := dX9_joined_122_g.2.2.2.1
theorem dX9_joined_128 : decode cX9_joined 128 = .ok (.ireturn, 1) := dX9_joined_122_g.2.2.2.2.1
theorem dX9_joined_129 : decode cX9_joined 129 = .ok (.aload_n 0, 1) := dX9_joined_122_g.2.2.2.2.2.1
theorem dX9_joined_130 : decode cX9_joined 130 = .ok (.invokevirtual 177, 3) := dX9_joined_122_g.2.2.2.2.2.2.1
theorem dX9_joined_133 : decode cX9_joined 133 = .ok (.istore_n 3, 1) := dX9_joined_122_g.2.2.2.2.2.2.2
theorem dX9_joined_134_g : (decode cX9_joined 134 = .ok (.iconst 0, 1)) ∧ (decode cX9_joined 135 = .ok (.istore 4, 2)) ∧ (decode cX9_joined 137 = .ok (.iload 4, 2)) ∧ (decode cX9_joined 139 = .ok (.iload_n 3, 1)) ∧ (decode cX9_joined 140 = .ok (.if_icmp .ge 115, 3)) ∧ (decode cX9_joined 143 = .ok (.aload_n 0, 1)) ∧ (decode cX9_joined 144 = .ok (.getfield 76, 3)) ∧ (decode cX9_joined 147 = .ok (.iload 4, 2)) := by decide +kernel
theorem dX9_joined_134 : decode cX9_joined 134 = .ok (.iconst 0, 1) := dX9_joined_134_g.1
theorem dX9_joined_135 : decode cX9_joined 135 = .ok (.istore 4, 2) := dX9_joined_134_g.2.1
theorem dX9_joined_137 : decode cX9_joined 137 = .ok (.iload 4, 2) := dX9_joined_134_g.2.2.1
theorem dX9_joined_139 : decode cX9_joined 139 = .ok (.iload_n 3, 1) := dX9_joined_134_g.2.2.2.1
theorem dX9_joined_140 : decode cX9_joined 140 = .ok (.if_icmp .ge 115, 3) := dX9_joined_134_g.2.2.2.2.1
theorem dX9_joined_143 : decode cX9_joined 143 = .ok (.aload_n 0, 1) := dX9_joined_134_g.2.2.2.2.2.1
theorem dX9_joined_144 : decode cX9_joined 144 = .ok (.getfield 76, 3) := dX9_joined_134_g.2.2.2.2.2.2.1
theorem dX9_joined_147 : decode cX9_joined 147 = .ok (.iload 4, 2) := dX9_joined_134_g.2.2.2.2.2.2.2
theorem dX9_joined_149_g : (decode cX9_joined 149 = .ok (.iaload, 1)) ∧ (decode cX9_joined 150 = .ok (.iconst (-1), 1)) ∧ (decode cX9_joined 151 = .ok (.if_icmp .ne 6, 3)) ∧ (decode cX9_joined 154 = .ok (.goto 95, 3)) ∧ (decode cX9_joined 157 = .ok (.aload_n 0, 1)) ∧ (decode cX9_joined 158 = .ok (.iload 4, 2)) ∧ (decode cX9_joined 160 = .ok (.aload_n 0, 1)) ∧ (decode cX9_joined 161 = .ok (.getfield 39, 3)) := by decide +kernel
theorem dX9_joined_149 : decode cX9_joined 149 = .ok (.iaload, 1) := dX9_joined_149_g.1
theorem dX9_joined_150 : decode cX9_joined 150 = .ok (.iconst (-1), 1) := dX9_joined_149_g.2.1
theorem dX9_joined_151 : decode cX9_joined 151 = .ok (.if_icmp .ne 6, 3) := dX9_joined_149_g.2.2.1
theorem dX9_joined_154 : decode cX9_joined 154 = .ok (.goto 95, 3) := dX9_joined_149_g.2.2.2.1
theorem dX9_joined_157 : decode cX9_joined 157 = .ok (.aload_n 0, 1) := dX9_joined_149_g.2.2.2.2.1
theorem dX9_joined_158 : decode cX9_joined 158 = .ok (.iload 4, 2) := dX9_joined_149_g.2.2.2.2.2.1
theorem dX9_joined_160 : decode cX9_joined 160 = .ok (.aload_n 0, 1) := dX9_joined_149_g.2.2.2.2.2.2.1
theorem dX9_joined_161 : decode cX9_joined 161 = .ok (.getfield 39, 3) := dX9_joined_149_g.2.2.2.2.2.2.2
theorem dX9_joined_164_g : (decode cX9_joined 164 = .ok (.invokevirtual 180, 3)) ∧ (decode cX9_joined 167 = .ok (.iconst 0, 1)) ∧ (decode cX9_joined 168 = .ok (.istore 5, 2)) ∧ (decode cX9_joined 170 = .ok (.iload 5, 2)) ∧ (decode cX9_joined 172 = .ok (.aload_n 0, 1)) ∧ (decode cX9_joined 173 = .ok (.getfield 7, 3)) ∧ (decode cX9_joined 176 = .ok (.if_icmp .ge 73, 3)) ∧ (decode cX9_joined 179 = .ok (.iconst 0, 1)) := by decide +kernel
theorem dX9_joined_164 : decode cX9_joined 164 = .ok (.invokevirtual 180, 3) := dX9_joined_164_g.1
theorem dX9_joined_167 : decode cX9_joined 167 = .ok (.iconst 0, 1) := dX9_joined_164_g.2.1
theorem dX9_joined_168 : decode cX9_joined 168 = .ok (.istore 5, 2) := dX9_joined_164_g.2.2.1
theorem dX9_joined_170 : decode cX9_joined 170 = .ok (.iload 5, 2) := dX9_joined_164_g.2.2.2.1
theorem dX9_joined_172 : decode cX9_joined 172 = .ok (.aload_n 0, 1) := dX9_joined_164_g.2.2.2.2.1
theorem dX9_joined_173 : decode cX9_joined 173 = .ok (.getfield 7, 3) := dX9_joined_164_g.2.2.2.2.2.1
theorem dX9_joined_176 : decode cX9_joined 176 = .ok (.if_icmp .ge 73, 3) := dX9_joined_164_g.2.2.2.2.2.2.1
theorem dX9_joined_179 : decode cX9_joined 179 = .ok (.iconst 0, 1) := dX9_joined_164_g.2.2.2.2.2.2.2
theorem dX9_joined_180_g : (decode cX9_joined 180 = .ok (.istore 6, 2)) ∧ (decode cX9_joined 182 = .ok (.iload 6, 2)) ∧ (decode cX9_joined 184 = .ok (.aload_n 0, 1)) ∧ (decode cX9_joined 185 = .ok (.getfield 7, 3)) ∧ (decode cX9_joined 188 = .ok (.if_icmp .ge 55, 3)) ∧ (decode cX9_joined 191 = .ok (.aload_n 0, 1)) ∧ (decode cX9_joined 192 = .ok (.iload 5, 2)) ∧ (decode cX9_joined 194 = .ok (.iload 6, 2)) := by decide +kernel
theorem dX9_joined_180 : decode cX9_joined 180 = .ok (.istore 6, 2) := dX9_joined_180_g.1
theorem dX9_joined_182 : decode cX9_joined 182 = .ok (.iload 6, 2) := dX9_joined_180_g.2.1
theorem dX9_joined_184 : decode cX9_joined 184 = .ok (.aload_n 0, 1) := dX9_joined_180_g.2.2.1
theorem dX9_joined_185 : decode cX9_joined 185 = .ok (.getfield 7, 3) := dX9_joined_180_g.2.2.2.1
theorem dX9_joined_188 : decode cX9_joined 188 = .ok (.if_icmp .ge 55, 3) := dX9_joined_180_g.2.2.2.2.1
theorem dX9_joined_191 : decode cX9_joined 191 = .ok (.aload_n 0, 1) := dX9_joined_180_g.2.2.2.2.2.1
theorem dX9_joined_192 : decode cX9_joined 192 = .ok (.iload 5, 2) := dX9_joined_180_g.2.2.2.2.2.2.1
theorem dX9_joined_194 : decode cX9_joined 194 = .ok (.iload 6, 2) := dX9_joined_180_g.2.2.2.2.2.2.2
theorem dX9_joined_196_g : (decode cX9_joined 196 = .ok (.invokevirtual 211, 3)) ∧ (decode cX9_joined 199 = .ok (.istore 7, 2)) ∧ (decode cX9_joined 201 = .ok (.iload 7, 2)) ∧ (decode cX9_joined 203 = .ok (.iconst (-1), 1)) ∧ (decode cX9_joined 204 = .ok (.if_icmp .eq 33, 3)) ∧ (decode cX9_joined 207 = .ok (.aload_n 0, 1)) ∧ (decode cX9_joined 208 = .ok (.getfield 76, 3)) ∧ (decode cX9_joined 211 = .ok (.iload 7, 2)) := by decide +kernel
theorem dX9_joined_196 : decode cX9_joined 196 = .ok (.invokevirtual 211, 3) := dX9_joined_196_g.1
theorem dX9_joined_199 : decode cX9_joined 199 = .ok (.istore 7, 2) := dX9_joined_196_g.2.1
theorem dX9_joined_201 : decode cX9_joined 201 = .ok (.iload 7, 2) := dX9_joined_196_g.2.2.1
theorem dX9_joined_203 : decode cX9_joined 203 = .ok (.iconst (-1), 1) := dX9_joined_196_g.2.2.2.1
theorem dX9_joined_204 : decode cX9_joined 204 = .ok (.if_icmp .eq 33, 3) := dX9_joined_196_g.2.2.2.2.1
theorem dX9_joined_207 : decode cX9_joined 207 = .ok (.aload_n 0, 1) := dX9_joined_196_g.2.2.2.2.2.1
theorem dX9_joined_208 : decode cX9_joined 208 = .ok (.getfield 76, 3) := dX9_joined_196_g.2.2.2.2.2.2.1
theorem dX9_joined_211 : decode cX9_joined 211 = .ok (.iload 7, 2) := dX9_joined_196_g.2.2.2.2.2.2.2
theorem dX9_joined_213_g : (decode cX9_joined 213 = .ok (.iaload, 1)) ∧ (decode cX9_joined 214 = .ok (.aload_n 0, 1)) ∧ (decode cX9_joined 215 = .ok (.getfield 76, 3)) ∧ (decode cX9_joined 218 = .ok (.iload 4, 2)) ∧ (decode cX9_joined 220 = .ok (.iaload, 1)) ∧ (decode cX9_joined 221 = .ok (.if_icmp .eq 16, 3)) ∧ (decode cX9_joined 224 = .ok (.aload_n 0, 1)) ∧ (decode cX9_joined 225 = .ok (.getfield 91, 3)) := by decide +kernel
theorem dX9_joined_213 : decode cX9_joined 213 = .ok (.iaload, 1) := dX9_joined_213_g.1
theorem dX9_joined_214 : decode cX9_joined 214 = .ok (.aload_n 0, 1) := dX9_joined_213_g.2.1
theorem dX9_joined_215 : decode cX9_joined 215 = .ok (.getfield 76, 3) := dX9_joined_213_g.2.2.1
theorem dX9_joined_218 : decode cX9_joined 218 = .ok (.iload 4, 2) := dX9_joined_213_g.2.2.2.1
theorem dX9_joined_220 : decode cX9_joined 220 = .ok (.iaload, 1) := dX9_joined_213_g.2.2.2.2.1
theorem dX9_joined_221 : decode cX9_joined 221 = .ok (.if_icmp .eq 16, 3) := dX9_joined_213_g.2.2.2.2.2.1
theorem dX9_joined_224 : decode cX9_joined 224 = .ok (.aload_n 0, 1) := dX9_joined_213_g.2.2.2.2.2.2.1
theorem dX9_joined_225 : decode cX9_joined 225 = .ok (.getfield 91, 3) := dX9_joined_213_g.2.2.2.2.2.2.2
theorem dX9_joined_228_g : (decode cX9_joined 228 = .ok (.aload_n 0, 1)) ∧ (decode cX9_joined 229 = .ok (.getfield 76, 3)) ∧ (decode cX9_joined 232 = .ok (.iload 4, 2)) ∧ (decode cX9_joined 234 = .ok (.iaload, 1)) ∧ (decode cX9_joined 235 = .ok (.iconst 1, 1)) ∧ (decode cX9_joined 236 = .ok (.bastore, 1)) ∧ (decode cX9_joined 237 = .ok (.iinc 6 1, 3)) ∧ (decode cX9_joined 240 = .ok (.goto (-58), 3)) := by decide +kernel
theorem dX9_joined_228 : decode cX9_joined 228 = .ok (.aload_n 0, 1) := dX9_joined_228_g.1
theorem dX9_joined_229 : decode cX9_joined 229 = .ok (.getfield 76, 3) := dX9_joined_228_g.2.1
theorem dX9_joined_232 : decode cX9_joined 232 = .ok (.iload 4, 2) := dX9_joined_228_g.2.2.1
theorem dX9_joined_234 : decode cX9_joined 234 = .ok (.iaload, 1) := dX9_joined_228_g.2.2.2.1
theorem dX9_joined_235 : decode cX9_joined 235 = .ok (.iconst 1, 1) := dX9_joined_228_g.2.2.2.2.1
theorem dX9_joined_236 : decode cX9_joined 236 = .ok (.bastore, 1) := dX9_joined_228_g.2.2.2.2.2.1
theorem dX9_joined_237 : decode cX9_joined 237 = .ok (.iinc 6 1, 3) := dX9_joined_228_g.2.2.2.2.2.2.1
theorem dX9_joined_240 : decode cX9_joined 240 = .ok (.goto (-58), 3) := dX9_joined_228_g.2.2.2.2.2.2.2
theorem dX9_joined_243_g : (decode cX9_joined 243 = .ok (.iinc 5 1, 3)) ∧ (decode cX9_joined 246 = .ok (.goto (-76), 3)) ∧ (decode cX9_joined 249 = .ok (.iinc 4 1, 3)) ∧ (decode cX9_joined 252 = .ok (.goto (-115), 3)) ∧ (decode cX9_joined 255 = .ok (.iconst 0, 1)) ∧ (decode cX9_joined 256 = .ok (.istore 4, 2)) ∧ (decode cX9_joined 258 = .ok (.iconst 0, 1)) ∧ (decode cX9_joined 259 = .ok (.istore 5, 2)) := by decide +kernel
theorem dX9_joined_243 : decode cX9_joined 243 = .ok (.iinc 5 1, 3) := dX9_joined_243_g.1
theorem dX9_joined_246 : decode cX9_joined 246 = .ok (.goto (-76), 3) := dX9_joined_243_g.2.1
theorem dX9_joined_249 : decode cX9_joined 249 = .ok (.iinc 4 1, 3) := dX9_joined_243_g.2.2.1
theorem dX9_joined_252 : decode cX9_joined 252 = .ok (.goto (-115), 3) := dX9_joined_243_g.2.2.2.1
theorem dX9_joined_255 : decode cX9_joined 255 = .ok (.iconst 0, 1) := dX9_joined_243_g.2.2.2.2.1
theorem dX9_joined_256 : decode cX9_joined 256 = .ok (.istore 4, 2) := dX9_joined_243_g.2.2.2.2.2.1
theorem dX9_joined_258 : decode cX9_joined 258 = .ok (.iconst 0, 1) := dX9_joined_243_g.2.2.2.2.2.2.1
theorem dX9_joined_259 : decode cX9_joined 259 = .ok (.istore 5, 2) := dX9_joined_243_g.2.2.2.2.2.2.2
theorem dX9_joined_261_g : (decode cX9_joined 261 = .ok (.iload 5, 2)) ∧ (decode cX9_joined 263 = .ok (.aload_n 0, 1)) ∧ (decode cX9_joined 264 = .ok (.getfield 229, 3)) ∧ (decode cX9_joined 267 = .ok (.if_icmp .ge 29, 3)) ∧ (decode cX9_joined 270 = .ok (.iload 4, 2)) ∧ (decode cX9_joined 272 = .ok (.aload_n 0, 1)) ∧ (decode cX9_joined 273 = .ok (.getfield 91, 3)) ∧ (decode cX9_joined 276 = .ok (.iload 5, 2)) := by decide +kernel
theorem dX9_joined_261 : decode cX9_joined 261 = .ok (.iload 5, 2) := dX9_joined_261_g.1
theorem dX9_joined_263 : decode cX9_joined 263 = .ok (.aload_n 0, 1) := dX9_joined_261_g.2.1
theorem dX9_joined_264 : decode cX9_joined 264 = .ok (.getfield 229, 3) := dX9_joined_261_g.2.2.1
theorem dX9_joined_267 : decode cX9_joined 267 = .ok (.if_icmp .ge 29, 3) := dX9_joined_261_g.2.2.2.1
theorem dX9_joined_270 : decode cX9_joined 270 = .ok (.iload 4, 2) := dX9_joined_261_g.2.2.2.2.1
theorem dX9_joined_272 : decode cX9_joined 272 = .ok (.aload_n 0, 1) := dX9_joined_261_g.2.2.2.2.2.1
theorem dX9_joined_273 : decode cX9_joined 273 = .ok (.getfield 91, 3) := dX9_joined_261_g.2.2.2.2.2.2.1
theorem dX9_joined_276 : decode cX9_joined 276 = .ok (.iload 5, 2) := dX9_joined_261_g.2.2.2.2.2.2.2
theorem dX9_joined_278_g : (decode cX9_joined 278 = .ok (.baload, 1)) ∧ (decode cX9_joined 279 = .ok (.ifCond .eq 7, 3)) ∧ (decode cX9_joined 282 = .ok (.iconst 0, 1)) ∧ (decode cX9_joined 283 = .ok (.goto 4, 3)) ∧ (decode cX9_joined 286 = .ok (.iconst 1, 1)) ∧ (decode cX9_joined 287 = .ok (.iadd, 1)) ∧ (decode cX9_joined 288 = .ok (.istore 4, 2)) ∧ (decode cX9_joined 290 = .ok (.iinc 5 1, 3)) := by decide +kernel
theorem dX9_joined_278 : decode cX9_joined 278 = .ok (.baload, 1) := dX9_joined_278_g.1
theorem dX9_joined_279 : decode cX9_joined 279 = .ok (.ifCond .eq 7, 3) := dX9_joined_278_g.2.1
theorem dX9_joined_282 : decode cX9_joined 282 = .ok (.iconst 0, 1) := dX9_joined_278_g.2.2.1
theorem dX9_joined_283 : decode cX9_joined 283 = .ok (.goto 4, 3) := dX9_joined_278_g.2.2.2.1
theorem dX9_joined_286 : decode cX9_joined 286 = .ok (.iconst 1, 1) := dX9_joined_278_g.2.2.2.2.1
theorem dX9_joined_287 : decode cX9_joined 287 = .ok (.iadd, 1) := dX9_joined_278_g.2.2.2.2.2.1
theorem dX9_joined_288 : decode cX9_joined 288 = .ok (.istore 4, 2) := dX9_joined_278_g.2.2.2.2.2.2.1
theorem dX9_joined_290 : decode cX9_joined 290 = .ok (.iinc 5 1, 3) := dX9_joined_278_g.2.2.2.2.2.2.2
theorem dX9_joined_293_g : (decode cX9_joined 293 = .ok (.goto (-32), 3)) ∧ (decode cX9_joined 296 = .ok (.iload 4, 2)) ∧ (decode cX9_joined 298 = .ok (.ireturn, 1)) := by decide +kernel
theorem dX9_joined_293 : decode cX9_joined 293 = .ok (.goto (-32), 3) := dX9_joined_293_g.1
theorem dX9_joined_296 : decode cX9_joined 296 = .ok (.iload 4, 2) := dX9_joined_293_g.2.1
theorem dX9_joined_298 : decode cX9_joined 298 = .ok (.ireturn, 1) := dX9_joined_293_g.2.2
theorem dX9_areNames_0_g : (decode cX9_areNames 0 = .ok (.aload_n 0, 1)) ∧ (decode cX9_areNames 1 = .ok (.getfield 94, 3)) ∧ (decode cX9_areNames 4 = .ok (.iconst 0, 1)) ∧ (decode cX9_areNames 5 = .ok (.iload_n 1, 1)) ∧ (decode cX9_areNames 6 = .ok (.iastore, 1)) ∧ (decode cX9_areNames 7 = .ok (.aload_n 0, 1)) ∧ (decode cX9_areNames 8 = .ok (.getfield 94, 3)) ∧ (decode cX9_areNames 11 = .ok (.iconst 1, 1)) := by decide +kernel
theorem dX9_areNames_0 : decode cX9_areNames 0 = .ok (.aload_n 0, 1) := dX9_areNames_0_g.1
theorem dX9_areNames_1 : decode cX9_areNames 1 = .ok (.getfield 94, 3) := dX9_areNames_0_g.2.1
theorem dX9_areNames_4 : decode cX9_areNames 4 = .ok (.iconst 0, 1) := dX9_areNames_0_g.2.2.1
theorem dX9_areNames_5 : decode cX9_areNames 5 = .ok (.iload_n 1, 1) := dX9_areNames_0_g.2.2.2.1
theorem dX9_areNames_6 : decode cX9_areNames 6 = .ok (.iastore, 1) := dX9_areNames_0_g.2.2.2.2.1
theorem dX9_areNames_7 : decode cX9_areNames 7 = .ok (.aload_n 0, 1) := dX9_areNames_0_g.2.2.2.2.2.1
theorem dX9_areNames_8 : decode cX9_areNames 8 = .ok (.getfield 94, 3) := dX9_areNames_0_g.2.2.2.2.2.2.1
theorem dX9_areNames_11 : decode cX9_areNames 11 = .ok (.iconst 1, 1) := dX9_areNames_0_g.2.2.2.2.2.2.2
theorem dX9_areNames_12_g : (decode cX9_areNames 12 = .ok (.iload_n 2, 1)) ∧ (decode cX9_areNames 13 = .ok (.iastore, 1)) ∧ (decode cX9_areNames 14 = .ok (.aload_n 0, 1)) ∧ (decode cX9_areNames 15 = .ok (.getfield 94, 3)) ∧ (decode cX9_areNames 18 = .ok (.iconst 2, 1)) ∧ (decode cX9_areNames 19 = .ok (.iload_n 3, 1)) ∧ (decode cX9_areNames 20 = .ok (.iastore, 1)) ∧ (decode cX9_areNames 21 = .ok (.aload_n 0, 1)) := by decide +kernel
theorem dX9_areNames_12 : decode cX9_areNames 12 = .ok (.iload_n 2, 1) := dX9_areNames_12_g.1
theorem dX9_areNames_13 : decode cX9_areNames 13 = .ok (.iastore, 1) := dX9_areNames_12_g.2.1
theorem dX9_areNames_14 : decode cX9_areNames 14 = .ok (.aload_n 0, 1) := dX9_areNames_12_g.2.2.1
theorem dX9_areNames_15 : decode cX9_areNames 15 = .ok (.getfield 94, 3) := dX9_areNames_12_g.2.2.2.1
theorem dX9_areNames_18 : decode cX9_areNames 18 = .ok (.iconst 2, 1) := dX9_areNames_12_g.2.2.2.2.1
theorem dX9_areNames_19 : decode cX9_areNames 19 = .ok (.iload_n 3, 1) := dX9_areNames_12_g.2.2.2.2.2.1
theorem dX9_areNames_20 : decode cX9_areNames 20 = .ok (.iastore, 1) := dX9_areNames_12_g.2.2.2.2.2.2.1
theorem dX9_areNames_21 : decode cX9_areNames 21 = .ok (.aload_n 0, 1) := dX9_areNames_12_g.2.2.2.2.2.2.2
theorem dX9_areNames_22_g : (decode cX9_areNames 22 = .ok (.getfield 94, 3)) ∧ (decode cX9_areNames 25 = .ok (.iconst 3, 1)) ∧ (decode cX9_areNames 26 = .ok (.iload 4, 2)) ∧ (decode cX9_areNames 28 = .ok (.iastore, 1)) ∧ (decode cX9_areNames 29 = .ok (.aload_n 0, 1)) ∧ (decode cX9_areNames 30 = .ok (.getfield 94, 3)) ∧ (decode cX9_areNames 33 = .ok (.iconst 4, 1)) ∧ (decode cX9_areNames 34 = .ok (.iload 5, 2)) := by decide +kernel
theorem dX9_areNames_22 : decode cX9_areNames 22 = .ok (.getfield 94, 3) := dX9_areNames_22_g.1
theorem dX9_areNames_25 : decode cX9_areNames 25 = .ok (.iconst 3, 1) := dX9_areNames_22_g.2.1
theorem dX9_areNames_26 : decode cX9_areNames 26 = .ok (.iload 4, 2) := dX9_areNames_22_g.2.2.1
theorem dX9_areNames_28 : decode cX9_areNames 28 = .ok (.iastore, 1) := dX9_areNames_22_g.2.2.2.1
theorem dX9_areNames_29 : decode cX9_areNames 29 = .ok (.aload_n 0, 1) := dX9_areNames_22_g.2.2.2.2.1
theorem dX9_areNames_30 : decode cX9_areNames 30 = .ok (.getfield 94, 3) := dX9_areNames_22_g.2.2.2.2.2.1
theorem dX9_areNames_33 : decode cX9_areNames 33 = .ok (.iconst 4, 1) := dX9_areNames_22_g.2.2.2.2.2.2.1
theorem dX9_areNames_34 : decode cX9_areNames 34 = .ok (.iload 5, 2) := dX9_areNames_22_g.2.2.2.2.2.2.2
theorem dX9_areNames_36_g : (decode cX9_areNames 36 = .ok (.iastore, 1)) ∧ (decode cX9_areNames 37 = .ok (.iconst 0, 1)) ∧ (decode cX9_areNames 38 = .ok (.istore 6, 2)) ∧ (decode cX9_areNames 40 = .ok (.iload 6, 2)) ∧ (decode cX9_areNames 42 = .ok (.aload_n 0, 1)) ∧ (decode cX9_areNames 43 = .ok (.getfield 7, 3)) ∧ (decode cX9_areNames 46 = .ok (.if_icmp .ge 60, 3)) ∧ (decode cX9_areNames 49 = .ok (.aload_n 0, 1)) := by decide +kernel
theorem dX9_areNames_36 : decode cX9_areNames 36 = .ok (.iastore, 1) := dX9_areNames_36_g.1
theorem dX9_areNames_37 : decode cX9_areNames 37 = .ok (.iconst 0, 1) := dX9_areNames_36_g.2.1
theorem dX9_areNames_38 : decode cX9_areNames 38 = .ok (.istore 6, 2) := dX9_areNames_36_g.2.2.1
theorem dX9_areNames_40 : decode cX9_areNames 40 = .ok (.iload 6, 2) := dX9_areNames_36_g.2.2.2.1
theorem dX9_areNames_42 : decode cX9_areNames 42 = .ok (.aload_n 0, 1) := dX9_areNames_36_g.2.2.2.2.1
theorem dX9_areNames_43 : decode cX9_areNames 43 = .ok (.getfield 7, 3) := dX9_areNames_36_g.2.2.2.2.2.1
theorem dX9_areNames_46 : decode cX9_areNames 46 = .ok (.if_icmp .ge 60, 3) := dX9_areNames_36_g.2.2.2.2.2.2.1
theorem dX9_areNames_49 : decode cX9_areNames 49 = .ok (.aload_n 0, 1) := dX9_areNames_36_g.2.2.2.2.2.2.2
theorem dX9_areNames_50_g : (decode cX9_areNames 50 = .ok (.aload_n 0, 1)) ∧ (decode cX9_areNames 51 = .ok (.getfield 94, 3)) ∧ (decode cX9_areNames 54 = .ok (.iload 6, 2)) ∧ (decode cX9_areNames 56 = .ok (.iaload, 1)) ∧ (decode cX9_areNames 57 = .ok (.invokevirtual 170, 3)) ∧ (decode cX9_areNames 60 = .ok (.ifCond .ne 5, 3)) ∧ (decode cX9_areNames 63 = .ok (.iconst 0, 1)) ∧ (decode cX9_areNames 64 = .ok (.ireturn, 1)) := by decide +kernel
theorem dX9_areNames_50 : decode cX9_areNames 50 = .ok (.aload_n 0, 1) := dX9_areNames_50_g.1
theorem dX9_areNames_51 : decode cX9_areNames 51 = .ok (.getfield 94, 3) := dX9_areNames_50_g.2.1
theorem dX9_areNames_54 : decode cX9_areNames 54 = .ok (.iload 6, 2) := dX9_areNames_50_g.2.2.1
theorem dX9_areNames_56 : decode cX9_areNames 56 = .ok (.iaload, 1) := dX9_areNames_50_g.2.2.2.1
theorem dX9_areNames_57 : decode cX9_areNames 57 = .ok (.invokevirtual 170, 3) := dX9_areNames_50_g.2.2.2.2.1
theorem dX9_areNames_60 : decode cX9_areNames 60 = .ok (.ifCond .ne 5, 3) := dX9_areNames_50_g.2.2.2.2.2.1
theorem dX9_areNames_63 : decode cX9_areNames 63 = .ok (.iconst 0, 1) := dX9_areNames_50_g.2.2.2.2.2.2.1
theorem dX9_areNames_64 : decode cX9_areNames 64 = .ok (.ireturn, 1) := dX9_areNames_50_g.2.2.2.2.2.2.2
theorem dX9_areNames_65_g : (decode cX9_areNames 65 = .ok (.iconst 0, 1)) ∧ (decode cX9_areNames 66 = .ok (.istore 7, 2)) ∧ (decode cX9_areNames 68 = .ok (.iload 7, 2)) ∧ (decode cX9_areNames 70 = .ok (.iload 6, 2)) ∧ (decode cX9_areNames 72 = .ok (.if_icmp .ge 28, 3)) ∧ (decode cX9_areNames 75 = .ok (.aload_n 0, 1)) ∧ (decode cX9_areNames 76 = .ok (.getfield 94, 3)) ∧ (decode cX9_areNames 79 = .ok (.iload 7, 2)) := by decide +kernel
theorem dX9_areNames_65 : decode cX9_areNames 65 = .ok (.iconst 0, 1) := dX9_areNames_65_g.1
theorem dX9_areNames_66 : decode cX9_areNames 66 = .ok (.istore 7, 2) := dX9_areNames_65_g.2.1
theorem dX9_areNames_68 : decode cX9_areNames 68 = .ok (.iload 7, 2) := dX9_areNames_65_g.2.2.1
theorem dX9_areNames_70 : decode cX9_areNames 70 = .ok (.iload 6, 2) := dX9_areNames_65_g.2.2.2.1
theorem dX9_areNames_72 : decode cX9_areNames 72 = .ok (.if_icmp .ge 28, 3) := dX9_areNames_65_g.2.2.2.2.1
theorem dX9_areNames_75 : decode cX9_areNames 75 = .ok (.aload_n 0, 1) := dX9_areNames_65_g.2.2.2.2.2.1
theorem dX9_areNames_76 : decode cX9_areNames 76 = .ok (.getfield 94, 3) := dX9_areNames_65_g.2.2.2.2.2.2.1
theorem dX9_areNames_79 : decode cX9_areNames 79 = .ok (.iload 7, 2) := dX9_areNames_65_g.2.2.2.2.2.2.2
theorem dX9_areNames_81_g : (decode cX9_areNames 81 = .ok (.iaload, 1)) ∧ (decode cX9_areNames 82 = .ok (.aload_n 0, 1)) ∧ (decode cX9_areNames 83 = .ok (.getfield 94, 3)) ∧ (decode cX9_areNames 86 = .ok (.iload 6, 2)) ∧ (decode cX9_areNames 88 = .ok (.iaload, 1)) ∧ (decode cX9_areNames 89 = .ok (.if_icmp .ne 5, 3)) ∧ (decode cX9_areNames 92 = .ok (.iconst 0, 1)) ∧ (decode cX9_areNames 93 = .ok (.ireturn, 1)) := by decide +kernel
theorem dX9_areNames_81 : decode cX9_areNames 81 = .ok (.iaload, 1) := dX9_areNames_81_g.1
theorem dX9_areNames_82 : decode cX9_areNames 82 = .ok (.aload_n 0, 1) := dX9_areNames_81_g.2.1
theorem dX9_areNames_83 : decode cX9_areNames 83 = .ok (.getfield 94, 3) := dX9_areNames_81_g.2.2.1
theorem dX9_areNames_86 : decode cX9_areNames 86 = .ok (.iload 6, 2) := dX9_areNames_81_g.2.2.2.1
theorem dX9_areNames_88 : decode cX9_areNames 88 = .ok (.iaload, 1) := dX9_areNames_81_g.2.2.2.2.1
theorem dX9_areNames_89 : decode cX9_areNames 89 = .ok (.if_icmp .ne 5, 3) := dX9_areNames_81_g.2.2.2.2.2.1
theorem dX9_areNames_92 : decode cX9_areNames 92 = .ok (.iconst 0, 1) := dX9_areNames_81_g.2.2.2.2.2.2.1
theorem dX9_areNames_93 : decode cX9_areNames 93 = .ok (.ireturn, 1) := dX9_areNames_81_g.2.2.2.2.2.2.2
theorem dX9_areNames_94_g : (decode cX9_areNames 94 = .ok (.iinc 7 1, 3)) ∧ (decode cX9_areNames 97 = .ok (.goto (-29), 3)) ∧ (decode cX9_areNames 100 = .ok (.iinc 6 1, 3)) ∧ (decode cX9_areNames 103 = .ok (.goto (-63), 3)) ∧ (decode cX9_areNames 106 = .ok (.iconst 1, 1)) ∧ (decode cX9_areNames 107 = .ok (.ireturn, 1)) := by decide +kernel
theorem dX9_areNames_94 : decode cX9_areNames 94 = .ok (.iinc 7 1, 3) := dX9_areNames_94_g.1
theorem dX9_areNames_97 : decode cX9_areNames 97 = .ok (.goto (-29), 3) := dX9_areNames_94_g.2.1
theorem dX9_areNames_100 : decode cX9_areNames 100 = .ok (.iinc 6 1, 3) := dX9_areNames_94_g.2.2.1
theorem dX9_areNames_103 : decode cX9_areNames 103 = .ok (.goto (-63), 3) := dX9_areNames_94_g.2.2.2.1
theorem dX9_areNames_106 : decode cX9_areNames 106 = .ok (.iconst 1, 1) := dX9_areNames_94_g.2.2.2.2.1
theorem dX9_areNames_107 : decode cX9_areNames 107 = .ok (.ireturn, 1) := dX9_areNames_94_g.2.2.2.2.2
theorem dX9_rename_0_g : (decode cX9_rename 0 = .ok (.aload_n 0, 1)) ∧ (decode cX9_rename 1 = .ok (.iconst 0, 1)) ∧ (decode cX9_rename 2 = .ok (.putfield 133, 3)) ∧ (decode cX9_rename 5 = .ok (.aload_n 0, 1)) ∧ (decode cX9_rename 6 = .ok (.iload_n 1, 1)) ∧ (decode cX9_rename 7 = .ok (.iload_n 2, 1)) ∧ (decode cX9_rename 8 = .ok (.iload_n 3, 1)) ∧ (decode cX9_rename 9 = .ok (.iload 4, 2)) := by decide +kernel
theorem dX9_rename_0 : decode cX9_rename 0 = .ok (.aload_n 0, 1) := dX9_rename_0_g.1
theorem dX9_rename_1 : decode cX9_rename 1 = .ok (.iconst 0, 1) := dX9_rename_0_g.2.1
theorem dX9_rename_2 : decode cX9_rename 2 = .ok (.putfield 133, 3) := dX9_rename_0_g.2.2.1
theorem dX9_rename_5 : decode cX9_rename 5 = .ok (.aload_n 0, 1) := dX9_rename_0_g.2.2.2.1
theorem dX9_rename_6 : decode cX9_rename 6 = .ok (.iload_n 1, 1) := dX9_rename_0_g.2.2.2.2.1
theorem dX9_rename_7 : decode cX9_rename 7 = .ok (.iload_n 2, 1) := dX9_rename_0_g.2.2.2.2.2.1
theorem dX9_rename_8 : decode cX9_rename 8 = .ok (.iload_n 3, 1) := dX9_rename_0_g.2.2.2.2.2.2.1
theorem dX9_rename_9 : decode cX9_rename 9 = .ok (.iload 4, 2) := dX9_rename_0_g.2.2.2.2.2.2.2
theorem dX9_rename_11_g : (decode cX9_rename 11 = .ok (.iload 5, 2)) ∧ (decode cX9_rename 13 = .ok (.invokevirtual 235, 3)) ∧ (decode cX9_rename 16 = .ok (.ifCond .ne 9, 3)) ∧ (decode cX9_rename 19 = .ok (.aload_n 0, 1)) ∧ (decode cX9_rename 20 = .ok (.iconst 1, 1)) ∧ (decode cX9_rename 21 = .ok (.invokevirtual 159, 3)) ∧ (decode cX9_rename 24 = .ok (.ireturn, 1)) ∧ (decode cX9_rename 25 = .ok (.iconst 0, 1)) := by decide +kernel
theorem dX9_rename_11 : decode cX9_rename 11 = .ok (.iload 5, 2) := dX9_rename_11_g.1
theorem dX9_rename_13 : decode cX9_rename 13 = .ok (.invokevirtual 235, 3) := dX9_rename_11_g.2.1
theorem dX9_rename_16 : decode cX9_rename 16 = .ok (.ifCond .ne 9, 3) := dX9_rename_11_g.2.2.1
theorem dX9_rename_19 : decode cX9_rename 19 = .ok (.aload_n 0, 1) := dX9_rename_11_g.2.2.2.1
theorem dX9_rename_20 : decode cX9_rename 20 = .ok (.iconst 1, 1) := dX9_rename_11_g.2.2.2.2.1
theorem dX9_rename_21 : decode cX9_rename 21 = .ok (.invokevirtual 159, 3) := dX9_rename_11_g.2.2.2.2.2.1
theorem dX9_rename_24 : decode cX9_rename 24 = .ok (.ireturn, 1) := dX9_rename_11_g.2.2.2.2.2.2.1
theorem dX9_rename_25 : decode cX9_rename 25 = .ok (.iconst 0, 1) := dX9_rename_11_g.2.2.2.2.2.2.2
theorem dX9_rename_26_g : (decode cX9_rename 26 = .ok (.istore 6, 2)) ∧ (decode cX9_rename 28 = .ok (.iload 6, 2)) ∧ (decode cX9_rename 30 = .ok (.bipush 25, 2)) ∧ (decode cX9_rename 32 = .ok (.if_icmp .ge 37, 3)) ∧ (decode cX9_rename 35 = .ok (.aload_n 0, 1)) ∧ (decode cX9_rename 36 = .ok (.getfield 97, 3)) ∧ (decode cX9_rename 39 = .ok (.iload 6, 2)) ∧ (decode cX9_rename 41 = .ok (.aload_n 0, 1)) := by decide +kernel
theorem dX9_rename_26 : decode cX9_rename 26 = .ok (.istore 6, 2) := dX9_rename_26_g.1
theorem dX9_rename_28 : decode cX9_rename 28 = .ok (.iload 6, 2) := dX9_rename_26_g.2.1
theorem dX9_rename_30 : decode cX9_rename 30 = .ok (.bipush 25, 2) := dX9_rename_26_g.2.2.1
theorem dX9_rename_32 : decode cX9_rename 32 = .ok (.if_icmp .ge 37, 3) := dX9_rename_26_g.2.2.2.1
theorem dX9_rename_35 : decode cX9_rename 35 = .ok (.aload_n 0, 1) := dX9_rename_26_g.2.2.2.2.1
theorem dX9_rename_36 : decode cX9_rename 36 = .ok (.getfield 97, 3) := dX9_rename_26_g.2.2.2.2.2.1
theorem dX9_rename_39 : decode cX9_rename 39 = .ok (.iload 6, 2) := dX9_rename_26_g.2.2.2.2.2.2.1
theorem dX9_rename_41 : decode cX9_rename 41 = .ok (.aload_n 0, 1) := dX9_rename_26_g.2.2.2.2.2.2.2
theorem dX9_rename_42_g : (decode cX9_rename 42 = .ok (.getfield 26, 3)) ∧ (decode cX9_rename 45 = .ok (.iload 6, 2)) ∧ (decode cX9_rename 47 = .ok (.iaload, 1)) ∧ (decode cX9_rename 48 = .ok (.iastore, 1)) ∧ (decode cX9_rename 49 = .ok (.aload_n 0, 1)) ∧ (decode cX9_rename 50 = .ok (.getfield 100, 3)) ∧ (decode cX9_rename 53 = .ok (.iload 6, 2)) ∧ (decode cX9_rename 55 = .ok (.aload_n 0, 1)) := by decide +kernel
theorem dX9_rename_42 : decode cX9_rename 42 = .ok (.getfield 26, 3) := dX9_rename_42_g.1
theorem dX9_rename_45 : decode cX9_rename 45 = .ok (.iload 6, 2) := dX9_rename_42_g.2.1
theorem dX9_rename_47 : decode cX9_rename 47 = .ok (.iaload, 1) := dX9_rename_42_g.2.2.1
theorem dX9_rename_48 : decode cX9_rename 48 = .ok (.iastore, 1) := dX9_rename_42_g.2.2.2.1
theorem dX9_rename_49 : decode cX9_rename 49 = .ok (.aload_n 0, 1) := dX9_rename_42_g.2.2.2.2.1
theorem dX9_rename_50 : decode cX9_rename 50 = .ok (.getfield 100, 3) := dX9_rename_42_g.2.2.2.2.2.1
theorem dX9_rename_53 : decode cX9_rename 53 = .ok (.iload 6, 2) := dX9_rename_42_g.2.2.2.2.2.2.1
theorem dX9_rename_55 : decode cX9_rename 55 = .ok (.aload_n 0, 1) := dX9_rename_42_g.2.2.2.2.2.2.2
theorem dX9_rename_56_g : (decode cX9_rename 56 = .ok (.getfield 29, 3)) ∧ (decode cX9_rename 59 = .ok (.iload 6, 2)) ∧ (decode cX9_rename 61 = .ok (.baload, 1)) ∧ (decode cX9_rename 62 = .ok (.bastore, 1)) ∧ (decode cX9_rename 63 = .ok (.iinc 6 1, 3)) ∧ (decode cX9_rename 66 = .ok (.goto (-38), 3)) ∧ (decode cX9_rename 69 = .ok (.iconst 0, 1)) ∧ (decode cX9_rename 70 = .ok (.istore 6, 2)) := by decide +kernel
theorem dX9_rename_56 : decode cX9_rename 56 = .ok (.getfield 29, 3) := dX9_rename_56_g.1
theorem dX9_rename_59 : decode cX9_rename 59 = .ok (.iload 6, 2) := dX9_rename_56_g.2.1
theorem dX9_rename_61 : decode cX9_rename 61 = .ok (.baload, 1) := dX9_rename_56_g.2.2.1
theorem dX9_rename_62 : decode cX9_rename 62 = .ok (.bastore, 1) := dX9_rename_56_g.2.2.2.1
theorem dX9_rename_63 : decode cX9_rename 63 = .ok (.iinc 6 1, 3) := dX9_rename_56_g.2.2.2.2.1
theorem dX9_rename_66 : decode cX9_rename 66 = .ok (.goto (-38), 3) := dX9_rename_56_g.2.2.2.2.2.1
theorem dX9_rename_69 : decode cX9_rename 69 = .ok (.iconst 0, 1) := dX9_rename_56_g.2.2.2.2.2.2.1
theorem dX9_rename_70 : decode cX9_rename 70 = .ok (.istore 6, 2) := dX9_rename_56_g.2.2.2.2.2.2.2
theorem dX9_rename_72_g : (decode cX9_rename 72 = .ok (.iload 6, 2)) ∧ (decode cX9_rename 74 = .ok (.aload_n 0, 1)) ∧ (decode cX9_rename 75 = .ok (.getfield 7, 3)) ∧ (decode cX9_rename 78 = .ok (.if_icmp .ge 95, 3)) ∧ (decode cX9_rename 81 = .ok (.iconst 0, 1)) ∧ (decode cX9_rename 82 = .ok (.istore 7, 2)) ∧ (decode cX9_rename 84 = .ok (.iload 7, 2)) ∧ (decode cX9_rename 86 = .ok (.aload_n 0, 1)) := by decide +kernel
theorem dX9_rename_72 : decode cX9_rename 72 = .ok (.iload 6, 2) := dX9_rename_72_g.1
theorem dX9_rename_74 : decode cX9_rename 74 = .ok (.aload_n 0, 1) := dX9_rename_72_g.2.1
theorem dX9_rename_75 : decode cX9_rename 75 = .ok (.getfield 7, 3) := dX9_rename_72_g.2.2.1
theorem dX9_rename_78 : decode cX9_rename 78 = .ok (.if_icmp .ge 95, 3) := dX9_rename_72_g.2.2.2.1
theorem dX9_rename_81 : decode cX9_rename 81 = .ok (.iconst 0, 1) := dX9_rename_72_g.2.2.2.2.1
theorem dX9_rename_82 : decode cX9_rename 82 = .ok (.istore 7, 2) := dX9_rename_72_g.2.2.2.2.2.1
theorem dX9_rename_84 : decode cX9_rename 84 = .ok (.iload 7, 2) := dX9_rename_72_g.2.2.2.2.2.2.1
theorem dX9_rename_86 : decode cX9_rename 86 = .ok (.aload_n 0, 1) := dX9_rename_72_g.2.2.2.2.2.2.2
theorem dX9_rename_87_g : (decode cX9_rename 87 = .ok (.getfield 7, 3)) ∧ (decode cX9_rename 90 = .ok (.if_icmp .ge 77, 3)) ∧ (decode cX9_rename 93 = .ok (.aload_n 0, 1)) ∧ (decode cX9_rename 94 = .ok (.getfield 26, 3)) ∧ (decode cX9_rename 97 = .ok (.iconst 5, 1)) ∧ (decode cX9_rename 98 = .ok (.aload_n 0, 1)) ∧ (decode cX9_rename 99 = .ok (.getfield 94, 3)) ∧ (decode cX9_rename 102 = .ok (.iload 6, 2)) := by decide +kernel
theorem dX9_rename_87 : decode cX9_rename 87 = .ok (.getfield 7, 3) := dX9_rename_87_g.1
theorem dX9_rename_90 : decode cX9_rename 90 = .ok (.if_icmp .ge 77, 3) := dX9_rename_87_g.2.1
theorem dX9_rename_93 : decode cX9_rename 93 = .ok (.aload_n 0, 1) := dX9_rename_87_g.2.2.1
theorem dX9_rename_94 : decode cX9_rename 94 = .ok (.getfield 26, 3) := dX9_rename_87_g.2.2.2.1
theorem dX9_rename_97 : decode cX9_rename 97 = .ok (.iconst 5, 1) := dX9_rename_87_g.2.2.2.2.1
theorem dX9_rename_98 : decode cX9_rename 98 = .ok (.aload_n 0, 1) := dX9_rename_87_g.2.2.2.2.2.1
theorem dX9_rename_99 : decode cX9_rename 99 = .ok (.getfield 94, 3) := dX9_rename_87_g.2.2.2.2.2.2.1
theorem dX9_rename_102 : decode cX9_rename 102 = .ok (.iload 6, 2) := dX9_rename_87_g.2.2.2.2.2.2.2
theorem dX9_rename_104_g : (decode cX9_rename 104 = .ok (.iaload, 1)) ∧ (decode cX9_rename 105 = .ok (.imul, 1)) ∧ (decode cX9_rename 106 = .ok (.aload_n 0, 1)) ∧ (decode cX9_rename 107 = .ok (.getfield 94, 3)) ∧ (decode cX9_rename 110 = .ok (.iload 7, 2)) ∧ (decode cX9_rename 112 = .ok (.iaload, 1)) ∧ (decode cX9_rename 113 = .ok (.iadd, 1)) ∧ (decode cX9_rename 114 = .ok (.aload_n 0, 1)) := by decide +kernel
theorem dX9_rename_104 : decode cX9_rename 104 = .ok (.iaload, 1) := dX9_rename_104_g.1
theorem dX9_rename_105 : decode cX9_rename 105 = .ok (.imul, 1) := dX9_rename_104_g.2.1
theorem dX9_rename_106 : decode cX9_rename 106 = .ok (.aload_n 0, 1) := dX9_rename_104_g.2.2.1
theorem dX9_rename_107 : decode cX9_rename 107 = .ok (.getfield 94, 3) := dX9_rename_104_g.2.2.2.1
theorem dX9_rename_110 : decode cX9_rename 110 = .ok (.iload 7, 2) := dX9_rename_104_g.2.2.2.2.1
theorem dX9_rename_112 : decode cX9_rename 112 = .ok (.iaload, 1) := dX9_rename_104_g.2.2.2.2.2.1
theorem dX9_rename_113 : decode cX9_rename 113 = .ok (.iadd, 1) := dX9_rename_104_g.2.2.2.2.2.2.1
theorem dX9_rename_114 : decode cX9_rename 114 = .ok (.aload_n 0, 1) := dX9_rename_104_g.2.2.2.2.2.2.2
theorem dX9_rename_115_g : (decode cX9_rename 115 = .ok (.getfield 97, 3)) ∧ (decode cX9_rename 118 = .ok (.iconst 5, 1)) ∧ (decode cX9_rename 119 = .ok (.iload 6, 2)) ∧ (decode cX9_rename 121 = .ok (.imul, 1)) ∧ (decode cX9_rename 122 = .ok (.iload 7, 2)) ∧ (decode cX9_rename 124 = .ok (.iadd, 1)) ∧ (decode cX9_rename 125 = .ok (.iaload, 1)) ∧ (decode cX9_rename 126 = .ok (.iastore, 1)) := by decide +kernel
theorem dX9_rename_115 : decode cX9_rename 115 = .ok (.getfield 97, 3) := dX9_rename_115_g.1
theorem dX9_rename_118 : decode cX9_rename 118 = .ok (.iconst 5, 1) := dX9_rename_115_g.2.1
theorem dX9_rename_119 : decode cX9_rename 119 = .ok (.iload 6, 2) := dX9_rename_115_g.2.2.1
theorem dX9_rename_121 : decode cX9_rename 121 = .ok (.imul, 1) := dX9_rename_115_g.2.2.2.1
theorem dX9_rename_122 : decode cX9_rename 122 = .ok (.iload 7, 2) := dX9_rename_115_g.2.2.2.2.1
theorem dX9_rename_124 : decode cX9_rename 124 = .ok (.iadd, 1) := dX9_rename_115_g.2.2.2.2.2.1
theorem dX9_rename_125 : decode cX9_rename 125 = .ok (.iaload, 1) := dX9_rename_115_g.2.2.2.2.2.2.1
theorem dX9_rename_126 : decode cX9_rename 126 = .ok (.iastore, 1) := dX9_rename_115_g.2.2.2.2.2.2.2
theorem dX9_rename_127_g : (decode cX9_rename 127 = .ok (.aload_n 0, 1)) ∧ (decode cX9_rename 128 = .ok (.getfield 29, 3)) ∧ (decode cX9_rename 131 = .ok (.iconst 5, 1)) ∧ (decode cX9_rename 132 = .ok (.aload_n 0, 1)) ∧ (decode cX9_rename 133 = .ok (.getfield 94, 3)) ∧ (decode cX9_rename 136 = .ok (.iload 6, 2)) ∧ (decode cX9_rename 138 = .ok (.iaload, 1)) ∧ (decode cX9_rename 139 = .ok (.imul, 1)) := by decide +kernel
theorem dX9_rename_127 : decode cX9_rename 127 = .ok (.aload_n 0, 1) := dX9_rename_127_g.1
theorem dX9_rename_128 : decode cX9_rename 128 = .ok (.getfield 29, 3) := dX9_rename_127_g.2.1
theorem dX9_rename_131 : decode cX9_rename 131 = .ok (.iconst 5, 1) := dX9_rename_127_g.2.2.1
theorem dX9_rename_132 : decode cX9_rename 132 = .ok (.aload_n 0, 1) := dX9_rename_127_g.2.2.2.1
theorem dX9_rename_133 : decode cX9_rename 133 = .ok (.getfield 94, 3) := dX9_rename_127_g.2.2.2.2.1
theorem dX9_rename_136 : decode cX9_rename 136 = .ok (.iload 6, 2) := dX9_rename_127_g.2.2.2.2.2.1
theorem dX9_rename_138 : decode cX9_rename 138 = .ok (.iaload, 1) := dX9_rename_127_g.2.2.2.2.2.2.1
theorem dX9_rename_139 : decode cX9_rename 139 = .ok (.imul, 1) := dX9_rename_127_g.2.2.2.2.2.2.2
theorem dX9_rename_140_g : (decode cX9_rename 140 = .ok (.aload_n 0, 1)) ∧ (decode cX9_rename 141 = .ok (.getfield 94, 3)) ∧ (decode cX9_rename 144 = .ok (.iload 7, 2)) ∧ (decode cX9_rename 146 = .ok (.iaload, 1)) ∧ (decode cX9_rename 147 = .ok (.iadd, 1)) ∧ (decode cX9_rename 148 = .ok (.aload_n 0, 1)) ∧ (decode cX9_rename 149 = .ok (.getfield 100, 3)) ∧ (decode cX9_rename 152 = .ok (.iconst 5, 1)) := by decide +kernel
theorem dX9_rename_140 : decode cX9_rename 140 = .ok (.aload_n 0, 1) := dX9_rename_140_g.1
theorem dX9_rename_141 : decode cX9_rename 141 = .ok (.getfield 94, 3) := dX9_rename_140_g.2.1
theorem dX9_rename_144 : decode cX9_rename 144 = .ok (.iload 7, 2) := dX9_rename_140_g.2.2.1
theorem dX9_rename_146 : decode cX9_rename 146 = .ok (.iaload, 1) := dX9_rename_140_g.2.2.2.1
theorem dX9_rename_147 : decode cX9_rename 147 = .ok (.iadd, 1) := dX9_rename_140_g.2.2.2.2.1
theorem dX9_rename_148 : decode cX9_rename 148 = .ok (.aload_n 0, 1) := dX9_rename_140_g.2.2.2.2.2.1
theorem dX9_rename_149 : decode cX9_rename 149 = .ok (.getfield 100, 3) := dX9_rename_140_g.2.2.2.2.2.2.1
theorem dX9_rename_152 : decode cX9_rename 152 = .ok (.iconst 5, 1) := dX9_rename_140_g.2.2.2.2.2.2.2
theorem dX9_rename_153_g : (decode cX9_rename 153 = .ok (.iload 6, 2)) ∧ (decode cX9_rename 155 = .ok (.imul, 1)) ∧ (decode cX9_rename 156 = .ok (.iload 7, 2)) ∧ (decode cX9_rename 158 = .ok (.iadd, 1)) ∧ (decode cX9_rename 159 = .ok (.baload, 1)) ∧ (decode cX9_rename 160 = .ok (.bastore, 1)) ∧ (decode cX9_rename 161 = .ok (.iinc 7 1, 3)) ∧ (decode cX9_rename 164 = .ok (.goto (-80), 3)) := by decide +kernel
theorem dX9_rename_153 : decode cX9_rename 153 = .ok (.iload 6, 2) := dX9_rename_153_g.1
theorem dX9_rename_155 : decode cX9_rename 155 = .ok (.imul, 1) := dX9_rename_153_g.2.1
theorem dX9_rename_156 : decode cX9_rename 156 = .ok (.iload 7, 2) := dX9_rename_153_g.2.2.1
theorem dX9_rename_158 : decode cX9_rename 158 = .ok (.iadd, 1) := dX9_rename_153_g.2.2.2.1
theorem dX9_rename_159 : decode cX9_rename 159 = .ok (.baload, 1) := dX9_rename_153_g.2.2.2.2.1
theorem dX9_rename_160 : decode cX9_rename 160 = .ok (.bastore, 1) := dX9_rename_153_g.2.2.2.2.2.1
theorem dX9_rename_161 : decode cX9_rename 161 = .ok (.iinc 7 1, 3) := dX9_rename_153_g.2.2.2.2.2.2.1
theorem dX9_rename_164 : decode cX9_rename 164 = .ok (.goto (-80), 3) := dX9_rename_153_g.2.2.2.2.2.2.2
theorem dX9_rename_167_g : (decode cX9_rename 167 = .ok (.iinc 6 1, 3)) ∧ (decode cX9_rename 170 = .ok (.goto (-98), 3)) ∧ (decode cX9_rename 173 = .ok (.iconst 0, 1)) ∧ (decode cX9_rename 174 = .ok (.istore 6, 2)) ∧ (decode cX9_rename 176 = .ok (.iload 6, 2)) ∧ (decode cX9_rename 178 = .ok (.aload_n 0, 1)) ∧ (decode cX9_rename 179 = .ok (.getfield 13, 3)) ∧ (decode cX9_rename 182 = .ok (.if_icmp .ge 47, 3)) := by decide +kernel
theorem dX9_rename_167 : decode cX9_rename 167 = .ok (.iinc 6 1, 3) := dX9_rename_167_g.1
theorem dX9_rename_170 : decode cX9_rename 170 = .ok (.goto (-98), 3) := dX9_rename_167_g.2.1
theorem dX9_rename_173 : decode cX9_rename 173 = .ok (.iconst 0, 1) := dX9_rename_167_g.2.2.1
theorem dX9_rename_174 : decode cX9_rename 174 = .ok (.istore 6, 2) := dX9_rename_167_g.2.2.2.1
theorem dX9_rename_176 : decode cX9_rename 176 = .ok (.iload 6, 2) := dX9_rename_167_g.2.2.2.2.1
theorem dX9_rename_178 : decode cX9_rename 178 = .ok (.aload_n 0, 1) := dX9_rename_167_g.2.2.2.2.2.1
theorem dX9_rename_179 : decode cX9_rename 179 = .ok (.getfield 13, 3) := dX9_rename_167_g.2.2.2.2.2.2.1
theorem dX9_rename_182 : decode cX9_rename 182 = .ok (.if_icmp .ge 47, 3) := dX9_rename_167_g.2.2.2.2.2.2.2
theorem dX9_rename_185_g : (decode cX9_rename 185 = .ok (.aload_n 0, 1)) ∧ (decode cX9_rename 186 = .ok (.getfield 20, 3)) ∧ (decode cX9_rename 189 = .ok (.iload 6, 2)) ∧ (decode cX9_rename 191 = .ok (.aload_n 0, 1)) ∧ (decode cX9_rename 192 = .ok (.getfield 94, 3)) ∧ (decode cX9_rename 195 = .ok (.aload_n 0, 1)) ∧ (decode cX9_rename 196 = .ok (.getfield 20, 3)) ∧ (decode cX9_rename 199 = .ok (.iload 6, 2)) := by decide +kernel
theorem dX9_rename_185 : decode cX9_rename 185 = .ok (.aload_n 0, 1) := dX9_rename_185_g.1
theorem dX9_rename_186 : decode cX9_rename 186 = .ok (.getfield 20, 3) := dX9_rename_185_g.2.1
theorem dX9_rename_189 : decode cX9_rename 189 = .ok (.iload 6, 2) := dX9_rename_185_g.2.2.1
theorem dX9_rename_191 : decode cX9_rename 191 = .ok (.aload_n 0, 1) := dX9_rename_185_g.2.2.2.1
theorem dX9_rename_192 : decode cX9_rename 192 = .ok (.getfield 94, 3) := dX9_rename_185_g.2.2.2.2.1
theorem dX9_rename_195 : decode cX9_rename 195 = .ok (.aload_n 0, 1) := dX9_rename_185_g.2.2.2.2.2.1
theorem dX9_rename_196 : decode cX9_rename 196 = .ok (.getfield 20, 3) := dX9_rename_185_g.2.2.2.2.2.2.1
theorem dX9_rename_199 : decode cX9_rename 199 = .ok (.iload 6, 2) := dX9_rename_185_g.2.2.2.2.2.2.2
theorem dX9_rename_201_g : (decode cX9_rename 201 = .ok (.iaload, 1)) ∧ (decode cX9_rename 202 = .ok (.iaload, 1)) ∧ (decode cX9_rename 203 = .ok (.iastore, 1)) ∧ (decode cX9_rename 204 = .ok (.aload_n 0, 1)) ∧ (decode cX9_rename 205 = .ok (.getfield 23, 3)) ∧ (decode cX9_rename 208 = .ok (.iload 6, 2)) ∧ (decode cX9_rename 210 = .ok (.aload_n 0, 1)) ∧ (decode cX9_rename 211 = .ok (.getfield 94, 3)) := by decide +kernel
theorem dX9_rename_201 : decode cX9_rename 201 = .ok (.iaload, 1) := dX9_rename_201_g.1
theorem dX9_rename_202 : decode cX9_rename 202 = .ok (.iaload, 1) := dX9_rename_201_g.2.1
theorem dX9_rename_203 : decode cX9_rename 203 = .ok (.iastore, 1) := dX9_rename_201_g.2.2.1
theorem dX9_rename_204 : decode cX9_rename 204 = .ok (.aload_n 0, 1) := dX9_rename_201_g.2.2.2.1
theorem dX9_rename_205 : decode cX9_rename 205 = .ok (.getfield 23, 3) := dX9_rename_201_g.2.2.2.2.1
theorem dX9_rename_208 : decode cX9_rename 208 = .ok (.iload 6, 2) := dX9_rename_201_g.2.2.2.2.2.1
theorem dX9_rename_210 : decode cX9_rename 210 = .ok (.aload_n 0, 1) := dX9_rename_201_g.2.2.2.2.2.2.1
theorem dX9_rename_211 : decode cX9_rename 211 = .ok (.getfield 94, 3) := dX9_rename_201_g.2.2.2.2.2.2.2
theorem dX9_rename_214_g : (decode cX9_rename 214 = .ok (.aload_n 0, 1)) ∧ (decode cX9_rename 215 = .ok (.getfield 23, 3)) ∧ (decode cX9_rename 218 = .ok (.iload 6, 2)) ∧ (decode cX9_rename 220 = .ok (.iaload, 1)) ∧ (decode cX9_rename 221 = .ok (.iaload, 1)) ∧ (decode cX9_rename 222 = .ok (.iastore, 1)) ∧ (decode cX9_rename 223 = .ok (.iinc 6 1, 3)) ∧ (decode cX9_rename 226 = .ok (.goto (-50), 3)) := by decide +kernel
theorem dX9_rename_214 : decode cX9_rename 214 = .ok (.aload_n 0, 1) := dX9_rename_214_g.1
theorem dX9_rename_215 : decode cX9_rename 215 = .ok (.getfield 23, 3) := dX9_rename_214_g.2.1
theorem dX9_rename_218 : decode cX9_rename 218 = .ok (.iload 6, 2) := dX9_rename_214_g.2.2.1
theorem dX9_rename_220 : decode cX9_rename 220 = .ok (.iaload, 1) := dX9_rename_214_g.2.2.2.1
theorem dX9_rename_221 : decode cX9_rename 221 = .ok (.iaload, 1) := dX9_rename_214_g.2.2.2.2.1
theorem dX9_rename_222 : decode cX9_rename 222 = .ok (.iastore, 1) := dX9_rename_214_g.2.2.2.2.2.1
theorem dX9_rename_223 : decode cX9_rename 223 = .ok (.iinc 6 1, 3) := dX9_rename_214_g.2.2.2.2.2.2.1
theorem dX9_rename_226 : decode cX9_rename 226 = .ok (.goto (-50), 3) := dX9_rename_214_g.2.2.2.2.2.2.2
theorem dX9_rename_229_g : (decode cX9_rename 229 = .ok (.aload_n 0, 1)) ∧ (decode cX9_rename 230 = .ok (.invokevirtual 163, 3)) ∧ (decode cX9_rename 233 = .ok (.iconst 1, 1)) ∧ (decode cX9_rename 234 = .ok (.ireturn, 1)) := by decide +kernel
theorem dX9_rename_229 : decode cX9_rename 229 = .ok (.aload_n 0, 1) := dX9_rename_229_g.1
theorem dX9_rename_230 : decode cX9_rename 230 = .ok (.invokevirtual 163, 3) := dX9_rename_229_g.2.1
theorem dX9_rename_233 : decode cX9_rename 233 = .ok (.iconst 1, 1) := dX9_rename_229_g.2.2.1
theorem dX9_rename_234 : decode cX9_rename 234 = .ok (.ireturn, 1) := dX9_rename_229_g.2.2.2
theorem dX9_about_0_g : (decode cX9_about 0 = .ok (.aload_n 0, 1)) ∧ (decode cX9_about 1 = .ok (.iconst 0, 1)) ∧ (decode cX9_about 2 = .ok (.putfield 133, 3)) ∧ (decode cX9_about 5 = .ok (.iconst 0, 1)) ∧ (decode cX9_about 6 = .ok (.istore_n 1, 1)) ∧ (decode cX9_about 7 = .ok (.iload_n 1, 1)) ∧ (decode cX9_about 8 = .ok (.iconst 5, 1)) ∧ (decode cX9_about 9 = .ok (.if_icmp .ge 110, 3)) := by decide +kernel
theorem dX9_about_0 : decode cX9_about 0 = .ok (.aload_n 0, 1) := dX9_about_0_g.1
theorem dX9_about_1 : decode cX9_about 1 = .ok (.iconst 0, 1) := dX9_about_0_g.2.1
theorem dX9_about_2 : decode cX9_about 2 = .ok (.putfield 133, 3) := dX9_about_0_g.2.2.1
theorem dX9_about_5 : decode cX9_about 5 = .ok (.iconst 0, 1) := dX9_about_0_g.2.2.2.1
theorem dX9_about_6 : decode cX9_about 6 = .ok (.istore_n 1, 1) := dX9_about_0_g.2.2.2.2.1
theorem dX9_about_7 : decode cX9_about 7 = .ok (.iload_n 1, 1) := dX9_about_0_g.2.2.2.2.2.1
theorem dX9_about_8 : decode cX9_about 8 = .ok (.iconst 5, 1) := dX9_about_0_g.2.2.2.2.2.2.1
theorem dX9_about_9 : decode cX9_about 9 = .ok (.if_icmp .ge 110, 3) := dX9_about_0_g.2.2.2.2.2.2.2
theorem dX9_about_12_g : (decode cX9_about 12 = .ok (.iload_n 1, 1)) ∧ (decode cX9_about 13 = .ok (.iconst 1, 1)) ∧ (decode cX9_about 14 = .ok (.iadd, 1)) ∧ (decode cX9_about 15 = .ok (.istore_n 2, 1)) ∧ (decode cX9_about 16 = .ok (.iload_n 2, 1)) ∧ (decode cX9_about 17 = .ok (.iconst 5, 1)) ∧ (decode cX9_about 18 = .ok (.if_icmp .ge 95, 3)) ∧ (decode cX9_about 21 = .ok (.aload_n 0, 1)) := by decide +kernel
theorem dX9_about_12 : decode cX9_about 12 = .ok (.iload_n 1, 1) := dX9_about_12_g.1
theorem dX9_about_13 : decode cX9_about 13 = .ok (.iconst 1, 1) := dX9_about_12_g.2.1
theorem dX9_about_14 : decode cX9_about 14 = .ok (.iadd, 1) := dX9_about_12_g.2.2.1
theorem dX9_about_15 : decode cX9_about 15 = .ok (.istore_n 2, 1) := dX9_about_12_g.2.2.2.1
theorem dX9_about_16 : decode cX9_about 16 = .ok (.iload_n 2, 1) := dX9_about_12_g.2.2.2.2.1
theorem dX9_about_17 : decode cX9_about 17 = .ok (.iconst 5, 1) := dX9_about_12_g.2.2.2.2.2.1
theorem dX9_about_18 : decode cX9_about 18 = .ok (.if_icmp .ge 95, 3) := dX9_about_12_g.2.2.2.2.2.2.1
theorem dX9_about_21 : decode cX9_about 21 = .ok (.aload_n 0, 1) := dX9_about_12_g.2.2.2.2.2.2.2
theorem dX9_about_22_g : (decode cX9_about 22 = .ok (.getfield 26, 3)) ∧ (decode cX9_about 25 = .ok (.iconst 5, 1)) ∧ (decode cX9_about 26 = .ok (.iload_n 1, 1)) ∧ (decode cX9_about 27 = .ok (.imul, 1)) ∧ (decode cX9_about 28 = .ok (.iload_n 2, 1)) ∧ (decode cX9_about 29 = .ok (.iadd, 1)) ∧ (decode cX9_about 30 = .ok (.iaload, 1)) ∧ (decode cX9_about 31 = .ok (.istore_n 3, 1)) := by decide +kernel
theorem dX9_about_22 : decode cX9_about 22 = .ok (.getfield 26, 3) := dX9_about_22_g.1
theorem dX9_about_25 : decode cX9_about 25 = .ok (.iconst 5, 1) := dX9_about_22_g.2.1
theorem dX9_about_26 : decode cX9_about 26 = .ok (.iload_n 1, 1) := dX9_about_22_g.2.2.1
theorem dX9_about_27 : decode cX9_about 27 = .ok (.imul, 1) := dX9_about_22_g.2.2.2.1
theorem dX9_about_28 : decode cX9_about 28 = .ok (.iload_n 2, 1) := dX9_about_22_g.2.2.2.2.1
theorem dX9_about_29 : decode cX9_about 29 = .ok (.iadd, 1) := dX9_about_22_g.2.2.2.2.2.1
theorem dX9_about_30 : decode cX9_about 30 = .ok (.iaload, 1) := dX9_about_22_g.2.2.2.2.2.2.1
theorem dX9_about_31 : decode cX9_about 31 = .ok (.istore_n 3, 1) := dX9_about_22_g.2.2.2.2.2.2.2
theorem dX9_about_32_g : (decode cX9_about 32 = .ok (.aload_n 0, 1)) ∧ (decode cX9_about 33 = .ok (.getfield 29, 3)) ∧ (decode cX9_about 36 = .ok (.iconst 5, 1)) ∧ (decode cX9_about 37 = .ok (.iload_n 1, 1)) ∧ (decode cX9_about 38 = .ok (.imul, 1)) ∧ (decode cX9_about 39 = .ok (.iload_n 2, 1)) ∧ (decode cX9_about 40 = .ok (.iadd, 1)) ∧ (decode cX9_about 41 = .ok (.baload, 1)) := by decide +kernel
theorem dX9_about_32 : decode cX9_about 32 = .ok (.aload_n 0, 1) := dX9_about_32_g.1
theorem dX9_about_33 : decode cX9_about 33 = .ok (.getfield 29, 3) := dX9_about_32_g.2.1
theorem dX9_about_36 : decode cX9_about 36 = .ok (.iconst 5, 1) := dX9_about_32_g.2.2.1
theorem dX9_about_37 : decode cX9_about 37 = .ok (.iload_n 1, 1) := dX9_about_32_g.2.2.2.1
theorem dX9_about_38 : decode cX9_about 38 = .ok (.imul, 1) := dX9_about_32_g.2.2.2.2.1
theorem dX9_about_39 : decode cX9_about 39 = .ok (.iload_n 2, 1) := dX9_about_32_g.2.2.2.2.2.1
theorem dX9_about_40 : decode cX9_about 40 = .ok (.iadd, 1) := dX9_about_32_g.2.2.2.2.2.2.1
theorem dX9_about_41 : decode cX9_about 41 = .ok (.baload, 1) := dX9_about_32_g.2.2.2.2.2.2.2
theorem dX9_about_42_g : (decode cX9_about 42 = .ok (.istore 4, 2)) ∧ (decode cX9_about 44 = .ok (.aload_n 0, 1)) ∧ (decode cX9_about 45 = .ok (.getfield 26, 3)) ∧ (decode cX9_about 48 = .ok (.iconst 5, 1)) ∧ (decode cX9_about 49 = .ok (.iload_n 1, 1)) ∧ (decode cX9_about 50 = .ok (.imul, 1)) ∧ (decode cX9_about 51 = .ok (.iload_n 2, 1)) ∧ (decode cX9_about 52 = .ok (.iadd, 1)) := by decide +kernel
theorem dX9_about_42 : decode cX9_about 42 = .ok (.istore 4, 2) := dX9_about_42_g.1
theorem dX9_about_44 : decode cX9_about 44 = .ok (.aload_n 0, 1) := dX9_about_42_g.2.1
theorem dX9_about_45 : decode cX9_about 45 = .ok (.getfield 26, 3) := dX9_about_42_g.2.2.1
theorem dX9_about_48 : decode cX9_about 48 = .ok (.iconst 5, 1) := dX9_about_42_g.2.2.2.1
theorem dX9_about_49 : decode cX9_about 49 = .ok (.iload_n 1, 1) := dX9_about_42_g.2.2.2.2.1
theorem dX9_about_50 : decode cX9_about 50 = .ok (.imul, 1) := dX9_about_42_g.2.2.2.2.2.1
theorem dX9_about_51 : decode cX9_about 51 = .ok (.iload_n 2, 1) := dX9_about_42_g.2.2.2.2.2.2.1
theorem dX9_about_52 : decode cX9_about 52 = .ok (.iadd, 1) := dX9_about_42_g.2.2.2.2.2.2.2
theorem dX9_about_53_g : (decode cX9_about 53 = .ok (.aload_n 0, 1)) ∧ (decode cX9_about 54 = .ok (.getfield 26, 3)) ∧ (decode cX9_about 57 = .ok (.iconst 5, 1)) ∧ (decode cX9_about 58 = .ok (.iload_n 2, 1)) ∧ (decode cX9_about 59 = .ok (.imul, 1)) ∧ (decode cX9_about 60 = .ok (.iload_n 1, 1)) ∧ (decode cX9_about 61 = .ok (.iadd, 1)) ∧ (decode cX9_about 62 = .ok (.iaload, 1)) := by decide +kernel
theorem dX9_about_53 : decode cX9_about 53 = .ok (.aload_n 0, 1) := dX9_about_53_g.1
theorem dX9_about_54 : decode cX9_about 54 = .ok (.getfield 26, 3) := dX9_about_53_g.2.1
theorem dX9_about_57 : decode cX9_about 57 = .ok (.iconst 5, 1) := dX9_about_53_g.2.2.1
theorem dX9_about_58 : decode cX9_about 58 = .ok (.iload_n 2, 1) := dX9_about_53_g.2.2.2.1
theorem dX9_about_59 : decode cX9_about 59 = .ok (.imul, 1) := dX9_about_53_g.2.2.2.2.1
theorem dX9_about_60 : decode cX9_about 60 = .ok (.iload_n 1, 1) := dX9_about_53_g.2.2.2.2.2.1
theorem dX9_about_61 : decode cX9_about 61 = .ok (.iadd, 1) := dX9_about_53_g.2.2.2.2.2.2.1
theorem dX9_about_62 : decode cX9_about 62 = .ok (.iaload, 1) := dX9_about_53_g.2.2.2.2.2.2.2
theorem dX9_about_63_g : (decode cX9_about 63 = .ok (.iastore, 1)) ∧ (decode cX9_about 64 = .ok (.aload_n 0, 1)) ∧ (decode cX9_about 65 = .ok (.getfield 29, 3)) ∧ (decode cX9_about 68 = .ok (.iconst 5, 1)) ∧ (decode cX9_about 69 = .ok (.iload_n 1, 1)) ∧ (decode cX9_about 70 = .ok (.imul, 1)) ∧ (decode cX9_about 71 = .ok (.iload_n 2, 1)) ∧ (decode cX9_about 72 = .ok (.iadd, 1)) := by decide +kernel
theorem dX9_about_63 : decode cX9_about 63 = .ok (.iastore, 1) := dX9_about_63_g.1
theorem dX9_about_64 : decode cX9_about 64 = .ok (.aload_n 0, 1) := dX9_about_63_g.2.1
theorem dX9_about_65 : decode cX9_about 65 = .ok (.getfield 29, 3) := dX9_about_63_g.2.2.1
theorem dX9_about_68 : decode cX9_about 68 = .ok (.iconst 5, 1) := dX9_about_63_g.2.2.2.1
theorem dX9_about_69 : decode cX9_about 69 = .ok (.iload_n 1, 1) := dX9_about_63_g.2.2.2.2.1
theorem dX9_about_70 : decode cX9_about 70 = .ok (.imul, 1) := dX9_about_63_g.2.2.2.2.2.1
theorem dX9_about_71 : decode cX9_about 71 = .ok (.iload_n 2, 1) := dX9_about_63_g.2.2.2.2.2.2.1
theorem dX9_about_72 : decode cX9_about 72 = .ok (.iadd, 1) := dX9_about_63_g.2.2.2.2.2.2.2
theorem dX9_about_73_g : (decode cX9_about 73 = .ok (.aload_n 0, 1)) ∧ (decode cX9_about 74 = .ok (.getfield 29, 3)) ∧ (decode cX9_about 77 = .ok (.iconst 5, 1)) ∧ (decode cX9_about 78 = .ok (.iload_n 2, 1)) ∧ (decode cX9_about 79 = .ok (.imul, 1)) ∧ (decode cX9_about 80 = .ok (.iload_n 1, 1)) ∧ (decode cX9_about 81 = .ok (.iadd, 1)) ∧ (decode cX9_about 82 = .ok (.baload, 1)) := by decide +kernel
theorem dX9_about_73 : decode cX9_about 73 = .ok (.aload_n 0, 1) := dX9_about_73_g.1
theorem dX9_about_74 : decode cX9_about 74 = .ok (.getfield 29, 3) := dX9_about_73_g.2.1
theorem dX9_about_77 : decode cX9_about 77 = .ok (.iconst 5, 1) := dX9_about_73_g.2.2.1
theorem dX9_about_78 : decode cX9_about 78 = .ok (.iload_n 2, 1) := dX9_about_73_g.2.2.2.1
theorem dX9_about_79 : decode cX9_about 79 = .ok (.imul, 1) := dX9_about_73_g.2.2.2.2.1
theorem dX9_about_80 : decode cX9_about 80 = .ok (.iload_n 1, 1) := dX9_about_73_g.2.2.2.2.2.1
theorem dX9_about_81 : decode cX9_about 81 = .ok (.iadd, 1) := dX9_about_73_g.2.2.2.2.2.2.1
theorem dX9_about_82 : decode cX9_about 82 = .ok (.baload, 1) := dX9_about_73_g.2.2.2.2.2.2.2
theorem dX9_about_83_g : (decode cX9_about 83 = .ok (.bastore, 1)) ∧ (decode cX9_about 84 = .ok (.aload_n 0, 1)) ∧ (decode cX9_about 85 = .ok (.getfield 26, 3)) ∧ (decode cX9_about 88 = .ok (.iconst 5, 1)) ∧ (decode cX9_about 89 = .ok (.iload_n 2, 1)) ∧ (decode cX9_about 90 = .ok (.imul, 1)) ∧ (decode cX9_about 91 = .ok (.iload_n 1, 1)) ∧ (decode cX9_about 92 = .ok (.iadd, 1)) := by decide +kernel
theorem dX9_about_83 : decode cX9_about 83 = .ok (.bastore, 1) := dX9_about_83_g.1
theorem dX9_about_84 : decode cX9_about 84 = .ok (.aload_n 0, 1) := dX9_about_83_g.2.1
theorem dX9_about_85 : decode cX9_about 85 = .ok (.getfield 26, 3) := dX9_about_83_g.2.2.1
theorem dX9_about_88 : decode cX9_about 88 = .ok (.iconst 5, 1) := dX9_about_83_g.2.2.2.1
theorem dX9_about_89 : decode cX9_about 89 = .ok (.iload_n 2, 1) := dX9_about_83_g.2.2.2.2.1
theorem dX9_about_90 : decode cX9_about 90 = .ok (.imul, 1) := dX9_about_83_g.2.2.2.2.2.1
theorem dX9_about_91 : decode cX9_about 91 = .ok (.iload_n 1, 1) := dX9_about_83_g.2.2.2.2.2.2.1
theorem dX9_about_92 : decode cX9_about 92 = .ok (.iadd, 1) := dX9_about_83_g.2.2.2.2.2.2.2
theorem dX9_about_93_g : (decode cX9_about 93 = .ok (.iload_n 3, 1)) ∧ (decode cX9_about 94 = .ok (.iastore, 1)) ∧ (decode cX9_about 95 = .ok (.aload_n 0, 1)) ∧ (decode cX9_about 96 = .ok (.getfield 29, 3)) ∧ (decode cX9_about 99 = .ok (.iconst 5, 1)) ∧ (decode cX9_about 100 = .ok (.iload_n 2, 1)) ∧ (decode cX9_about 101 = .ok (.imul, 1)) ∧ (decode cX9_about 102 = .ok (.iload_n 1, 1)) := by decide +kernel
theorem dX9_about_93 : decode cX9_about 93 = .ok (.iload_n 3, 1) := dX9_about_93_g.1
theorem dX9_about_94 : decode cX9_about 94 = .ok (.iastore, 1) := dX9_about_93_g.2.1
theorem dX9_about_95 : decode cX9_about 95 = .ok (.aload_n 0, 1) := dX9_about_93_g.2.2.1
theorem dX9_about_96 : decode cX9_about 96 = .ok (.getfield 29, 3) := dX9_about_93_g.2.2.2.1
theorem dX9_about_99 : decode cX9_about 99 = .ok (.iconst 5, 1) := dX9_about_93_g.2.2.2.2.1
theorem dX9_about_100 : decode cX9_about 100 = .ok (.iload_n 2, 1) := dX9_about_93_g.2.2.2.2.2.1
theorem dX9_about_101 : decode cX9_about 101 = .ok (.imul, 1) := dX9_about_93_g.2.2.2.2.2.2.1
theorem dX9_about_102 : decode cX9_about 102 = .ok (.iload_n 1, 1) := dX9_about_93_g.2.2.2.2.2.2.2
theorem dX9_about_103_g : (decode cX9_about 103 = .ok (.iadd, 1)) ∧ (decode cX9_about 104 = .ok (.iload 4, 2)) ∧ (decode cX9_about 106 = .ok (.bastore, 1)) ∧ (decode cX9_about 107 = .ok (.iinc 2 1, 3)) ∧ (decode cX9_about 110 = .ok (.goto (-94), 3)) ∧ (decode cX9_about 113 = .ok (.iinc 1 1, 3)) ∧ (decode cX9_about 116 = .ok (.goto (-109), 3)) ∧ (decode cX9_about 119 = .ok (.iconst 0, 1)) := by decide +kernel
theorem dX9_about_103 : decode cX9_about 103 = .ok (.iadd, 1) := dX9_about_103_g.1
theorem dX9_about_104 : decode cX9_about 104 = .ok (.iload 4, 2) := dX9_about_103_g.2.1
theorem dX9_about_106 : decode cX9_about 106 = .ok (.bastore, 1) := dX9_about_103_g.2.2.1
theorem dX9_about_107 : decode cX9_about 107 = .ok (.iinc 2 1, 3) := dX9_about_103_g.2.2.2.1
theorem dX9_about_110 : decode cX9_about 110 = .ok (.goto (-94), 3) := dX9_about_103_g.2.2.2.2.1
theorem dX9_about_113 : decode cX9_about 113 = .ok (.iinc 1 1, 3) := dX9_about_103_g.2.2.2.2.2.1
theorem dX9_about_116 : decode cX9_about 116 = .ok (.goto (-109), 3) := dX9_about_103_g.2.2.2.2.2.2.1
theorem dX9_about_119 : decode cX9_about 119 = .ok (.iconst 0, 1) := dX9_about_103_g.2.2.2.2.2.2.2
theorem dX9_about_120_g : (decode cX9_about 120 = .ok (.istore_n 1, 1)) ∧ (decode cX9_about 121 = .ok (.iload_n 1, 1)) ∧ (decode cX9_about 122 = .ok (.aload_n 0, 1)) ∧ (decode cX9_about 123 = .ok (.getfield 13, 3)) ∧ (decode cX9_about 126 = .ok (.if_icmp .ge 35, 3)) ∧ (decode cX9_about 129 = .ok (.aload_n 0, 1)) ∧ (decode cX9_about 130 = .ok (.getfield 20, 3)) ∧ (decode cX9_about 133 = .ok (.iload_n 1, 1)) := by decide +kernel
theorem dX9_about_120 : decode cX9_about 120 = .ok (.istore_n 1, 1) := dX9_about_120_g.1
theorem dX9_about_121 : decode cX9_about 121 = .ok (.iload_n 1, 1) := dX9_about_120_g.2.1
theorem dX9_about_122 : decode cX9_about 122 = .ok (.aload_n 0, 1) := dX9_about_120_g.2.2.1
theorem dX9_about_123 : decode cX9_about 123 = .ok (.getfield 13, 3) := dX9_about_120_g.2.2.2.1
theorem dX9_about_126 : decode cX9_about 126 = .ok (.if_icmp .ge 35, 3) := dX9_about_120_g.2.2.2.2.1
theorem dX9_about_129 : decode cX9_about 129 = .ok (.aload_n 0, 1) := dX9_about_120_g.2.2.2.2.2.1
theorem dX9_about_130 : decode cX9_about 130 = .ok (.getfield 20, 3) := dX9_about_120_g.2.2.2.2.2.2.1
theorem dX9_about_133 : decode cX9_about 133 = .ok (.iload_n 1, 1) := dX9_about_120_g.2.2.2.2.2.2.2
theorem dX9_about_134_g : (decode cX9_about 134 = .ok (.iaload, 1)) ∧ (decode cX9_about 135 = .ok (.istore_n 2, 1)) ∧ (decode cX9_about 136 = .ok (.aload_n 0, 1)) ∧ (decode cX9_about 137 = .ok (.getfield 20, 3)) ∧ (decode cX9_about 140 = .ok (.iload_n 1, 1)) ∧ (decode cX9_about 141 = .ok (.aload_n 0, 1)) ∧ (decode cX9_about 142 = .ok (.getfield 23, 3)) ∧ (decode cX9_about 145 = .ok (.iload_n 1, 1)) := by decide +kernel
theorem dX9_about_134 : decode cX9_about 134 = .ok (.iaload, 1) := dX9_about_134_g.1
theorem dX9_about_135 : decode cX9_about 135 = .ok (.istore_n 2, 1) := dX9_about_134_g.2.1
theorem dX9_about_136 : decode cX9_about 136 = .ok (.aload_n 0, 1) := dX9_about_134_g.2.2.1
theorem dX9_about_137 : decode cX9_about 137 = .ok (.getfield 20, 3) := dX9_about_134_g.2.2.2.1
theorem dX9_about_140 : decode cX9_about 140 = .ok (.iload_n 1, 1) := dX9_about_134_g.2.2.2.2.1
theorem dX9_about_141 : decode cX9_about 141 = .ok (.aload_n 0, 1) := dX9_about_134_g.2.2.2.2.2.1
theorem dX9_about_142 : decode cX9_about 142 = .ok (.getfield 23, 3) := dX9_about_134_g.2.2.2.2.2.2.1
theorem dX9_about_145 : decode cX9_about 145 = .ok (.iload_n 1, 1) := dX9_about_134_g.2.2.2.2.2.2.2
theorem dX9_about_146_g : (decode cX9_about 146 = .ok (.iaload, 1)) ∧ (decode cX9_about 147 = .ok (.iastore, 1)) ∧ (decode cX9_about 148 = .ok (.aload_n 0, 1)) ∧ (decode cX9_about 149 = .ok (.getfield 23, 3)) ∧ (decode cX9_about 152 = .ok (.iload_n 1, 1)) ∧ (decode cX9_about 153 = .ok (.iload_n 2, 1)) ∧ (decode cX9_about 154 = .ok (.iastore, 1)) ∧ (decode cX9_about 155 = .ok (.iinc 1 1, 3)) := by decide +kernel
theorem dX9_about_146 : decode cX9_about 146 = .ok (.iaload, 1) := dX9_about_146_g.1
theorem dX9_about_147 : decode cX9_about 147 = .ok (.iastore, 1) := dX9_about_146_g.2.1
theorem dX9_about_148 : decode cX9_about 148 = .ok (.aload_n 0, 1) := dX9_about_146_g.2.2.1
theorem dX9_about_149 : decode cX9_about 149 = .ok (.getfield 23, 3) := dX9_about_146_g.2.2.2.1
theorem dX9_about_152 : decode cX9_about 152 = .ok (.iload_n 1, 1) := dX9_about_146_g.2.2.2.2.1
theorem dX9_about_153 : decode cX9_about 153 = .ok (.iload_n 2, 1) := dX9_about_146_g.2.2.2.2.2.1
theorem dX9_about_154 : decode cX9_about 154 = .ok (.iastore, 1) := dX9_about_146_g.2.2.2.2.2.2.1
theorem dX9_about_155 : decode cX9_about 155 = .ok (.iinc 1 1, 3) := dX9_about_146_g.2.2.2.2.2.2.2
theorem dX9_about_158_g : (decode cX9_about 158 = .ok (.goto (-37), 3)) ∧ (decode cX9_about 161 = .ok (.aload_n 0, 1)) ∧ (decode cX9_about 162 = .ok (.iconst 0, 1)) ∧ (decode cX9_about 163 = .ok (.putfield 143, 3)) ∧ (decode cX9_about 166 = .ok (.aload_n 0, 1)) ∧ (decode cX9_about 167 = .ok (.iconst 0, 1)) ∧ (decode cX9_about 168 = .ok (.putfield 146, 3)) ∧ (decode cX9_about 171 = .ok (.aload_n 0, 1)) := by decide +kernel
theorem dX9_about_158 : decode cX9_about 158 = .ok (.goto (-37), 3) := dX9_about_158_g.1
theorem dX9_about_161 : decode cX9_about 161 = .ok (.aload_n 0, 1) := dX9_about_158_g.2.1
theorem dX9_about_162 : decode cX9_about 162 = .ok (.iconst 0, 1) := dX9_about_158_g.2.2.1
theorem dX9_about_163 : decode cX9_about 163 = .ok (.putfield 143, 3) := dX9_about_158_g.2.2.2.1
theorem dX9_about_166 : decode cX9_about 166 = .ok (.aload_n 0, 1) := dX9_about_158_g.2.2.2.2.1
theorem dX9_about_167 : decode cX9_about 167 = .ok (.iconst 0, 1) := dX9_about_158_g.2.2.2.2.2.1
theorem dX9_about_168 : decode cX9_about 168 = .ok (.putfield 146, 3) := dX9_about_158_g.2.2.2.2.2.2.1
theorem dX9_about_171 : decode cX9_about 171 = .ok (.aload_n 0, 1) := dX9_about_158_g.2.2.2.2.2.2.2
theorem dX9_about_172_g : (decode cX9_about 172 = .ok (.invokevirtual 173, 3)) ∧ (decode cX9_about 175 = .ok (.ireturn, 1)) := by decide +kernel
theorem dX9_about_172 : decode cX9_about 172 = .ok (.invokevirtual 173, 3) := dX9_about_172_g.1
theorem dX9_about_175 : decode cX9_about 175 = .ok (.ireturn, 1) := dX9_about_172_g.2
theorem dX9_scheme_0_g : (decode cX9_scheme 0 = .ok (.aload_n 0, 1)) ∧ (decode cX9_scheme 1 = .ok (.iconst 0, 1)) ∧ (decode cX9_scheme 2 = .ok (.putfield 133, 3)) ∧ (decode cX9_scheme 5 = .ok (.aload_n 0, 1)) ∧ (decode cX9_scheme 6 = .ok (.getfield 239, 3)) ∧ (decode cX9_scheme 9 = .ok (.bipush 8, 2)) ∧ (decode cX9_scheme 11 = .ok (.if_icmp .ne 9, 3)) ∧ (decode cX9_scheme 14 = .ok (.aload_n 0, 1)) := by decide +kernel
theorem dX9_scheme_0 : decode cX9_scheme 0 = .ok (.aload_n 0, 1) := dX9_scheme_0_g.1
theorem dX9_scheme_1 : decode cX9_scheme 1 = .ok (.iconst 0, 1) := dX9_scheme_0_g.2.1
theorem dX9_scheme_2 : decode cX9_scheme 2 = .ok (.putfield 133, 3) := dX9_scheme_0_g.2.2.1
theorem dX9_scheme_5 : decode cX9_scheme 5 = .ok (.aload_n 0, 1) := dX9_scheme_0_g.2.2.2.1
theorem dX9_scheme_6 : decode cX9_scheme 6 = .ok (.getfield 239, 3) := dX9_scheme_0_g.2.2.2.2.1
theorem dX9_scheme_9 : decode cX9_scheme 9 = .ok (.bipush 8, 2) := dX9_scheme_0_g.2.2.2.2.2.1
theorem dX9_scheme_11 : decode cX9_scheme 11 = .ok (.if_icmp .ne 9, 3) := dX9_scheme_0_g.2.2.2.2.2.2.1
theorem dX9_scheme_14 : decode cX9_scheme 14 = .ok (.aload_n 0, 1) := dX9_scheme_0_g.2.2.2.2.2.2.2
theorem dX9_scheme_15_g : (decode cX9_scheme 15 = .ok (.iconst 5, 1)) ∧ (decode cX9_scheme 16 = .ok (.invokevirtual 192, 3)) ∧ (decode cX9_scheme 19 = .ok (.ireturn, 1)) ∧ (decode cX9_scheme 20 = .ok (.aload_n 0, 1)) ∧ (decode cX9_scheme 21 = .ok (.getfield 103, 3)) ∧ (decode cX9_scheme 24 = .ok (.aload_n 0, 1)) ∧ (decode cX9_scheme 25 = .ok (.getfield 239, 3)) ∧ (decode cX9_scheme 28 = .ok (.iconst 0, 1)) := by decide +kernel
theorem dX9_scheme_15 : decode cX9_scheme 15 = .ok (.iconst 5, 1) := dX9_scheme_15_g.1
theorem dX9_scheme_16 : decode cX9_scheme 16 = .ok (.invokevirtual 192, 3) := dX9_scheme_15_g.2.1
theorem dX9_scheme_19 : decode cX9_scheme 19 = .ok (.ireturn, 1) := dX9_scheme_15_g.2.2.1
theorem dX9_scheme_20 : decode cX9_scheme 20 = .ok (.aload_n 0, 1) := dX9_scheme_15_g.2.2.2.1
theorem dX9_scheme_21 : decode cX9_scheme 21 = .ok (.getfield 103, 3) := dX9_scheme_15_g.2.2.2.2.1
theorem dX9_scheme_24 : decode cX9_scheme 24 = .ok (.aload_n 0, 1) := dX9_scheme_15_g.2.2.2.2.2.1
theorem dX9_scheme_25 : decode cX9_scheme 25 = .ok (.getfield 239, 3) := dX9_scheme_15_g.2.2.2.2.2.2.1
theorem dX9_scheme_28 : decode cX9_scheme 28 = .ok (.iconst 0, 1) := dX9_scheme_15_g.2.2.2.2.2.2.2
theorem dX9_scheme_29_g : (decode cX9_scheme 29 = .ok (.iastore, 1)) ∧ (decode cX9_scheme 30 = .ok (.aload_n 0, 1)) ∧ (decode cX9_scheme 31 = .ok (.dup, 1)) ∧ (decode cX9_scheme 32 = .ok (.getfield 239, 3)) ∧ (decode cX9_scheme 35 = .ok (.iconst 1, 1)) ∧ (decode cX9_scheme 36 = .ok (.iadd, 1)) ∧ (decode cX9_scheme 37 = .ok (.putfield 239, 3)) ∧ (decode cX9_scheme 40 = .ok (.aload_n 0, 1)) := by decide +kernel
theorem dX9_scheme_29 : decode cX9_scheme 29 = .ok (.iastore, 1) := dX9_scheme_29_g.1
theorem dX9_scheme_30 : decode cX9_scheme 30 = .ok (.aload_n 0, 1) := dX9_scheme_29_g.2.1
theorem dX9_scheme_31 : decode cX9_scheme 31 = .ok (.dup, 1) := dX9_scheme_29_g.2.2.1
theorem dX9_scheme_32 : decode cX9_scheme 32 = .ok (.getfield 239, 3) := dX9_scheme_29_g.2.2.2.1
theorem dX9_scheme_35 : decode cX9_scheme 35 = .ok (.iconst 1, 1) := dX9_scheme_29_g.2.2.2.2.1
theorem dX9_scheme_36 : decode cX9_scheme 36 = .ok (.iadd, 1) := dX9_scheme_29_g.2.2.2.2.2.1
theorem dX9_scheme_37 : decode cX9_scheme 37 = .ok (.putfield 239, 3) := dX9_scheme_29_g.2.2.2.2.2.2.1
theorem dX9_scheme_40 : decode cX9_scheme 40 = .ok (.aload_n 0, 1) := dX9_scheme_29_g.2.2.2.2.2.2.2
theorem dX9_scheme_41_g : (decode cX9_scheme 41 = .ok (.iconst 0, 1)) ∧ (decode cX9_scheme 42 = .ok (.putfield 136, 3)) ∧ (decode cX9_scheme 45 = .ok (.aload_n 0, 1)) ∧ (decode cX9_scheme 46 = .ok (.getfield 239, 3)) ∧ (decode cX9_scheme 49 = .ok (.iconst 1, 1)) ∧ (decode cX9_scheme 50 = .ok (.isub, 1)) ∧ (decode cX9_scheme 51 = .ok (.ireturn, 1)) := by decide +kernel
theorem dX9_scheme_41 : decode cX9_scheme 41 = .ok (.iconst 0, 1) := dX9_scheme_41_g.1
theorem dX9_scheme_42 : decode cX9_scheme 42 = .ok (.putfield 136, 3) := dX9_scheme_41_g.2.1
theorem dX9_scheme_45 : decode cX9_scheme 45 = .ok (.aload_n 0, 1) := dX9_scheme_41_g.2.2.1
theorem dX9_scheme_46 : decode cX9_scheme 46 = .ok (.getfield 239, 3) := dX9_scheme_41_g.2.2.2.1
theorem dX9_scheme_49 : decode cX9_scheme 49 = .ok (.iconst 1, 1) := dX9_scheme_41_g.2.2.2.2.1
theorem dX9_scheme_50 : decode cX9_scheme 50 = .ok (.isub, 1) := dX9_scheme_41_g.2.2.2.2.2.1
theorem dX9_scheme_51 : decode cX9_scheme 51 = .ok (.ireturn, 1) := dX9_scheme_41_g.2.2.2.2.2.2
theorem dX9_isScheme_0_g : (decode cX9_isScheme 0 = .ok (.aload_n 0, 1)) ∧ (decode cX9_isScheme 1 = .ok (.iload_n 1, 1)) ∧ (decode cX9_isScheme 2 = .ok (.iconst 0, 1)) ∧ (decode cX9_isScheme 3 = .ok (.aload_n 0, 1)) ∧ (decode cX9_isScheme 4 = .ok (.getfield 239, 3)) ∧ (decode cX9_isScheme 7 = .ok (.iconst 1, 1)) ∧ (decode cX9_isScheme 8 = .ok (.isub, 1)) ∧ (decode cX9_isScheme 9 = .ok (.invokevirtual 139, 3)) := by decide +kernel
theorem dX9_isScheme_0 : decode cX9_isScheme 0 = .ok (.aload_n 0, 1) := dX9_isScheme_0_g.1
theorem dX9_isScheme_1 : decode cX9_isScheme 1 = .ok (.iload_n 1, 1) := dX9_isScheme_0_g.2.1
theorem dX9_isScheme_2 : decode cX9_isScheme 2 = .ok (.iconst 0, 1) := dX9_isScheme_0_g.2.2.1
theorem dX9_isScheme_3 : decode cX9_isScheme 3 = .ok (.aload_n 0, 1) := dX9_isScheme_0_g.2.2.2.1
theorem dX9_isScheme_4 : decode cX9_isScheme 4 = .ok (.getfield 239, 3) := dX9_isScheme_0_g.2.2.2.2.1
theorem dX9_isScheme_7 : decode cX9_isScheme 7 = .ok (.iconst 1, 1) := dX9_isScheme_0_g.2.2.2.2.2.1
theorem dX9_isScheme_8 : decode cX9_isScheme 8 = .ok (.isub, 1) := dX9_isScheme_0_g.2.2.2.2.2.2.1
theorem dX9_isScheme_9 : decode cX9_isScheme 9 = .ok (.invokevirtual 139, 3) := dX9_isScheme_0_g.2.2.2.2.2.2.2
theorem dX9_isScheme_12 : decode cX9_isScheme 12 = .ok (.ireturn, 1) := by decide +kernel
theorem dX9_single_0_g : (decode cX9_single 0 = .ok (.aload_n 0, 1)) ∧ (decode cX9_single 1 = .ok (.iconst 0, 1)) ∧ (decode cX9_single 2 = .ok (.putfield 133, 3)) ∧ (decode cX9_single 5 = .ok (.aload_n 0, 1)) ∧ (decode cX9_single 6 = .ok (.iload_n 1, 1)) ∧ (decode cX9_single 7 = .ok (.invokevirtual 242, 3)) ∧ (decode cX9_single 10 = .ok (.ifCond .eq 28, 3)) ∧ (decode cX9_single 13 = .ok (.aload_n 0, 1)) := by decide +kernel
theorem dX9_single_0 : decode cX9_single 0 = .ok (.aload_n 0, 1) := dX9_single_0_g.1
theorem dX9_single_1 : decode cX9_single 1 = .ok (.iconst 0, 1) := dX9_single_0_g.2.1
theorem dX9_single_2 : decode cX9_single 2 = .ok (.putfield 133, 3) := dX9_single_0_g.2.2.1
theorem dX9_single_5 : decode cX9_single 5 = .ok (.aload_n 0, 1) := dX9_single_0_g.2.2.2.1
theorem dX9_single_6 : decode cX9_single 6 = .ok (.iload_n 1, 1) := dX9_single_0_g.2.2.2.2.1
theorem dX9_single_7 : decode cX9_single 7 = .ok (.invokevirtual 242, 3) := dX9_single_0_g.2.2.2.2.2.1
theorem dX9_single_10 : decode cX9_single 10 = .ok (.ifCond .eq 28, 3) := dX9_single_0_g.2.2.2.2.2.2.1
theorem dX9_single_13 : decode cX9_single 13 = .ok (.aload_n 0, 1) := dX9_single_0_g.2.2.2.2.2.2.2
theorem dX9_single_14_g : (decode cX9_single 14 = .ok (.iload_n 2, 1)) ∧ (decode cX9_single 15 = .ok (.iconst 0, 1)) ∧ (decode cX9_single 16 = .ok (.iconst 4, 1)) ∧ (decode cX9_single 17 = .ok (.invokevirtual 139, 3)) ∧ (decode cX9_single 20 = .ok (.ifCond .eq 18, 3)) ∧ (decode cX9_single 23 = .ok (.aload_n 0, 1)) ∧ (decode cX9_single 24 = .ok (.iload_n 3, 1)) ∧ (decode cX9_single 25 = .ok (.iconst 0, 1)) := by decide +kernel
theorem dX9_single_14 : decode cX9_single 14 = .ok (.iload_n 2, 1) := dX9_single_14_g.1
theorem dX9_single_15 : decode cX9_single 15 = .ok (.iconst 0, 1) := dX9_single_14_g.2.1
theorem dX9_single_16 : decode cX9_single 16 = .ok (.iconst 4, 1) := dX9_single_14_g.2.2.1
theorem dX9_single_17 : decode cX9_single 17 = .ok (.invokevirtual 139, 3) := dX9_single_14_g.2.2.2.1
theorem dX9_single_20 : decode cX9_single 20 = .ok (.ifCond .eq 18, 3) := dX9_single_14_g.2.2.2.2.1
theorem dX9_single_23 : decode cX9_single 23 = .ok (.aload_n 0, 1) := dX9_single_14_g.2.2.2.2.2.1
theorem dX9_single_24 : decode cX9_single 24 = .ok (.iload_n 3, 1) := dX9_single_14_g.2.2.2.2.2.2.1
theorem dX9_single_25 : decode cX9_single 25 = .ok (.iconst 0, 1) := dX9_single_14_g.2.2.2.2.2.2.2
theorem dX9_single_26_g : (decode cX9_single 26 = .ok (.iconst 4, 1)) ∧ (decode cX9_single 27 = .ok (.invokevirtual 139, 3)) ∧ (decode cX9_single 30 = .ok (.ifCond .eq 8, 3)) ∧ (decode cX9_single 33 = .ok (.iload_n 2, 1)) ∧ (decode cX9_single 34 = .ok (.iload_n 3, 1)) ∧ (decode cX9_single 35 = .ok (.if_icmp .ne 9, 3)) ∧ (decode cX9_single 38 = .ok (.aload_n 0, 1)) ∧ (decode cX9_single 39 = .ok (.iconst 1, 1)) := by decide +kernel
theorem dX9_single_26 : decode cX9_single 26 = .ok (.iconst 4, 1) := dX9_single_26_g.1
theorem dX9_single_27 : decode cX9_single 27 = .ok (.invokevirtual 139, 3) := dX9_single_26_g.2.1
theorem dX9_single_30 : decode cX9_single 30 = .ok (.ifCond .eq 8, 3) := dX9_single_26_g.2.2.1
theorem dX9_single_33 : decode cX9_single 33 = .ok (.iload_n 2, 1) := dX9_single_26_g.2.2.2.1
theorem dX9_single_34 : decode cX9_single 34 = .ok (.iload_n 3, 1) := dX9_single_26_g.2.2.2.2.1
theorem dX9_single_35 : decode cX9_single 35 = .ok (.if_icmp .ne 9, 3) := dX9_single_26_g.2.2.2.2.2.1
theorem dX9_single_38 : decode cX9_single 38 = .ok (.aload_n 0, 1) := dX9_single_26_g.2.2.2.2.2.2.1
theorem dX9_single_39 : decode cX9_single 39 = .ok (.iconst 1, 1) := dX9_single_26_g.2.2.2.2.2.2.2
theorem dX9_single_40_g : (decode cX9_single 40 = .ok (.invokevirtual 192, 3)) ∧ (decode cX9_single 43 = .ok (.ireturn, 1)) ∧ (decode cX9_single 44 = .ok (.aload_n 0, 1)) ∧ (decode cX9_single 45 = .ok (.getfield 103, 3)) ∧ (decode cX9_single 48 = .ok (.iload_n 1, 1)) ∧ (decode cX9_single 49 = .ok (.iaload, 1)) ∧ (decode cX9_single 50 = .ok (.istore 4, 2)) ∧ (decode cX9_single 52 = .ok (.iload 4, 2)) := by decide +kernel
theorem dX9_single_40 : decode cX9_single 40 = .ok (.invokevirtual 192, 3) := dX9_single_40_g.1
theorem dX9_single_43 : decode cX9_single 43 = .ok (.ireturn, 1) := dX9_single_40_g.2.1
theorem dX9_single_44 : decode cX9_single 44 = .ok (.aload_n 0, 1) := dX9_single_40_g.2.2.1
theorem dX9_single_45 : decode cX9_single 45 = .ok (.getfield 103, 3) := dX9_single_40_g.2.2.2.1
theorem dX9_single_48 : decode cX9_single 48 = .ok (.iload_n 1, 1) := dX9_single_40_g.2.2.2.2.1
theorem dX9_single_49 : decode cX9_single 49 = .ok (.iaload, 1) := dX9_single_40_g.2.2.2.2.2.1
theorem dX9_single_50 : decode cX9_single 50 = .ok (.istore 4, 2) := dX9_single_40_g.2.2.2.2.2.2.1
theorem dX9_single_52 : decode cX9_single 52 = .ok (.iload 4, 2) := dX9_single_40_g.2.2.2.2.2.2.2
theorem dX9_single_54_g : (decode cX9_single 54 = .ok (.bipush 8, 2)) ∧ (decode cX9_single 56 = .ok (.if_icmp .ne 9, 3)) ∧ (decode cX9_single 59 = .ok (.aload_n 0, 1)) ∧ (decode cX9_single 60 = .ok (.iconst 5, 1)) ∧ (decode cX9_single 61 = .ok (.invokevirtual 192, 3)) ∧ (decode cX9_single 64 = .ok (.ireturn, 1)) ∧ (decode cX9_single 65 = .ok (.bipush 8, 2)) ∧ (decode cX9_single 67 = .ok (.iload_n 1, 1)) := by decide +kernel
theorem dX9_single_54 : decode cX9_single 54 = .ok (.bipush 8, 2) := dX9_single_54_g.1
theorem dX9_single_56 : decode cX9_single 56 = .ok (.if_icmp .ne 9, 3) := dX9_single_54_g.2.1
theorem dX9_single_59 : decode cX9_single 59 = .ok (.aload_n 0, 1) := dX9_single_54_g.2.2.1
theorem dX9_single_60 : decode cX9_single 60 = .ok (.iconst 5, 1) := dX9_single_54_g.2.2.2.1
theorem dX9_single_61 : decode cX9_single 61 = .ok (.invokevirtual 192, 3) := dX9_single_54_g.2.2.2.2.1
theorem dX9_single_64 : decode cX9_single 64 = .ok (.ireturn, 1) := dX9_single_54_g.2.2.2.2.2.1
theorem dX9_single_65 : decode cX9_single 65 = .ok (.bipush 8, 2) := dX9_single_54_g.2.2.2.2.2.2.1
theorem dX9_single_67 : decode cX9_single 67 = .ok (.iload_n 1, 1) := dX9_single_54_g.2.2.2.2.2.2.2
theorem dX9_single_68_g : (decode cX9_single 68 = .ok (.imul, 1)) ∧ (decode cX9_single 69 = .ok (.iload 4, 2)) ∧ (decode cX9_single 71 = .ok (.iadd, 1)) ∧ (decode cX9_single 72 = .ok (.istore 5, 2)) ∧ (decode cX9_single 74 = .ok (.aload_n 0, 1)) ∧ (decode cX9_single 75 = .ok (.getfield 106, 3)) ∧ (decode cX9_single 78 = .ok (.iload 5, 2)) ∧ (decode cX9_single 80 = .ok (.iconst (-1), 1)) := by decide +kernel
theorem dX9_single_68 : decode cX9_single 68 = .ok (.imul, 1) := dX9_single_68_g.1
theorem dX9_single_69 : decode cX9_single 69 = .ok (.iload 4, 2) := dX9_single_68_g.2.1
theorem dX9_single_71 : decode cX9_single 71 = .ok (.iadd, 1) := dX9_single_68_g.2.2.1
theorem dX9_single_72 : decode cX9_single 72 = .ok (.istore 5, 2) := dX9_single_68_g.2.2.2.1
theorem dX9_single_74 : decode cX9_single 74 = .ok (.aload_n 0, 1) := dX9_single_68_g.2.2.2.2.1
theorem dX9_single_75 : decode cX9_single 75 = .ok (.getfield 106, 3) := dX9_single_68_g.2.2.2.2.2.1
theorem dX9_single_78 : decode cX9_single 78 = .ok (.iload 5, 2) := dX9_single_68_g.2.2.2.2.2.2.1
theorem dX9_single_80 : decode cX9_single 80 = .ok (.iconst (-1), 1) := dX9_single_68_g.2.2.2.2.2.2.2
theorem dX9_single_81_g : (decode cX9_single 81 = .ok (.iastore, 1)) ∧ (decode cX9_single 82 = .ok (.aload_n 0, 1)) ∧ (decode cX9_single 83 = .ok (.getfield 112, 3)) ∧ (decode cX9_single 86 = .ok (.iconst 5, 1)) ∧ (decode cX9_single 87 = .ok (.iload 5, 2)) ∧ (decode cX9_single 89 = .ok (.imul, 1)) ∧ (decode cX9_single 90 = .ok (.iload_n 2, 1)) ∧ (decode cX9_single 91 = .ok (.iastore, 1)) := by decide +kernel
theorem dX9_single_81 : decode cX9_single 81 = .ok (.iastore, 1) := dX9_single_81_g.1
theorem dX9_single_82 : decode cX9_single 82 = .ok (.aload_n 0, 1) := dX9_single_81_g.2.1
theorem dX9_single_83 : decode cX9_single 83 = .ok (.getfield 112, 3) := dX9_single_81_g.2.2.1
theorem dX9_single_86 : decode cX9_single 86 = .ok (.iconst 5, 1) := dX9_single_81_g.2.2.2.1
theorem dX9_single_87 : decode cX9_single 87 = .ok (.iload 5, 2) := dX9_single_81_g.2.2.2.2.1
theorem dX9_single_89 : decode cX9_single 89 = .ok (.imul, 1) := dX9_single_81_g.2.2.2.2.2.1
theorem dX9_single_90 : decode cX9_single 90 = .ok (.iload_n 2, 1) := dX9_single_81_g.2.2.2.2.2.2.1
theorem dX9_single_91 : decode cX9_single 91 = .ok (.iastore, 1) := dX9_single_81_g.2.2.2.2.2.2.2
theorem dX9_single_92_g : (decode cX9_single 92 = .ok (.aload_n 0, 1)) ∧ (decode cX9_single 93 = .ok (.getfield 112, 3)) ∧ (decode cX9_single 96 = .ok (.iconst 5, 1)) ∧ (decode cX9_single 97 = .ok (.iload 5, 2)) ∧ (decode cX9_single 99 = .ok (.imul, 1)) ∧ (decode cX9_single 100 = .ok (.iconst 1, 1)) ∧ (decode cX9_single 101 = .ok (.iadd, 1)) ∧ (decode cX9_single 102 = .ok (.iload_n 3, 1)) := by decide +kernel
theorem dX9_single_92 : decode cX9_single 92 = .ok (.aload_n 0, 1) := dX9_single_92_g.1
theorem dX9_single_93 : decode cX9_single 93 = .ok (.getfield 112, 3) := dX9_single_92_g.2.1
theorem dX9_single_96 : decode cX9_single 96 = .ok (.iconst 5, 1) := dX9_single_92_g.2.2.1
theorem dX9_single_97 : decode cX9_single 97 = .ok (.iload 5, 2) := dX9_single_92_g.2.2.2.1
theorem dX9_single_99 : decode cX9_single 99 = .ok (.imul, 1) := dX9_single_92_g.2.2.2.2.1
theorem dX9_single_100 : decode cX9_single 100 = .ok (.iconst 1, 1) := dX9_single_92_g.2.2.2.2.2.1
theorem dX9_single_101 : decode cX9_single 101 = .ok (.iadd, 1) := dX9_single_92_g.2.2.2.2.2.2.1
theorem dX9_single_102 : decode cX9_single 102 = .ok (.iload_n 3, 1) := dX9_single_92_g.2.2.2.2.2.2.2
theorem dX9_single_103_g : (decode cX9_single 103 = .ok (.iastore, 1)) ∧ (decode cX9_single 104 = .ok (.aload_n 0, 1)) ∧ (decode cX9_single 105 = .ok (.getfield 103, 3)) ∧ (decode cX9_single 108 = .ok (.iload_n 1, 1)) ∧ (decode cX9_single 109 = .ok (.dup2, 1)) ∧ (decode cX9_single 110 = .ok (.iaload, 1)) ∧ (decode cX9_single 111 = .ok (.iconst 1, 1)) ∧ (decode cX9_single 112 = .ok (.iadd, 1)) := by decide +kernel
theorem dX9_single_103 : decode cX9_single 103 = .ok (.iastore, 1) := dX9_single_103_g.1
theorem dX9_single_104 : decode cX9_single 104 = .ok (.aload_n 0, 1) := dX9_single_103_g.2.1
theorem dX9_single_105 : decode cX9_single 105 = .ok (.getfield 103, 3) := dX9_single_103_g.2.2.1
theorem dX9_single_108 : decode cX9_single 108 = .ok (.iload_n 1, 1) := dX9_single_103_g.2.2.2.1
theorem dX9_single_109 : decode cX9_single 109 = .ok (.dup2, 1) := dX9_single_103_g.2.2.2.2.1
theorem dX9_single_110 : decode cX9_single 110 = .ok (.iaload, 1) := dX9_single_103_g.2.2.2.2.2.1
theorem dX9_single_111 : decode cX9_single 111 = .ok (.iconst 1, 1) := dX9_single_103_g.2.2.2.2.2.2.1
theorem dX9_single_112 : decode cX9_single 112 = .ok (.iadd, 1) := dX9_single_103_g.2.2.2.2.2.2.2
theorem dX9_single_113_g : (decode cX9_single 113 = .ok (.iastore, 1)) ∧ (decode cX9_single 114 = .ok (.aload_n 0, 1)) ∧ (decode cX9_single 115 = .ok (.iconst 0, 1)) ∧ (decode cX9_single 116 = .ok (.putfield 136, 3)) ∧ (decode cX9_single 119 = .ok (.iload 4, 2)) ∧ (decode cX9_single 121 = .ok (.iconst 1, 1)) ∧ (decode cX9_single 122 = .ok (.iadd, 1)) ∧ (decode cX9_single 123 = .ok (.ireturn, 1)) := by decide +kernel
theorem dX9_single_113 : decode cX9_single 113 = .ok (.iastore, 1) := dX9_single_113_g.1
theorem dX9_single_114 : decode cX9_single 114 = .ok (.aload_n 0, 1) := dX9_single_113_g.2.1
theorem dX9_single_115 : decode cX9_single 115 = .ok (.iconst 0, 1) := dX9_single_113_g.2.2.1
theorem dX9_single_116 : decode cX9_single 116 = .ok (.putfield 136, 3) := dX9_single_113_g.2.2.2.1
theorem dX9_single_119 : decode cX9_single 119 = .ok (.iload 4, 2) := dX9_single_113_g.2.2.2.2.1
theorem dX9_single_121 : decode cX9_single 121 = .ok (.iconst 1, 1) := dX9_single_113_g.2.2.2.2.2.1
theorem dX9_single_122 : decode cX9_single 122 = .ok (.iadd, 1) := dX9_single_113_g.2.2.2.2.2.2.1
theorem dX9_single_123 : decode cX9_single 123 = .ok (.ireturn, 1) := dX9_single_113_g.2.2.2.2.2.2.2
theorem dX9_call_0_g : (decode cX9_call 0 = .ok (.aload_n 0, 1)) ∧ (decode cX9_call 1 = .ok (.iconst 0, 1)) ∧ (decode cX9_call 2 = .ok (.putfield 133, 3)) ∧ (decode cX9_call 5 = .ok (.aload_n 0, 1)) ∧ (decode cX9_call 6 = .ok (.iload_n 1, 1)) ∧ (decode cX9_call 7 = .ok (.invokevirtual 242, 3)) ∧ (decode cX9_call 10 = .ok (.ifCond .eq 21, 3)) ∧ (decode cX9_call 13 = .ok (.aload_n 0, 1)) := by decide +kernel
theorem dX9_call_0 : decode cX9_call 0 = .ok (.aload_n 0, 1) := dX9_call_0_g.1
theorem dX9_call_1 : decode cX9_call 1 = .ok (.iconst 0, 1) := dX9_call_0_g.2.1
theorem dX9_call_2 : decode cX9_call 2 = .ok (.putfield 133, 3) := dX9_call_0_g.2.2.1
theorem dX9_call_5 : decode cX9_call 5 = .ok (.aload_n 0, 1) := dX9_call_0_g.2.2.2.1
theorem dX9_call_6 : decode cX9_call 6 = .ok (.iload_n 1, 1) := dX9_call_0_g.2.2.2.2.1
theorem dX9_call_7 : decode cX9_call 7 = .ok (.invokevirtual 242, 3) := dX9_call_0_g.2.2.2.2.2.1
theorem dX9_call_10 : decode cX9_call 10 = .ok (.ifCond .eq 21, 3) := dX9_call_0_g.2.2.2.2.2.2.1
theorem dX9_call_13 : decode cX9_call 13 = .ok (.aload_n 0, 1) := dX9_call_0_g.2.2.2.2.2.2.2
theorem dX9_call_14_g : (decode cX9_call 14 = .ok (.iload_n 2, 1)) ∧ (decode cX9_call 15 = .ok (.invokevirtual 242, 3)) ∧ (decode cX9_call 18 = .ok (.ifCond .eq 13, 3)) ∧ (decode cX9_call 21 = .ok (.aload_n 0, 1)) ∧ (decode cX9_call 22 = .ok (.iload_n 3, 1)) ∧ (decode cX9_call 23 = .ok (.iconst 1, 1)) ∧ (decode cX9_call 24 = .ok (.iconst 4, 1)) ∧ (decode cX9_call 25 = .ok (.invokevirtual 139, 3)) := by decide +kernel
theorem dX9_call_14 : decode cX9_call 14 = .ok (.iload_n 2, 1) := dX9_call_14_g.1
theorem dX9_call_15 : decode cX9_call 15 = .ok (.invokevirtual 242, 3) := dX9_call_14_g.2.1
theorem dX9_call_18 : decode cX9_call 18 = .ok (.ifCond .eq 13, 3) := dX9_call_14_g.2.2.1
theorem dX9_call_21 : decode cX9_call 21 = .ok (.aload_n 0, 1) := dX9_call_14_g.2.2.2.1
theorem dX9_call_22 : decode cX9_call 22 = .ok (.iload_n 3, 1) := dX9_call_14_g.2.2.2.2.1
theorem dX9_call_23 : decode cX9_call 23 = .ok (.iconst 1, 1) := dX9_call_14_g.2.2.2.2.2.1
theorem dX9_call_24 : decode cX9_call 24 = .ok (.iconst 4, 1) := dX9_call_14_g.2.2.2.2.2.2.1
theorem dX9_call_25 : decode cX9_call 25 = .ok (.invokevirtual 139, 3) := dX9_call_14_g.2.2.2.2.2.2.2
theorem dX9_call_28_g : (decode cX9_call 28 = .ok (.ifCond .ne 9, 3)) ∧ (decode cX9_call 31 = .ok (.aload_n 0, 1)) ∧ (decode cX9_call 32 = .ok (.iconst 1, 1)) ∧ (decode cX9_call 33 = .ok (.invokevirtual 192, 3)) ∧ (decode cX9_call 36 = .ok (.ireturn, 1)) ∧ (decode cX9_call 37 = .ok (.iconst 0, 1)) ∧ (decode cX9_call 38 = .ok (.istore 9, 2)) ∧ (decode cX9_call 40 = .ok (.iconst 0, 1)) := by decide +kernel
theorem dX9_call_28 : decode cX9_call 28 = .ok (.ifCond .ne 9, 3) := dX9_call_28_g.1
theorem dX9_call_31 : decode cX9_call 31 = .ok (.aload_n 0, 1) := dX9_call_28_g.2.1
theorem dX9_call_32 : decode cX9_call 32 = .ok (.iconst 1, 1) := dX9_call_28_g.2.2.1
theorem dX9_call_33 : decode cX9_call 33 = .ok (.invokevirtual 192, 3) := dX9_call_28_g.2.2.2.1
theorem dX9_call_36 : decode cX9_call 36 = .ok (.ireturn, 1) := dX9_call_28_g.2.2.2.2.1
theorem dX9_call_37 : decode cX9_call 37 = .ok (.iconst 0, 1) := dX9_call_28_g.2.2.2.2.2.1
theorem dX9_call_38 : decode cX9_call 38 = .ok (.istore 9, 2) := dX9_call_28_g.2.2.2.2.2.2.1
theorem dX9_call_40 : decode cX9_call 40 = .ok (.iconst 0, 1) := dX9_call_28_g.2.2.2.2.2.2.2
theorem dX9_call_41_g : (decode cX9_call 41 = .ok (.istore 10, 2)) ∧ (decode cX9_call 43 = .ok (.iload 10, 2)) ∧ (decode cX9_call 45 = .ok (.iconst 5, 1)) ∧ (decode cX9_call 46 = .ok (.if_icmp .ge 93, 3)) ∧ (decode cX9_call 49 = .ok (.iload 10, 2)) ∧ (decode cX9_call 51 = .ok (.ifCond .ne 8, 3)) ∧ (decode cX9_call 54 = .ok (.iload 4, 2)) ∧ (decode cX9_call 56 = .ok (.goto 38, 3)) := by decide +kernel
theorem dX9_call_41 : decode cX9_call 41 = .ok (.istore 10, 2) := dX9_call_41_g.1
theorem dX9_call_43 : decode cX9_call 43 = .ok (.iload 10, 2) := dX9_call_41_g.2.1
theorem dX9_call_45 : decode cX9_call 45 = .ok (.iconst 5, 1) := dX9_call_41_g.2.2.1
theorem dX9_call_46 : decode cX9_call 46 = .ok (.if_icmp .ge 93, 3) := dX9_call_41_g.2.2.2.1
theorem dX9_call_49 : decode cX9_call 49 = .ok (.iload 10, 2) := dX9_call_41_g.2.2.2.2.1
theorem dX9_call_51 : decode cX9_call 51 = .ok (.ifCond .ne 8, 3) := dX9_call_41_g.2.2.2.2.2.1
theorem dX9_call_54 : decode cX9_call 54 = .ok (.iload 4, 2) := dX9_call_41_g.2.2.2.2.2.2.1
theorem dX9_call_56 : decode cX9_call 56 = .ok (.goto 38, 3) := dX9_call_41_g.2.2.2.2.2.2.2
theorem dX9_call_59_g : (decode cX9_call 59 = .ok (.iload 10, 2)) ∧ (decode cX9_call 61 = .ok (.iconst 1, 1)) ∧ (decode cX9_call 62 = .ok (.if_icmp .ne 8, 3)) ∧ (decode cX9_call 65 = .ok (.iload 5, 2)) ∧ (decode cX9_call 67 = .ok (.goto 27, 3)) ∧ (decode cX9_call 70 = .ok (.iload 10, 2)) ∧ (decode cX9_call 72 = .ok (.iconst 2, 1)) ∧ (decode cX9_call 73 = .ok (.if_icmp .ne 8, 3)) := by decide +kernel
theorem dX9_call_59 : decode cX9_call 59 = .ok (.iload 10, 2) := dX9_call_59_g.1
theorem dX9_call_61 : decode cX9_call 61 = .ok (.iconst 1, 1) := dX9_call_59_g.2.1
theorem dX9_call_62 : decode cX9_call 62 = .ok (.if_icmp .ne 8, 3) := dX9_call_59_g.2.2.1
theorem dX9_call_65 : decode cX9_call 65 = .ok (.iload 5, 2) := dX9_call_59_g.2.2.2.1
theorem dX9_call_67 : decode cX9_call 67 = .ok (.goto 27, 3) := dX9_call_59_g.2.2.2.2.1
theorem dX9_call_70 : decode cX9_call 70 = .ok (.iload 10, 2) := dX9_call_59_g.2.2.2.2.2.1
theorem dX9_call_72 : decode cX9_call 72 = .ok (.iconst 2, 1) := dX9_call_59_g.2.2.2.2.2.2.1
theorem dX9_call_73 : decode cX9_call 73 = .ok (.if_icmp .ne 8, 3) := dX9_call_59_g.2.2.2.2.2.2.2
theorem dX9_call_76_g : (decode cX9_call 76 = .ok (.iload 6, 2)) ∧ (decode cX9_call 78 = .ok (.goto 16, 3)) ∧ (decode cX9_call 81 = .ok (.iload 10, 2)) ∧ (decode cX9_call 83 = .ok (.iconst 3, 1)) ∧ (decode cX9_call 84 = .ok (.if_icmp .ne 8, 3)) ∧ (decode cX9_call 87 = .ok (.iload 7, 2)) ∧ (decode cX9_call 89 = .ok (.goto 5, 3)) ∧ (decode cX9_call 92 = .ok (.iload 8, 2)) := by decide +kernel
theorem dX9_call_76 : decode cX9_call 76 = .ok (.iload 6, 2) := dX9_call_76_g.1
theorem dX9_call_78 : decode cX9_call 78 = .ok (.goto 16, 3) := dX9_call_76_g.2.1
theorem dX9_call_81 : decode cX9_call 81 = .ok (.iload 10, 2) := dX9_call_76_g.2.2.1
theorem dX9_call_83 : decode cX9_call 83 = .ok (.iconst 3, 1) := dX9_call_76_g.2.2.2.1
theorem dX9_call_84 : decode cX9_call 84 = .ok (.if_icmp .ne 8, 3) := dX9_call_76_g.2.2.2.2.1
theorem dX9_call_87 : decode cX9_call 87 = .ok (.iload 7, 2) := dX9_call_76_g.2.2.2.2.2.1
theorem dX9_call_89 : decode cX9_call 89 = .ok (.goto 5, 3) := dX9_call_76_g.2.2.2.2.2.2.1
theorem dX9_call_92 : decode cX9_call 92 = .ok (.iload 8, 2) := dX9_call_76_g.2.2.2.2.2.2.2
theorem dX9_call_94_g : (decode cX9_call 94 = .ok (.istore 11, 2)) ∧ (decode cX9_call 96 = .ok (.aload_n 0, 1)) ∧ (decode cX9_call 97 = .ok (.iload 11, 2)) ∧ (decode cX9_call 99 = .ok (.iconst 0, 1)) ∧ (decode cX9_call 100 = .ok (.iconst 4, 1)) ∧ (decode cX9_call 101 = .ok (.invokevirtual 139, 3)) ∧ (decode cX9_call 104 = .ok (.ifCond .eq 14, 3)) ∧ (decode cX9_call 107 = .ok (.iload 9, 2)) := by decide +kernel
theorem dX9_call_94 : decode cX9_call 94 = .ok (.istore 11, 2) := dX9_call_94_g.1
theorem dX9_call_96 : decode cX9_call 96 = .ok (.aload_n 0, 1) := dX9_call_94_g.2.1
theorem dX9_call_97 : decode cX9_call 97 = .ok (.iload 11, 2) := dX9_call_94_g.2.2.1
theorem dX9_call_99 : decode cX9_call 99 = .ok (.iconst 0, 1) := dX9_call_94_g.2.2.2.1
theorem dX9_call_100 : decode cX9_call 100 = .ok (.iconst 4, 1) := dX9_call_94_g.2.2.2.2.1
theorem dX9_call_101 : decode cX9_call 101 = .ok (.invokevirtual 139, 3) := dX9_call_94_g.2.2.2.2.2.1
theorem dX9_call_104 : decode cX9_call 104 = .ok (.ifCond .eq 14, 3) := dX9_call_94_g.2.2.2.2.2.2.1
theorem dX9_call_107 : decode cX9_call 107 = .ok (.iload 9, 2) := dX9_call_94_g.2.2.2.2.2.2.2
theorem dX9_call_109_g : (decode cX9_call 109 = .ok (.iload 11, 2)) ∧ (decode cX9_call 111 = .ok (.ishr, 1)) ∧ (decode cX9_call 112 = .ok (.iconst 1, 1)) ∧ (decode cX9_call 113 = .ok (.iand, 1)) ∧ (decode cX9_call 114 = .ok (.iconst 1, 1)) ∧ (decode cX9_call 115 = .ok (.if_icmp .ne 9, 3)) ∧ (decode cX9_call 118 = .ok (.aload_n 0, 1)) ∧ (decode cX9_call 119 = .ok (.iconst 1, 1)) := by decide +kernel
theorem dX9_call_109 : decode cX9_call 109 = .ok (.iload 11, 2) := dX9_call_109_g.1
theorem dX9_call_111 : decode cX9_call 111 = .ok (.ishr, 1) := dX9_call_109_g.2.1
theorem dX9_call_112 : decode cX9_call 112 = .ok (.iconst 1, 1) := dX9_call_109_g.2.2.1
theorem dX9_call_113 : decode cX9_call 113 = .ok (.iand, 1) := dX9_call_109_g.2.2.2.1
theorem dX9_call_114 : decode cX9_call 114 = .ok (.iconst 1, 1) := dX9_call_109_g.2.2.2.2.1
theorem dX9_call_115 : decode cX9_call 115 = .ok (.if_icmp .ne 9, 3) := dX9_call_109_g.2.2.2.2.2.1
theorem dX9_call_118 : decode cX9_call 118 = .ok (.aload_n 0, 1) := dX9_call_109_g.2.2.2.2.2.2.1
theorem dX9_call_119 : decode cX9_call 119 = .ok (.iconst 1, 1) := dX9_call_109_g.2.2.2.2.2.2.2
theorem dX9_call_120_g : (decode cX9_call 120 = .ok (.invokevirtual 192, 3)) ∧ (decode cX9_call 123 = .ok (.ireturn, 1)) ∧ (decode cX9_call 124 = .ok (.iload 9, 2)) ∧ (decode cX9_call 126 = .ok (.iconst 1, 1)) ∧ (decode cX9_call 127 = .ok (.iload 11, 2)) ∧ (decode cX9_call 129 = .ok (.ishl, 1)) ∧ (decode cX9_call 130 = .ok (.ior, 1)) ∧ (decode cX9_call 131 = .ok (.istore 9, 2)) := by decide +kernel
theorem dX9_call_120 : decode cX9_call 120 = .ok (.invokevirtual 192, 3) := dX9_call_120_g.1
theorem dX9_call_123 : decode cX9_call 123 = .ok (.ireturn, 1) := dX9_call_120_g.2.1
theorem dX9_call_124 : decode cX9_call 124 = .ok (.iload 9, 2) := dX9_call_120_g.2.2.1
theorem dX9_call_126 : decode cX9_call 126 = .ok (.iconst 1, 1) := dX9_call_120_g.2.2.2.1
theorem dX9_call_127 : decode cX9_call 127 = .ok (.iload 11, 2) := dX9_call_120_g.2.2.2.2.1
theorem dX9_call_129 : decode cX9_call 129 = .ok (.ishl, 1) := dX9_call_120_g.2.2.2.2.2.1
theorem dX9_call_130 : decode cX9_call 130 = .ok (.ior, 1) := dX9_call_120_g.2.2.2.2.2.2.1
theorem dX9_call_131 : decode cX9_call 131 = .ok (.istore 9, 2) := dX9_call_120_g.2.2.2.2.2.2.2
theorem dX9_call_133_g : (decode cX9_call 133 = .ok (.iinc 10 1, 3)) ∧ (decode cX9_call 136 = .ok (.goto (-93), 3)) ∧ (decode cX9_call 139 = .ok (.aload_n 0, 1)) ∧ (decode cX9_call 140 = .ok (.getfield 103, 3)) ∧ (decode cX9_call 143 = .ok (.iload_n 1, 1)) ∧ (decode cX9_call 144 = .ok (.iaload, 1)) ∧ (decode cX9_call 145 = .ok (.istore 10, 2)) ∧ (decode cX9_call 147 = .ok (.iload 10, 2)) := by decide +kernel
theorem dX9_call_133 : decode cX9_call 133 = .ok (.iinc 10 1, 3) := dX9_call_133_g.1
theorem dX9_call_136 : decode cX9_call 136 = .ok (.goto (-93), 3) := dX9_call_133_g.2.1
theorem dX9_call_139 : decode cX9_call 139 = .ok (.aload_n 0, 1) := dX9_call_133_g.2.2.1
theorem dX9_call_140 : decode cX9_call 140 = .ok (.getfield 103, 3) := dX9_call_133_g.2.2.2.1
theorem dX9_call_143 : decode cX9_call 143 = .ok (.iload_n 1, 1) := dX9_call_133_g.2.2.2.2.1
theorem dX9_call_144 : decode cX9_call 144 = .ok (.iaload, 1) := dX9_call_133_g.2.2.2.2.2.1
theorem dX9_call_145 : decode cX9_call 145 = .ok (.istore 10, 2) := dX9_call_133_g.2.2.2.2.2.2.1
theorem dX9_call_147 : decode cX9_call 147 = .ok (.iload 10, 2) := dX9_call_133_g.2.2.2.2.2.2.2
theorem dX9_call_149_g : (decode cX9_call 149 = .ok (.bipush 8, 2)) ∧ (decode cX9_call 151 = .ok (.if_icmp .ne 9, 3)) ∧ (decode cX9_call 154 = .ok (.aload_n 0, 1)) ∧ (decode cX9_call 155 = .ok (.iconst 5, 1)) ∧ (decode cX9_call 156 = .ok (.invokevirtual 192, 3)) ∧ (decode cX9_call 159 = .ok (.ireturn, 1)) ∧ (decode cX9_call 160 = .ok (.bipush 8, 2)) ∧ (decode cX9_call 162 = .ok (.iload_n 1, 1)) := by decide +kernel
theorem dX9_call_149 : decode cX9_call 149 = .ok (.bipush 8, 2) := dX9_call_149_g.1
theorem dX9_call_151 : decode cX9_call 151 = .ok (.if_icmp .ne 9, 3) := dX9_call_149_g.2.1
theorem dX9_call_154 : decode cX9_call 154 = .ok (.aload_n 0, 1) := dX9_call_149_g.2.2.1
theorem dX9_call_155 : decode cX9_call 155 = .ok (.iconst 5, 1) := dX9_call_149_g.2.2.2.1
theorem dX9_call_156 : decode cX9_call 156 = .ok (.invokevirtual 192, 3) := dX9_call_149_g.2.2.2.2.1
theorem dX9_call_159 : decode cX9_call 159 = .ok (.ireturn, 1) := dX9_call_149_g.2.2.2.2.2.1
theorem dX9_call_160 : decode cX9_call 160 = .ok (.bipush 8, 2) := dX9_call_149_g.2.2.2.2.2.2.1
theorem dX9_call_162 : decode cX9_call 162 = .ok (.iload_n 1, 1) := dX9_call_149_g.2.2.2.2.2.2.2
theorem dX9_call_163_g : (decode cX9_call 163 = .ok (.imul, 1)) ∧ (decode cX9_call 164 = .ok (.iload 10, 2)) ∧ (decode cX9_call 166 = .ok (.iadd, 1)) ∧ (decode cX9_call 167 = .ok (.istore 11, 2)) ∧ (decode cX9_call 169 = .ok (.aload_n 0, 1)) ∧ (decode cX9_call 170 = .ok (.getfield 106, 3)) ∧ (decode cX9_call 173 = .ok (.iload 11, 2)) ∧ (decode cX9_call 175 = .ok (.iload_n 2, 1)) := by decide +kernel
theorem dX9_call_163 : decode cX9_call 163 = .ok (.imul, 1) := dX9_call_163_g.1
theorem dX9_call_164 : decode cX9_call 164 = .ok (.iload 10, 2) := dX9_call_163_g.2.1
theorem dX9_call_166 : decode cX9_call 166 = .ok (.iadd, 1) := dX9_call_163_g.2.2.1
theorem dX9_call_167 : decode cX9_call 167 = .ok (.istore 11, 2) := dX9_call_163_g.2.2.2.1
theorem dX9_call_169 : decode cX9_call 169 = .ok (.aload_n 0, 1) := dX9_call_163_g.2.2.2.2.1
theorem dX9_call_170 : decode cX9_call 170 = .ok (.getfield 106, 3) := dX9_call_163_g.2.2.2.2.2.1
theorem dX9_call_173 : decode cX9_call 173 = .ok (.iload 11, 2) := dX9_call_163_g.2.2.2.2.2.2.1
theorem dX9_call_175 : decode cX9_call 175 = .ok (.iload_n 2, 1) := dX9_call_163_g.2.2.2.2.2.2.2
theorem dX9_call_176_g : (decode cX9_call 176 = .ok (.iastore, 1)) ∧ (decode cX9_call 177 = .ok (.aload_n 0, 1)) ∧ (decode cX9_call 178 = .ok (.getfield 109, 3)) ∧ (decode cX9_call 181 = .ok (.iload 11, 2)) ∧ (decode cX9_call 183 = .ok (.iload_n 3, 1)) ∧ (decode cX9_call 184 = .ok (.iastore, 1)) ∧ (decode cX9_call 185 = .ok (.aload_n 0, 1)) ∧ (decode cX9_call 186 = .ok (.getfield 112, 3)) := by decide +kernel
theorem dX9_call_176 : decode cX9_call 176 = .ok (.iastore, 1) := dX9_call_176_g.1
theorem dX9_call_177 : decode cX9_call 177 = .ok (.aload_n 0, 1) := dX9_call_176_g.2.1
theorem dX9_call_178 : decode cX9_call 178 = .ok (.getfield 109, 3) := dX9_call_176_g.2.2.1
theorem dX9_call_181 : decode cX9_call 181 = .ok (.iload 11, 2) := dX9_call_176_g.2.2.2.1
theorem dX9_call_183 : decode cX9_call 183 = .ok (.iload_n 3, 1) := dX9_call_176_g.2.2.2.2.1
theorem dX9_call_184 : decode cX9_call 184 = .ok (.iastore, 1) := dX9_call_176_g.2.2.2.2.2.1
theorem dX9_call_185 : decode cX9_call 185 = .ok (.aload_n 0, 1) := dX9_call_176_g.2.2.2.2.2.2.1
theorem dX9_call_186 : decode cX9_call 186 = .ok (.getfield 112, 3) := dX9_call_176_g.2.2.2.2.2.2.2
theorem dX9_call_189_g : (decode cX9_call 189 = .ok (.iconst 5, 1)) ∧ (decode cX9_call 190 = .ok (.iload 11, 2)) ∧ (decode cX9_call 192 = .ok (.imul, 1)) ∧ (decode cX9_call 193 = .ok (.iload 4, 2)) ∧ (decode cX9_call 195 = .ok (.iastore, 1)) ∧ (decode cX9_call 196 = .ok (.aload_n 0, 1)) ∧ (decode cX9_call 197 = .ok (.getfield 112, 3)) ∧ (decode cX9_call 200 = .ok (.iconst 5, 1)) := by decide +kernel
theorem dX9_call_189 : decode cX9_call 189 = .ok (.iconst 5, 1) := dX9_call_189_g.1
theorem dX9_call_190 : decode cX9_call 190 = .ok (.iload 11, 2) := dX9_call_189_g.2.1
theorem dX9_call_192 : decode cX9_call 192 = .ok (.imul, 1) := dX9_call_189_g.2.2.1
theorem dX9_call_193 : decode cX9_call 193 = .ok (.iload 4, 2) := dX9_call_189_g.2.2.2.1
theorem dX9_call_195 : decode cX9_call 195 = .ok (.iastore, 1) := dX9_call_189_g.2.2.2.2.1
theorem dX9_call_196 : decode cX9_call 196 = .ok (.aload_n 0, 1) := dX9_call_189_g.2.2.2.2.2.1
theorem dX9_call_197 : decode cX9_call 197 = .ok (.getfield 112, 3) := dX9_call_189_g.2.2.2.2.2.2.1
theorem dX9_call_200 : decode cX9_call 200 = .ok (.iconst 5, 1) := dX9_call_189_g.2.2.2.2.2.2.2
theorem dX9_call_201_g : (decode cX9_call 201 = .ok (.iload 11, 2)) ∧ (decode cX9_call 203 = .ok (.imul, 1)) ∧ (decode cX9_call 204 = .ok (.iconst 1, 1)) ∧ (decode cX9_call 205 = .ok (.iadd, 1)) ∧ (decode cX9_call 206 = .ok (.iload 5, 2)) ∧ (decode cX9_call 208 = .ok (.iastore, 1)) ∧ (decode cX9_call 209 = .ok (.aload_n 0, 1)) ∧ (decode cX9_call 210 = .ok (.getfield 112, 3)) := by decide +kernel
theorem dX9_call_201 : decode cX9_call 201 = .ok (.iload 11, 2) := dX9_call_201_g.1
theorem dX9_call_203 : decode cX9_call 203 = .ok (.imul, 1) := dX9_call_201_g.2.1
theorem dX9_call_204 : decode cX9_call 204 = .ok (.iconst 1, 1) := dX9_call_201_g.2.2.1
theorem dX9_call_205 : decode cX9_call 205 = .ok (.iadd, 1) := dX9_call_201_g.2.2.2.1
theorem dX9_call_206 : decode cX9_call 206 = .ok (.iload 5, 2) := dX9_call_201_g.2.2.2.2.1
theorem dX9_call_208 : decode cX9_call 208 = .ok (.iastore, 1) := dX9_call_201_g.2.2.2.2.2.1
theorem dX9_call_209 : decode cX9_call 209 = .ok (.aload_n 0, 1) := dX9_call_201_g.2.2.2.2.2.2.1
theorem dX9_call_210 : decode cX9_call 210 = .ok (.getfield 112, 3) := dX9_call_201_g.2.2.2.2.2.2.2
theorem dX9_call_213_g : (decode cX9_call 213 = .ok (.iconst 5, 1)) ∧ (decode cX9_call 214 = .ok (.iload 11, 2)) ∧ (decode cX9_call 216 = .ok (.imul, 1)) ∧ (decode cX9_call 217 = .ok (.iconst 2, 1)) ∧ (decode cX9_call 218 = .ok (.iadd, 1)) ∧ (decode cX9_call 219 = .ok (.iload 6, 2)) ∧ (decode cX9_call 221 = .ok (.iastore, 1)) ∧ (decode cX9_call 222 = .ok (.aload_n 0, 1)) := by decide +kernel
theorem dX9_call_213 : decode cX9_call 213 = .ok (.iconst 5, 1) := dX9_call_213_g.1
theorem dX9_call_214 : decode cX9_call 214 = .ok (.iload 11, 2) := dX9_call_213_g.2.1
theorem dX9_call_216 : decode cX9_call 216 = .ok (.imul, 1) := dX9_call_213_g.2.2.1
theorem dX9_call_217 : decode cX9_call 217 = .ok (.iconst 2, 1) := dX9_call_213_g.2.2.2.1
theorem dX9_call_218 : decode cX9_call 218 = .ok (.iadd, 1) := dX9_call_213_g.2.2.2.2.1
theorem dX9_call_219 : decode cX9_call 219 = .ok (.iload 6, 2) := dX9_call_213_g.2.2.2.2.2.1
theorem dX9_call_221 : decode cX9_call 221 = .ok (.iastore, 1) := dX9_call_213_g.2.2.2.2.2.2.1
theorem dX9_call_222 : decode cX9_call 222 = .ok (.aload_n 0, 1) := dX9_call_213_g.2.2.2.2.2.2.2
theorem dX9_call_223_g : (decode cX9_call 223 = .ok (.getfield 112, 3)) ∧ (decode cX9_call 226 = .ok (.iconst 5, 1)) ∧ (decode cX9_call 227 = .ok (.iload 11, 2)) ∧ (decode cX9_call 229 = .ok (.imul, 1)) ∧ (decode cX9_call 230 = .ok (.iconst 3, 1)) ∧ (decode cX9_call 231 = .ok (.iadd, 1)) ∧ (decode cX9_call 232 = .ok (.iload 7, 2)) ∧ (decode cX9_call 234 = .ok (.iastore, 1)) := by decide +kernel
theorem dX9_call_223 : decode cX9_call 223 = .ok (.getfield 112, 3) := dX9_call_223_g.1
theorem dX9_call_226 : decode cX9_call 226 = .ok (.iconst 5, 1) := dX9_call_223_g.2.1
theorem dX9_call_227 : decode cX9_call 227 = .ok (.iload 11, 2) := dX9_call_223_g.2.2.1
theorem dX9_call_229 : decode cX9_call 229 = .ok (.imul, 1) := dX9_call_223_g.2.2.2.1
theorem dX9_call_230 : decode cX9_call 230 = .ok (.iconst 3, 1) := dX9_call_223_g.2.2.2.2.1
theorem dX9_call_231 : decode cX9_call 231 = .ok (.iadd, 1) := dX9_call_223_g.2.2.2.2.2.1
theorem dX9_call_232 : decode cX9_call 232 = .ok (.iload 7, 2) := dX9_call_223_g.2.2.2.2.2.2.1
theorem dX9_call_234 : decode cX9_call 234 = .ok (.iastore, 1) := dX9_call_223_g.2.2.2.2.2.2.2
theorem dX9_call_235_g : (decode cX9_call 235 = .ok (.aload_n 0, 1)) ∧ (decode cX9_call 236 = .ok (.getfield 112, 3)) ∧ (decode cX9_call 239 = .ok (.iconst 5, 1)) ∧ (decode cX9_call 240 = .ok (.iload 11, 2)) ∧ (decode cX9_call 242 = .ok (.imul, 1)) ∧ (decode cX9_call 243 = .ok (.iconst 4, 1)) ∧ (decode cX9_call 244 = .ok (.iadd, 1)) ∧ (decode cX9_call 245 = .ok (.iload 8, 2)) := by decide +kernel
theorem dX9_call_235 : decode cX9_call 235 = .ok (.aload_n 0, 1) := dX9_call_235_g.1
theorem dX9_call_236 : decode cX9_call 236 = .ok (.getfield 112, 3) := dX9_call_235_g.2.1
theorem dX9_call_239 : decode cX9_call 239 = .ok (.iconst 5, 1) := dX9_call_235_g.2.2.1
theorem dX9_call_240 : decode cX9_call 240 = .ok (.iload 11, 2) := dX9_call_235_g.2.2.2.1
theorem dX9_call_242 : decode cX9_call 242 = .ok (.imul, 1) := dX9_call_235_g.2.2.2.2.1
theorem dX9_call_243 : decode cX9_call 243 = .ok (.iconst 4, 1) := dX9_call_235_g.2.2.2.2.2.1
theorem dX9_call_244 : decode cX9_call 244 = .ok (.iadd, 1) := dX9_call_235_g.2.2.2.2.2.2.1
theorem dX9_call_245 : decode cX9_call 245 = .ok (.iload 8, 2) := dX9_call_235_g.2.2.2.2.2.2.2
theorem dX9_call_247_g : (decode cX9_call 247 = .ok (.iastore, 1)) ∧ (decode cX9_call 248 = .ok (.aload_n 0, 1)) ∧ (decode cX9_call 249 = .ok (.getfield 103, 3)) ∧ (decode cX9_call 252 = .ok (.iload_n 1, 1)) ∧ (decode cX9_call 253 = .ok (.dup2, 1)) ∧ (decode cX9_call 254 = .ok (.iaload, 1)) ∧ (decode cX9_call 255 = .ok (.iconst 1, 1)) ∧ (decode cX9_call 256 = .ok (.iadd, 1)) := by decide +kernel
theorem dX9_call_247 : decode cX9_call 247 = .ok (.iastore, 1) := dX9_call_247_g.1
theorem dX9_call_248 : decode cX9_call 248 = .ok (.aload_n 0, 1) := dX9_call_247_g.2.1
theorem dX9_call_249 : decode cX9_call 249 = .ok (.getfield 103, 3) := dX9_call_247_g.2.2.1
theorem dX9_call_252 : decode cX9_call 252 = .ok (.iload_n 1, 1) := dX9_call_247_g.2.2.2.1
theorem dX9_call_253 : decode cX9_call 253 = .ok (.dup2, 1) := dX9_call_247_g.2.2.2.2.1
theorem dX9_call_254 : decode cX9_call 254 = .ok (.iaload, 1) := dX9_call_247_g.2.2.2.2.2.1
theorem dX9_call_255 : decode cX9_call 255 = .ok (.iconst 1, 1) := dX9_call_247_g.2.2.2.2.2.2.1
theorem dX9_call_256 : decode cX9_call 256 = .ok (.iadd, 1) := dX9_call_247_g.2.2.2.2.2.2.2
theorem dX9_call_257_g : (decode cX9_call 257 = .ok (.iastore, 1)) ∧ (decode cX9_call 258 = .ok (.aload_n 0, 1)) ∧ (decode cX9_call 259 = .ok (.iconst 0, 1)) ∧ (decode cX9_call 260 = .ok (.putfield 136, 3)) ∧ (decode cX9_call 263 = .ok (.iload 10, 2)) ∧ (decode cX9_call 265 = .ok (.iconst 1, 1)) ∧ (decode cX9_call 266 = .ok (.iadd, 1)) ∧ (decode cX9_call 267 = .ok (.ireturn, 1)) := by decide +kernel
theorem dX9_call_257 : decode cX9_call 257 = .ok (.iastore, 1) := dX9_call_257_g.1
theorem dX9_call_258 : decode cX9_call 258 = .ok (.aload_n 0, 1) := dX9_call_257_g.2.1
theorem dX9_call_259 : decode cX9_call 259 = .ok (.iconst 0, 1) := dX9_call_257_g.2.2.1
theorem dX9_call_260 : decode cX9_call 260 = .ok (.putfield 136, 3) := dX9_call_257_g.2.2.2.1
theorem dX9_call_263 : decode cX9_call 263 = .ok (.iload 10, 2) := dX9_call_257_g.2.2.2.2.1
theorem dX9_call_265 : decode cX9_call 265 = .ok (.iconst 1, 1) := dX9_call_257_g.2.2.2.2.2.1
theorem dX9_call_266 : decode cX9_call 266 = .ok (.iadd, 1) := dX9_call_257_g.2.2.2.2.2.2.1
theorem dX9_call_267 : decode cX9_call 267 = .ok (.ireturn, 1) := dX9_call_257_g.2.2.2.2.2.2.2
theorem dX9_count_0_g : (decode cX9_count 0 = .ok (.aload_n 0, 1)) ∧ (decode cX9_count 1 = .ok (.iconst 0, 1)) ∧ (decode cX9_count 2 = .ok (.putfield 133, 3)) ∧ (decode cX9_count 5 = .ok (.aload_n 0, 1)) ∧ (decode cX9_count 6 = .ok (.iload_n 1, 1)) ∧ (decode cX9_count 7 = .ok (.invokevirtual 242, 3)) ∧ (decode cX9_count 10 = .ok (.ifCond .eq 14, 3)) ∧ (decode cX9_count 13 = .ok (.aload_n 0, 1)) := by decide +kernel
theorem dX9_count_0 : decode cX9_count 0 = .ok (.aload_n 0, 1) := dX9_count_0_g.1
theorem dX9_count_1 : decode cX9_count 1 = .ok (.iconst 0, 1) := dX9_count_0_g.2.1
theorem dX9_count_2 : decode cX9_count 2 = .ok (.putfield 133, 3) := dX9_count_0_g.2.2.1
theorem dX9_count_5 : decode cX9_count 5 = .ok (.aload_n 0, 1) := dX9_count_0_g.2.2.2.1
theorem dX9_count_6 : decode cX9_count 6 = .ok (.iload_n 1, 1) := dX9_count_0_g.2.2.2.2.1
theorem dX9_count_7 : decode cX9_count 7 = .ok (.invokevirtual 242, 3) := dX9_count_0_g.2.2.2.2.2.1
theorem dX9_count_10 : decode cX9_count 10 = .ok (.ifCond .eq 14, 3) := dX9_count_0_g.2.2.2.2.2.2.1
theorem dX9_count_13 : decode cX9_count 13 = .ok (.aload_n 0, 1) := dX9_count_0_g.2.2.2.2.2.2.2
theorem dX9_count_14_g : (decode cX9_count 14 = .ok (.iload_n 2, 1)) ∧ (decode cX9_count 15 = .ok (.iconst 0, 1)) ∧ (decode cX9_count 16 = .ok (.bipush 60, 2)) ∧ (decode cX9_count 18 = .ok (.invokevirtual 139, 3)) ∧ (decode cX9_count 21 = .ok (.ifCond .ne 10, 3)) ∧ (decode cX9_count 24 = .ok (.aload_n 0, 1)) ∧ (decode cX9_count 25 = .ok (.iconst 1, 1)) ∧ (decode cX9_count 26 = .ok (.invokevirtual 192, 3)) := by decide +kernel
theorem dX9_count_14 : decode cX9_count 14 = .ok (.iload_n 2, 1) := dX9_count_14_g.1
theorem dX9_count_15 : decode cX9_count 15 = .ok (.iconst 0, 1) := dX9_count_14_g.2.1
theorem dX9_count_16 : decode cX9_count 16 = .ok (.bipush 60, 2) := dX9_count_14_g.2.2.1
theorem dX9_count_18 : decode cX9_count 18 = .ok (.invokevirtual 139, 3) := dX9_count_14_g.2.2.2.1
theorem dX9_count_21 : decode cX9_count 21 = .ok (.ifCond .ne 10, 3) := dX9_count_14_g.2.2.2.2.1
theorem dX9_count_24 : decode cX9_count 24 = .ok (.aload_n 0, 1) := dX9_count_14_g.2.2.2.2.2.1
theorem dX9_count_25 : decode cX9_count 25 = .ok (.iconst 1, 1) := dX9_count_14_g.2.2.2.2.2.2.1
theorem dX9_count_26 : decode cX9_count 26 = .ok (.invokevirtual 192, 3) := dX9_count_14_g.2.2.2.2.2.2.2
theorem dX9_count_29_g : (decode cX9_count 29 = .ok (.i2l, 1)) ∧ (decode cX9_count 30 = .ok (.lreturn, 1)) ∧ (decode cX9_count 31 = .ok (.aload_n 0, 1)) ∧ (decode cX9_count 32 = .ok (.iconst 0, 1)) ∧ (decode cX9_count 33 = .ok (.putfield 136, 3)) ∧ (decode cX9_count 36 = .ok (.iconst 0, 1)) ∧ (decode cX9_count 37 = .ok (.istore_n 3, 1)) ∧ (decode cX9_count 38 = .ok (.iload_n 3, 1)) := by decide +kernel
theorem dX9_count_29 : decode cX9_count 29 = .ok (.i2l, 1) := dX9_count_29_g.1
theorem dX9_count_30 : decode cX9_count 30 = .ok (.lreturn, 1) := dX9_count_29_g.2.1
theorem dX9_count_31 : decode cX9_count 31 = .ok (.aload_n 0, 1) := dX9_count_29_g.2.2.1
theorem dX9_count_32 : decode cX9_count 32 = .ok (.iconst 0, 1) := dX9_count_29_g.2.2.2.1
theorem dX9_count_33 : decode cX9_count 33 = .ok (.putfield 136, 3) := dX9_count_29_g.2.2.2.2.1
theorem dX9_count_36 : decode cX9_count 36 = .ok (.iconst 0, 1) := dX9_count_29_g.2.2.2.2.2.1
theorem dX9_count_37 : decode cX9_count 37 = .ok (.istore_n 3, 1) := dX9_count_29_g.2.2.2.2.2.2.1
theorem dX9_count_38 : decode cX9_count 38 = .ok (.iload_n 3, 1) := dX9_count_29_g.2.2.2.2.2.2.2
theorem dX9_count_39_g : (decode cX9_count 39 = .ok (.bipush 8, 2)) ∧ (decode cX9_count 41 = .ok (.if_icmp .ge 16, 3)) ∧ (decode cX9_count 44 = .ok (.aload_n 0, 1)) ∧ (decode cX9_count 45 = .ok (.getfield 115, 3)) ∧ (decode cX9_count 48 = .ok (.iload_n 3, 1)) ∧ (decode cX9_count 49 = .ok (.lconst 0, 1)) ∧ (decode cX9_count 50 = .ok (.lastore, 1)) ∧ (decode cX9_count 51 = .ok (.iinc 3 1, 3)) := by decide +kernel
theorem dX9_count_39 : decode cX9_count 39 = .ok (.bipush 8, 2) := dX9_count_39_g.1
theorem dX9_count_41 : decode cX9_count 41 = .ok (.if_icmp .ge 16, 3) := dX9_count_39_g.2.1
theorem dX9_count_44 : decode cX9_count 44 = .ok (.aload_n 0, 1) := dX9_count_39_g.2.2.1
theorem dX9_count_45 : decode cX9_count 45 = .ok (.getfield 115, 3) := dX9_count_39_g.2.2.2.1
theorem dX9_count_48 : decode cX9_count 48 = .ok (.iload_n 3, 1) := dX9_count_39_g.2.2.2.2.1
theorem dX9_count_49 : decode cX9_count 49 = .ok (.lconst 0, 1) := dX9_count_39_g.2.2.2.2.2.1
theorem dX9_count_50 : decode cX9_count 50 = .ok (.lastore, 1) := dX9_count_39_g.2.2.2.2.2.2.1
theorem dX9_count_51 : decode cX9_count 51 = .ok (.iinc 3 1, 3) := dX9_count_39_g.2.2.2.2.2.2.2
theorem dX9_count_54_g : (decode cX9_count 54 = .ok (.goto (-16), 3)) ∧ (decode cX9_count 57 = .ok (.iconst 1, 1)) ∧ (decode cX9_count 58 = .ok (.istore_n 3, 1)) ∧ (decode cX9_count 59 = .ok (.iload_n 3, 1)) ∧ (decode cX9_count 60 = .ok (.iload_n 2, 1)) ∧ (decode cX9_count 61 = .ok (.if_icmp .gt 157, 3)) ∧ (decode cX9_count 64 = .ok (.iconst 0, 1)) ∧ (decode cX9_count 65 = .ok (.istore 4, 2)) := by decide +kernel
theorem dX9_count_54 : decode cX9_count 54 = .ok (.goto (-16), 3) := dX9_count_54_g.1
theorem dX9_count_57 : decode cX9_count 57 = .ok (.iconst 1, 1) := dX9_count_54_g.2.1
theorem dX9_count_58 : decode cX9_count 58 = .ok (.istore_n 3, 1) := dX9_count_54_g.2.2.1
theorem dX9_count_59 : decode cX9_count 59 = .ok (.iload_n 3, 1) := dX9_count_54_g.2.2.2.1
theorem dX9_count_60 : decode cX9_count 60 = .ok (.iload_n 2, 1) := dX9_count_54_g.2.2.2.2.1
theorem dX9_count_61 : decode cX9_count 61 = .ok (.if_icmp .gt 157, 3) := dX9_count_54_g.2.2.2.2.2.1
theorem dX9_count_64 : decode cX9_count 64 = .ok (.iconst 0, 1) := dX9_count_54_g.2.2.2.2.2.2.1
theorem dX9_count_65 : decode cX9_count 65 = .ok (.istore 4, 2) := dX9_count_54_g.2.2.2.2.2.2.2
theorem dX9_count_67_g : (decode cX9_count 67 = .ok (.iload 4, 2)) ∧ (decode cX9_count 69 = .ok (.aload_n 0, 1)) ∧ (decode cX9_count 70 = .ok (.getfield 239, 3)) ∧ (decode cX9_count 73 = .ok (.if_icmp .ge 139, 3)) ∧ (decode cX9_count 76 = .ok (.lconst 0, 1)) ∧ (decode cX9_count 77 = .ok (.lstore 5, 2)) ∧ (decode cX9_count 79 = .ok (.iconst 0, 1)) ∧ (decode cX9_count 80 = .ok (.istore 7, 2)) := by decide +kernel
theorem dX9_count_67 : decode cX9_count 67 = .ok (.iload 4, 2) := dX9_count_67_g.1
theorem dX9_count_69 : decode cX9_count 69 = .ok (.aload_n 0, 1) := dX9_count_67_g.2.1
theorem dX9_count_70 : decode cX9_count 70 = .ok (.getfield 239, 3) := dX9_count_67_g.2.2.1
theorem dX9_count_73 : decode cX9_count 73 = .ok (.if_icmp .ge 139, 3) := dX9_count_67_g.2.2.2.1
theorem dX9_count_76 : decode cX9_count 76 = .ok (.lconst 0, 1) := dX9_count_67_g.2.2.2.2.1
theorem dX9_count_77 : decode cX9_count 77 = .ok (.lstore 5, 2) := dX9_count_67_g.2.2.2.2.2.1
theorem dX9_count_79 : decode cX9_count 79 = .ok (.iconst 0, 1) := dX9_count_67_g.2.2.2.2.2.2.1
theorem dX9_count_80 : decode cX9_count 80 = .ok (.istore 7, 2) := dX9_count_67_g.2.2.2.2.2.2.2
theorem dX9_count_82_g : (decode cX9_count 82 = .ok (.iload 7, 2)) ∧ (decode cX9_count 84 = .ok (.aload_n 0, 1)) ∧ (decode cX9_count 85 = .ok (.getfield 103, 3)) ∧ (decode cX9_count 88 = .ok (.iload 4, 2)) ∧ (decode cX9_count 90 = .ok (.iaload, 1)) ∧ (decode cX9_count 91 = .ok (.if_icmp .ge 101, 3)) ∧ (decode cX9_count 94 = .ok (.bipush 8, 2)) ∧ (decode cX9_count 96 = .ok (.iload 4, 2)) := by decide +kernel
theorem dX9_count_82 : decode cX9_count 82 = .ok (.iload 7, 2) := dX9_count_82_g.1
theorem dX9_count_84 : decode cX9_count 84 = .ok (.aload_n 0, 1) := dX9_count_82_g.2.1
theorem dX9_count_85 : decode cX9_count 85 = .ok (.getfield 103, 3) := dX9_count_82_g.2.2.1
theorem dX9_count_88 : decode cX9_count 88 = .ok (.iload 4, 2) := dX9_count_82_g.2.2.2.1
theorem dX9_count_90 : decode cX9_count 90 = .ok (.iaload, 1) := dX9_count_82_g.2.2.2.2.1
theorem dX9_count_91 : decode cX9_count 91 = .ok (.if_icmp .ge 101, 3) := dX9_count_82_g.2.2.2.2.2.1
theorem dX9_count_94 : decode cX9_count 94 = .ok (.bipush 8, 2) := dX9_count_82_g.2.2.2.2.2.2.1
theorem dX9_count_96 : decode cX9_count 96 = .ok (.iload 4, 2) := dX9_count_82_g.2.2.2.2.2.2.2
theorem dX9_count_98_g : (decode cX9_count 98 = .ok (.imul, 1)) ∧ (decode cX9_count 99 = .ok (.iload 7, 2)) ∧ (decode cX9_count 101 = .ok (.iadd, 1)) ∧ (decode cX9_count 102 = .ok (.istore 8, 2)) ∧ (decode cX9_count 104 = .ok (.aload_n 0, 1)) ∧ (decode cX9_count 105 = .ok (.getfield 106, 3)) ∧ (decode cX9_count 108 = .ok (.iload 8, 2)) ∧ (decode cX9_count 110 = .ok (.iaload, 1)) := by decide +kernel
theorem dX9_count_98 : decode cX9_count 98 = .ok (.imul, 1) := dX9_count_98_g.1
theorem dX9_count_99 : decode cX9_count 99 = .ok (.iload 7, 2) := dX9_count_98_g.2.1
theorem dX9_count_101 : decode cX9_count 101 = .ok (.iadd, 1) := dX9_count_98_g.2.2.1
theorem dX9_count_102 : decode cX9_count 102 = .ok (.istore 8, 2) := dX9_count_98_g.2.2.2.1
theorem dX9_count_104 : decode cX9_count 104 = .ok (.aload_n 0, 1) := dX9_count_98_g.2.2.2.2.1
theorem dX9_count_105 : decode cX9_count 105 = .ok (.getfield 106, 3) := dX9_count_98_g.2.2.2.2.2.1
theorem dX9_count_108 : decode cX9_count 108 = .ok (.iload 8, 2) := dX9_count_98_g.2.2.2.2.2.2.1
theorem dX9_count_110 : decode cX9_count 110 = .ok (.iaload, 1) := dX9_count_98_g.2.2.2.2.2.2.2
theorem dX9_count_111_g : (decode cX9_count 111 = .ok (.iconst (-1), 1)) ∧ (decode cX9_count 112 = .ok (.if_icmp .ne 7, 3)) ∧ (decode cX9_count 115 = .ok (.lconst 1, 1)) ∧ (decode cX9_count 116 = .ok (.goto 43, 3)) ∧ (decode cX9_count 119 = .ok (.iload_n 3, 1)) ∧ (decode cX9_count 120 = .ok (.aload_n 0, 1)) ∧ (decode cX9_count 121 = .ok (.getfield 109, 3)) ∧ (decode cX9_count 124 = .ok (.iload 8, 2)) := by decide +kernel
theorem dX9_count_111 : decode cX9_count 111 = .ok (.iconst (-1), 1) := dX9_count_111_g.1
theorem dX9_count_112 : decode cX9_count 112 = .ok (.if_icmp .ne 7, 3) := dX9_count_111_g.2.1
theorem dX9_count_115 : decode cX9_count 115 = .ok (.lconst 1, 1) := dX9_count_111_g.2.2.1
theorem dX9_count_116 : decode cX9_count 116 = .ok (.goto 43, 3) := dX9_count_111_g.2.2.2.1
theorem dX9_count_119 : decode cX9_count 119 = .ok (.iload_n 3, 1) := dX9_count_111_g.2.2.2.2.1
theorem dX9_count_120 : decode cX9_count 120 = .ok (.aload_n 0, 1) := dX9_count_111_g.2.2.2.2.2.1
theorem dX9_count_121 : decode cX9_count 121 = .ok (.getfield 109, 3) := dX9_count_111_g.2.2.2.2.2.2.1
theorem dX9_count_124 : decode cX9_count 124 = .ok (.iload 8, 2) := dX9_count_111_g.2.2.2.2.2.2.2
theorem dX9_count_126_g : (decode cX9_count 126 = .ok (.iaload, 1)) ∧ (decode cX9_count 127 = .ok (.if_icmp .le 31, 3)) ∧ (decode cX9_count 130 = .ok (.aload_n 0, 1)) ∧ (decode cX9_count 131 = .ok (.getfield 115, 3)) ∧ (decode cX9_count 134 = .ok (.bipush 8, 2)) ∧ (decode cX9_count 136 = .ok (.iload_n 3, 1)) ∧ (decode cX9_count 137 = .ok (.aload_n 0, 1)) ∧ (decode cX9_count 138 = .ok (.getfield 109, 3)) := by decide +kernel
theorem dX9_count_126 : decode cX9_count 126 = .ok (.iaload, 1) := dX9_count_126_g.1
theorem dX9_count_127 : decode cX9_count 127 = .ok (.if_icmp .le 31, 3) := dX9_count_126_g.2.1
theorem dX9_count_130 : decode cX9_count 130 = .ok (.aload_n 0, 1) := dX9_count_126_g.2.2.1
theorem dX9_count_131 : decode cX9_count 131 = .ok (.getfield 115, 3) := dX9_count_126_g.2.2.2.1
theorem dX9_count_134 : decode cX9_count 134 = .ok (.bipush 8, 2) := dX9_count_126_g.2.2.2.2.1
theorem dX9_count_136 : decode cX9_count 136 = .ok (.iload_n 3, 1) := dX9_count_126_g.2.2.2.2.2.1
theorem dX9_count_137 : decode cX9_count 137 = .ok (.aload_n 0, 1) := dX9_count_126_g.2.2.2.2.2.2.1
theorem dX9_count_138 : decode cX9_count 138 = .ok (.getfield 109, 3) := dX9_count_126_g.2.2.2.2.2.2.2
theorem dX9_count_141_g : (decode cX9_count 141 = .ok (.iload 8, 2)) ∧ (decode cX9_count 143 = .ok (.iaload, 1)) ∧ (decode cX9_count 144 = .ok (.isub, 1)) ∧ (decode cX9_count 145 = .ok (.imul, 1)) ∧ (decode cX9_count 146 = .ok (.aload_n 0, 1)) ∧ (decode cX9_count 147 = .ok (.getfield 106, 3)) ∧ (decode cX9_count 150 = .ok (.iload 8, 2)) ∧ (decode cX9_count 152 = .ok (.iaload, 1)) := by decide +kernel
theorem dX9_count_141 : decode cX9_count 141 = .ok (.iload 8, 2) := dX9_count_141_g.1
theorem dX9_count_143 : decode cX9_count 143 = .ok (.iaload, 1) := dX9_count_141_g.2.1
theorem dX9_count_144 : decode cX9_count 144 = .ok (.isub, 1) := dX9_count_141_g.2.2.1
theorem dX9_count_145 : decode cX9_count 145 = .ok (.imul, 1) := dX9_count_141_g.2.2.2.1
theorem dX9_count_146 : decode cX9_count 146 = .ok (.aload_n 0, 1) := dX9_count_141_g.2.2.2.2.1
theorem dX9_count_147 : decode cX9_count 147 = .ok (.getfield 106, 3) := dX9_count_141_g.2.2.2.2.2.1
theorem dX9_count_150 : decode cX9_count 150 = .ok (.iload 8, 2) := dX9_count_141_g.2.2.2.2.2.2.1
theorem dX9_count_152 : decode cX9_count 152 = .ok (.iaload, 1) := dX9_count_141_g.2.2.2.2.2.2.2
theorem dX9_count_153_g : (decode cX9_count 153 = .ok (.iadd, 1)) ∧ (decode cX9_count 154 = .ok (.laload, 1)) ∧ (decode cX9_count 155 = .ok (.goto 4, 3)) ∧ (decode cX9_count 158 = .ok (.lconst 0, 1)) ∧ (decode cX9_count 159 = .ok (.lstore 9, 2)) ∧ (decode cX9_count 161 = .ok (.lload 9, 2)) ∧ (decode cX9_count 163 = .ok (.ldc2_w 245, 3)) ∧ (decode cX9_count 166 = .ok (.lload 5, 2)) := by decide +kernel
theorem dX9_count_153 : decode cX9_count 153 = .ok (.iadd, 1) := dX9_count_153_g.1
theorem dX9_count_154 : decode cX9_count 154 = .ok (.laload, 1) := dX9_count_153_g.2.1
theorem dX9_count_155 : decode cX9_count 155 = .ok (.goto 4, 3) := dX9_count_153_g.2.2.1
theorem dX9_count_158 : decode cX9_count 158 = .ok (.lconst 0, 1) := dX9_count_153_g.2.2.2.1
theorem dX9_count_159 : decode cX9_count 159 = .ok (.lstore 9, 2) := dX9_count_153_g.2.2.2.2.1
theorem dX9_count_161 : decode cX9_count 161 = .ok (.lload 9, 2) := dX9_count_153_g.2.2.2.2.2.1
theorem dX9_count_163 : decode cX9_count 163 = .ok (.ldc2_w 245, 3) := dX9_count_153_g.2.2.2.2.2.2.1
theorem dX9_count_166 : decode cX9_count 166 = .ok (.lload 5, 2) := dX9_count_153_g.2.2.2.2.2.2.2
theorem dX9_count_168_g : (decode cX9_count 168 = .ok (.lsub, 1)) ∧ (decode cX9_count 169 = .ok (.lcmp, 1)) ∧ (decode cX9_count 170 = .ok (.ifCond .le 9, 3)) ∧ (decode cX9_count 173 = .ok (.ldc2_w 245, 3)) ∧ (decode cX9_count 176 = .ok (.goto 8, 3)) ∧ (decode cX9_count 179 = .ok (.lload 5, 2)) ∧ (decode cX9_count 181 = .ok (.lload 9, 2)) ∧ (decode cX9_count 183 = .ok (.ladd, 1)) := by decide +kernel
theorem dX9_count_168 : decode cX9_count 168 = .ok (.lsub, 1) := dX9_count_168_g.1
theorem dX9_count_169 : decode cX9_count 169 = .ok (.lcmp, 1) := dX9_count_168_g.2.1
theorem dX9_count_170 : decode cX9_count 170 = .ok (.ifCond .le 9, 3) := dX9_count_168_g.2.2.1
theorem dX9_count_173 : decode cX9_count 173 = .ok (.ldc2_w 245, 3) := dX9_count_168_g.2.2.2.1
theorem dX9_count_176 : decode cX9_count 176 = .ok (.goto 8, 3) := dX9_count_168_g.2.2.2.2.1
theorem dX9_count_179 : decode cX9_count 179 = .ok (.lload 5, 2) := dX9_count_168_g.2.2.2.2.2.1
theorem dX9_count_181 : decode cX9_count 181 = .ok (.lload 9, 2) := dX9_count_168_g.2.2.2.2.2.2.1
theorem dX9_count_183 : decode cX9_count 183 = .ok (.ladd, 1) := dX9_count_168_g.2.2.2.2.2.2.2
theorem dX9_count_184_g : (decode cX9_count 184 = .ok (.lstore 5, 2)) ∧ (decode cX9_count 186 = .ok (.iinc 7 1, 3)) ∧ (decode cX9_count 189 = .ok (.goto (-107), 3)) ∧ (decode cX9_count 192 = .ok (.aload_n 0, 1)) ∧ (decode cX9_count 193 = .ok (.getfield 115, 3)) ∧ (decode cX9_count 196 = .ok (.bipush 8, 2)) ∧ (decode cX9_count 198 = .ok (.iload_n 3, 1)) ∧ (decode cX9_count 199 = .ok (.imul, 1)) := by decide +kernel
theorem dX9_count_184 : decode cX9_count 184 = .ok (.lstore 5, 2) := dX9_count_184_g.1
theorem dX9_count_186 : decode cX9_count 186 = .ok (.iinc 7 1, 3) := dX9_count_184_g.2.1
theorem dX9_count_189 : decode cX9_count 189 = .ok (.goto (-107), 3) := dX9_count_184_g.2.2.1
theorem dX9_count_192 : decode cX9_count 192 = .ok (.aload_n 0, 1) := dX9_count_184_g.2.2.2.1
theorem dX9_count_193 : decode cX9_count 193 = .ok (.getfield 115, 3) := dX9_count_184_g.2.2.2.2.1
theorem dX9_count_196 : decode cX9_count 196 = .ok (.bipush 8, 2) := dX9_count_184_g.2.2.2.2.2.1
theorem dX9_count_198 : decode cX9_count 198 = .ok (.iload_n 3, 1) := dX9_count_184_g.2.2.2.2.2.2.1
theorem dX9_count_199 : decode cX9_count 199 = .ok (.imul, 1) := dX9_count_184_g.2.2.2.2.2.2.2
theorem dX9_count_200_g : (decode cX9_count 200 = .ok (.iload 4, 2)) ∧ (decode cX9_count 202 = .ok (.iadd, 1)) ∧ (decode cX9_count 203 = .ok (.lload 5, 2)) ∧ (decode cX9_count 205 = .ok (.lastore, 1)) ∧ (decode cX9_count 206 = .ok (.iinc 4 1, 3)) ∧ (decode cX9_count 209 = .ok (.goto (-142), 3)) ∧ (decode cX9_count 212 = .ok (.iinc 3 1, 3)) ∧ (decode cX9_count 215 = .ok (.goto (-156), 3)) := by decide +kernel
theorem dX9_count_200 : decode cX9_count 200 = .ok (.iload 4, 2) := dX9_count_200_g.1
theorem dX9_count_202 : decode cX9_count 202 = .ok (.iadd, 1) := dX9_count_200_g.2.1
theorem dX9_count_203 : decode cX9_count 203 = .ok (.lload 5, 2) := dX9_count_200_g.2.2.1
theorem dX9_count_205 : decode cX9_count 205 = .ok (.lastore, 1) := dX9_count_200_g.2.2.2.1
theorem dX9_count_206 : decode cX9_count 206 = .ok (.iinc 4 1, 3) := dX9_count_200_g.2.2.2.2.1
theorem dX9_count_209 : decode cX9_count 209 = .ok (.goto (-142), 3) := dX9_count_200_g.2.2.2.2.2.1
theorem dX9_count_212 : decode cX9_count 212 = .ok (.iinc 3 1, 3) := dX9_count_200_g.2.2.2.2.2.2.1
theorem dX9_count_215 : decode cX9_count 215 = .ok (.goto (-156), 3) := dX9_count_200_g.2.2.2.2.2.2.2
theorem dX9_count_218_g : (decode cX9_count 218 = .ok (.aload_n 0, 1)) ∧ (decode cX9_count 219 = .ok (.getfield 115, 3)) ∧ (decode cX9_count 222 = .ok (.bipush 8, 2)) ∧ (decode cX9_count 224 = .ok (.iload_n 2, 1)) ∧ (decode cX9_count 225 = .ok (.imul, 1)) ∧ (decode cX9_count 226 = .ok (.iload_n 1, 1)) ∧ (decode cX9_count 227 = .ok (.iadd, 1)) ∧ (decode cX9_count 228 = .ok (.laload, 1)) := by decide +kernel
theorem dX9_count_218 : decode cX9_count 218 = .ok (.aload_n 0, 1) := dX9_count_218_g.1
theorem dX9_count_219 : decode cX9_count 219 = .ok (.getfield 115, 3) := dX9_count_218_g.2.1
theorem dX9_count_222 : decode cX9_count 222 = .ok (.bipush 8, 2) := dX9_count_218_g.2.2.1
theorem dX9_count_224 : decode cX9_count 224 = .ok (.iload_n 2, 1) := dX9_count_218_g.2.2.2.1
theorem dX9_count_225 : decode cX9_count 225 = .ok (.imul, 1) := dX9_count_218_g.2.2.2.2.1
theorem dX9_count_226 : decode cX9_count 226 = .ok (.iload_n 1, 1) := dX9_count_218_g.2.2.2.2.2.1
theorem dX9_count_227 : decode cX9_count 227 = .ok (.iadd, 1) := dX9_count_218_g.2.2.2.2.2.2.1
theorem dX9_count_228 : decode cX9_count 228 = .ok (.laload, 1) := dX9_count_218_g.2.2.2.2.2.2.2
theorem dX9_count_229 : decode cX9_count 229 = .ok (.lreturn, 1) := by decide +kernel
theorem dX9_tried_0_g : (decode cX9_tried 0 = .ok (.aload_n 0, 1)) ∧ (decode cX9_tried 1 = .ok (.iconst 0, 1)) ∧ (decode cX9_tried 2 = .ok (.putfield 133, 3)) ∧ (decode cX9_tried 5 = .ok (.aload_n 0, 1)) ∧ (decode cX9_tried 6 = .ok (.iload_n 1, 1)) ∧ (decode cX9_tried 7 = .ok (.invokevirtual 242, 3)) ∧ (decode cX9_tried 10 = .ok (.ifCond .eq 32, 3)) ∧ (decode cX9_tried 13 = .ok (.aload_n 0, 1)) := by decide +kernel
theorem dX9_tried_0 : decode cX9_tried 0 = .ok (.aload_n 0, 1) := dX9_tried_0_g.1
theorem dX9_tried_1 : decode cX9_tried 1 = .ok (.iconst 0, 1) := dX9_tried_0_g.2.1
theorem dX9_tried_2 : decode cX9_tried 2 = .ok (.putfield 133, 3) := dX9_tried_0_g.2.2.1
theorem dX9_tried_5 : decode cX9_tried 5 = .ok (.aload_n 0, 1) := dX9_tried_0_g.2.2.2.1
theorem dX9_tried_6 : decode cX9_tried 6 = .ok (.iload_n 1, 1) := dX9_tried_0_g.2.2.2.2.1
theorem dX9_tried_7 : decode cX9_tried 7 = .ok (.invokevirtual 242, 3) := dX9_tried_0_g.2.2.2.2.2.1
theorem dX9_tried_10 : decode cX9_tried 10 = .ok (.ifCond .eq 32, 3) := dX9_tried_0_g.2.2.2.2.2.2.1
theorem dX9_tried_13 : decode cX9_tried 13 = .ok (.aload_n 0, 1) := dX9_tried_0_g.2.2.2.2.2.2.2
theorem dX9_tried_14_g : (decode cX9_tried 14 = .ok (.iload_n 2, 1)) ∧ (decode cX9_tried 15 = .ok (.iconst 1, 1)) ∧ (decode cX9_tried 16 = .ok (.aload_n 0, 1)) ∧ (decode cX9_tried 17 = .ok (.getfield 13, 3)) ∧ (decode cX9_tried 20 = .ok (.invokevirtual 139, 3)) ∧ (decode cX9_tried 23 = .ok (.ifCond .eq 19, 3)) ∧ (decode cX9_tried 26 = .ok (.aload_n 0, 1)) ∧ (decode cX9_tried 27 = .ok (.iload_n 3, 1)) := by decide +kernel
theorem dX9_tried_14 : decode cX9_tried 14 = .ok (.iload_n 2, 1) := dX9_tried_14_g.1
theorem dX9_tried_15 : decode cX9_tried 15 = .ok (.iconst 1, 1) := dX9_tried_14_g.2.1
theorem dX9_tried_16 : decode cX9_tried 16 = .ok (.aload_n 0, 1) := dX9_tried_14_g.2.2.1
theorem dX9_tried_17 : decode cX9_tried 17 = .ok (.getfield 13, 3) := dX9_tried_14_g.2.2.2.1
theorem dX9_tried_20 : decode cX9_tried 20 = .ok (.invokevirtual 139, 3) := dX9_tried_14_g.2.2.2.2.1
theorem dX9_tried_23 : decode cX9_tried 23 = .ok (.ifCond .eq 19, 3) := dX9_tried_14_g.2.2.2.2.2.1
theorem dX9_tried_26 : decode cX9_tried 26 = .ok (.aload_n 0, 1) := dX9_tried_14_g.2.2.2.2.2.2.1
theorem dX9_tried_27 : decode cX9_tried 27 = .ok (.iload_n 3, 1) := dX9_tried_14_g.2.2.2.2.2.2.2
theorem dX9_tried_28_g : (decode cX9_tried 28 = .ok (.iload 4, 2)) ∧ (decode cX9_tried 30 = .ok (.iload 5, 2)) ∧ (decode cX9_tried 32 = .ok (.iload 6, 2)) ∧ (decode cX9_tried 34 = .ok (.iload 7, 2)) ∧ (decode cX9_tried 36 = .ok (.invokevirtual 235, 3)) ∧ (decode cX9_tried 39 = .ok (.ifCond .ne 9, 3)) ∧ (decode cX9_tried 42 = .ok (.aload_n 0, 1)) ∧ (decode cX9_tried 43 = .ok (.iconst 1, 1)) := by decide +kernel
theorem dX9_tried_28 : decode cX9_tried 28 = .ok (.iload 4, 2) := dX9_tried_28_g.1
theorem dX9_tried_30 : decode cX9_tried 30 = .ok (.iload 5, 2) := dX9_tried_28_g.2.1
theorem dX9_tried_32 : decode cX9_tried 32 = .ok (.iload 6, 2) := dX9_tried_28_g.2.2.1
theorem dX9_tried_34 : decode cX9_tried 34 = .ok (.iload 7, 2) := dX9_tried_28_g.2.2.2.1
theorem dX9_tried_36 : decode cX9_tried 36 = .ok (.invokevirtual 235, 3) := dX9_tried_28_g.2.2.2.2.1
theorem dX9_tried_39 : decode cX9_tried 39 = .ok (.ifCond .ne 9, 3) := dX9_tried_28_g.2.2.2.2.2.1
theorem dX9_tried_42 : decode cX9_tried 42 = .ok (.aload_n 0, 1) := dX9_tried_28_g.2.2.2.2.2.2.1
theorem dX9_tried_43 : decode cX9_tried 43 = .ok (.iconst 1, 1) := dX9_tried_28_g.2.2.2.2.2.2.2
theorem dX9_tried_44_g : (decode cX9_tried 44 = .ok (.invokevirtual 192, 3)) ∧ (decode cX9_tried 47 = .ok (.ireturn, 1)) ∧ (decode cX9_tried 48 = .ok (.aload_n 0, 1)) ∧ (decode cX9_tried 49 = .ok (.iconst 0, 1)) ∧ (decode cX9_tried 50 = .ok (.putfield 136, 3)) ∧ (decode cX9_tried 53 = .ok (.aload_n 0, 1)) ∧ (decode cX9_tried 54 = .ok (.iconst (-1), 1)) ∧ (decode cX9_tried 55 = .ok (.putfield 130, 3)) := by decide +kernel
theorem dX9_tried_44 : decode cX9_tried 44 = .ok (.invokevirtual 192, 3) := dX9_tried_44_g.1
theorem dX9_tried_47 : decode cX9_tried 47 = .ok (.ireturn, 1) := dX9_tried_44_g.2.1
theorem dX9_tried_48 : decode cX9_tried 48 = .ok (.aload_n 0, 1) := dX9_tried_44_g.2.2.1
theorem dX9_tried_49 : decode cX9_tried 49 = .ok (.iconst 0, 1) := dX9_tried_44_g.2.2.2.1
theorem dX9_tried_50 : decode cX9_tried 50 = .ok (.putfield 136, 3) := dX9_tried_44_g.2.2.2.2.1
theorem dX9_tried_53 : decode cX9_tried 53 = .ok (.aload_n 0, 1) := dX9_tried_44_g.2.2.2.2.2.1
theorem dX9_tried_54 : decode cX9_tried 54 = .ok (.iconst (-1), 1) := dX9_tried_44_g.2.2.2.2.2.2.1
theorem dX9_tried_55 : decode cX9_tried 55 = .ok (.putfield 130, 3) := dX9_tried_44_g.2.2.2.2.2.2.2
theorem dX9_tried_58_g : (decode cX9_tried 58 = .ok (.iconst 0, 1)) ∧ (decode cX9_tried 59 = .ok (.istore 8, 2)) ∧ (decode cX9_tried 61 = .ok (.iload 8, 2)) ∧ (decode cX9_tried 63 = .ok (.aload_n 0, 1)) ∧ (decode cX9_tried 64 = .ok (.getfield 13, 3)) ∧ (decode cX9_tried 67 = .ok (.if_icmp .ge 22, 3)) ∧ (decode cX9_tried 70 = .ok (.aload_n 0, 1)) ∧ (decode cX9_tried 71 = .ok (.getfield 39, 3)) := by decide +kernel
theorem dX9_tried_58 : decode cX9_tried 58 = .ok (.iconst 0, 1) := dX9_tried_58_g.1
theorem dX9_tried_59 : decode cX9_tried 59 = .ok (.istore 8, 2) := dX9_tried_58_g.2.1
theorem dX9_tried_61 : decode cX9_tried 61 = .ok (.iload 8, 2) := dX9_tried_58_g.2.2.1
theorem dX9_tried_63 : decode cX9_tried 63 = .ok (.aload_n 0, 1) := dX9_tried_58_g.2.2.2.1
theorem dX9_tried_64 : decode cX9_tried 64 = .ok (.getfield 13, 3) := dX9_tried_58_g.2.2.2.2.1
theorem dX9_tried_67 : decode cX9_tried 67 = .ok (.if_icmp .ge 22, 3) := dX9_tried_58_g.2.2.2.2.2.1
theorem dX9_tried_70 : decode cX9_tried 70 = .ok (.aload_n 0, 1) := dX9_tried_58_g.2.2.2.2.2.2.1
theorem dX9_tried_71 : decode cX9_tried 71 = .ok (.getfield 39, 3) := dX9_tried_58_g.2.2.2.2.2.2.2
theorem dX9_tried_74_g : (decode cX9_tried 74 = .ok (.iload 8, 2)) ∧ (decode cX9_tried 76 = .ok (.aload_n 0, 1)) ∧ (decode cX9_tried 77 = .ok (.getfield 94, 3)) ∧ (decode cX9_tried 80 = .ok (.iconst 0, 1)) ∧ (decode cX9_tried 81 = .ok (.iaload, 1)) ∧ (decode cX9_tried 82 = .ok (.iastore, 1)) ∧ (decode cX9_tried 83 = .ok (.iinc 8 1, 3)) ∧ (decode cX9_tried 86 = .ok (.goto (-25), 3)) := by decide +kernel
theorem dX9_tried_74 : decode cX9_tried 74 = .ok (.iload 8, 2) := dX9_tried_74_g.1
theorem dX9_tried_76 : decode cX9_tried 76 = .ok (.aload_n 0, 1) := dX9_tried_74_g.2.1
theorem dX9_tried_77 : decode cX9_tried 77 = .ok (.getfield 94, 3) := dX9_tried_74_g.2.2.1
theorem dX9_tried_80 : decode cX9_tried 80 = .ok (.iconst 0, 1) := dX9_tried_74_g.2.2.2.1
theorem dX9_tried_81 : decode cX9_tried 81 = .ok (.iaload, 1) := dX9_tried_74_g.2.2.2.2.1
theorem dX9_tried_82 : decode cX9_tried 82 = .ok (.iastore, 1) := dX9_tried_74_g.2.2.2.2.2.1
theorem dX9_tried_83 : decode cX9_tried 83 = .ok (.iinc 8 1, 3) := dX9_tried_74_g.2.2.2.2.2.2.1
theorem dX9_tried_86 : decode cX9_tried 86 = .ok (.goto (-25), 3) := dX9_tried_74_g.2.2.2.2.2.2.2
theorem dX9_tried_89_g : (decode cX9_tried 89 = .ok (.aload_n 0, 1)) ∧ (decode cX9_tried 90 = .ok (.getfield 94, 3)) ∧ (decode cX9_tried 93 = .ok (.iconst 1, 1)) ∧ (decode cX9_tried 94 = .ok (.iaload, 1)) ∧ (decode cX9_tried 95 = .ok (.istore 8, 2)) ∧ (decode cX9_tried 97 = .ok (.aload_n 0, 1)) ∧ (decode cX9_tried 98 = .ok (.getfield 118, 3)) ∧ (decode cX9_tried 101 = .ok (.iconst 0, 1)) := by decide +kernel
theorem dX9_tried_89 : decode cX9_tried 89 = .ok (.aload_n 0, 1) := dX9_tried_89_g.1
theorem dX9_tried_90 : decode cX9_tried 90 = .ok (.getfield 94, 3) := dX9_tried_89_g.2.1
theorem dX9_tried_93 : decode cX9_tried 93 = .ok (.iconst 1, 1) := dX9_tried_89_g.2.2.1
theorem dX9_tried_94 : decode cX9_tried 94 = .ok (.iaload, 1) := dX9_tried_89_g.2.2.2.1
theorem dX9_tried_95 : decode cX9_tried 95 = .ok (.istore 8, 2) := dX9_tried_89_g.2.2.2.2.1
theorem dX9_tried_97 : decode cX9_tried 97 = .ok (.aload_n 0, 1) := dX9_tried_89_g.2.2.2.2.2.1
theorem dX9_tried_98 : decode cX9_tried 98 = .ok (.getfield 118, 3) := dX9_tried_89_g.2.2.2.2.2.2.1
theorem dX9_tried_101 : decode cX9_tried 101 = .ok (.iconst 0, 1) := dX9_tried_89_g.2.2.2.2.2.2.2
theorem dX9_tried_102_g : (decode cX9_tried 102 = .ok (.iload_n 1, 1)) ∧ (decode cX9_tried 103 = .ok (.iastore, 1)) ∧ (decode cX9_tried 104 = .ok (.aload_n 0, 1)) ∧ (decode cX9_tried 105 = .ok (.getfield 121, 3)) ∧ (decode cX9_tried 108 = .ok (.iconst 0, 1)) ∧ (decode cX9_tried 109 = .ok (.iload_n 2, 1)) ∧ (decode cX9_tried 110 = .ok (.iastore, 1)) ∧ (decode cX9_tried 111 = .ok (.aload_n 0, 1)) := by decide +kernel
theorem dX9_tried_102 : decode cX9_tried 102 = .ok (.iload_n 1, 1) := dX9_tried_102_g.1
theorem dX9_tried_103 : decode cX9_tried 103 = .ok (.iastore, 1) := dX9_tried_102_g.2.1
theorem dX9_tried_104 : decode cX9_tried 104 = .ok (.aload_n 0, 1) := dX9_tried_102_g.2.2.1
theorem dX9_tried_105 : decode cX9_tried 105 = .ok (.getfield 121, 3) := dX9_tried_102_g.2.2.2.1
theorem dX9_tried_108 : decode cX9_tried 108 = .ok (.iconst 0, 1) := dX9_tried_102_g.2.2.2.2.1
theorem dX9_tried_109 : decode cX9_tried 109 = .ok (.iload_n 2, 1) := dX9_tried_102_g.2.2.2.2.2.1
theorem dX9_tried_110 : decode cX9_tried 110 = .ok (.iastore, 1) := dX9_tried_102_g.2.2.2.2.2.2.1
theorem dX9_tried_111 : decode cX9_tried 111 = .ok (.aload_n 0, 1) := dX9_tried_102_g.2.2.2.2.2.2.2
theorem dX9_tried_112_g : (decode cX9_tried 112 = .ok (.getfield 124, 3)) ∧ (decode cX9_tried 115 = .ok (.iconst 0, 1)) ∧ (decode cX9_tried 116 = .ok (.iconst 0, 1)) ∧ (decode cX9_tried 117 = .ok (.iastore, 1)) ∧ (decode cX9_tried 118 = .ok (.iconst 0, 1)) ∧ (decode cX9_tried 119 = .ok (.istore 9, 2)) ∧ (decode cX9_tried 121 = .ok (.iload 9, 2)) ∧ (decode cX9_tried 123 = .ok (.iconst 5, 1)) := by decide +kernel
theorem dX9_tried_112 : decode cX9_tried 112 = .ok (.getfield 124, 3) := dX9_tried_112_g.1
theorem dX9_tried_115 : decode cX9_tried 115 = .ok (.iconst 0, 1) := dX9_tried_112_g.2.1
theorem dX9_tried_116 : decode cX9_tried 116 = .ok (.iconst 0, 1) := dX9_tried_112_g.2.2.1
theorem dX9_tried_117 : decode cX9_tried 117 = .ok (.iastore, 1) := dX9_tried_112_g.2.2.2.1
theorem dX9_tried_118 : decode cX9_tried 118 = .ok (.iconst 0, 1) := dX9_tried_112_g.2.2.2.2.1
theorem dX9_tried_119 : decode cX9_tried 119 = .ok (.istore 9, 2) := dX9_tried_112_g.2.2.2.2.2.1
theorem dX9_tried_121 : decode cX9_tried 121 = .ok (.iload 9, 2) := dX9_tried_112_g.2.2.2.2.2.2.1
theorem dX9_tried_123 : decode cX9_tried 123 = .ok (.iconst 5, 1) := dX9_tried_112_g.2.2.2.2.2.2.2
theorem dX9_tried_124_g : (decode cX9_tried 124 = .ok (.if_icmp .ge 36, 3)) ∧ (decode cX9_tried 127 = .ok (.aload_n 0, 1)) ∧ (decode cX9_tried 128 = .ok (.getfield 127, 3)) ∧ (decode cX9_tried 131 = .ok (.iload 9, 2)) ∧ (decode cX9_tried 133 = .ok (.iload 9, 2)) ∧ (decode cX9_tried 135 = .ok (.aload_n 0, 1)) ∧ (decode cX9_tried 136 = .ok (.getfield 7, 3)) ∧ (decode cX9_tried 139 = .ok (.if_icmp .ge 13, 3)) := by decide +kernel
theorem dX9_tried_124 : decode cX9_tried 124 = .ok (.if_icmp .ge 36, 3) := dX9_tried_124_g.1
theorem dX9_tried_127 : decode cX9_tried 127 = .ok (.aload_n 0, 1) := dX9_tried_124_g.2.1
theorem dX9_tried_128 : decode cX9_tried 128 = .ok (.getfield 127, 3) := dX9_tried_124_g.2.2.1
theorem dX9_tried_131 : decode cX9_tried 131 = .ok (.iload 9, 2) := dX9_tried_124_g.2.2.2.1
theorem dX9_tried_133 : decode cX9_tried 133 = .ok (.iload 9, 2) := dX9_tried_124_g.2.2.2.2.1
theorem dX9_tried_135 : decode cX9_tried 135 = .ok (.aload_n 0, 1) := dX9_tried_124_g.2.2.2.2.2.1
theorem dX9_tried_136 : decode cX9_tried 136 = .ok (.getfield 7, 3) := dX9_tried_124_g.2.2.2.2.2.2.1
theorem dX9_tried_139 : decode cX9_tried 139 = .ok (.if_icmp .ge 13, 3) := dX9_tried_124_g.2.2.2.2.2.2.2
theorem dX9_tried_142_g : (decode cX9_tried 142 = .ok (.aload_n 0, 1)) ∧ (decode cX9_tried 143 = .ok (.getfield 94, 3)) ∧ (decode cX9_tried 146 = .ok (.iload 9, 2)) ∧ (decode cX9_tried 148 = .ok (.iaload, 1)) ∧ (decode cX9_tried 149 = .ok (.goto 4, 3)) ∧ (decode cX9_tried 152 = .ok (.iconst (-1), 1)) ∧ (decode cX9_tried 153 = .ok (.iastore, 1)) ∧ (decode cX9_tried 154 = .ok (.iinc 9 1, 3)) := by decide +kernel
theorem dX9_tried_142 : decode cX9_tried 142 = .ok (.aload_n 0, 1) := dX9_tried_142_g.1
theorem dX9_tried_143 : decode cX9_tried 143 = .ok (.getfield 94, 3) := dX9_tried_142_g.2.1
theorem dX9_tried_146 : decode cX9_tried 146 = .ok (.iload 9, 2) := dX9_tried_142_g.2.2.1
theorem dX9_tried_148 : decode cX9_tried 148 = .ok (.iaload, 1) := dX9_tried_142_g.2.2.2.1
theorem dX9_tried_149 : decode cX9_tried 149 = .ok (.goto 4, 3) := dX9_tried_142_g.2.2.2.2.1
theorem dX9_tried_152 : decode cX9_tried 152 = .ok (.iconst (-1), 1) := dX9_tried_142_g.2.2.2.2.2.1
theorem dX9_tried_153 : decode cX9_tried 153 = .ok (.iastore, 1) := dX9_tried_142_g.2.2.2.2.2.2.1
theorem dX9_tried_154 : decode cX9_tried 154 = .ok (.iinc 9 1, 3) := dX9_tried_142_g.2.2.2.2.2.2.2
theorem dX9_tried_157_g : (decode cX9_tried 157 = .ok (.goto (-36), 3)) ∧ (decode cX9_tried 160 = .ok (.iconst 1, 1)) ∧ (decode cX9_tried 161 = .ok (.istore 9, 2)) ∧ (decode cX9_tried 163 = .ok (.iconst 1, 1)) ∧ (decode cX9_tried 164 = .ok (.istore 10, 2)) ∧ (decode cX9_tried 166 = .ok (.iconst 0, 1)) ∧ (decode cX9_tried 167 = .ok (.istore 11, 2)) ∧ (decode cX9_tried 169 = .ok (.iload 9, 2)) := by decide +kernel
theorem dX9_tried_157 : decode cX9_tried 157 = .ok (.goto (-36), 3) := dX9_tried_157_g.1
theorem dX9_tried_160 : decode cX9_tried 160 = .ok (.iconst 1, 1) := dX9_tried_157_g.2.1
theorem dX9_tried_161 : decode cX9_tried 161 = .ok (.istore 9, 2) := dX9_tried_157_g.2.2.1
theorem dX9_tried_163 : decode cX9_tried 163 = .ok (.iconst 1, 1) := dX9_tried_157_g.2.2.2.1
theorem dX9_tried_164 : decode cX9_tried 164 = .ok (.istore 10, 2) := dX9_tried_157_g.2.2.2.2.1
theorem dX9_tried_166 : decode cX9_tried 166 = .ok (.iconst 0, 1) := dX9_tried_157_g.2.2.2.2.2.1
theorem dX9_tried_167 : decode cX9_tried 167 = .ok (.istore 11, 2) := dX9_tried_157_g.2.2.2.2.2.2.1
theorem dX9_tried_169 : decode cX9_tried 169 = .ok (.iload 9, 2) := dX9_tried_157_g.2.2.2.2.2.2.2
theorem dX9_tried_171_g : (decode cX9_tried 171 = .ok (.ifCond .le 367, 3)) ∧ (decode cX9_tried 174 = .ok (.iload 9, 2)) ∧ (decode cX9_tried 176 = .ok (.iconst 1, 1)) ∧ (decode cX9_tried 177 = .ok (.isub, 1)) ∧ (decode cX9_tried 178 = .ok (.istore 12, 2)) ∧ (decode cX9_tried 180 = .ok (.aload_n 0, 1)) ∧ (decode cX9_tried 181 = .ok (.getfield 124, 3)) ∧ (decode cX9_tried 184 = .ok (.iload 12, 2)) := by decide +kernel
theorem dX9_tried_171 : decode cX9_tried 171 = .ok (.ifCond .le 367, 3) := dX9_tried_171_g.1
theorem dX9_tried_174 : decode cX9_tried 174 = .ok (.iload 9, 2) := dX9_tried_171_g.2.1
theorem dX9_tried_176 : decode cX9_tried 176 = .ok (.iconst 1, 1) := dX9_tried_171_g.2.2.1
theorem dX9_tried_177 : decode cX9_tried 177 = .ok (.isub, 1) := dX9_tried_171_g.2.2.2.1
theorem dX9_tried_178 : decode cX9_tried 178 = .ok (.istore 12, 2) := dX9_tried_171_g.2.2.2.2.1
theorem dX9_tried_180 : decode cX9_tried 180 = .ok (.aload_n 0, 1) := dX9_tried_171_g.2.2.2.2.2.1
theorem dX9_tried_181 : decode cX9_tried 181 = .ok (.getfield 124, 3) := dX9_tried_171_g.2.2.2.2.2.2.1
theorem dX9_tried_184 : decode cX9_tried 184 = .ok (.iload 12, 2) := dX9_tried_171_g.2.2.2.2.2.2.2
theorem dX9_tried_186_g : (decode cX9_tried 186 = .ok (.iaload, 1)) ∧ (decode cX9_tried 187 = .ok (.aload_n 0, 1)) ∧ (decode cX9_tried 188 = .ok (.getfield 103, 3)) ∧ (decode cX9_tried 191 = .ok (.aload_n 0, 1)) ∧ (decode cX9_tried 192 = .ok (.getfield 118, 3)) ∧ (decode cX9_tried 195 = .ok (.iload 12, 2)) ∧ (decode cX9_tried 197 = .ok (.iaload, 1)) ∧ (decode cX9_tried 198 = .ok (.iaload, 1)) := by decide +kernel
theorem dX9_tried_186 : decode cX9_tried 186 = .ok (.iaload, 1) := dX9_tried_186_g.1
theorem dX9_tried_187 : decode cX9_tried 187 = .ok (.aload_n 0, 1) := dX9_tried_186_g.2.1
theorem dX9_tried_188 : decode cX9_tried 188 = .ok (.getfield 103, 3) := dX9_tried_186_g.2.2.1
theorem dX9_tried_191 : decode cX9_tried 191 = .ok (.aload_n 0, 1) := dX9_tried_186_g.2.2.2.1
theorem dX9_tried_192 : decode cX9_tried 192 = .ok (.getfield 118, 3) := dX9_tried_186_g.2.2.2.2.1
theorem dX9_tried_195 : decode cX9_tried 195 = .ok (.iload 12, 2) := dX9_tried_186_g.2.2.2.2.2.1
theorem dX9_tried_197 : decode cX9_tried 197 = .ok (.iaload, 1) := dX9_tried_186_g.2.2.2.2.2.2.1
theorem dX9_tried_198 : decode cX9_tried 198 = .ok (.iaload, 1) := dX9_tried_186_g.2.2.2.2.2.2.2
theorem dX9_tried_199_g : (decode cX9_tried 199 = .ok (.if_icmp .ne 9, 3)) ∧ (decode cX9_tried 202 = .ok (.iinc 9 (-1), 3)) ∧ (decode cX9_tried 205 = .ok (.goto (-36), 3)) ∧ (decode cX9_tried 208 = .ok (.bipush 8, 2)) ∧ (decode cX9_tried 210 = .ok (.aload_n 0, 1)) ∧ (decode cX9_tried 211 = .ok (.getfield 118, 3)) ∧ (decode cX9_tried 214 = .ok (.iload 12, 2)) ∧ (decode cX9_tried 216 = .ok (.iaload, 1)) := by decide +kernel
theorem dX9_tried_199 : decode cX9_tried 199 = .ok (.if_icmp .ne 9, 3) := dX9_tried_199_g.1
theorem dX9_tried_202 : decode cX9_tried 202 = .ok (.iinc 9 (-1), 3) := dX9_tried_199_g.2.1
theorem dX9_tried_205 : decode cX9_tried 205 = .ok (.goto (-36), 3) := dX9_tried_199_g.2.2.1
theorem dX9_tried_208 : decode cX9_tried 208 = .ok (.bipush 8, 2) := dX9_tried_199_g.2.2.2.1
theorem dX9_tried_210 : decode cX9_tried 210 = .ok (.aload_n 0, 1) := dX9_tried_199_g.2.2.2.2.1
theorem dX9_tried_211 : decode cX9_tried 211 = .ok (.getfield 118, 3) := dX9_tried_199_g.2.2.2.2.2.1
theorem dX9_tried_214 : decode cX9_tried 214 = .ok (.iload 12, 2) := dX9_tried_199_g.2.2.2.2.2.2.1
theorem dX9_tried_216 : decode cX9_tried 216 = .ok (.iaload, 1) := dX9_tried_199_g.2.2.2.2.2.2.2
theorem dX9_tried_217_g : (decode cX9_tried 217 = .ok (.imul, 1)) ∧ (decode cX9_tried 218 = .ok (.aload_n 0, 1)) ∧ (decode cX9_tried 219 = .ok (.getfield 124, 3)) ∧ (decode cX9_tried 222 = .ok (.iload 12, 2)) ∧ (decode cX9_tried 224 = .ok (.iaload, 1)) ∧ (decode cX9_tried 225 = .ok (.iadd, 1)) ∧ (decode cX9_tried 226 = .ok (.istore 13, 2)) ∧ (decode cX9_tried 228 = .ok (.aload_n 0, 1)) := by decide +kernel
theorem dX9_tried_217 : decode cX9_tried 217 = .ok (.imul, 1) := dX9_tried_217_g.1
theorem dX9_tried_218 : decode cX9_tried 218 = .ok (.aload_n 0, 1) := dX9_tried_217_g.2.1
theorem dX9_tried_219 : decode cX9_tried 219 = .ok (.getfield 124, 3) := dX9_tried_217_g.2.2.1
theorem dX9_tried_222 : decode cX9_tried 222 = .ok (.iload 12, 2) := dX9_tried_217_g.2.2.2.1
theorem dX9_tried_224 : decode cX9_tried 224 = .ok (.iaload, 1) := dX9_tried_217_g.2.2.2.2.1
theorem dX9_tried_225 : decode cX9_tried 225 = .ok (.iadd, 1) := dX9_tried_217_g.2.2.2.2.2.1
theorem dX9_tried_226 : decode cX9_tried 226 = .ok (.istore 13, 2) := dX9_tried_217_g.2.2.2.2.2.2.1
theorem dX9_tried_228 : decode cX9_tried 228 = .ok (.aload_n 0, 1) := dX9_tried_217_g.2.2.2.2.2.2.2
theorem dX9_tried_229_g : (decode cX9_tried 229 = .ok (.getfield 124, 3)) ∧ (decode cX9_tried 232 = .ok (.iload 12, 2)) ∧ (decode cX9_tried 234 = .ok (.dup2, 1)) ∧ (decode cX9_tried 235 = .ok (.iaload, 1)) ∧ (decode cX9_tried 236 = .ok (.iconst 1, 1)) ∧ (decode cX9_tried 237 = .ok (.iadd, 1)) ∧ (decode cX9_tried 238 = .ok (.iastore, 1)) ∧ (decode cX9_tried 239 = .ok (.aload_n 0, 1)) := by decide +kernel
theorem dX9_tried_229 : decode cX9_tried 229 = .ok (.getfield 124, 3) := dX9_tried_229_g.1
theorem dX9_tried_232 : decode cX9_tried 232 = .ok (.iload 12, 2) := dX9_tried_229_g.2.1
theorem dX9_tried_234 : decode cX9_tried 234 = .ok (.dup2, 1) := dX9_tried_229_g.2.2.1
theorem dX9_tried_235 : decode cX9_tried 235 = .ok (.iaload, 1) := dX9_tried_229_g.2.2.2.1
theorem dX9_tried_236 : decode cX9_tried 236 = .ok (.iconst 1, 1) := dX9_tried_229_g.2.2.2.2.1
theorem dX9_tried_237 : decode cX9_tried 237 = .ok (.iadd, 1) := dX9_tried_229_g.2.2.2.2.2.1
theorem dX9_tried_238 : decode cX9_tried 238 = .ok (.iastore, 1) := dX9_tried_229_g.2.2.2.2.2.2.1
theorem dX9_tried_239 : decode cX9_tried 239 = .ok (.aload_n 0, 1) := dX9_tried_229_g.2.2.2.2.2.2.2
theorem dX9_tried_240_g : (decode cX9_tried 240 = .ok (.getfield 121, 3)) ∧ (decode cX9_tried 243 = .ok (.iload 12, 2)) ∧ (decode cX9_tried 245 = .ok (.iaload, 1)) ∧ (decode cX9_tried 246 = .ok (.istore 14, 2)) ∧ (decode cX9_tried 248 = .ok (.aload_n 0, 1)) ∧ (decode cX9_tried 249 = .ok (.getfield 106, 3)) ∧ (decode cX9_tried 252 = .ok (.iload 13, 2)) ∧ (decode cX9_tried 254 = .ok (.iaload, 1)) := by decide +kernel
theorem dX9_tried_240 : decode cX9_tried 240 = .ok (.getfield 121, 3) := dX9_tried_240_g.1
theorem dX9_tried_243 : decode cX9_tried 243 = .ok (.iload 12, 2) := dX9_tried_240_g.2.1
theorem dX9_tried_245 : decode cX9_tried 245 = .ok (.iaload, 1) := dX9_tried_240_g.2.2.1
theorem dX9_tried_246 : decode cX9_tried 246 = .ok (.istore 14, 2) := dX9_tried_240_g.2.2.2.1
theorem dX9_tried_248 : decode cX9_tried 248 = .ok (.aload_n 0, 1) := dX9_tried_240_g.2.2.2.2.1
theorem dX9_tried_249 : decode cX9_tried 249 = .ok (.getfield 106, 3) := dX9_tried_240_g.2.2.2.2.2.1
theorem dX9_tried_252 : decode cX9_tried 252 = .ok (.iload 13, 2) := dX9_tried_240_g.2.2.2.2.2.2.1
theorem dX9_tried_254 : decode cX9_tried 254 = .ok (.iaload, 1) := dX9_tried_240_g.2.2.2.2.2.2.2
theorem dX9_tried_255_g : (decode cX9_tried 255 = .ok (.iconst (-1), 1)) ∧ (decode cX9_tried 256 = .ok (.if_icmp .eq 18, 3)) ∧ (decode cX9_tried 259 = .ok (.iload 14, 2)) ∧ (decode cX9_tried 261 = .ok (.aload_n 0, 1)) ∧ (decode cX9_tried 262 = .ok (.getfield 109, 3)) ∧ (decode cX9_tried 265 = .ok (.iload 13, 2)) ∧ (decode cX9_tried 267 = .ok (.iaload, 1)) ∧ (decode cX9_tried 268 = .ok (.if_icmp .gt 6, 3)) := by decide +kernel
theorem dX9_tried_255 : decode cX9_tried 255 = .ok (.iconst (-1), 1) := dX9_tried_255_g.1
theorem dX9_tried_256 : decode cX9_tried 256 = .ok (.if_icmp .eq 18, 3) := dX9_tried_255_g.2.1
theorem dX9_tried_259 : decode cX9_tried 259 = .ok (.iload 14, 2) := dX9_tried_255_g.2.2.1
theorem dX9_tried_261 : decode cX9_tried 261 = .ok (.aload_n 0, 1) := dX9_tried_255_g.2.2.2.1
theorem dX9_tried_262 : decode cX9_tried 262 = .ok (.getfield 109, 3) := dX9_tried_255_g.2.2.2.2.1
theorem dX9_tried_265 : decode cX9_tried 265 = .ok (.iload 13, 2) := dX9_tried_255_g.2.2.2.2.2.1
theorem dX9_tried_267 : decode cX9_tried 267 = .ok (.iaload, 1) := dX9_tried_255_g.2.2.2.2.2.2.1
theorem dX9_tried_268 : decode cX9_tried 268 = .ok (.if_icmp .gt 6, 3) := dX9_tried_255_g.2.2.2.2.2.2.2
theorem dX9_tried_271_g : (decode cX9_tried 271 = .ok (.goto (-102), 3)) ∧ (decode cX9_tried 274 = .ok (.iload 10, 2)) ∧ (decode cX9_tried 276 = .ok (.sipush 5000, 3)) ∧ (decode cX9_tried 279 = .ok (.if_icmp .ne 6, 3)) ∧ (decode cX9_tried 282 = .ok (.bipush (-4), 2)) ∧ (decode cX9_tried 284 = .ok (.ireturn, 1)) ∧ (decode cX9_tried 285 = .ok (.iinc 10 1, 3)) ∧ (decode cX9_tried 288 = .ok (.aload_n 0, 1)) := by decide +kernel
theorem dX9_tried_271 : decode cX9_tried 271 = .ok (.goto (-102), 3) := dX9_tried_271_g.1
theorem dX9_tried_274 : decode cX9_tried 274 = .ok (.iload 10, 2) := dX9_tried_271_g.2.1
theorem dX9_tried_276 : decode cX9_tried 276 = .ok (.sipush 5000, 3) := dX9_tried_271_g.2.2.1
theorem dX9_tried_279 : decode cX9_tried 279 = .ok (.if_icmp .ne 6, 3) := dX9_tried_271_g.2.2.2.1
theorem dX9_tried_282 : decode cX9_tried 282 = .ok (.bipush (-4), 2) := dX9_tried_271_g.2.2.2.2.1
theorem dX9_tried_284 : decode cX9_tried 284 = .ok (.ireturn, 1) := dX9_tried_271_g.2.2.2.2.2.1
theorem dX9_tried_285 : decode cX9_tried 285 = .ok (.iinc 10 1, 3) := dX9_tried_271_g.2.2.2.2.2.2.1
theorem dX9_tried_288 : decode cX9_tried 288 = .ok (.aload_n 0, 1) := dX9_tried_271_g.2.2.2.2.2.2.2
theorem dX9_tried_289_g : (decode cX9_tried 289 = .ok (.getfield 106, 3)) ∧ (decode cX9_tried 292 = .ok (.iload 13, 2)) ∧ (decode cX9_tried 294 = .ok (.iaload, 1)) ∧ (decode cX9_tried 295 = .ok (.iconst (-1), 1)) ∧ (decode cX9_tried 296 = .ok (.if_icmp .eq 97, 3)) ∧ (decode cX9_tried 299 = .ok (.aload_n 0, 1)) ∧ (decode cX9_tried 300 = .ok (.getfield 118, 3)) ∧ (decode cX9_tried 303 = .ok (.iload 9, 2)) := by decide +kernel
theorem dX9_tried_289 : decode cX9_tried 289 = .ok (.getfield 106, 3) := dX9_tried_289_g.1
theorem dX9_tried_292 : decode cX9_tried 292 = .ok (.iload 13, 2) := dX9_tried_289_g.2.1
theorem dX9_tried_294 : decode cX9_tried 294 = .ok (.iaload, 1) := dX9_tried_289_g.2.2.1
theorem dX9_tried_295 : decode cX9_tried 295 = .ok (.iconst (-1), 1) := dX9_tried_289_g.2.2.2.1
theorem dX9_tried_296 : decode cX9_tried 296 = .ok (.if_icmp .eq 97, 3) := dX9_tried_289_g.2.2.2.2.1
theorem dX9_tried_299 : decode cX9_tried 299 = .ok (.aload_n 0, 1) := dX9_tried_289_g.2.2.2.2.2.1
theorem dX9_tried_300 : decode cX9_tried 300 = .ok (.getfield 118, 3) := dX9_tried_289_g.2.2.2.2.2.2.1
theorem dX9_tried_303 : decode cX9_tried 303 = .ok (.iload 9, 2) := dX9_tried_289_g.2.2.2.2.2.2.2
theorem dX9_tried_305_g : (decode cX9_tried 305 = .ok (.aload_n 0, 1)) ∧ (decode cX9_tried 306 = .ok (.getfield 106, 3)) ∧ (decode cX9_tried 309 = .ok (.iload 13, 2)) ∧ (decode cX9_tried 311 = .ok (.iaload, 1)) ∧ (decode cX9_tried 312 = .ok (.iastore, 1)) ∧ (decode cX9_tried 313 = .ok (.aload_n 0, 1)) ∧ (decode cX9_tried 314 = .ok (.getfield 121, 3)) ∧ (decode cX9_tried 317 = .ok (.iload 9, 2)) := by decide +kernel
theorem dX9_tried_305 : decode cX9_tried 305 = .ok (.aload_n 0, 1) := dX9_tried_305_g.1
theorem dX9_tried_306 : decode cX9_tried 306 = .ok (.getfield 106, 3) := dX9_tried_305_g.2.1
theorem dX9_tried_309 : decode cX9_tried 309 = .ok (.iload 13, 2) := dX9_tried_305_g.2.2.1
theorem dX9_tried_311 : decode cX9_tried 311 = .ok (.iaload, 1) := dX9_tried_305_g.2.2.2.1
theorem dX9_tried_312 : decode cX9_tried 312 = .ok (.iastore, 1) := dX9_tried_305_g.2.2.2.2.1
theorem dX9_tried_313 : decode cX9_tried 313 = .ok (.aload_n 0, 1) := dX9_tried_305_g.2.2.2.2.2.1
theorem dX9_tried_314 : decode cX9_tried 314 = .ok (.getfield 121, 3) := dX9_tried_305_g.2.2.2.2.2.2.1
theorem dX9_tried_317 : decode cX9_tried 317 = .ok (.iload 9, 2) := dX9_tried_305_g.2.2.2.2.2.2.2
theorem dX9_tried_319_g : (decode cX9_tried 319 = .ok (.iload 14, 2)) ∧ (decode cX9_tried 321 = .ok (.aload_n 0, 1)) ∧ (decode cX9_tried 322 = .ok (.getfield 109, 3)) ∧ (decode cX9_tried 325 = .ok (.iload 13, 2)) ∧ (decode cX9_tried 327 = .ok (.iaload, 1)) ∧ (decode cX9_tried 328 = .ok (.isub, 1)) ∧ (decode cX9_tried 329 = .ok (.iastore, 1)) ∧ (decode cX9_tried 330 = .ok (.aload_n 0, 1)) := by decide +kernel
theorem dX9_tried_319 : decode cX9_tried 319 = .ok (.iload 14, 2) := dX9_tried_319_g.1
theorem dX9_tried_321 : decode cX9_tried 321 = .ok (.aload_n 0, 1) := dX9_tried_319_g.2.1
theorem dX9_tried_322 : decode cX9_tried 322 = .ok (.getfield 109, 3) := dX9_tried_319_g.2.2.1
theorem dX9_tried_325 : decode cX9_tried 325 = .ok (.iload 13, 2) := dX9_tried_319_g.2.2.2.1
theorem dX9_tried_327 : decode cX9_tried 327 = .ok (.iaload, 1) := dX9_tried_319_g.2.2.2.2.1
theorem dX9_tried_328 : decode cX9_tried 328 = .ok (.isub, 1) := dX9_tried_319_g.2.2.2.2.2.1
theorem dX9_tried_329 : decode cX9_tried 329 = .ok (.iastore, 1) := dX9_tried_319_g.2.2.2.2.2.2.1
theorem dX9_tried_330 : decode cX9_tried 330 = .ok (.aload_n 0, 1) := dX9_tried_319_g.2.2.2.2.2.2.2
theorem dX9_tried_331_g : (decode cX9_tried 331 = .ok (.getfield 124, 3)) ∧ (decode cX9_tried 334 = .ok (.iload 9, 2)) ∧ (decode cX9_tried 336 = .ok (.iconst 0, 1)) ∧ (decode cX9_tried 337 = .ok (.iastore, 1)) ∧ (decode cX9_tried 338 = .ok (.iconst 0, 1)) ∧ (decode cX9_tried 339 = .ok (.istore 15, 2)) ∧ (decode cX9_tried 341 = .ok (.iload 15, 2)) ∧ (decode cX9_tried 343 = .ok (.iconst 5, 1)) := by decide +kernel
theorem dX9_tried_331 : decode cX9_tried 331 = .ok (.getfield 124, 3) := dX9_tried_331_g.1
theorem dX9_tried_334 : decode cX9_tried 334 = .ok (.iload 9, 2) := dX9_tried_331_g.2.1
theorem dX9_tried_336 : decode cX9_tried 336 = .ok (.iconst 0, 1) := dX9_tried_331_g.2.2.1
theorem dX9_tried_337 : decode cX9_tried 337 = .ok (.iastore, 1) := dX9_tried_331_g.2.2.2.1
theorem dX9_tried_338 : decode cX9_tried 338 = .ok (.iconst 0, 1) := dX9_tried_331_g.2.2.2.2.1
theorem dX9_tried_339 : decode cX9_tried 339 = .ok (.istore 15, 2) := dX9_tried_331_g.2.2.2.2.2.1
theorem dX9_tried_341 : decode cX9_tried 341 = .ok (.iload 15, 2) := dX9_tried_331_g.2.2.2.2.2.2.1
theorem dX9_tried_343 : decode cX9_tried 343 = .ok (.iconst 5, 1) := dX9_tried_331_g.2.2.2.2.2.2.2
theorem dX9_tried_344_g : (decode cX9_tried 344 = .ok (.if_icmp .ge 43, 3)) ∧ (decode cX9_tried 347 = .ok (.aload_n 0, 1)) ∧ (decode cX9_tried 348 = .ok (.getfield 127, 3)) ∧ (decode cX9_tried 351 = .ok (.iconst 5, 1)) ∧ (decode cX9_tried 352 = .ok (.iload 9, 2)) ∧ (decode cX9_tried 354 = .ok (.imul, 1)) ∧ (decode cX9_tried 355 = .ok (.iload 15, 2)) ∧ (decode cX9_tried 357 = .ok (.iadd, 1)) := by decide +kernel
theorem dX9_tried_344 : decode cX9_tried 344 = .ok (.if_icmp .ge 43, 3) := dX9_tried_344_g.1
theorem dX9_tried_347 : decode cX9_tried 347 = .ok (.aload_n 0, 1) := dX9_tried_344_g.2.1
theorem dX9_tried_348 : decode cX9_tried 348 = .ok (.getfield 127, 3) := dX9_tried_344_g.2.2.1
theorem dX9_tried_351 : decode cX9_tried 351 = .ok (.iconst 5, 1) := dX9_tried_344_g.2.2.2.1
theorem dX9_tried_352 : decode cX9_tried 352 = .ok (.iload 9, 2) := dX9_tried_344_g.2.2.2.2.1
theorem dX9_tried_354 : decode cX9_tried 354 = .ok (.imul, 1) := dX9_tried_344_g.2.2.2.2.2.1
theorem dX9_tried_355 : decode cX9_tried 355 = .ok (.iload 15, 2) := dX9_tried_344_g.2.2.2.2.2.2.1
theorem dX9_tried_357 : decode cX9_tried 357 = .ok (.iadd, 1) := dX9_tried_344_g.2.2.2.2.2.2.2
theorem dX9_tried_358_g : (decode cX9_tried 358 = .ok (.aload_n 0, 1)) ∧ (decode cX9_tried 359 = .ok (.getfield 127, 3)) ∧ (decode cX9_tried 362 = .ok (.iconst 5, 1)) ∧ (decode cX9_tried 363 = .ok (.iload 12, 2)) ∧ (decode cX9_tried 365 = .ok (.imul, 1)) ∧ (decode cX9_tried 366 = .ok (.aload_n 0, 1)) ∧ (decode cX9_tried 367 = .ok (.getfield 112, 3)) ∧ (decode cX9_tried 370 = .ok (.iconst 5, 1)) := by decide +kernel
theorem dX9_tried_358 : decode cX9_tried 358 = .ok (.aload_n 0, 1) := dX9_tried_358_g.1
theorem dX9_tried_359 : decode cX9_tried 359 = .ok (.getfield 127, 3) := dX9_tried_358_g.2.1
theorem dX9_tried_362 : decode cX9_tried 362 = .ok (.iconst 5, 1) := dX9_tried_358_g.2.2.1
theorem dX9_tried_363 : decode cX9_tried 363 = .ok (.iload 12, 2) := dX9_tried_358_g.2.2.2.1
theorem dX9_tried_365 : decode cX9_tried 365 = .ok (.imul, 1) := dX9_tried_358_g.2.2.2.2.1
theorem dX9_tried_366 : decode cX9_tried 366 = .ok (.aload_n 0, 1) := dX9_tried_358_g.2.2.2.2.2.1
theorem dX9_tried_367 : decode cX9_tried 367 = .ok (.getfield 112, 3) := dX9_tried_358_g.2.2.2.2.2.2.1
theorem dX9_tried_370 : decode cX9_tried 370 = .ok (.iconst 5, 1) := dX9_tried_358_g.2.2.2.2.2.2.2
theorem dX9_tried_371_g : (decode cX9_tried 371 = .ok (.iload 13, 2)) ∧ (decode cX9_tried 373 = .ok (.imul, 1)) ∧ (decode cX9_tried 374 = .ok (.iload 15, 2)) ∧ (decode cX9_tried 376 = .ok (.iadd, 1)) ∧ (decode cX9_tried 377 = .ok (.iaload, 1)) ∧ (decode cX9_tried 378 = .ok (.iadd, 1)) ∧ (decode cX9_tried 379 = .ok (.iaload, 1)) ∧ (decode cX9_tried 380 = .ok (.iastore, 1)) := by decide +kernel
theorem dX9_tried_371 : decode cX9_tried 371 = .ok (.iload 13, 2) := dX9_tried_371_g.1
theorem dX9_tried_373 : decode cX9_tried 373 = .ok (.imul, 1) := dX9_tried_371_g.2.1
theorem dX9_tried_374 : decode cX9_tried 374 = .ok (.iload 15, 2) := dX9_tried_371_g.2.2.1
theorem dX9_tried_376 : decode cX9_tried 376 = .ok (.iadd, 1) := dX9_tried_371_g.2.2.2.1
theorem dX9_tried_377 : decode cX9_tried 377 = .ok (.iaload, 1) := dX9_tried_371_g.2.2.2.2.1
theorem dX9_tried_378 : decode cX9_tried 378 = .ok (.iadd, 1) := dX9_tried_371_g.2.2.2.2.2.1
theorem dX9_tried_379 : decode cX9_tried 379 = .ok (.iaload, 1) := dX9_tried_371_g.2.2.2.2.2.2.1
theorem dX9_tried_380 : decode cX9_tried 380 = .ok (.iastore, 1) := dX9_tried_371_g.2.2.2.2.2.2.2
theorem dX9_tried_381_g : (decode cX9_tried 381 = .ok (.iinc 15 1, 3)) ∧ (decode cX9_tried 384 = .ok (.goto (-43), 3)) ∧ (decode cX9_tried 387 = .ok (.iinc 9 1, 3)) ∧ (decode cX9_tried 390 = .ok (.goto (-221), 3)) ∧ (decode cX9_tried 393 = .ok (.aload_n 0, 1)) ∧ (decode cX9_tried 394 = .ok (.getfield 127, 3)) ∧ (decode cX9_tried 397 = .ok (.iconst 5, 1)) ∧ (decode cX9_tried 398 = .ok (.iload 12, 2)) := by decide +kernel
theorem dX9_tried_381 : decode cX9_tried 381 = .ok (.iinc 15 1, 3) := dX9_tried_381_g.1
theorem dX9_tried_384 : decode cX9_tried 384 = .ok (.goto (-43), 3) := dX9_tried_381_g.2.1
theorem dX9_tried_387 : decode cX9_tried 387 = .ok (.iinc 9 1, 3) := dX9_tried_381_g.2.2.1
theorem dX9_tried_390 : decode cX9_tried 390 = .ok (.goto (-221), 3) := dX9_tried_381_g.2.2.2.1
theorem dX9_tried_393 : decode cX9_tried 393 = .ok (.aload_n 0, 1) := dX9_tried_381_g.2.2.2.2.1
theorem dX9_tried_394 : decode cX9_tried 394 = .ok (.getfield 127, 3) := dX9_tried_381_g.2.2.2.2.2.1
theorem dX9_tried_397 : decode cX9_tried 397 = .ok (.iconst 5, 1) := dX9_tried_381_g.2.2.2.2.2.2.1
theorem dX9_tried_398 : decode cX9_tried 398 = .ok (.iload 12, 2) := dX9_tried_381_g.2.2.2.2.2.2.2
theorem dX9_tried_400_g : (decode cX9_tried 400 = .ok (.imul, 1)) ∧ (decode cX9_tried 401 = .ok (.aload_n 0, 1)) ∧ (decode cX9_tried 402 = .ok (.getfield 112, 3)) ∧ (decode cX9_tried 405 = .ok (.iconst 5, 1)) ∧ (decode cX9_tried 406 = .ok (.iload 13, 2)) ∧ (decode cX9_tried 408 = .ok (.imul, 1)) ∧ (decode cX9_tried 409 = .ok (.iaload, 1)) ∧ (decode cX9_tried 410 = .ok (.iadd, 1)) := by decide +kernel
theorem dX9_tried_400 : decode cX9_tried 400 = .ok (.imul, 1) := dX9_tried_400_g.1
theorem dX9_tried_401 : decode cX9_tried 401 = .ok (.aload_n 0, 1) := dX9_tried_400_g.2.1
theorem dX9_tried_402 : decode cX9_tried 402 = .ok (.getfield 112, 3) := dX9_tried_400_g.2.2.1
theorem dX9_tried_405 : decode cX9_tried 405 = .ok (.iconst 5, 1) := dX9_tried_400_g.2.2.2.1
theorem dX9_tried_406 : decode cX9_tried 406 = .ok (.iload 13, 2) := dX9_tried_400_g.2.2.2.2.1
theorem dX9_tried_408 : decode cX9_tried 408 = .ok (.imul, 1) := dX9_tried_400_g.2.2.2.2.2.1
theorem dX9_tried_409 : decode cX9_tried 409 = .ok (.iaload, 1) := dX9_tried_400_g.2.2.2.2.2.2.1
theorem dX9_tried_410 : decode cX9_tried 410 = .ok (.iadd, 1) := dX9_tried_400_g.2.2.2.2.2.2.2
theorem dX9_tried_411_g : (decode cX9_tried 411 = .ok (.iaload, 1)) ∧ (decode cX9_tried 412 = .ok (.istore 15, 2)) ∧ (decode cX9_tried 414 = .ok (.aload_n 0, 1)) ∧ (decode cX9_tried 415 = .ok (.getfield 127, 3)) ∧ (decode cX9_tried 418 = .ok (.iconst 5, 1)) ∧ (decode cX9_tried 419 = .ok (.iload 12, 2)) ∧ (decode cX9_tried 421 = .ok (.imul, 1)) ∧ (decode cX9_tried 422 = .ok (.aload_n 0, 1)) := by decide +kernel
theorem dX9_tried_411 : decode cX9_tried 411 = .ok (.iaload, 1) := dX9_tried_411_g.1
theorem dX9_tried_412 : decode cX9_tried 412 = .ok (.istore 15, 2) := dX9_tried_411_g.2.1
theorem dX9_tried_414 : decode cX9_tried 414 = .ok (.aload_n 0, 1) := dX9_tried_411_g.2.2.1
theorem dX9_tried_415 : decode cX9_tried 415 = .ok (.getfield 127, 3) := dX9_tried_411_g.2.2.2.1
theorem dX9_tried_418 : decode cX9_tried 418 = .ok (.iconst 5, 1) := dX9_tried_411_g.2.2.2.2.1
theorem dX9_tried_419 : decode cX9_tried 419 = .ok (.iload 12, 2) := dX9_tried_411_g.2.2.2.2.2.1
theorem dX9_tried_421 : decode cX9_tried 421 = .ok (.imul, 1) := dX9_tried_411_g.2.2.2.2.2.2.1
theorem dX9_tried_422 : decode cX9_tried 422 = .ok (.aload_n 0, 1) := dX9_tried_411_g.2.2.2.2.2.2.2
theorem dX9_tried_423_g : (decode cX9_tried 423 = .ok (.getfield 112, 3)) ∧ (decode cX9_tried 426 = .ok (.iconst 5, 1)) ∧ (decode cX9_tried 427 = .ok (.iload 13, 2)) ∧ (decode cX9_tried 429 = .ok (.imul, 1)) ∧ (decode cX9_tried 430 = .ok (.iconst 1, 1)) ∧ (decode cX9_tried 431 = .ok (.iadd, 1)) ∧ (decode cX9_tried 432 = .ok (.iaload, 1)) ∧ (decode cX9_tried 433 = .ok (.iadd, 1)) := by decide +kernel
theorem dX9_tried_423 : decode cX9_tried 423 = .ok (.getfield 112, 3) := dX9_tried_423_g.1
theorem dX9_tried_426 : decode cX9_tried 426 = .ok (.iconst 5, 1) := dX9_tried_423_g.2.1
theorem dX9_tried_427 : decode cX9_tried 427 = .ok (.iload 13, 2) := dX9_tried_423_g.2.2.1
theorem dX9_tried_429 : decode cX9_tried 429 = .ok (.imul, 1) := dX9_tried_423_g.2.2.2.1
theorem dX9_tried_430 : decode cX9_tried 430 = .ok (.iconst 1, 1) := dX9_tried_423_g.2.2.2.2.1
theorem dX9_tried_431 : decode cX9_tried 431 = .ok (.iadd, 1) := dX9_tried_423_g.2.2.2.2.2.1
theorem dX9_tried_432 : decode cX9_tried 432 = .ok (.iaload, 1) := dX9_tried_423_g.2.2.2.2.2.2.1
theorem dX9_tried_433 : decode cX9_tried 433 = .ok (.iadd, 1) := dX9_tried_423_g.2.2.2.2.2.2.2
theorem dX9_tried_434_g : (decode cX9_tried 434 = .ok (.iaload, 1)) ∧ (decode cX9_tried 435 = .ok (.istore 16, 2)) ∧ (decode cX9_tried 437 = .ok (.iload 15, 2)) ∧ (decode cX9_tried 439 = .ok (.iconst (-1), 1)) ∧ (decode cX9_tried 440 = .ok (.if_icmp .eq 64, 3)) ∧ (decode cX9_tried 443 = .ok (.iload 16, 2)) ∧ (decode cX9_tried 445 = .ok (.iconst (-1), 1)) ∧ (decode cX9_tried 446 = .ok (.if_icmp .eq 58, 3)) := by decide +kernel
theorem dX9_tried_434 : decode cX9_tried 434 = .ok (.iaload, 1) := dX9_tried_434_g.1
theorem dX9_tried_435 : decode cX9_tried 435 = .ok (.istore 16, 2) := dX9_tried_434_g.2.1
theorem dX9_tried_437 : decode cX9_tried 437 = .ok (.iload 15, 2) := dX9_tried_434_g.2.2.1
theorem dX9_tried_439 : decode cX9_tried 439 = .ok (.iconst (-1), 1) := dX9_tried_434_g.2.2.2.1
theorem dX9_tried_440 : decode cX9_tried 440 = .ok (.if_icmp .eq 64, 3) := dX9_tried_434_g.2.2.2.2.1
theorem dX9_tried_443 : decode cX9_tried 443 = .ok (.iload 16, 2) := dX9_tried_434_g.2.2.2.2.2.1
theorem dX9_tried_445 : decode cX9_tried 445 = .ok (.iconst (-1), 1) := dX9_tried_434_g.2.2.2.2.2.2.1
theorem dX9_tried_446 : decode cX9_tried 446 = .ok (.if_icmp .eq 58, 3) := dX9_tried_434_g.2.2.2.2.2.2.2
theorem dX9_tried_449_g : (decode cX9_tried 449 = .ok (.aload_n 0, 1)) ∧ (decode cX9_tried 450 = .ok (.aload_n 0, 1)) ∧ (decode cX9_tried 451 = .ok (.getfield 39, 3)) ∧ (decode cX9_tried 454 = .ok (.iload 15, 2)) ∧ (decode cX9_tried 456 = .ok (.invokevirtual 153, 3)) ∧ (decode cX9_tried 459 = .ok (.iload 14, 2)) ∧ (decode cX9_tried 461 = .ok (.iconst 1, 1)) ∧ (decode cX9_tried 462 = .ok (.isub, 1)) := by decide +kernel
theorem dX9_tried_449 : decode cX9_tried 449 = .ok (.aload_n 0, 1) := dX9_tried_449_g.1
theorem dX9_tried_450 : decode cX9_tried 450 = .ok (.aload_n 0, 1) := dX9_tried_449_g.2.1
theorem dX9_tried_451 : decode cX9_tried 451 = .ok (.getfield 39, 3) := dX9_tried_449_g.2.2.1
theorem dX9_tried_454 : decode cX9_tried 454 = .ok (.iload 15, 2) := dX9_tried_449_g.2.2.2.1
theorem dX9_tried_456 : decode cX9_tried 456 = .ok (.invokevirtual 153, 3) := dX9_tried_449_g.2.2.2.2.1
theorem dX9_tried_459 : decode cX9_tried 459 = .ok (.iload 14, 2) := dX9_tried_449_g.2.2.2.2.2.1
theorem dX9_tried_461 : decode cX9_tried 461 = .ok (.iconst 1, 1) := dX9_tried_449_g.2.2.2.2.2.2.1
theorem dX9_tried_462 : decode cX9_tried 462 = .ok (.isub, 1) := dX9_tried_449_g.2.2.2.2.2.2.2
theorem dX9_tried_463_g : (decode cX9_tried 463 = .ok (.if_icmp .ne 41, 3)) ∧ (decode cX9_tried 466 = .ok (.aload_n 0, 1)) ∧ (decode cX9_tried 467 = .ok (.aload_n 0, 1)) ∧ (decode cX9_tried 468 = .ok (.getfield 39, 3)) ∧ (decode cX9_tried 471 = .ok (.iload 14, 2)) ∧ (decode cX9_tried 473 = .ok (.iconst 1, 1)) ∧ (decode cX9_tried 474 = .ok (.isub, 1)) ∧ (decode cX9_tried 475 = .ok (.invokevirtual 156, 3)) := by decide +kernel
theorem dX9_tried_463 : decode cX9_tried 463 = .ok (.if_icmp .ne 41, 3) := dX9_tried_463_g.1
theorem dX9_tried_466 : decode cX9_tried 466 = .ok (.aload_n 0, 1) := dX9_tried_463_g.2.1
theorem dX9_tried_467 : decode cX9_tried 467 = .ok (.aload_n 0, 1) := dX9_tried_463_g.2.2.1
theorem dX9_tried_468 : decode cX9_tried 468 = .ok (.getfield 39, 3) := dX9_tried_463_g.2.2.2.1
theorem dX9_tried_471 : decode cX9_tried 471 = .ok (.iload 14, 2) := dX9_tried_463_g.2.2.2.2.1
theorem dX9_tried_473 : decode cX9_tried 473 = .ok (.iconst 1, 1) := dX9_tried_463_g.2.2.2.2.2.1
theorem dX9_tried_474 : decode cX9_tried 474 = .ok (.isub, 1) := dX9_tried_463_g.2.2.2.2.2.2.1
theorem dX9_tried_475 : decode cX9_tried 475 = .ok (.invokevirtual 156, 3) := dX9_tried_463_g.2.2.2.2.2.2.2
theorem dX9_tried_478_g : (decode cX9_tried 478 = .ok (.iload 14, 2)) ∧ (decode cX9_tried 480 = .ok (.iconst 1, 1)) ∧ (decode cX9_tried 481 = .ok (.isub, 1)) ∧ (decode cX9_tried 482 = .ok (.if_icmp .ne 22, 3)) ∧ (decode cX9_tried 485 = .ok (.aload_n 0, 1)) ∧ (decode cX9_tried 486 = .ok (.aload_n 0, 1)) ∧ (decode cX9_tried 487 = .ok (.getfield 39, 3)) ∧ (decode cX9_tried 490 = .ok (.iload 15, 2)) := by decide +kernel
theorem dX9_tried_478 : decode cX9_tried 478 = .ok (.iload 14, 2) := dX9_tried_478_g.1
theorem dX9_tried_480 : decode cX9_tried 480 = .ok (.iconst 1, 1) := dX9_tried_478_g.2.1
theorem dX9_tried_481 : decode cX9_tried 481 = .ok (.isub, 1) := dX9_tried_478_g.2.2.1
theorem dX9_tried_482 : decode cX9_tried 482 = .ok (.if_icmp .ne 22, 3) := dX9_tried_478_g.2.2.2.1
theorem dX9_tried_485 : decode cX9_tried 485 = .ok (.aload_n 0, 1) := dX9_tried_478_g.2.2.2.2.1
theorem dX9_tried_486 : decode cX9_tried 486 = .ok (.aload_n 0, 1) := dX9_tried_478_g.2.2.2.2.2.1
theorem dX9_tried_487 : decode cX9_tried 487 = .ok (.getfield 39, 3) := dX9_tried_478_g.2.2.2.2.2.2.1
theorem dX9_tried_490 : decode cX9_tried 490 = .ok (.iload 15, 2) := dX9_tried_478_g.2.2.2.2.2.2.2
theorem dX9_tried_492_g : (decode cX9_tried 492 = .ok (.iload 16, 2)) ∧ (decode cX9_tried 494 = .ok (.invokevirtual 188, 3)) ∧ (decode cX9_tried 497 = .ok (.ifCond .ne 7, 3)) ∧ (decode cX9_tried 500 = .ok (.iconst 1, 1)) ∧ (decode cX9_tried 501 = .ok (.goto 4, 3)) ∧ (decode cX9_tried 504 = .ok (.iconst 0, 1)) ∧ (decode cX9_tried 505 = .ok (.istore 17, 2)) ∧ (decode cX9_tried 507 = .ok (.iload 17, 2)) := by decide +kernel
theorem dX9_tried_492 : decode cX9_tried 492 = .ok (.iload 16, 2) := dX9_tried_492_g.1
theorem dX9_tried_494 : decode cX9_tried 494 = .ok (.invokevirtual 188, 3) := dX9_tried_492_g.2.1
theorem dX9_tried_497 : decode cX9_tried 497 = .ok (.ifCond .ne 7, 3) := dX9_tried_492_g.2.2.1
theorem dX9_tried_500 : decode cX9_tried 500 = .ok (.iconst 1, 1) := dX9_tried_492_g.2.2.2.1
theorem dX9_tried_501 : decode cX9_tried 501 = .ok (.goto 4, 3) := dX9_tried_492_g.2.2.2.2.1
theorem dX9_tried_504 : decode cX9_tried 504 = .ok (.iconst 0, 1) := dX9_tried_492_g.2.2.2.2.2.1
theorem dX9_tried_505 : decode cX9_tried 505 = .ok (.istore 17, 2) := dX9_tried_492_g.2.2.2.2.2.2.1
theorem dX9_tried_507 : decode cX9_tried 507 = .ok (.iload 17, 2) := dX9_tried_492_g.2.2.2.2.2.2.2
theorem dX9_tried_509_g : (decode cX9_tried 509 = .ok (.ifCond .ne 12, 3)) ∧ (decode cX9_tried 512 = .ok (.aload_n 0, 1)) ∧ (decode cX9_tried 513 = .ok (.iload 11, 2)) ∧ (decode cX9_tried 515 = .ok (.putfield 130, 3)) ∧ (decode cX9_tried 518 = .ok (.bipush (-2), 2)) ∧ (decode cX9_tried 520 = .ok (.ireturn, 1)) ∧ (decode cX9_tried 521 = .ok (.aload_n 0, 1)) ∧ (decode cX9_tried 522 = .ok (.getfield 39, 3)) := by decide +kernel
theorem dX9_tried_509 : decode cX9_tried 509 = .ok (.ifCond .ne 12, 3) := dX9_tried_509_g.1
theorem dX9_tried_512 : decode cX9_tried 512 = .ok (.aload_n 0, 1) := dX9_tried_509_g.2.1
theorem dX9_tried_513 : decode cX9_tried 513 = .ok (.iload 11, 2) := dX9_tried_509_g.2.2.1
theorem dX9_tried_515 : decode cX9_tried 515 = .ok (.putfield 130, 3) := dX9_tried_509_g.2.2.2.1
theorem dX9_tried_518 : decode cX9_tried 518 = .ok (.bipush (-2), 2) := dX9_tried_509_g.2.2.2.2.1
theorem dX9_tried_520 : decode cX9_tried 520 = .ok (.ireturn, 1) := dX9_tried_509_g.2.2.2.2.2.1
theorem dX9_tried_521 : decode cX9_tried 521 = .ok (.aload_n 0, 1) := dX9_tried_509_g.2.2.2.2.2.2.1
theorem dX9_tried_522 : decode cX9_tried 522 = .ok (.getfield 39, 3) := dX9_tried_509_g.2.2.2.2.2.2.2
theorem dX9_tried_525_g : (decode cX9_tried 525 = .ok (.iload 14, 2)) ∧ (decode cX9_tried 527 = .ok (.iconst 1, 1)) ∧ (decode cX9_tried 528 = .ok (.isub, 1)) ∧ (decode cX9_tried 529 = .ok (.iload 16, 2)) ∧ (decode cX9_tried 531 = .ok (.iastore, 1)) ∧ (decode cX9_tried 532 = .ok (.iinc 11 1, 3)) ∧ (decode cX9_tried 535 = .ok (.goto (-366), 3)) ∧ (decode cX9_tried 538 = .ok (.iconst 0, 1)) := by decide +kernel
theorem dX9_tried_525 : decode cX9_tried 525 = .ok (.iload 14, 2) := dX9_tried_525_g.1
theorem dX9_tried_527 : decode cX9_tried 527 = .ok (.iconst 1, 1) := dX9_tried_525_g.2.1
theorem dX9_tried_528 : decode cX9_tried 528 = .ok (.isub, 1) := dX9_tried_525_g.2.2.1
theorem dX9_tried_529 : decode cX9_tried 529 = .ok (.iload 16, 2) := dX9_tried_525_g.2.2.2.1
theorem dX9_tried_531 : decode cX9_tried 531 = .ok (.iastore, 1) := dX9_tried_525_g.2.2.2.2.1
theorem dX9_tried_532 : decode cX9_tried 532 = .ok (.iinc 11 1, 3) := dX9_tried_525_g.2.2.2.2.2.1
theorem dX9_tried_535 : decode cX9_tried 535 = .ok (.goto (-366), 3) := dX9_tried_525_g.2.2.2.2.2.2.1
theorem dX9_tried_538 : decode cX9_tried 538 = .ok (.iconst 0, 1) := dX9_tried_525_g.2.2.2.2.2.2.2
theorem dX9_tried_539_g : (decode cX9_tried 539 = .ok (.istore 12, 2)) ∧ (decode cX9_tried 541 = .ok (.iload 12, 2)) ∧ (decode cX9_tried 543 = .ok (.iload_n 2, 1)) ∧ (decode cX9_tried 544 = .ok (.if_icmp .ge 24, 3)) ∧ (decode cX9_tried 547 = .ok (.aload_n 0, 1)) ∧ (decode cX9_tried 548 = .ok (.getfield 39, 3)) ∧ (decode cX9_tried 551 = .ok (.iload 12, 2)) ∧ (decode cX9_tried 553 = .ok (.iaload, 1)) := by decide +kernel
theorem dX9_tried_539 : decode cX9_tried 539 = .ok (.istore 12, 2) := dX9_tried_539_g.1
theorem dX9_tried_541 : decode cX9_tried 541 = .ok (.iload 12, 2) := dX9_tried_539_g.2.1
theorem dX9_tried_543 : decode cX9_tried 543 = .ok (.iload_n 2, 1) := dX9_tried_539_g.2.2.1
theorem dX9_tried_544 : decode cX9_tried 544 = .ok (.if_icmp .ge 24, 3) := dX9_tried_539_g.2.2.2.1
theorem dX9_tried_547 : decode cX9_tried 547 = .ok (.aload_n 0, 1) := dX9_tried_539_g.2.2.2.2.1
theorem dX9_tried_548 : decode cX9_tried 548 = .ok (.getfield 39, 3) := dX9_tried_539_g.2.2.2.2.2.1
theorem dX9_tried_551 : decode cX9_tried 551 = .ok (.iload 12, 2) := dX9_tried_539_g.2.2.2.2.2.2.1
theorem dX9_tried_553 : decode cX9_tried 553 = .ok (.iaload, 1) := dX9_tried_539_g.2.2.2.2.2.2.2
theorem dX9_tried_554_g : (decode cX9_tried 554 = .ok (.iload 8, 2)) ∧ (decode cX9_tried 556 = .ok (.if_icmp .eq 6, 3)) ∧ (decode cX9_tried 559 = .ok (.bipush (-3), 2)) ∧ (decode cX9_tried 561 = .ok (.ireturn, 1)) ∧ (decode cX9_tried 562 = .ok (.iinc 12 1, 3)) ∧ (decode cX9_tried 565 = .ok (.goto (-24), 3)) ∧ (decode cX9_tried 568 = .ok (.iload 11, 2)) ∧ (decode cX9_tried 570 = .ok (.ireturn, 1)) := by decide +kernel
theorem dX9_tried_554 : decode cX9_tried 554 = .ok (.iload 8, 2) := dX9_tried_554_g.1
theorem dX9_tried_556 : decode cX9_tried 556 = .ok (.if_icmp .eq 6, 3) := dX9_tried_554_g.2.1
theorem dX9_tried_559 : decode cX9_tried 559 = .ok (.bipush (-3), 2) := dX9_tried_554_g.2.2.1
theorem dX9_tried_561 : decode cX9_tried 561 = .ok (.ireturn, 1) := dX9_tried_554_g.2.2.2.1
theorem dX9_tried_562 : decode cX9_tried 562 = .ok (.iinc 12 1, 3) := dX9_tried_554_g.2.2.2.2.1
theorem dX9_tried_565 : decode cX9_tried 565 = .ok (.goto (-24), 3) := dX9_tried_554_g.2.2.2.2.2.1
theorem dX9_tried_568 : decode cX9_tried 568 = .ok (.iload 11, 2) := dX9_tried_554_g.2.2.2.2.2.2.1
theorem dX9_tried_570 : decode cX9_tried 570 = .ok (.ireturn, 1) := dX9_tried_554_g.2.2.2.2.2.2.2
theorem dX9_failed_0_g : (decode cX9_failed 0 = .ok (.aload_n 0, 1)) ∧ (decode cX9_failed 1 = .ok (.iconst 0, 1)) ∧ (decode cX9_failed 2 = .ok (.putfield 133, 3)) ∧ (decode cX9_failed 5 = .ok (.aload_n 0, 1)) ∧ (decode cX9_failed 6 = .ok (.getfield 130, 3)) ∧ (decode cX9_failed 9 = .ok (.ireturn, 1)) := by decide +kernel
theorem dX9_failed_0 : decode cX9_failed 0 = .ok (.aload_n 0, 1) := dX9_failed_0_g.1
theorem dX9_failed_1 : decode cX9_failed 1 = .ok (.iconst 0, 1) := dX9_failed_0_g.2.1
theorem dX9_failed_2 : decode cX9_failed 2 = .ok (.putfield 133, 3) := dX9_failed_0_g.2.2.1
theorem dX9_failed_5 : decode cX9_failed 5 = .ok (.aload_n 0, 1) := dX9_failed_0_g.2.2.2.1
theorem dX9_failed_6 : decode cX9_failed 6 = .ok (.getfield 130, 3) := dX9_failed_0_g.2.2.2.2.1
theorem dX9_failed_9 : decode cX9_failed 9 = .ok (.ireturn, 1) := dX9_failed_0_g.2.2.2.2.2
theorem dX9_trouble_0_g : (decode cX9_trouble 0 = .ok (.aload_n 0, 1)) ∧ (decode cX9_trouble 1 = .ok (.iconst 0, 1)) ∧ (decode cX9_trouble 2 = .ok (.putfield 133, 3)) ∧ (decode cX9_trouble 5 = .ok (.aload_n 0, 1)) ∧ (decode cX9_trouble 6 = .ok (.getfield 136, 3)) ∧ (decode cX9_trouble 9 = .ok (.ireturn, 1)) := by decide +kernel
theorem dX9_trouble_0 : decode cX9_trouble 0 = .ok (.aload_n 0, 1) := dX9_trouble_0_g.1
theorem dX9_trouble_1 : decode cX9_trouble 1 = .ok (.iconst 0, 1) := dX9_trouble_0_g.2.1
theorem dX9_trouble_2 : decode cX9_trouble 2 = .ok (.putfield 133, 3) := dX9_trouble_0_g.2.2.1
theorem dX9_trouble_5 : decode cX9_trouble 5 = .ok (.aload_n 0, 1) := dX9_trouble_0_g.2.2.2.1
theorem dX9_trouble_6 : decode cX9_trouble 6 = .ok (.getfield 136, 3) := dX9_trouble_0_g.2.2.2.2.1
theorem dX9_trouble_9 : decode cX9_trouble 9 = .ok (.ireturn, 1) := dX9_trouble_0_g.2.2.2.2.2
theorem dX9_size_0_g : (decode cX9_size 0 = .ok (.aload_n 0, 1)) ∧ (decode cX9_size 1 = .ok (.iconst 0, 1)) ∧ (decode cX9_size 2 = .ok (.putfield 133, 3)) ∧ (decode cX9_size 5 = .ok (.iload_n 1, 1)) ∧ (decode cX9_size 6 = .ok (.tableswitch 113 0 7 #[46, 51, 56, 61, 66, 71, 76, 81], 46)) ∧ (decode cX9_size 52 = .ok (.aload_n 0, 1)) ∧ (decode cX9_size 53 = .ok (.getfield 7, 3)) ∧ (decode cX9_size 56 = .ok (.ireturn, 1)) := by decide +kernel
theorem dX9_size_0 : decode cX9_size 0 = .ok (.aload_n 0, 1) := dX9_size_0_g.1
theorem dX9_size_1 : decode cX9_size 1 = .ok (.iconst 0, 1) := dX9_size_0_g.2.1
theorem dX9_size_2 : decode cX9_size 2 = .ok (.putfield 133, 3) := dX9_size_0_g.2.2.1
theorem dX9_size_5 : decode cX9_size 5 = .ok (.iload_n 1, 1) := dX9_size_0_g.2.2.2.1
theorem dX9_size_6 : decode cX9_size 6 = .ok (.tableswitch 113 0 7 #[46, 51, 56, 61, 66, 71, 76, 81], 46) := dX9_size_0_g.2.2.2.2.1
theorem dX9_size_52 : decode cX9_size 52 = .ok (.aload_n 0, 1) := dX9_size_0_g.2.2.2.2.2.1
theorem dX9_size_53 : decode cX9_size 53 = .ok (.getfield 7, 3) := dX9_size_0_g.2.2.2.2.2.2.1
theorem dX9_size_56 : decode cX9_size 56 = .ok (.ireturn, 1) := dX9_size_0_g.2.2.2.2.2.2.2
theorem dX9_size_57_g : (decode cX9_size 57 = .ok (.aload_n 0, 1)) ∧ (decode cX9_size 58 = .ok (.getfield 13, 3)) ∧ (decode cX9_size 61 = .ok (.ireturn, 1)) ∧ (decode cX9_size 62 = .ok (.aload_n 0, 1)) ∧ (decode cX9_size 63 = .ok (.invokevirtual 173, 3)) ∧ (decode cX9_size 66 = .ok (.ireturn, 1)) ∧ (decode cX9_size 67 = .ok (.aload_n 0, 1)) ∧ (decode cX9_size 68 = .ok (.getfield 239, 3)) := by decide +kernel
theorem dX9_size_57 : decode cX9_size 57 = .ok (.aload_n 0, 1) := dX9_size_57_g.1
theorem dX9_size_58 : decode cX9_size 58 = .ok (.getfield 13, 3) := dX9_size_57_g.2.1
theorem dX9_size_61 : decode cX9_size 61 = .ok (.ireturn, 1) := dX9_size_57_g.2.2.1
theorem dX9_size_62 : decode cX9_size 62 = .ok (.aload_n 0, 1) := dX9_size_57_g.2.2.2.1
theorem dX9_size_63 : decode cX9_size 63 = .ok (.invokevirtual 173, 3) := dX9_size_57_g.2.2.2.2.1
theorem dX9_size_66 : decode cX9_size 66 = .ok (.ireturn, 1) := dX9_size_57_g.2.2.2.2.2.1
theorem dX9_size_67 : decode cX9_size 67 = .ok (.aload_n 0, 1) := dX9_size_57_g.2.2.2.2.2.2.1
theorem dX9_size_68 : decode cX9_size 68 = .ok (.getfield 239, 3) := dX9_size_57_g.2.2.2.2.2.2.2
theorem dX9_size_71_g : (decode cX9_size 71 = .ok (.ireturn, 1)) ∧ (decode cX9_size 72 = .ok (.aload_n 0, 1)) ∧ (decode cX9_size 73 = .ok (.getfield 143, 3)) ∧ (decode cX9_size 76 = .ok (.ireturn, 1)) ∧ (decode cX9_size 77 = .ok (.aload_n 0, 1)) ∧ (decode cX9_size 78 = .ok (.getfield 146, 3)) ∧ (decode cX9_size 81 = .ok (.ireturn, 1)) ∧ (decode cX9_size 82 = .ok (.aload_n 0, 1)) := by decide +kernel
theorem dX9_size_71 : decode cX9_size 71 = .ok (.ireturn, 1) := dX9_size_71_g.1
theorem dX9_size_72 : decode cX9_size 72 = .ok (.aload_n 0, 1) := dX9_size_71_g.2.1
theorem dX9_size_73 : decode cX9_size 73 = .ok (.getfield 143, 3) := dX9_size_71_g.2.2.1
theorem dX9_size_76 : decode cX9_size 76 = .ok (.ireturn, 1) := dX9_size_71_g.2.2.2.1
theorem dX9_size_77 : decode cX9_size 77 = .ok (.aload_n 0, 1) := dX9_size_71_g.2.2.2.2.1
theorem dX9_size_78 : decode cX9_size 78 = .ok (.getfield 146, 3) := dX9_size_71_g.2.2.2.2.2.1
theorem dX9_size_81 : decode cX9_size 81 = .ok (.ireturn, 1) := dX9_size_71_g.2.2.2.2.2.2.1
theorem dX9_size_82 : decode cX9_size 82 = .ok (.aload_n 0, 1) := dX9_size_71_g.2.2.2.2.2.2.2
theorem dX9_size_83_g : (decode cX9_size 83 = .ok (.getfield 226, 3)) ∧ (decode cX9_size 86 = .ok (.ireturn, 1)) ∧ (decode cX9_size 87 = .ok (.iconst 0, 1)) ∧ (decode cX9_size 88 = .ok (.istore_n 2, 1)) ∧ (decode cX9_size 89 = .ok (.aload_n 0, 1)) ∧ (decode cX9_size 90 = .ok (.getfield 13, 3)) ∧ (decode cX9_size 93 = .ok (.iconst 1, 1)) ∧ (decode cX9_size 94 = .ok (.isub, 1)) := by decide +kernel
theorem dX9_size_83 : decode cX9_size 83 = .ok (.getfield 226, 3) := dX9_size_83_g.1
theorem dX9_size_86 : decode cX9_size 86 = .ok (.ireturn, 1) := dX9_size_83_g.2.1
theorem dX9_size_87 : decode cX9_size 87 = .ok (.iconst 0, 1) := dX9_size_83_g.2.2.1
theorem dX9_size_88 : decode cX9_size 88 = .ok (.istore_n 2, 1) := dX9_size_83_g.2.2.2.1
theorem dX9_size_89 : decode cX9_size 89 = .ok (.aload_n 0, 1) := dX9_size_83_g.2.2.2.2.1
theorem dX9_size_90 : decode cX9_size 90 = .ok (.getfield 13, 3) := dX9_size_83_g.2.2.2.2.2.1
theorem dX9_size_93 : decode cX9_size 93 = .ok (.iconst 1, 1) := dX9_size_83_g.2.2.2.2.2.2.1
theorem dX9_size_94 : decode cX9_size 94 = .ok (.isub, 1) := dX9_size_83_g.2.2.2.2.2.2.2
theorem dX9_size_95_g : (decode cX9_size 95 = .ok (.istore_n 3, 1)) ∧ (decode cX9_size 96 = .ok (.iload_n 3, 1)) ∧ (decode cX9_size 97 = .ok (.ifCond .lt 20, 3)) ∧ (decode cX9_size 100 = .ok (.iconst 4, 1)) ∧ (decode cX9_size 101 = .ok (.iload_n 2, 1)) ∧ (decode cX9_size 102 = .ok (.imul, 1)) ∧ (decode cX9_size 103 = .ok (.aload_n 0, 1)) ∧ (decode cX9_size 104 = .ok (.getfield 16, 3)) := by decide +kernel
theorem dX9_size_95 : decode cX9_size 95 = .ok (.istore_n 3, 1) := dX9_size_95_g.1
theorem dX9_size_96 : decode cX9_size 96 = .ok (.iload_n 3, 1) := dX9_size_95_g.2.1
theorem dX9_size_97 : decode cX9_size 97 = .ok (.ifCond .lt 20, 3) := dX9_size_95_g.2.2.1
theorem dX9_size_100 : decode cX9_size 100 = .ok (.iconst 4, 1) := dX9_size_95_g.2.2.2.1
theorem dX9_size_101 : decode cX9_size 101 = .ok (.iload_n 2, 1) := dX9_size_95_g.2.2.2.2.1
theorem dX9_size_102 : decode cX9_size 102 = .ok (.imul, 1) := dX9_size_95_g.2.2.2.2.2.1
theorem dX9_size_103 : decode cX9_size 103 = .ok (.aload_n 0, 1) := dX9_size_95_g.2.2.2.2.2.2.1
theorem dX9_size_104 : decode cX9_size 104 = .ok (.getfield 16, 3) := dX9_size_95_g.2.2.2.2.2.2.2
theorem dX9_size_107_g : (decode cX9_size 107 = .ok (.iload_n 3, 1)) ∧ (decode cX9_size 108 = .ok (.iaload, 1)) ∧ (decode cX9_size 109 = .ok (.iadd, 1)) ∧ (decode cX9_size 110 = .ok (.istore_n 2, 1)) ∧ (decode cX9_size 111 = .ok (.iinc 3 (-1), 3)) ∧ (decode cX9_size 114 = .ok (.goto (-18), 3)) ∧ (decode cX9_size 117 = .ok (.iload_n 2, 1)) ∧ (decode cX9_size 118 = .ok (.ireturn, 1)) := by decide +kernel
theorem dX9_size_107 : decode cX9_size 107 = .ok (.iload_n 3, 1) := dX9_size_107_g.1
theorem dX9_size_108 : decode cX9_size 108 = .ok (.iaload, 1) := dX9_size_107_g.2.1
theorem dX9_size_109 : decode cX9_size 109 = .ok (.iadd, 1) := dX9_size_107_g.2.2.1
theorem dX9_size_110 : decode cX9_size 110 = .ok (.istore_n 2, 1) := dX9_size_107_g.2.2.2.1
theorem dX9_size_111 : decode cX9_size 111 = .ok (.iinc 3 (-1), 3) := dX9_size_107_g.2.2.2.2.1
theorem dX9_size_114 : decode cX9_size 114 = .ok (.goto (-18), 3) := dX9_size_107_g.2.2.2.2.2.1
theorem dX9_size_117 : decode cX9_size 117 = .ok (.iload_n 2, 1) := dX9_size_107_g.2.2.2.2.2.2.1
theorem dX9_size_118 : decode cX9_size 118 = .ok (.ireturn, 1) := dX9_size_107_g.2.2.2.2.2.2.2
theorem dX9_size_119_g : (decode cX9_size 119 = .ok (.iconst (-1), 1)) ∧ (decode cX9_size 120 = .ok (.ireturn, 1)) := by decide +kernel
theorem dX9_size_119 : decode cX9_size 119 = .ok (.iconst (-1), 1) := dX9_size_119_g.1
theorem dX9_size_120 : decode cX9_size 120 = .ok (.ireturn, 1) := dX9_size_119_g.2
