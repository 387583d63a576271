theorem dl_0_g : (decode code 0 = .ok (.new 7, 3)) ∧ (decode code 3 = .ok (.dup, 1)) ∧ (decode code 4 = .ok (.invokespecial 9, 3)) ∧ (decode code 7 = .ok (.astore_n 1, 1)) ∧ (decode code 8 = .ok (.new 10, 3)) ∧ (decode code 11 = .ok (.dup, 1)) ∧ (decode code 12 = .ok (.invokespecial 12, 3)) ∧ (decode code 15 = .ok (.astore_n 2, 1)) := by decide +kernel
theorem dl_0 : decode code 0 = .ok (.new 7, 3) := dl_0_g.1
theorem dl_3 : decode code 3 = .ok (.dup, 1) := dl_0_g.2.1
theorem dl_4 : decode code 4 = .ok (.invokespecial 9, 3) := dl_0_g.2.2.1
theorem dl_7 : decode code 7 = .ok (.astore_n 1, 1) := dl_0_g.2.2.2.1
theorem dl_8 : decode code 8 = .ok (.new 10, 3) := dl_0_g.2.2.2.2.1
theorem dl_11 : decode code 11 = .ok (.dup, 1) := dl_0_g.2.2.2.2.2.1
theorem dl_12 : decode code 12 = .ok (.invokespecial 12, 3) := dl_0_g.2.2.2.2.2.2.1
theorem dl_15 : decode code 15 = .ok (.astore_n 2, 1) := dl_0_g.2.2.2.2.2.2.2
theorem dl_16_g : (decode code 16 = .ok (.iconst 0, 1)) ∧ (decode code 17 = .ok (.istore_n 3, 1)) ∧ (decode code 18 = .ok (.iload_n 3, 1)) ∧ (decode code 19 = .ok (.aload_n 0, 1)) ∧ (decode code 20 = .ok (.arraylength, 1)) ∧ (decode code 21 = .ok (.bipush 9, 2)) ∧ (decode code 23 = .ok (.isub, 1)) ∧ (decode code 24 = .ok (.if_icmp .gt 1112, 3)) := by decide +kernel
theorem dl_16 : decode code 16 = .ok (.iconst 0, 1) := dl_16_g.1
theorem dl_17 : decode code 17 = .ok (.istore_n 3, 1) := dl_16_g.2.1
theorem dl_18 : decode code 18 = .ok (.iload_n 3, 1) := dl_16_g.2.2.1
theorem dl_19 : decode code 19 = .ok (.aload_n 0, 1) := dl_16_g.2.2.2.1
theorem dl_20 : decode code 20 = .ok (.arraylength, 1) := dl_16_g.2.2.2.2.1
theorem dl_21 : decode code 21 = .ok (.bipush 9, 2) := dl_16_g.2.2.2.2.2.1
theorem dl_23 : decode code 23 = .ok (.isub, 1) := dl_16_g.2.2.2.2.2.2.1
theorem dl_24 : decode code 24 = .ok (.if_icmp .gt 1112, 3) := dl_16_g.2.2.2.2.2.2.2
theorem dl_27_g : (decode code 27 = .ok (.aload_n 0, 1)) ∧ (decode code 28 = .ok (.iload_n 3, 1)) ∧ (decode code 29 = .ok (.iaload, 1)) ∧ (decode code 30 = .ok (.bipush 31, 2)) ∧ (decode code 32 = .ok (.iand, 1)) ∧ (decode code 33 = .ok (.tableswitch 1097 0 31 #[143, 176, 209, 278, 291, 324, 373, 412, 435, 468, 501, 534, 547, 560, 573, 586, 599, 622, 635, 648, 661, 674, 697, 760, 773, 786, 829, 928, 961, 1048, 1061, 1074], 143)) ∧ (decode code 176 = .ok (.aload_n 1, 1)) ∧ (decode code 177 = .ok (.aload_n 0, 1)) := by decide +kernel
theorem dl_27 : decode code 27 = .ok (.aload_n 0, 1) := dl_27_g.1
theorem dl_28 : decode code 28 = .ok (.iload_n 3, 1) := dl_27_g.2.1
theorem dl_29 : decode code 29 = .ok (.iaload, 1) := dl_27_g.2.2.1
theorem dl_30 : decode code 30 = .ok (.bipush 31, 2) := dl_27_g.2.2.2.1
theorem dl_32 : decode code 32 = .ok (.iand, 1) := dl_27_g.2.2.2.2.1
theorem dl_33 : decode code 33 = .ok (.tableswitch 1097 0 31 #[143, 176, 209, 278, 291, 324, 373, 412, 435, 468, 501, 534, 547, 560, 573, 586, 599, 622, 635, 648, 661, 674, 697, 760, 773, 786, 829, 928, 961, 1048, 1061, 1074], 143) := dl_27_g.2.2.2.2.2.1
theorem dl_176 : decode code 176 = .ok (.aload_n 1, 1) := dl_27_g.2.2.2.2.2.2.1
theorem dl_177 : decode code 177 = .ok (.aload_n 0, 1) := dl_27_g.2.2.2.2.2.2.2
theorem dl_178_g : (decode code 178 = .ok (.iload_n 3, 1)) ∧ (decode code 179 = .ok (.iconst 1, 1)) ∧ (decode code 180 = .ok (.iadd, 1)) ∧ (decode code 181 = .ok (.iaload, 1)) ∧ (decode code 182 = .ok (.aload_n 0, 1)) ∧ (decode code 183 = .ok (.iload_n 3, 1)) ∧ (decode code 184 = .ok (.iconst 2, 1)) ∧ (decode code 185 = .ok (.iadd, 1)) := by decide +kernel
theorem dl_178 : decode code 178 = .ok (.iload_n 3, 1) := dl_178_g.1
theorem dl_179 : decode code 179 = .ok (.iconst 1, 1) := dl_178_g.2.1
theorem dl_180 : decode code 180 = .ok (.iadd, 1) := dl_178_g.2.2.1
theorem dl_181 : decode code 181 = .ok (.iaload, 1) := dl_178_g.2.2.2.1
theorem dl_182 : decode code 182 = .ok (.aload_n 0, 1) := dl_178_g.2.2.2.2.1
theorem dl_183 : decode code 183 = .ok (.iload_n 3, 1) := dl_178_g.2.2.2.2.2.1
theorem dl_184 : decode code 184 = .ok (.iconst 2, 1) := dl_178_g.2.2.2.2.2.2.1
theorem dl_185 : decode code 185 = .ok (.iadd, 1) := dl_178_g.2.2.2.2.2.2.2
theorem dl_186_g : (decode code 186 = .ok (.iaload, 1)) ∧ (decode code 187 = .ok (.invokevirtual 13, 3)) ∧ (decode code 190 = .ok (.pop, 1)) ∧ (decode code 191 = .ok (.aload_n 2, 1)) ∧ (decode code 192 = .ok (.aload_n 0, 1)) ∧ (decode code 193 = .ok (.iload_n 3, 1)) ∧ (decode code 194 = .ok (.iconst 1, 1)) ∧ (decode code 195 = .ok (.iadd, 1)) := by decide +kernel
theorem dl_186 : decode code 186 = .ok (.iaload, 1) := dl_186_g.1
theorem dl_187 : decode code 187 = .ok (.invokevirtual 13, 3) := dl_186_g.2.1
theorem dl_190 : decode code 190 = .ok (.pop, 1) := dl_186_g.2.2.1
theorem dl_191 : decode code 191 = .ok (.aload_n 2, 1) := dl_186_g.2.2.2.1
theorem dl_192 : decode code 192 = .ok (.aload_n 0, 1) := dl_186_g.2.2.2.2.1
theorem dl_193 : decode code 193 = .ok (.iload_n 3, 1) := dl_186_g.2.2.2.2.2.1
theorem dl_194 : decode code 194 = .ok (.iconst 1, 1) := dl_186_g.2.2.2.2.2.2.1
theorem dl_195 : decode code 195 = .ok (.iadd, 1) := dl_186_g.2.2.2.2.2.2.2
theorem dl_196_g : (decode code 196 = .ok (.iaload, 1)) ∧ (decode code 197 = .ok (.aload_n 0, 1)) ∧ (decode code 198 = .ok (.iload_n 3, 1)) ∧ (decode code 199 = .ok (.iconst 2, 1)) ∧ (decode code 200 = .ok (.iadd, 1)) ∧ (decode code 201 = .ok (.iaload, 1)) ∧ (decode code 202 = .ok (.invokevirtual 17, 3)) ∧ (decode code 205 = .ok (.pop, 1)) := by decide +kernel
theorem dl_196 : decode code 196 = .ok (.iaload, 1) := dl_196_g.1
theorem dl_197 : decode code 197 = .ok (.aload_n 0, 1) := dl_196_g.2.1
theorem dl_198 : decode code 198 = .ok (.iload_n 3, 1) := dl_196_g.2.2.1
theorem dl_199 : decode code 199 = .ok (.iconst 2, 1) := dl_196_g.2.2.2.1
theorem dl_200 : decode code 200 = .ok (.iadd, 1) := dl_196_g.2.2.2.2.1
theorem dl_201 : decode code 201 = .ok (.iaload, 1) := dl_196_g.2.2.2.2.2.1
theorem dl_202 : decode code 202 = .ok (.invokevirtual 17, 3) := dl_196_g.2.2.2.2.2.2.1
theorem dl_205 : decode code 205 = .ok (.pop, 1) := dl_196_g.2.2.2.2.2.2.2
theorem dl_206_g : (decode code 206 = .ok (.goto 924, 3)) ∧ (decode code 209 = .ok (.aload_n 1, 1)) ∧ (decode code 210 = .ok (.aload_n 0, 1)) ∧ (decode code 211 = .ok (.iload_n 3, 1)) ∧ (decode code 212 = .ok (.iconst 1, 1)) ∧ (decode code 213 = .ok (.iadd, 1)) ∧ (decode code 214 = .ok (.iaload, 1)) ∧ (decode code 215 = .ok (.aload_n 0, 1)) := by decide +kernel
theorem dl_206 : decode code 206 = .ok (.goto 924, 3) := dl_206_g.1
theorem dl_209 : decode code 209 = .ok (.aload_n 1, 1) := dl_206_g.2.1
theorem dl_210 : decode code 210 = .ok (.aload_n 0, 1) := dl_206_g.2.2.1
theorem dl_211 : decode code 211 = .ok (.iload_n 3, 1) := dl_206_g.2.2.2.1
theorem dl_212 : decode code 212 = .ok (.iconst 1, 1) := dl_206_g.2.2.2.2.1
theorem dl_213 : decode code 213 = .ok (.iadd, 1) := dl_206_g.2.2.2.2.2.1
theorem dl_214 : decode code 214 = .ok (.iaload, 1) := dl_206_g.2.2.2.2.2.2.1
theorem dl_215 : decode code 215 = .ok (.aload_n 0, 1) := dl_206_g.2.2.2.2.2.2.2
theorem dl_216_g : (decode code 216 = .ok (.iload_n 3, 1)) ∧ (decode code 217 = .ok (.iconst 2, 1)) ∧ (decode code 218 = .ok (.iadd, 1)) ∧ (decode code 219 = .ok (.iaload, 1)) ∧ (decode code 220 = .ok (.invokevirtual 18, 3)) ∧ (decode code 223 = .ok (.pop, 1)) ∧ (decode code 224 = .ok (.aload_n 2, 1)) ∧ (decode code 225 = .ok (.aload_n 0, 1)) := by decide +kernel
theorem dl_216 : decode code 216 = .ok (.iload_n 3, 1) := dl_216_g.1
theorem dl_217 : decode code 217 = .ok (.iconst 2, 1) := dl_216_g.2.1
theorem dl_218 : decode code 218 = .ok (.iadd, 1) := dl_216_g.2.2.1
theorem dl_219 : decode code 219 = .ok (.iaload, 1) := dl_216_g.2.2.2.1
theorem dl_220 : decode code 220 = .ok (.invokevirtual 18, 3) := dl_216_g.2.2.2.2.1
theorem dl_223 : decode code 223 = .ok (.pop, 1) := dl_216_g.2.2.2.2.2.1
theorem dl_224 : decode code 224 = .ok (.aload_n 2, 1) := dl_216_g.2.2.2.2.2.2.1
theorem dl_225 : decode code 225 = .ok (.aload_n 0, 1) := dl_216_g.2.2.2.2.2.2.2
theorem dl_226_g : (decode code 226 = .ok (.iload_n 3, 1)) ∧ (decode code 227 = .ok (.iconst 1, 1)) ∧ (decode code 228 = .ok (.iadd, 1)) ∧ (decode code 229 = .ok (.iaload, 1)) ∧ (decode code 230 = .ok (.aload_n 0, 1)) ∧ (decode code 231 = .ok (.iload_n 3, 1)) ∧ (decode code 232 = .ok (.iconst 2, 1)) ∧ (decode code 233 = .ok (.iadd, 1)) := by decide +kernel
theorem dl_226 : decode code 226 = .ok (.iload_n 3, 1) := dl_226_g.1
theorem dl_227 : decode code 227 = .ok (.iconst 1, 1) := dl_226_g.2.1
theorem dl_228 : decode code 228 = .ok (.iadd, 1) := dl_226_g.2.2.1
theorem dl_229 : decode code 229 = .ok (.iaload, 1) := dl_226_g.2.2.2.1
theorem dl_230 : decode code 230 = .ok (.aload_n 0, 1) := dl_226_g.2.2.2.2.1
theorem dl_231 : decode code 231 = .ok (.iload_n 3, 1) := dl_226_g.2.2.2.2.2.1
theorem dl_232 : decode code 232 = .ok (.iconst 2, 1) := dl_226_g.2.2.2.2.2.2.1
theorem dl_233 : decode code 233 = .ok (.iadd, 1) := dl_226_g.2.2.2.2.2.2.2
theorem dl_234_g : (decode code 234 = .ok (.iaload, 1)) ∧ (decode code 235 = .ok (.invokevirtual 21, 3)) ∧ (decode code 238 = .ok (.pop, 1)) ∧ (decode code 239 = .ok (.goto 891, 3)) ∧ (decode code 242 = .ok (.aload_n 1, 1)) ∧ (decode code 243 = .ok (.aload_n 0, 1)) ∧ (decode code 244 = .ok (.iload_n 3, 1)) ∧ (decode code 245 = .ok (.iconst 1, 1)) := by decide +kernel
theorem dl_234 : decode code 234 = .ok (.iaload, 1) := dl_234_g.1
theorem dl_235 : decode code 235 = .ok (.invokevirtual 21, 3) := dl_234_g.2.1
theorem dl_238 : decode code 238 = .ok (.pop, 1) := dl_234_g.2.2.1
theorem dl_239 : decode code 239 = .ok (.goto 891, 3) := dl_234_g.2.2.2.1
theorem dl_242 : decode code 242 = .ok (.aload_n 1, 1) := dl_234_g.2.2.2.2.1
theorem dl_243 : decode code 243 = .ok (.aload_n 0, 1) := dl_234_g.2.2.2.2.2.1
theorem dl_244 : decode code 244 = .ok (.iload_n 3, 1) := dl_234_g.2.2.2.2.2.2.1
theorem dl_245 : decode code 245 = .ok (.iconst 1, 1) := dl_234_g.2.2.2.2.2.2.2
theorem dl_246_g : (decode code 246 = .ok (.iadd, 1)) ∧ (decode code 247 = .ok (.iaload, 1)) ∧ (decode code 248 = .ok (.aload_n 0, 1)) ∧ (decode code 249 = .ok (.iload_n 3, 1)) ∧ (decode code 250 = .ok (.iconst 2, 1)) ∧ (decode code 251 = .ok (.iadd, 1)) ∧ (decode code 252 = .ok (.iaload, 1)) ∧ (decode code 253 = .ok (.aload_n 0, 1)) := by decide +kernel
theorem dl_246 : decode code 246 = .ok (.iadd, 1) := dl_246_g.1
theorem dl_247 : decode code 247 = .ok (.iaload, 1) := dl_246_g.2.1
theorem dl_248 : decode code 248 = .ok (.aload_n 0, 1) := dl_246_g.2.2.1
theorem dl_249 : decode code 249 = .ok (.iload_n 3, 1) := dl_246_g.2.2.2.1
theorem dl_250 : decode code 250 = .ok (.iconst 2, 1) := dl_246_g.2.2.2.2.1
theorem dl_251 : decode code 251 = .ok (.iadd, 1) := dl_246_g.2.2.2.2.2.1
theorem dl_252 : decode code 252 = .ok (.iaload, 1) := dl_246_g.2.2.2.2.2.2.1
theorem dl_253 : decode code 253 = .ok (.aload_n 0, 1) := dl_246_g.2.2.2.2.2.2.2
theorem dl_254_g : (decode code 254 = .ok (.iload_n 3, 1)) ∧ (decode code 255 = .ok (.iconst 3, 1)) ∧ (decode code 256 = .ok (.iadd, 1)) ∧ (decode code 257 = .ok (.iaload, 1)) ∧ (decode code 258 = .ok (.aload_n 0, 1)) ∧ (decode code 259 = .ok (.iload_n 3, 1)) ∧ (decode code 260 = .ok (.iconst 4, 1)) ∧ (decode code 261 = .ok (.iadd, 1)) := by decide +kernel
theorem dl_254 : decode code 254 = .ok (.iload_n 3, 1) := dl_254_g.1
theorem dl_255 : decode code 255 = .ok (.iconst 3, 1) := dl_254_g.2.1
theorem dl_256 : decode code 256 = .ok (.iadd, 1) := dl_254_g.2.2.1
theorem dl_257 : decode code 257 = .ok (.iaload, 1) := dl_254_g.2.2.2.1
theorem dl_258 : decode code 258 = .ok (.aload_n 0, 1) := dl_254_g.2.2.2.2.1
theorem dl_259 : decode code 259 = .ok (.iload_n 3, 1) := dl_254_g.2.2.2.2.2.1
theorem dl_260 : decode code 260 = .ok (.iconst 4, 1) := dl_254_g.2.2.2.2.2.2.1
theorem dl_261 : decode code 261 = .ok (.iadd, 1) := dl_254_g.2.2.2.2.2.2.2
theorem dl_262_g : (decode code 262 = .ok (.iaload, 1)) ∧ (decode code 263 = .ok (.ifCond .eq 7, 3)) ∧ (decode code 266 = .ok (.iconst 1, 1)) ∧ (decode code 267 = .ok (.goto 4, 3)) ∧ (decode code 270 = .ok (.iconst 0, 1)) ∧ (decode code 271 = .ok (.invokevirtual 22, 3)) ∧ (decode code 274 = .ok (.pop, 1)) ∧ (decode code 275 = .ok (.aload_n 2, 1)) := by decide +kernel
theorem dl_262 : decode code 262 = .ok (.iaload, 1) := dl_262_g.1
theorem dl_263 : decode code 263 = .ok (.ifCond .eq 7, 3) := dl_262_g.2.1
theorem dl_266 : decode code 266 = .ok (.iconst 1, 1) := dl_262_g.2.2.1
theorem dl_267 : decode code 267 = .ok (.goto 4, 3) := dl_262_g.2.2.2.1
theorem dl_270 : decode code 270 = .ok (.iconst 0, 1) := dl_262_g.2.2.2.2.1
theorem dl_271 : decode code 271 = .ok (.invokevirtual 22, 3) := dl_262_g.2.2.2.2.2.1
theorem dl_274 : decode code 274 = .ok (.pop, 1) := dl_262_g.2.2.2.2.2.2.1
theorem dl_275 : decode code 275 = .ok (.aload_n 2, 1) := dl_262_g.2.2.2.2.2.2.2
theorem dl_276_g : (decode code 276 = .ok (.aload_n 0, 1)) ∧ (decode code 277 = .ok (.iload_n 3, 1)) ∧ (decode code 278 = .ok (.iconst 1, 1)) ∧ (decode code 279 = .ok (.iadd, 1)) ∧ (decode code 280 = .ok (.iaload, 1)) ∧ (decode code 281 = .ok (.aload_n 0, 1)) ∧ (decode code 282 = .ok (.iload_n 3, 1)) ∧ (decode code 283 = .ok (.iconst 2, 1)) := by decide +kernel
theorem dl_276 : decode code 276 = .ok (.aload_n 0, 1) := dl_276_g.1
theorem dl_277 : decode code 277 = .ok (.iload_n 3, 1) := dl_276_g.2.1
theorem dl_278 : decode code 278 = .ok (.iconst 1, 1) := dl_276_g.2.2.1
theorem dl_279 : decode code 279 = .ok (.iadd, 1) := dl_276_g.2.2.2.1
theorem dl_280 : decode code 280 = .ok (.iaload, 1) := dl_276_g.2.2.2.2.1
theorem dl_281 : decode code 281 = .ok (.aload_n 0, 1) := dl_276_g.2.2.2.2.2.1
theorem dl_282 : decode code 282 = .ok (.iload_n 3, 1) := dl_276_g.2.2.2.2.2.2.1
theorem dl_283 : decode code 283 = .ok (.iconst 2, 1) := dl_276_g.2.2.2.2.2.2.2
theorem dl_284_g : (decode code 284 = .ok (.iadd, 1)) ∧ (decode code 285 = .ok (.iaload, 1)) ∧ (decode code 286 = .ok (.aload_n 0, 1)) ∧ (decode code 287 = .ok (.iload_n 3, 1)) ∧ (decode code 288 = .ok (.iconst 3, 1)) ∧ (decode code 289 = .ok (.iadd, 1)) ∧ (decode code 290 = .ok (.iaload, 1)) ∧ (decode code 291 = .ok (.aload_n 0, 1)) := by decide +kernel
theorem dl_284 : decode code 284 = .ok (.iadd, 1) := dl_284_g.1
theorem dl_285 : decode code 285 = .ok (.iaload, 1) := dl_284_g.2.1
theorem dl_286 : decode code 286 = .ok (.aload_n 0, 1) := dl_284_g.2.2.1
theorem dl_287 : decode code 287 = .ok (.iload_n 3, 1) := dl_284_g.2.2.2.1
theorem dl_288 : decode code 288 = .ok (.iconst 3, 1) := dl_284_g.2.2.2.2.1
theorem dl_289 : decode code 289 = .ok (.iadd, 1) := dl_284_g.2.2.2.2.2.1
theorem dl_290 : decode code 290 = .ok (.iaload, 1) := dl_284_g.2.2.2.2.2.2.1
theorem dl_291 : decode code 291 = .ok (.aload_n 0, 1) := dl_284_g.2.2.2.2.2.2.2
