section
set_option maxRecDepth 16384
theorem dqw_cL_law_0 : dqLF cL_law 0 [187, 0, 7, 89, 183, 0, 9, 76, 187, 0, 10, 89, 183, 0, 12, 77, 3, 62, 29, 42, 190, 16, 6, 100] := by decide +kernel
theorem dL_law_0 : decode cL_law 0 = .ok (.new 7, 3) := dqr2 dqK_187 dqw_cL_law_0 0 rfl rfl rfl rfl rfl
theorem dL_law_3 : decode cL_law 3 = .ok (.dup, 1) := dqr0 dqK_89 dqw_cL_law_0 3 rfl rfl
theorem dL_law_4 : decode cL_law 4 = .ok (.invokespecial 9, 3) := dqr2 dqK_183 dqw_cL_law_0 4 rfl rfl rfl rfl rfl
theorem dL_law_7 : decode cL_law 7 = .ok (.astore_n 1, 1) := dqr0 dqK_76 dqw_cL_law_0 7 rfl rfl
theorem dL_law_8 : decode cL_law 8 = .ok (.new 10, 3) := dqr2 dqK_187 dqw_cL_law_0 8 rfl rfl rfl rfl rfl
theorem dL_law_11 : decode cL_law 11 = .ok (.dup, 1) := dqr0 dqK_89 dqw_cL_law_0 11 rfl rfl
theorem dL_law_12 : decode cL_law 12 = .ok (.invokespecial 12, 3) := dqr2 dqK_183 dqw_cL_law_0 12 rfl rfl rfl rfl rfl
theorem dL_law_15 : decode cL_law 15 = .ok (.astore_n 2, 1) := dqr0 dqK_77 dqw_cL_law_0 15 rfl rfl
theorem dL_law_16 : decode cL_law 16 = .ok (.iconst 0, 1) := dqr0 dqK_3 dqw_cL_law_0 16 rfl rfl
theorem dL_law_17 : decode cL_law 17 = .ok (.istore_n 3, 1) := dqr0 dqK_62 dqw_cL_law_0 17 rfl rfl
theorem dL_law_18 : decode cL_law 18 = .ok (.iload_n 3, 1) := dqr0 dqK_29 dqw_cL_law_0 18 rfl rfl
theorem dL_law_19 : decode cL_law 19 = .ok (.aload_n 0, 1) := dqr0 dqK_42 dqw_cL_law_0 19 rfl rfl
theorem dL_law_20 : decode cL_law 20 = .ok (.arraylength, 1) := dqr0 dqK_190 dqw_cL_law_0 20 rfl rfl
theorem dL_law_21 : decode cL_law 21 = .ok (.bipush 6, 2) := dqrs1 dqK_16 dqw_cL_law_0 21 rfl rfl rfl (by decide)
theorem dL_law_23 : decode cL_law 23 = .ok (.isub, 1) := dqr0 dqK_100 dqw_cL_law_0 23 rfl rfl
theorem dqw_cL_law_24 : dqLF cL_law 24 [163, 5, 147, 42, 29, 46, 16, 31, 126] := by decide +kernel
theorem dL_law_24 : decode cL_law 24 = .ok (.if_icmp .gt 1427, 3) := dqrs2 dqK_163 dqw_cL_law_24 0 rfl rfl rfl rfl (by decide)
theorem dL_law_27 : decode cL_law 27 = .ok (.aload_n 0, 1) := dqr0 dqK_42 dqw_cL_law_24 3 rfl rfl
theorem dL_law_28 : decode cL_law 28 = .ok (.iload_n 3, 1) := dqr0 dqK_29 dqw_cL_law_24 4 rfl rfl
theorem dL_law_29 : decode cL_law 29 = .ok (.iaload, 1) := dqr0 dqK_46 dqw_cL_law_24 5 rfl rfl
theorem dL_law_30 : decode cL_law 30 = .ok (.bipush 31, 2) := dqrs1 dqK_16 dqw_cL_law_24 6 rfl rfl rfl (by decide)
theorem dL_law_32 : decode cL_law 32 = .ok (.iand, 1) := dqr0 dqK_126 dqw_cL_law_24 8 rfl rfl
theorem dL_law_33 : decode cL_law 33 = .ok (.tableswitch 1412 0 30 #[139, 182, 225, 288, 321, 354, 387, 410, 473, 486, 509, 592, 615, 638, 671, 724, 767, 820, 863, 916, 959, 992, 1045, 1088, 1131, 1164, 1217, 1260, 1303, 1346, 1389], 139) := by decide +kernel
theorem dqw_cL_law_172 : dqLF cL_law 172 [43, 42, 29, 4, 96, 46, 42, 29, 5, 96, 46, 42, 29, 6, 96, 46, 182, 0, 13, 87, 44, 42, 29, 4] := by decide +kernel
theorem dL_law_172 : decode cL_law 172 = .ok (.aload_n 1, 1) := dqr0 dqK_43 dqw_cL_law_172 0 rfl rfl
theorem dL_law_173 : decode cL_law 173 = .ok (.aload_n 0, 1) := dqr0 dqK_42 dqw_cL_law_172 1 rfl rfl
theorem dL_law_174 : decode cL_law 174 = .ok (.iload_n 3, 1) := dqr0 dqK_29 dqw_cL_law_172 2 rfl rfl
theorem dL_law_175 : decode cL_law 175 = .ok (.iconst 1, 1) := dqr0 dqK_4 dqw_cL_law_172 3 rfl rfl
theorem dL_law_176 : decode cL_law 176 = .ok (.iadd, 1) := dqr0 dqK_96 dqw_cL_law_172 4 rfl rfl
theorem dL_law_177 : decode cL_law 177 = .ok (.iaload, 1) := dqr0 dqK_46 dqw_cL_law_172 5 rfl rfl
theorem dL_law_178 : decode cL_law 178 = .ok (.aload_n 0, 1) := dqr0 dqK_42 dqw_cL_law_172 6 rfl rfl
theorem dL_law_179 : decode cL_law 179 = .ok (.iload_n 3, 1) := dqr0 dqK_29 dqw_cL_law_172 7 rfl rfl
theorem dL_law_180 : decode cL_law 180 = .ok (.iconst 2, 1) := dqr0 dqK_5 dqw_cL_law_172 8 rfl rfl
theorem dL_law_181 : decode cL_law 181 = .ok (.iadd, 1) := dqr0 dqK_96 dqw_cL_law_172 9 rfl rfl
theorem dL_law_182 : decode cL_law 182 = .ok (.iaload, 1) := dqr0 dqK_46 dqw_cL_law_172 10 rfl rfl
theorem dL_law_183 : decode cL_law 183 = .ok (.aload_n 0, 1) := dqr0 dqK_42 dqw_cL_law_172 11 rfl rfl
theorem dL_law_184 : decode cL_law 184 = .ok (.iload_n 3, 1) := dqr0 dqK_29 dqw_cL_law_172 12 rfl rfl
theorem dL_law_185 : decode cL_law 185 = .ok (.iconst 3, 1) := dqr0 dqK_6 dqw_cL_law_172 13 rfl rfl
theorem dL_law_186 : decode cL_law 186 = .ok (.iadd, 1) := dqr0 dqK_96 dqw_cL_law_172 14 rfl rfl
theorem dL_law_187 : decode cL_law 187 = .ok (.iaload, 1) := dqr0 dqK_46 dqw_cL_law_172 15 rfl rfl
theorem dL_law_188 : decode cL_law 188 = .ok (.invokevirtual 13, 3) := dqr2 dqK_182 dqw_cL_law_172 16 rfl rfl rfl rfl rfl
theorem dL_law_191 : decode cL_law 191 = .ok (.pop, 1) := dqr0 dqK_87 dqw_cL_law_172 19 rfl rfl
theorem dL_law_192 : decode cL_law 192 = .ok (.aload_n 2, 1) := dqr0 dqK_44 dqw_cL_law_172 20 rfl rfl
theorem dL_law_193 : decode cL_law 193 = .ok (.aload_n 0, 1) := dqr0 dqK_42 dqw_cL_law_172 21 rfl rfl
theorem dL_law_194 : decode cL_law 194 = .ok (.iload_n 3, 1) := dqr0 dqK_29 dqw_cL_law_172 22 rfl rfl
theorem dL_law_195 : decode cL_law 195 = .ok (.iconst 1, 1) := dqr0 dqK_4 dqw_cL_law_172 23 rfl rfl
theorem dqw_cL_law_196 : dqLF cL_law 196 [96, 46, 42, 29, 5, 96, 46, 42, 29, 6, 96, 46, 182, 0, 17, 87, 167, 4, 209, 43, 42, 29, 4, 96] := by decide +kernel
theorem dL_law_196 : decode cL_law 196 = .ok (.iadd, 1) := dqr0 dqK_96 dqw_cL_law_196 0 rfl rfl
theorem dL_law_197 : decode cL_law 197 = .ok (.iaload, 1) := dqr0 dqK_46 dqw_cL_law_196 1 rfl rfl
theorem dL_law_198 : decode cL_law 198 = .ok (.aload_n 0, 1) := dqr0 dqK_42 dqw_cL_law_196 2 rfl rfl
theorem dL_law_199 : decode cL_law 199 = .ok (.iload_n 3, 1) := dqr0 dqK_29 dqw_cL_law_196 3 rfl rfl
theorem dL_law_200 : decode cL_law 200 = .ok (.iconst 2, 1) := dqr0 dqK_5 dqw_cL_law_196 4 rfl rfl
theorem dL_law_201 : decode cL_law 201 = .ok (.iadd, 1) := dqr0 dqK_96 dqw_cL_law_196 5 rfl rfl
theorem dL_law_202 : decode cL_law 202 = .ok (.iaload, 1) := dqr0 dqK_46 dqw_cL_law_196 6 rfl rfl
theorem dL_law_203 : decode cL_law 203 = .ok (.aload_n 0, 1) := dqr0 dqK_42 dqw_cL_law_196 7 rfl rfl
theorem dL_law_204 : decode cL_law 204 = .ok (.iload_n 3, 1) := dqr0 dqK_29 dqw_cL_law_196 8 rfl rfl
theorem dL_law_205 : decode cL_law 205 = .ok (.iconst 3, 1) := dqr0 dqK_6 dqw_cL_law_196 9 rfl rfl
theorem dL_law_206 : decode cL_law 206 = .ok (.iadd, 1) := dqr0 dqK_96 dqw_cL_law_196 10 rfl rfl
theorem dL_law_207 : decode cL_law 207 = .ok (.iaload, 1) := dqr0 dqK_46 dqw_cL_law_196 11 rfl rfl
theorem dL_law_208 : decode cL_law 208 = .ok (.invokevirtual 17, 3) := dqr2 dqK_182 dqw_cL_law_196 12 rfl rfl rfl rfl rfl
theorem dL_law_211 : decode cL_law 211 = .ok (.pop, 1) := dqr0 dqK_87 dqw_cL_law_196 15 rfl rfl
theorem dL_law_212 : decode cL_law 212 = .ok (.goto 1233, 3) := dqrs2 dqK_167 dqw_cL_law_196 16 rfl rfl rfl rfl (by decide)
theorem dL_law_215 : decode cL_law 215 = .ok (.aload_n 1, 1) := dqr0 dqK_43 dqw_cL_law_196 19 rfl rfl
theorem dL_law_216 : decode cL_law 216 = .ok (.aload_n 0, 1) := dqr0 dqK_42 dqw_cL_law_196 20 rfl rfl
theorem dL_law_217 : decode cL_law 217 = .ok (.iload_n 3, 1) := dqr0 dqK_29 dqw_cL_law_196 21 rfl rfl
theorem dL_law_218 : decode cL_law 218 = .ok (.iconst 1, 1) := dqr0 dqK_4 dqw_cL_law_196 22 rfl rfl
theorem dL_law_219 : decode cL_law 219 = .ok (.iadd, 1) := dqr0 dqK_96 dqw_cL_law_196 23 rfl rfl
theorem dqw_cL_law_220 : dqLF cL_law 220 [46, 42, 29, 5, 96, 46, 42, 29, 6, 96, 46, 182, 0, 18, 87, 44, 42, 29, 4, 96, 46, 42, 29, 5] := by decide +kernel
theorem dL_law_220 : decode cL_law 220 = .ok (.iaload, 1) := dqr0 dqK_46 dqw_cL_law_220 0 rfl rfl
theorem dL_law_221 : decode cL_law 221 = .ok (.aload_n 0, 1) := dqr0 dqK_42 dqw_cL_law_220 1 rfl rfl
theorem dL_law_222 : decode cL_law 222 = .ok (.iload_n 3, 1) := dqr0 dqK_29 dqw_cL_law_220 2 rfl rfl
theorem dL_law_223 : decode cL_law 223 = .ok (.iconst 2, 1) := dqr0 dqK_5 dqw_cL_law_220 3 rfl rfl
theorem dL_law_224 : decode cL_law 224 = .ok (.iadd, 1) := dqr0 dqK_96 dqw_cL_law_220 4 rfl rfl
theorem dL_law_225 : decode cL_law 225 = .ok (.iaload, 1) := dqr0 dqK_46 dqw_cL_law_220 5 rfl rfl
theorem dL_law_226 : decode cL_law 226 = .ok (.aload_n 0, 1) := dqr0 dqK_42 dqw_cL_law_220 6 rfl rfl
theorem dL_law_227 : decode cL_law 227 = .ok (.iload_n 3, 1) := dqr0 dqK_29 dqw_cL_law_220 7 rfl rfl
theorem dL_law_228 : decode cL_law 228 = .ok (.iconst 3, 1) := dqr0 dqK_6 dqw_cL_law_220 8 rfl rfl
theorem dL_law_229 : decode cL_law 229 = .ok (.iadd, 1) := dqr0 dqK_96 dqw_cL_law_220 9 rfl rfl
theorem dL_law_230 : decode cL_law 230 = .ok (.iaload, 1) := dqr0 dqK_46 dqw_cL_law_220 10 rfl rfl
theorem dL_law_231 : decode cL_law 231 = .ok (.invokevirtual 18, 3) := dqr2 dqK_182 dqw_cL_law_220 11 rfl rfl rfl rfl rfl
theorem dL_law_234 : decode cL_law 234 = .ok (.pop, 1) := dqr0 dqK_87 dqw_cL_law_220 14 rfl rfl
theorem dL_law_235 : decode cL_law 235 = .ok (.aload_n 2, 1) := dqr0 dqK_44 dqw_cL_law_220 15 rfl rfl
theorem dL_law_236 : decode cL_law 236 = .ok (.aload_n 0, 1) := dqr0 dqK_42 dqw_cL_law_220 16 rfl rfl
theorem dL_law_237 : decode cL_law 237 = .ok (.iload_n 3, 1) := dqr0 dqK_29 dqw_cL_law_220 17 rfl rfl
theorem dL_law_238 : decode cL_law 238 = .ok (.iconst 1, 1) := dqr0 dqK_4 dqw_cL_law_220 18 rfl rfl
theorem dL_law_239 : decode cL_law 239 = .ok (.iadd, 1) := dqr0 dqK_96 dqw_cL_law_220 19 rfl rfl
theorem dL_law_240 : decode cL_law 240 = .ok (.iaload, 1) := dqr0 dqK_46 dqw_cL_law_220 20 rfl rfl
theorem dL_law_241 : decode cL_law 241 = .ok (.aload_n 0, 1) := dqr0 dqK_42 dqw_cL_law_220 21 rfl rfl
theorem dL_law_242 : decode cL_law 242 = .ok (.iload_n 3, 1) := dqr0 dqK_29 dqw_cL_law_220 22 rfl rfl
theorem dL_law_243 : decode cL_law 243 = .ok (.iconst 2, 1) := dqr0 dqK_5 dqw_cL_law_220 23 rfl rfl
theorem dqw_cL_law_244 : dqLF cL_law 244 [96, 46, 42, 29, 6, 96, 46, 182, 0, 21, 87, 167, 4, 166, 43, 42, 29, 4, 96, 46, 42, 29, 5, 96] := by decide +kernel
theorem dL_law_244 : decode cL_law 244 = .ok (.iadd, 1) := dqr0 dqK_96 dqw_cL_law_244 0 rfl rfl
theorem dL_law_245 : decode cL_law 245 = .ok (.iaload, 1) := dqr0 dqK_46 dqw_cL_law_244 1 rfl rfl
theorem dL_law_246 : decode cL_law 246 = .ok (.aload_n 0, 1) := dqr0 dqK_42 dqw_cL_law_244 2 rfl rfl
theorem dL_law_247 : decode cL_law 247 = .ok (.iload_n 3, 1) := dqr0 dqK_29 dqw_cL_law_244 3 rfl rfl
theorem dL_law_248 : decode cL_law 248 = .ok (.iconst 3, 1) := dqr0 dqK_6 dqw_cL_law_244 4 rfl rfl
theorem dL_law_249 : decode cL_law 249 = .ok (.iadd, 1) := dqr0 dqK_96 dqw_cL_law_244 5 rfl rfl
theorem dL_law_250 : decode cL_law 250 = .ok (.iaload, 1) := dqr0 dqK_46 dqw_cL_law_244 6 rfl rfl
theorem dL_law_251 : decode cL_law 251 = .ok (.invokevirtual 21, 3) := dqr2 dqK_182 dqw_cL_law_244 7 rfl rfl rfl rfl rfl
theorem dL_law_254 : decode cL_law 254 = .ok (.pop, 1) := dqr0 dqK_87 dqw_cL_law_244 10 rfl rfl
theorem dL_law_255 : decode cL_law 255 = .ok (.goto 1190, 3) := dqrs2 dqK_167 dqw_cL_law_244 11 rfl rfl rfl rfl (by decide)
theorem dL_law_258 : decode cL_law 258 = .ok (.aload_n 1, 1) := dqr0 dqK_43 dqw_cL_law_244 14 rfl rfl
theorem dL_law_259 : decode cL_law 259 = .ok (.aload_n 0, 1) := dqr0 dqK_42 dqw_cL_law_244 15 rfl rfl
theorem dL_law_260 : decode cL_law 260 = .ok (.iload_n 3, 1) := dqr0 dqK_29 dqw_cL_law_244 16 rfl rfl
theorem dL_law_261 : decode cL_law 261 = .ok (.iconst 1, 1) := dqr0 dqK_4 dqw_cL_law_244 17 rfl rfl
theorem dL_law_262 : decode cL_law 262 = .ok (.iadd, 1) := dqr0 dqK_96 dqw_cL_law_244 18 rfl rfl
theorem dL_law_263 : decode cL_law 263 = .ok (.iaload, 1) := dqr0 dqK_46 dqw_cL_law_244 19 rfl rfl
theorem dL_law_264 : decode cL_law 264 = .ok (.aload_n 0, 1) := dqr0 dqK_42 dqw_cL_law_244 20 rfl rfl
theorem dL_law_265 : decode cL_law 265 = .ok (.iload_n 3, 1) := dqr0 dqK_29 dqw_cL_law_244 21 rfl rfl
theorem dL_law_266 : decode cL_law 266 = .ok (.iconst 2, 1) := dqr0 dqK_5 dqw_cL_law_244 22 rfl rfl
theorem dL_law_267 : decode cL_law 267 = .ok (.iadd, 1) := dqr0 dqK_96 dqw_cL_law_244 23 rfl rfl
theorem dqw_cL_law_268 : dqLF cL_law 268 [46, 42, 29, 6, 96, 46, 42, 29, 7, 96, 46, 42, 29, 8, 96, 46, 182, 0, 22, 87, 44, 42, 29, 4] := by decide +kernel
theorem dL_law_268 : decode cL_law 268 = .ok (.iaload, 1) := dqr0 dqK_46 dqw_cL_law_268 0 rfl rfl
theorem dL_law_269 : decode cL_law 269 = .ok (.aload_n 0, 1) := dqr0 dqK_42 dqw_cL_law_268 1 rfl rfl
theorem dL_law_270 : decode cL_law 270 = .ok (.iload_n 3, 1) := dqr0 dqK_29 dqw_cL_law_268 2 rfl rfl
theorem dL_law_271 : decode cL_law 271 = .ok (.iconst 3, 1) := dqr0 dqK_6 dqw_cL_law_268 3 rfl rfl
theorem dL_law_272 : decode cL_law 272 = .ok (.iadd, 1) := dqr0 dqK_96 dqw_cL_law_268 4 rfl rfl
theorem dL_law_273 : decode cL_law 273 = .ok (.iaload, 1) := dqr0 dqK_46 dqw_cL_law_268 5 rfl rfl
theorem dL_law_274 : decode cL_law 274 = .ok (.aload_n 0, 1) := dqr0 dqK_42 dqw_cL_law_268 6 rfl rfl
theorem dL_law_275 : decode cL_law 275 = .ok (.iload_n 3, 1) := dqr0 dqK_29 dqw_cL_law_268 7 rfl rfl
theorem dL_law_276 : decode cL_law 276 = .ok (.iconst 4, 1) := dqr0 dqK_7 dqw_cL_law_268 8 rfl rfl
theorem dL_law_277 : decode cL_law 277 = .ok (.iadd, 1) := dqr0 dqK_96 dqw_cL_law_268 9 rfl rfl
theorem dL_law_278 : decode cL_law 278 = .ok (.iaload, 1) := dqr0 dqK_46 dqw_cL_law_268 10 rfl rfl
theorem dL_law_279 : decode cL_law 279 = .ok (.aload_n 0, 1) := dqr0 dqK_42 dqw_cL_law_268 11 rfl rfl
theorem dL_law_280 : decode cL_law 280 = .ok (.iload_n 3, 1) := dqr0 dqK_29 dqw_cL_law_268 12 rfl rfl
theorem dL_law_281 : decode cL_law 281 = .ok (.iconst 5, 1) := dqr0 dqK_8 dqw_cL_law_268 13 rfl rfl
theorem dL_law_282 : decode cL_law 282 = .ok (.iadd, 1) := dqr0 dqK_96 dqw_cL_law_268 14 rfl rfl
theorem dL_law_283 : decode cL_law 283 = .ok (.iaload, 1) := dqr0 dqK_46 dqw_cL_law_268 15 rfl rfl
theorem dL_law_284 : decode cL_law 284 = .ok (.invokevirtual 22, 3) := dqr2 dqK_182 dqw_cL_law_268 16 rfl rfl rfl rfl rfl
theorem dL_law_287 : decode cL_law 287 = .ok (.pop, 1) := dqr0 dqK_87 dqw_cL_law_268 19 rfl rfl
theorem dL_law_288 : decode cL_law 288 = .ok (.aload_n 2, 1) := dqr0 dqK_44 dqw_cL_law_268 20 rfl rfl
theorem dL_law_289 : decode cL_law 289 = .ok (.aload_n 0, 1) := dqr0 dqK_42 dqw_cL_law_268 21 rfl rfl
theorem dL_law_290 : decode cL_law 290 = .ok (.iload_n 3, 1) := dqr0 dqK_29 dqw_cL_law_268 22 rfl rfl
theorem dL_law_291 : decode cL_law 291 = .ok (.iconst 1, 1) := dqr0 dqK_4 dqw_cL_law_268 23 rfl rfl
theorem dqw_cL_law_292 : dqLF cL_law 292 [96, 46, 42, 29, 5, 96, 46, 42, 29, 6, 96, 46, 42, 29, 7, 96, 46, 42, 29, 8, 96, 46] := by decide +kernel
theorem dL_law_292 : decode cL_law 292 = .ok (.iadd, 1) := dqr0 dqK_96 dqw_cL_law_292 0 rfl rfl
theorem dL_law_293 : decode cL_law 293 = .ok (.iaload, 1) := dqr0 dqK_46 dqw_cL_law_292 1 rfl rfl
theorem dL_law_294 : decode cL_law 294 = .ok (.aload_n 0, 1) := dqr0 dqK_42 dqw_cL_law_292 2 rfl rfl
theorem dL_law_295 : decode cL_law 295 = .ok (.iload_n 3, 1) := dqr0 dqK_29 dqw_cL_law_292 3 rfl rfl
theorem dL_law_296 : decode cL_law 296 = .ok (.iconst 2, 1) := dqr0 dqK_5 dqw_cL_law_292 4 rfl rfl
theorem dL_law_297 : decode cL_law 297 = .ok (.iadd, 1) := dqr0 dqK_96 dqw_cL_law_292 5 rfl rfl
theorem dL_law_298 : decode cL_law 298 = .ok (.iaload, 1) := dqr0 dqK_46 dqw_cL_law_292 6 rfl rfl
theorem dL_law_299 : decode cL_law 299 = .ok (.aload_n 0, 1) := dqr0 dqK_42 dqw_cL_law_292 7 rfl rfl
theorem dL_law_300 : decode cL_law 300 = .ok (.iload_n 3, 1) := dqr0 dqK_29 dqw_cL_law_292 8 rfl rfl
theorem dL_law_301 : decode cL_law 301 = .ok (.iconst 3, 1) := dqr0 dqK_6 dqw_cL_law_292 9 rfl rfl
theorem dL_law_302 : decode cL_law 302 = .ok (.iadd, 1) := dqr0 dqK_96 dqw_cL_law_292 10 rfl rfl
theorem dL_law_303 : decode cL_law 303 = .ok (.iaload, 1) := dqr0 dqK_46 dqw_cL_law_292 11 rfl rfl
theorem dL_law_304 : decode cL_law 304 = .ok (.aload_n 0, 1) := dqr0 dqK_42 dqw_cL_law_292 12 rfl rfl
theorem dL_law_305 : decode cL_law 305 = .ok (.iload_n 3, 1) := dqr0 dqK_29 dqw_cL_law_292 13 rfl rfl
theorem dL_law_306 : decode cL_law 306 = .ok (.iconst 4, 1) := dqr0 dqK_7 dqw_cL_law_292 14 rfl rfl
theorem dL_law_307 : decode cL_law 307 = .ok (.iadd, 1) := dqr0 dqK_96 dqw_cL_law_292 15 rfl rfl
theorem dL_law_308 : decode cL_law 308 = .ok (.iaload, 1) := dqr0 dqK_46 dqw_cL_law_292 16 rfl rfl
theorem dL_law_309 : decode cL_law 309 = .ok (.aload_n 0, 1) := dqr0 dqK_42 dqw_cL_law_292 17 rfl rfl
theorem dL_law_310 : decode cL_law 310 = .ok (.iload_n 3, 1) := dqr0 dqK_29 dqw_cL_law_292 18 rfl rfl
theorem dL_law_311 : decode cL_law 311 = .ok (.iconst 5, 1) := dqr0 dqK_8 dqw_cL_law_292 19 rfl rfl
theorem dL_law_312 : decode cL_law 312 = .ok (.iadd, 1) := dqr0 dqK_96 dqw_cL_law_292 20 rfl rfl
theorem dL_law_313 : decode cL_law 313 = .ok (.iaload, 1) := dqr0 dqK_46 dqw_cL_law_292 21 rfl rfl
theorem dqw_cL_law_314 : dqLF cL_law 314 [182, 0, 26, 87, 167, 4, 103, 43, 42, 29, 4, 96, 46, 42, 29, 5, 96, 46, 182, 0, 27, 87, 44, 42] := by decide +kernel
theorem dL_law_314 : decode cL_law 314 = .ok (.invokevirtual 26, 3) := dqr2 dqK_182 dqw_cL_law_314 0 rfl rfl rfl rfl rfl
theorem dL_law_317 : decode cL_law 317 = .ok (.pop, 1) := dqr0 dqK_87 dqw_cL_law_314 3 rfl rfl
theorem dL_law_318 : decode cL_law 318 = .ok (.goto 1127, 3) := dqrs2 dqK_167 dqw_cL_law_314 4 rfl rfl rfl rfl (by decide)
theorem dL_law_321 : decode cL_law 321 = .ok (.aload_n 1, 1) := dqr0 dqK_43 dqw_cL_law_314 7 rfl rfl
theorem dL_law_322 : decode cL_law 322 = .ok (.aload_n 0, 1) := dqr0 dqK_42 dqw_cL_law_314 8 rfl rfl
theorem dL_law_323 : decode cL_law 323 = .ok (.iload_n 3, 1) := dqr0 dqK_29 dqw_cL_law_314 9 rfl rfl
theorem dL_law_324 : decode cL_law 324 = .ok (.iconst 1, 1) := dqr0 dqK_4 dqw_cL_law_314 10 rfl rfl
theorem dL_law_325 : decode cL_law 325 = .ok (.iadd, 1) := dqr0 dqK_96 dqw_cL_law_314 11 rfl rfl
theorem dL_law_326 : decode cL_law 326 = .ok (.iaload, 1) := dqr0 dqK_46 dqw_cL_law_314 12 rfl rfl
theorem dL_law_327 : decode cL_law 327 = .ok (.aload_n 0, 1) := dqr0 dqK_42 dqw_cL_law_314 13 rfl rfl
theorem dL_law_328 : decode cL_law 328 = .ok (.iload_n 3, 1) := dqr0 dqK_29 dqw_cL_law_314 14 rfl rfl
theorem dL_law_329 : decode cL_law 329 = .ok (.iconst 2, 1) := dqr0 dqK_5 dqw_cL_law_314 15 rfl rfl
theorem dL_law_330 : decode cL_law 330 = .ok (.iadd, 1) := dqr0 dqK_96 dqw_cL_law_314 16 rfl rfl
theorem dL_law_331 : decode cL_law 331 = .ok (.iaload, 1) := dqr0 dqK_46 dqw_cL_law_314 17 rfl rfl
theorem dL_law_332 : decode cL_law 332 = .ok (.invokevirtual 27, 3) := dqr2 dqK_182 dqw_cL_law_314 18 rfl rfl rfl rfl rfl
theorem dL_law_335 : decode cL_law 335 = .ok (.pop, 1) := dqr0 dqK_87 dqw_cL_law_314 21 rfl rfl
theorem dL_law_336 : decode cL_law 336 = .ok (.aload_n 2, 1) := dqr0 dqK_44 dqw_cL_law_314 22 rfl rfl
theorem dL_law_337 : decode cL_law 337 = .ok (.aload_n 0, 1) := dqr0 dqK_42 dqw_cL_law_314 23 rfl rfl
theorem dqw_cL_law_338 : dqLF cL_law 338 [29, 4, 96, 46, 42, 29, 5, 96, 46, 182, 0, 31, 87, 167, 4, 70, 43, 42, 29, 4, 96, 46, 42, 29] := by decide +kernel
theorem dL_law_338 : decode cL_law 338 = .ok (.iload_n 3, 1) := dqr0 dqK_29 dqw_cL_law_338 0 rfl rfl
theorem dL_law_339 : decode cL_law 339 = .ok (.iconst 1, 1) := dqr0 dqK_4 dqw_cL_law_338 1 rfl rfl
theorem dL_law_340 : decode cL_law 340 = .ok (.iadd, 1) := dqr0 dqK_96 dqw_cL_law_338 2 rfl rfl
theorem dL_law_341 : decode cL_law 341 = .ok (.iaload, 1) := dqr0 dqK_46 dqw_cL_law_338 3 rfl rfl
theorem dL_law_342 : decode cL_law 342 = .ok (.aload_n 0, 1) := dqr0 dqK_42 dqw_cL_law_338 4 rfl rfl
theorem dL_law_343 : decode cL_law 343 = .ok (.iload_n 3, 1) := dqr0 dqK_29 dqw_cL_law_338 5 rfl rfl
theorem dL_law_344 : decode cL_law 344 = .ok (.iconst 2, 1) := dqr0 dqK_5 dqw_cL_law_338 6 rfl rfl
theorem dL_law_345 : decode cL_law 345 = .ok (.iadd, 1) := dqr0 dqK_96 dqw_cL_law_338 7 rfl rfl
theorem dL_law_346 : decode cL_law 346 = .ok (.iaload, 1) := dqr0 dqK_46 dqw_cL_law_338 8 rfl rfl
theorem dL_law_347 : decode cL_law 347 = .ok (.invokevirtual 31, 3) := dqr2 dqK_182 dqw_cL_law_338 9 rfl rfl rfl rfl rfl
theorem dL_law_350 : decode cL_law 350 = .ok (.pop, 1) := dqr0 dqK_87 dqw_cL_law_338 12 rfl rfl
theorem dL_law_351 : decode cL_law 351 = .ok (.goto 1094, 3) := dqrs2 dqK_167 dqw_cL_law_338 13 rfl rfl rfl rfl (by decide)
theorem dL_law_354 : decode cL_law 354 = .ok (.aload_n 1, 1) := dqr0 dqK_43 dqw_cL_law_338 16 rfl rfl
theorem dL_law_355 : decode cL_law 355 = .ok (.aload_n 0, 1) := dqr0 dqK_42 dqw_cL_law_338 17 rfl rfl
theorem dL_law_356 : decode cL_law 356 = .ok (.iload_n 3, 1) := dqr0 dqK_29 dqw_cL_law_338 18 rfl rfl
theorem dL_law_357 : decode cL_law 357 = .ok (.iconst 1, 1) := dqr0 dqK_4 dqw_cL_law_338 19 rfl rfl
theorem dL_law_358 : decode cL_law 358 = .ok (.iadd, 1) := dqr0 dqK_96 dqw_cL_law_338 20 rfl rfl
theorem dL_law_359 : decode cL_law 359 = .ok (.iaload, 1) := dqr0 dqK_46 dqw_cL_law_338 21 rfl rfl
theorem dL_law_360 : decode cL_law 360 = .ok (.aload_n 0, 1) := dqr0 dqK_42 dqw_cL_law_338 22 rfl rfl
theorem dL_law_361 : decode cL_law 361 = .ok (.iload_n 3, 1) := dqr0 dqK_29 dqw_cL_law_338 23 rfl rfl
theorem dqw_cL_law_362 : dqLF cL_law 362 [5, 96, 46, 182, 0, 32, 87, 44, 42, 29, 4, 96, 46, 42, 29, 5, 96, 46, 182, 0, 35, 87] := by decide +kernel
theorem dL_law_362 : decode cL_law 362 = .ok (.iconst 2, 1) := dqr0 dqK_5 dqw_cL_law_362 0 rfl rfl
theorem dL_law_363 : decode cL_law 363 = .ok (.iadd, 1) := dqr0 dqK_96 dqw_cL_law_362 1 rfl rfl
theorem dL_law_364 : decode cL_law 364 = .ok (.iaload, 1) := dqr0 dqK_46 dqw_cL_law_362 2 rfl rfl
theorem dL_law_365 : decode cL_law 365 = .ok (.invokevirtual 32, 3) := dqr2 dqK_182 dqw_cL_law_362 3 rfl rfl rfl rfl rfl
theorem dL_law_368 : decode cL_law 368 = .ok (.pop, 1) := dqr0 dqK_87 dqw_cL_law_362 6 rfl rfl
theorem dL_law_369 : decode cL_law 369 = .ok (.aload_n 2, 1) := dqr0 dqK_44 dqw_cL_law_362 7 rfl rfl
theorem dL_law_370 : decode cL_law 370 = .ok (.aload_n 0, 1) := dqr0 dqK_42 dqw_cL_law_362 8 rfl rfl
theorem dL_law_371 : decode cL_law 371 = .ok (.iload_n 3, 1) := dqr0 dqK_29 dqw_cL_law_362 9 rfl rfl
theorem dL_law_372 : decode cL_law 372 = .ok (.iconst 1, 1) := dqr0 dqK_4 dqw_cL_law_362 10 rfl rfl
theorem dL_law_373 : decode cL_law 373 = .ok (.iadd, 1) := dqr0 dqK_96 dqw_cL_law_362 11 rfl rfl
theorem dL_law_374 : decode cL_law 374 = .ok (.iaload, 1) := dqr0 dqK_46 dqw_cL_law_362 12 rfl rfl
theorem dL_law_375 : decode cL_law 375 = .ok (.aload_n 0, 1) := dqr0 dqK_42 dqw_cL_law_362 13 rfl rfl
theorem dL_law_376 : decode cL_law 376 = .ok (.iload_n 3, 1) := dqr0 dqK_29 dqw_cL_law_362 14 rfl rfl
theorem dL_law_377 : decode cL_law 377 = .ok (.iconst 2, 1) := dqr0 dqK_5 dqw_cL_law_362 15 rfl rfl
theorem dL_law_378 : decode cL_law 378 = .ok (.iadd, 1) := dqr0 dqK_96 dqw_cL_law_362 16 rfl rfl
theorem dL_law_379 : decode cL_law 379 = .ok (.iaload, 1) := dqr0 dqK_46 dqw_cL_law_362 17 rfl rfl
theorem dL_law_380 : decode cL_law 380 = .ok (.invokevirtual 35, 3) := dqr2 dqK_182 dqw_cL_law_362 18 rfl rfl rfl rfl rfl
theorem dL_law_383 : decode cL_law 383 = .ok (.pop, 1) := dqr0 dqK_87 dqw_cL_law_362 21 rfl rfl
theorem dqw_cL_law_384 : dqLF cL_law 384 [167, 4, 37, 43, 42, 29, 4, 96, 46, 42, 29, 5, 96, 46, 182, 0, 36, 87, 44, 42, 29, 4, 96, 46] := by decide +kernel
theorem dL_law_384 : decode cL_law 384 = .ok (.goto 1061, 3) := dqrs2 dqK_167 dqw_cL_law_384 0 rfl rfl rfl rfl (by decide)
theorem dL_law_387 : decode cL_law 387 = .ok (.aload_n 1, 1) := dqr0 dqK_43 dqw_cL_law_384 3 rfl rfl
theorem dL_law_388 : decode cL_law 388 = .ok (.aload_n 0, 1) := dqr0 dqK_42 dqw_cL_law_384 4 rfl rfl
theorem dL_law_389 : decode cL_law 389 = .ok (.iload_n 3, 1) := dqr0 dqK_29 dqw_cL_law_384 5 rfl rfl
theorem dL_law_390 : decode cL_law 390 = .ok (.iconst 1, 1) := dqr0 dqK_4 dqw_cL_law_384 6 rfl rfl
theorem dL_law_391 : decode cL_law 391 = .ok (.iadd, 1) := dqr0 dqK_96 dqw_cL_law_384 7 rfl rfl
theorem dL_law_392 : decode cL_law 392 = .ok (.iaload, 1) := dqr0 dqK_46 dqw_cL_law_384 8 rfl rfl
theorem dL_law_393 : decode cL_law 393 = .ok (.aload_n 0, 1) := dqr0 dqK_42 dqw_cL_law_384 9 rfl rfl
theorem dL_law_394 : decode cL_law 394 = .ok (.iload_n 3, 1) := dqr0 dqK_29 dqw_cL_law_384 10 rfl rfl
theorem dL_law_395 : decode cL_law 395 = .ok (.iconst 2, 1) := dqr0 dqK_5 dqw_cL_law_384 11 rfl rfl
theorem dL_law_396 : decode cL_law 396 = .ok (.iadd, 1) := dqr0 dqK_96 dqw_cL_law_384 12 rfl rfl
theorem dL_law_397 : decode cL_law 397 = .ok (.iaload, 1) := dqr0 dqK_46 dqw_cL_law_384 13 rfl rfl
theorem dL_law_398 : decode cL_law 398 = .ok (.invokevirtual 36, 3) := dqr2 dqK_182 dqw_cL_law_384 14 rfl rfl rfl rfl rfl
theorem dL_law_401 : decode cL_law 401 = .ok (.pop, 1) := dqr0 dqK_87 dqw_cL_law_384 17 rfl rfl
theorem dL_law_402 : decode cL_law 402 = .ok (.aload_n 2, 1) := dqr0 dqK_44 dqw_cL_law_384 18 rfl rfl
theorem dL_law_403 : decode cL_law 403 = .ok (.aload_n 0, 1) := dqr0 dqK_42 dqw_cL_law_384 19 rfl rfl
theorem dL_law_404 : decode cL_law 404 = .ok (.iload_n 3, 1) := dqr0 dqK_29 dqw_cL_law_384 20 rfl rfl
theorem dL_law_405 : decode cL_law 405 = .ok (.iconst 1, 1) := dqr0 dqK_4 dqw_cL_law_384 21 rfl rfl
theorem dL_law_406 : decode cL_law 406 = .ok (.iadd, 1) := dqr0 dqK_96 dqw_cL_law_384 22 rfl rfl
theorem dL_law_407 : decode cL_law 407 = .ok (.iaload, 1) := dqr0 dqK_46 dqw_cL_law_384 23 rfl rfl
theorem dqw_cL_law_408 : dqLF cL_law 408 [42, 29, 5, 96, 46, 182, 0, 39, 87, 167, 4, 4, 43, 42, 29, 4, 96, 46, 182, 0, 40, 87, 44, 42] := by decide +kernel
theorem dL_law_408 : decode cL_law 408 = .ok (.aload_n 0, 1) := dqr0 dqK_42 dqw_cL_law_408 0 rfl rfl
theorem dL_law_409 : decode cL_law 409 = .ok (.iload_n 3, 1) := dqr0 dqK_29 dqw_cL_law_408 1 rfl rfl
theorem dL_law_410 : decode cL_law 410 = .ok (.iconst 2, 1) := dqr0 dqK_5 dqw_cL_law_408 2 rfl rfl
theorem dL_law_411 : decode cL_law 411 = .ok (.iadd, 1) := dqr0 dqK_96 dqw_cL_law_408 3 rfl rfl
theorem dL_law_412 : decode cL_law 412 = .ok (.iaload, 1) := dqr0 dqK_46 dqw_cL_law_408 4 rfl rfl
theorem dL_law_413 : decode cL_law 413 = .ok (.invokevirtual 39, 3) := dqr2 dqK_182 dqw_cL_law_408 5 rfl rfl rfl rfl rfl
theorem dL_law_416 : decode cL_law 416 = .ok (.pop, 1) := dqr0 dqK_87 dqw_cL_law_408 8 rfl rfl
theorem dL_law_417 : decode cL_law 417 = .ok (.goto 1028, 3) := dqrs2 dqK_167 dqw_cL_law_408 9 rfl rfl rfl rfl (by decide)
theorem dL_law_420 : decode cL_law 420 = .ok (.aload_n 1, 1) := dqr0 dqK_43 dqw_cL_law_408 12 rfl rfl
theorem dL_law_421 : decode cL_law 421 = .ok (.aload_n 0, 1) := dqr0 dqK_42 dqw_cL_law_408 13 rfl rfl
theorem dL_law_422 : decode cL_law 422 = .ok (.iload_n 3, 1) := dqr0 dqK_29 dqw_cL_law_408 14 rfl rfl
theorem dL_law_423 : decode cL_law 423 = .ok (.iconst 1, 1) := dqr0 dqK_4 dqw_cL_law_408 15 rfl rfl
theorem dL_law_424 : decode cL_law 424 = .ok (.iadd, 1) := dqr0 dqK_96 dqw_cL_law_408 16 rfl rfl
theorem dL_law_425 : decode cL_law 425 = .ok (.iaload, 1) := dqr0 dqK_46 dqw_cL_law_408 17 rfl rfl
theorem dL_law_426 : decode cL_law 426 = .ok (.invokevirtual 40, 3) := dqr2 dqK_182 dqw_cL_law_408 18 rfl rfl rfl rfl rfl
theorem dL_law_429 : decode cL_law 429 = .ok (.pop, 1) := dqr0 dqK_87 dqw_cL_law_408 21 rfl rfl
theorem dL_law_430 : decode cL_law 430 = .ok (.aload_n 2, 1) := dqr0 dqK_44 dqw_cL_law_408 22 rfl rfl
theorem dL_law_431 : decode cL_law 431 = .ok (.aload_n 0, 1) := dqr0 dqK_42 dqw_cL_law_408 23 rfl rfl
theorem dqw_cL_law_432 : dqLF cL_law 432 [29, 4, 96, 46, 182, 0, 44, 87, 167, 3, 237, 43, 42, 29, 4, 96, 46, 133, 16, 32, 121, 42, 29, 5] := by decide +kernel
theorem dL_law_432 : decode cL_law 432 = .ok (.iload_n 3, 1) := dqr0 dqK_29 dqw_cL_law_432 0 rfl rfl
theorem dL_law_433 : decode cL_law 433 = .ok (.iconst 1, 1) := dqr0 dqK_4 dqw_cL_law_432 1 rfl rfl
theorem dL_law_434 : decode cL_law 434 = .ok (.iadd, 1) := dqr0 dqK_96 dqw_cL_law_432 2 rfl rfl
theorem dL_law_435 : decode cL_law 435 = .ok (.iaload, 1) := dqr0 dqK_46 dqw_cL_law_432 3 rfl rfl
theorem dL_law_436 : decode cL_law 436 = .ok (.invokevirtual 44, 3) := dqr2 dqK_182 dqw_cL_law_432 4 rfl rfl rfl rfl rfl
theorem dL_law_439 : decode cL_law 439 = .ok (.pop, 1) := dqr0 dqK_87 dqw_cL_law_432 7 rfl rfl
theorem dL_law_440 : decode cL_law 440 = .ok (.goto 1005, 3) := dqrs2 dqK_167 dqw_cL_law_432 8 rfl rfl rfl rfl (by decide)
theorem dL_law_443 : decode cL_law 443 = .ok (.aload_n 1, 1) := dqr0 dqK_43 dqw_cL_law_432 11 rfl rfl
theorem dL_law_444 : decode cL_law 444 = .ok (.aload_n 0, 1) := dqr0 dqK_42 dqw_cL_law_432 12 rfl rfl
theorem dL_law_445 : decode cL_law 445 = .ok (.iload_n 3, 1) := dqr0 dqK_29 dqw_cL_law_432 13 rfl rfl
theorem dL_law_446 : decode cL_law 446 = .ok (.iconst 1, 1) := dqr0 dqK_4 dqw_cL_law_432 14 rfl rfl
theorem dL_law_447 : decode cL_law 447 = .ok (.iadd, 1) := dqr0 dqK_96 dqw_cL_law_432 15 rfl rfl
theorem dL_law_448 : decode cL_law 448 = .ok (.iaload, 1) := dqr0 dqK_46 dqw_cL_law_432 16 rfl rfl
theorem dL_law_449 : decode cL_law 449 = .ok (.i2l, 1) := dqr0 dqK_133 dqw_cL_law_432 17 rfl rfl
theorem dL_law_450 : decode cL_law 450 = .ok (.bipush 32, 2) := dqrs1 dqK_16 dqw_cL_law_432 18 rfl rfl rfl (by decide)
theorem dL_law_452 : decode cL_law 452 = .ok (.lshl, 1) := dqr0 dqK_121 dqw_cL_law_432 20 rfl rfl
theorem dL_law_453 : decode cL_law 453 = .ok (.aload_n 0, 1) := dqr0 dqK_42 dqw_cL_law_432 21 rfl rfl
theorem dL_law_454 : decode cL_law 454 = .ok (.iload_n 3, 1) := dqr0 dqK_29 dqw_cL_law_432 22 rfl rfl
theorem dL_law_455 : decode cL_law 455 = .ok (.iconst 2, 1) := dqr0 dqK_5 dqw_cL_law_432 23 rfl rfl
theorem dqw_cL_law_456 : dqLF cL_law 456 [96, 46, 133, 20, 0, 45, 127, 129, 42, 29, 6, 96, 46, 182, 0, 47, 87, 44, 42, 29, 4, 96, 46, 133] := by decide +kernel
theorem dL_law_456 : decode cL_law 456 = .ok (.iadd, 1) := dqr0 dqK_96 dqw_cL_law_456 0 rfl rfl
theorem dL_law_457 : decode cL_law 457 = .ok (.iaload, 1) := dqr0 dqK_46 dqw_cL_law_456 1 rfl rfl
theorem dL_law_458 : decode cL_law 458 = .ok (.i2l, 1) := dqr0 dqK_133 dqw_cL_law_456 2 rfl rfl
theorem dL_law_459 : decode cL_law 459 = .ok (.ldc2_w 45, 3) := dqr2 dqK_20 dqw_cL_law_456 3 rfl rfl rfl rfl rfl
theorem dL_law_462 : decode cL_law 462 = .ok (.land, 1) := dqr0 dqK_127 dqw_cL_law_456 6 rfl rfl
theorem dL_law_463 : decode cL_law 463 = .ok (.lor, 1) := dqr0 dqK_129 dqw_cL_law_456 7 rfl rfl
theorem dL_law_464 : decode cL_law 464 = .ok (.aload_n 0, 1) := dqr0 dqK_42 dqw_cL_law_456 8 rfl rfl
theorem dL_law_465 : decode cL_law 465 = .ok (.iload_n 3, 1) := dqr0 dqK_29 dqw_cL_law_456 9 rfl rfl
theorem dL_law_466 : decode cL_law 466 = .ok (.iconst 3, 1) := dqr0 dqK_6 dqw_cL_law_456 10 rfl rfl
theorem dL_law_467 : decode cL_law 467 = .ok (.iadd, 1) := dqr0 dqK_96 dqw_cL_law_456 11 rfl rfl
theorem dL_law_468 : decode cL_law 468 = .ok (.iaload, 1) := dqr0 dqK_46 dqw_cL_law_456 12 rfl rfl
theorem dL_law_469 : decode cL_law 469 = .ok (.invokevirtual 47, 3) := dqr2 dqK_182 dqw_cL_law_456 13 rfl rfl rfl rfl rfl
theorem dL_law_472 : decode cL_law 472 = .ok (.pop, 1) := dqr0 dqK_87 dqw_cL_law_456 16 rfl rfl
theorem dL_law_473 : decode cL_law 473 = .ok (.aload_n 2, 1) := dqr0 dqK_44 dqw_cL_law_456 17 rfl rfl
theorem dL_law_474 : decode cL_law 474 = .ok (.aload_n 0, 1) := dqr0 dqK_42 dqw_cL_law_456 18 rfl rfl
theorem dL_law_475 : decode cL_law 475 = .ok (.iload_n 3, 1) := dqr0 dqK_29 dqw_cL_law_456 19 rfl rfl
theorem dL_law_476 : decode cL_law 476 = .ok (.iconst 1, 1) := dqr0 dqK_4 dqw_cL_law_456 20 rfl rfl
theorem dL_law_477 : decode cL_law 477 = .ok (.iadd, 1) := dqr0 dqK_96 dqw_cL_law_456 21 rfl rfl
theorem dL_law_478 : decode cL_law 478 = .ok (.iaload, 1) := dqr0 dqK_46 dqw_cL_law_456 22 rfl rfl
theorem dL_law_479 : decode cL_law 479 = .ok (.i2l, 1) := dqr0 dqK_133 dqw_cL_law_456 23 rfl rfl
theorem dqw_cL_law_480 : dqLF cL_law 480 [16, 32, 121, 42, 29, 5, 96, 46, 133, 20, 0, 45, 127, 129, 42, 29, 6, 96, 46, 182, 0, 51, 87] := by decide +kernel
theorem dL_law_480 : decode cL_law 480 = .ok (.bipush 32, 2) := dqrs1 dqK_16 dqw_cL_law_480 0 rfl rfl rfl (by decide)
theorem dL_law_482 : decode cL_law 482 = .ok (.lshl, 1) := dqr0 dqK_121 dqw_cL_law_480 2 rfl rfl
theorem dL_law_483 : decode cL_law 483 = .ok (.aload_n 0, 1) := dqr0 dqK_42 dqw_cL_law_480 3 rfl rfl
theorem dL_law_484 : decode cL_law 484 = .ok (.iload_n 3, 1) := dqr0 dqK_29 dqw_cL_law_480 4 rfl rfl
theorem dL_law_485 : decode cL_law 485 = .ok (.iconst 2, 1) := dqr0 dqK_5 dqw_cL_law_480 5 rfl rfl
theorem dL_law_486 : decode cL_law 486 = .ok (.iadd, 1) := dqr0 dqK_96 dqw_cL_law_480 6 rfl rfl
theorem dL_law_487 : decode cL_law 487 = .ok (.iaload, 1) := dqr0 dqK_46 dqw_cL_law_480 7 rfl rfl
theorem dL_law_488 : decode cL_law 488 = .ok (.i2l, 1) := dqr0 dqK_133 dqw_cL_law_480 8 rfl rfl
theorem dL_law_489 : decode cL_law 489 = .ok (.ldc2_w 45, 3) := dqr2 dqK_20 dqw_cL_law_480 9 rfl rfl rfl rfl rfl
theorem dL_law_492 : decode cL_law 492 = .ok (.land, 1) := dqr0 dqK_127 dqw_cL_law_480 12 rfl rfl
theorem dL_law_493 : decode cL_law 493 = .ok (.lor, 1) := dqr0 dqK_129 dqw_cL_law_480 13 rfl rfl
theorem dL_law_494 : decode cL_law 494 = .ok (.aload_n 0, 1) := dqr0 dqK_42 dqw_cL_law_480 14 rfl rfl
theorem dL_law_495 : decode cL_law 495 = .ok (.iload_n 3, 1) := dqr0 dqK_29 dqw_cL_law_480 15 rfl rfl
theorem dL_law_496 : decode cL_law 496 = .ok (.iconst 3, 1) := dqr0 dqK_6 dqw_cL_law_480 16 rfl rfl
theorem dL_law_497 : decode cL_law 497 = .ok (.iadd, 1) := dqr0 dqK_96 dqw_cL_law_480 17 rfl rfl
theorem dL_law_498 : decode cL_law 498 = .ok (.iaload, 1) := dqr0 dqK_46 dqw_cL_law_480 18 rfl rfl
theorem dL_law_499 : decode cL_law 499 = .ok (.invokevirtual 51, 3) := dqr2 dqK_182 dqw_cL_law_480 19 rfl rfl rfl rfl rfl
theorem dL_law_502 : decode cL_law 502 = .ok (.pop, 1) := dqr0 dqK_87 dqw_cL_law_480 22 rfl rfl
theorem dqw_cL_law_503 : dqLF cL_law 503 [167, 3, 174, 43, 182, 0, 52, 87, 44, 182, 0, 56, 87, 167, 3, 161, 43, 42, 29, 4, 96, 46] := by decide +kernel
theorem dL_law_503 : decode cL_law 503 = .ok (.goto 942, 3) := dqrs2 dqK_167 dqw_cL_law_503 0 rfl rfl rfl rfl (by decide)
theorem dL_law_506 : decode cL_law 506 = .ok (.aload_n 1, 1) := dqr0 dqK_43 dqw_cL_law_503 3 rfl rfl
theorem dL_law_507 : decode cL_law 507 = .ok (.invokevirtual 52, 3) := dqr2 dqK_182 dqw_cL_law_503 4 rfl rfl rfl rfl rfl
theorem dL_law_510 : decode cL_law 510 = .ok (.pop, 1) := dqr0 dqK_87 dqw_cL_law_503 7 rfl rfl
theorem dL_law_511 : decode cL_law 511 = .ok (.aload_n 2, 1) := dqr0 dqK_44 dqw_cL_law_503 8 rfl rfl
theorem dL_law_512 : decode cL_law 512 = .ok (.invokevirtual 56, 3) := dqr2 dqK_182 dqw_cL_law_503 9 rfl rfl rfl rfl rfl
theorem dL_law_515 : decode cL_law 515 = .ok (.pop, 1) := dqr0 dqK_87 dqw_cL_law_503 12 rfl rfl
theorem dL_law_516 : decode cL_law 516 = .ok (.goto 929, 3) := dqrs2 dqK_167 dqw_cL_law_503 13 rfl rfl rfl rfl (by decide)
theorem dL_law_519 : decode cL_law 519 = .ok (.aload_n 1, 1) := dqr0 dqK_43 dqw_cL_law_503 16 rfl rfl
theorem dL_law_520 : decode cL_law 520 = .ok (.aload_n 0, 1) := dqr0 dqK_42 dqw_cL_law_503 17 rfl rfl
theorem dL_law_521 : decode cL_law 521 = .ok (.iload_n 3, 1) := dqr0 dqK_29 dqw_cL_law_503 18 rfl rfl
theorem dL_law_522 : decode cL_law 522 = .ok (.iconst 1, 1) := dqr0 dqK_4 dqw_cL_law_503 19 rfl rfl
theorem dL_law_523 : decode cL_law 523 = .ok (.iadd, 1) := dqr0 dqK_96 dqw_cL_law_503 20 rfl rfl
theorem dL_law_524 : decode cL_law 524 = .ok (.iaload, 1) := dqr0 dqK_46 dqw_cL_law_503 21 rfl rfl
theorem dqw_cL_law_525 : dqLF cL_law 525 [182, 0, 57, 87, 44, 42, 29, 4, 96, 46, 182, 0, 60, 87, 167, 3, 138, 43, 42, 29, 4, 96, 46, 42] := by decide +kernel
theorem dL_law_525 : decode cL_law 525 = .ok (.invokevirtual 57, 3) := dqr2 dqK_182 dqw_cL_law_525 0 rfl rfl rfl rfl rfl
theorem dL_law_528 : decode cL_law 528 = .ok (.pop, 1) := dqr0 dqK_87 dqw_cL_law_525 3 rfl rfl
theorem dL_law_529 : decode cL_law 529 = .ok (.aload_n 2, 1) := dqr0 dqK_44 dqw_cL_law_525 4 rfl rfl
theorem dL_law_530 : decode cL_law 530 = .ok (.aload_n 0, 1) := dqr0 dqK_42 dqw_cL_law_525 5 rfl rfl
theorem dL_law_531 : decode cL_law 531 = .ok (.iload_n 3, 1) := dqr0 dqK_29 dqw_cL_law_525 6 rfl rfl
theorem dL_law_532 : decode cL_law 532 = .ok (.iconst 1, 1) := dqr0 dqK_4 dqw_cL_law_525 7 rfl rfl
theorem dL_law_533 : decode cL_law 533 = .ok (.iadd, 1) := dqr0 dqK_96 dqw_cL_law_525 8 rfl rfl
theorem dL_law_534 : decode cL_law 534 = .ok (.iaload, 1) := dqr0 dqK_46 dqw_cL_law_525 9 rfl rfl
theorem dL_law_535 : decode cL_law 535 = .ok (.invokevirtual 60, 3) := dqr2 dqK_182 dqw_cL_law_525 10 rfl rfl rfl rfl rfl
theorem dL_law_538 : decode cL_law 538 = .ok (.pop, 1) := dqr0 dqK_87 dqw_cL_law_525 13 rfl rfl
theorem dL_law_539 : decode cL_law 539 = .ok (.goto 906, 3) := dqrs2 dqK_167 dqw_cL_law_525 14 rfl rfl rfl rfl (by decide)
theorem dL_law_542 : decode cL_law 542 = .ok (.aload_n 1, 1) := dqr0 dqK_43 dqw_cL_law_525 17 rfl rfl
theorem dL_law_543 : decode cL_law 543 = .ok (.aload_n 0, 1) := dqr0 dqK_42 dqw_cL_law_525 18 rfl rfl
theorem dL_law_544 : decode cL_law 544 = .ok (.iload_n 3, 1) := dqr0 dqK_29 dqw_cL_law_525 19 rfl rfl
theorem dL_law_545 : decode cL_law 545 = .ok (.iconst 1, 1) := dqr0 dqK_4 dqw_cL_law_525 20 rfl rfl
theorem dL_law_546 : decode cL_law 546 = .ok (.iadd, 1) := dqr0 dqK_96 dqw_cL_law_525 21 rfl rfl
theorem dL_law_547 : decode cL_law 547 = .ok (.iaload, 1) := dqr0 dqK_46 dqw_cL_law_525 22 rfl rfl
theorem dL_law_548 : decode cL_law 548 = .ok (.aload_n 0, 1) := dqr0 dqK_42 dqw_cL_law_525 23 rfl rfl
theorem dqw_cL_law_549 : dqLF cL_law 549 [29, 5, 96, 46, 42, 29, 6, 96, 46, 42, 29, 7, 96, 46, 133, 16, 32, 121, 42, 29, 8, 96, 46, 133] := by decide +kernel
theorem dL_law_549 : decode cL_law 549 = .ok (.iload_n 3, 1) := dqr0 dqK_29 dqw_cL_law_549 0 rfl rfl
theorem dL_law_550 : decode cL_law 550 = .ok (.iconst 2, 1) := dqr0 dqK_5 dqw_cL_law_549 1 rfl rfl
theorem dL_law_551 : decode cL_law 551 = .ok (.iadd, 1) := dqr0 dqK_96 dqw_cL_law_549 2 rfl rfl
theorem dL_law_552 : decode cL_law 552 = .ok (.iaload, 1) := dqr0 dqK_46 dqw_cL_law_549 3 rfl rfl
theorem dL_law_553 : decode cL_law 553 = .ok (.aload_n 0, 1) := dqr0 dqK_42 dqw_cL_law_549 4 rfl rfl
theorem dL_law_554 : decode cL_law 554 = .ok (.iload_n 3, 1) := dqr0 dqK_29 dqw_cL_law_549 5 rfl rfl
theorem dL_law_555 : decode cL_law 555 = .ok (.iconst 3, 1) := dqr0 dqK_6 dqw_cL_law_549 6 rfl rfl
theorem dL_law_556 : decode cL_law 556 = .ok (.iadd, 1) := dqr0 dqK_96 dqw_cL_law_549 7 rfl rfl
theorem dL_law_557 : decode cL_law 557 = .ok (.iaload, 1) := dqr0 dqK_46 dqw_cL_law_549 8 rfl rfl
theorem dL_law_558 : decode cL_law 558 = .ok (.aload_n 0, 1) := dqr0 dqK_42 dqw_cL_law_549 9 rfl rfl
theorem dL_law_559 : decode cL_law 559 = .ok (.iload_n 3, 1) := dqr0 dqK_29 dqw_cL_law_549 10 rfl rfl
theorem dL_law_560 : decode cL_law 560 = .ok (.iconst 4, 1) := dqr0 dqK_7 dqw_cL_law_549 11 rfl rfl
theorem dL_law_561 : decode cL_law 561 = .ok (.iadd, 1) := dqr0 dqK_96 dqw_cL_law_549 12 rfl rfl
theorem dL_law_562 : decode cL_law 562 = .ok (.iaload, 1) := dqr0 dqK_46 dqw_cL_law_549 13 rfl rfl
theorem dL_law_563 : decode cL_law 563 = .ok (.i2l, 1) := dqr0 dqK_133 dqw_cL_law_549 14 rfl rfl
theorem dL_law_564 : decode cL_law 564 = .ok (.bipush 32, 2) := dqrs1 dqK_16 dqw_cL_law_549 15 rfl rfl rfl (by decide)
theorem dL_law_566 : decode cL_law 566 = .ok (.lshl, 1) := dqr0 dqK_121 dqw_cL_law_549 17 rfl rfl
theorem dL_law_567 : decode cL_law 567 = .ok (.aload_n 0, 1) := dqr0 dqK_42 dqw_cL_law_549 18 rfl rfl
theorem dL_law_568 : decode cL_law 568 = .ok (.iload_n 3, 1) := dqr0 dqK_29 dqw_cL_law_549 19 rfl rfl
theorem dL_law_569 : decode cL_law 569 = .ok (.iconst 5, 1) := dqr0 dqK_8 dqw_cL_law_549 20 rfl rfl
theorem dL_law_570 : decode cL_law 570 = .ok (.iadd, 1) := dqr0 dqK_96 dqw_cL_law_549 21 rfl rfl
theorem dL_law_571 : decode cL_law 571 = .ok (.iaload, 1) := dqr0 dqK_46 dqw_cL_law_549 22 rfl rfl
theorem dL_law_572 : decode cL_law 572 = .ok (.i2l, 1) := dqr0 dqK_133 dqw_cL_law_549 23 rfl rfl
theorem dqw_cL_law_573 : dqLF cL_law 573 [20, 0, 45, 127, 129, 182, 0, 61, 87, 44, 42, 29, 4, 96, 46, 42, 29, 5, 96, 46, 42, 29, 6, 96] := by decide +kernel
theorem dL_law_573 : decode cL_law 573 = .ok (.ldc2_w 45, 3) := dqr2 dqK_20 dqw_cL_law_573 0 rfl rfl rfl rfl rfl
theorem dL_law_576 : decode cL_law 576 = .ok (.land, 1) := dqr0 dqK_127 dqw_cL_law_573 3 rfl rfl
theorem dL_law_577 : decode cL_law 577 = .ok (.lor, 1) := dqr0 dqK_129 dqw_cL_law_573 4 rfl rfl
theorem dL_law_578 : decode cL_law 578 = .ok (.invokevirtual 61, 3) := dqr2 dqK_182 dqw_cL_law_573 5 rfl rfl rfl rfl rfl
theorem dL_law_581 : decode cL_law 581 = .ok (.pop, 1) := dqr0 dqK_87 dqw_cL_law_573 8 rfl rfl
theorem dL_law_582 : decode cL_law 582 = .ok (.aload_n 2, 1) := dqr0 dqK_44 dqw_cL_law_573 9 rfl rfl
theorem dL_law_583 : decode cL_law 583 = .ok (.aload_n 0, 1) := dqr0 dqK_42 dqw_cL_law_573 10 rfl rfl
theorem dL_law_584 : decode cL_law 584 = .ok (.iload_n 3, 1) := dqr0 dqK_29 dqw_cL_law_573 11 rfl rfl
theorem dL_law_585 : decode cL_law 585 = .ok (.iconst 1, 1) := dqr0 dqK_4 dqw_cL_law_573 12 rfl rfl
theorem dL_law_586 : decode cL_law 586 = .ok (.iadd, 1) := dqr0 dqK_96 dqw_cL_law_573 13 rfl rfl
theorem dL_law_587 : decode cL_law 587 = .ok (.iaload, 1) := dqr0 dqK_46 dqw_cL_law_573 14 rfl rfl
theorem dL_law_588 : decode cL_law 588 = .ok (.aload_n 0, 1) := dqr0 dqK_42 dqw_cL_law_573 15 rfl rfl
theorem dL_law_589 : decode cL_law 589 = .ok (.iload_n 3, 1) := dqr0 dqK_29 dqw_cL_law_573 16 rfl rfl
theorem dL_law_590 : decode cL_law 590 = .ok (.iconst 2, 1) := dqr0 dqK_5 dqw_cL_law_573 17 rfl rfl
theorem dL_law_591 : decode cL_law 591 = .ok (.iadd, 1) := dqr0 dqK_96 dqw_cL_law_573 18 rfl rfl
theorem dL_law_592 : decode cL_law 592 = .ok (.iaload, 1) := dqr0 dqK_46 dqw_cL_law_573 19 rfl rfl
theorem dL_law_593 : decode cL_law 593 = .ok (.aload_n 0, 1) := dqr0 dqK_42 dqw_cL_law_573 20 rfl rfl
theorem dL_law_594 : decode cL_law 594 = .ok (.iload_n 3, 1) := dqr0 dqK_29 dqw_cL_law_573 21 rfl rfl
theorem dL_law_595 : decode cL_law 595 = .ok (.iconst 3, 1) := dqr0 dqK_6 dqw_cL_law_573 22 rfl rfl
theorem dL_law_596 : decode cL_law 596 = .ok (.iadd, 1) := dqr0 dqK_96 dqw_cL_law_573 23 rfl rfl
theorem dqw_cL_law_597 : dqLF cL_law 597 [46, 42, 29, 7, 96, 46, 133, 16, 32, 121, 42, 29, 8, 96, 46, 133, 20, 0, 45, 127, 129, 182, 0, 65] := by decide +kernel
theorem dL_law_597 : decode cL_law 597 = .ok (.iaload, 1) := dqr0 dqK_46 dqw_cL_law_597 0 rfl rfl
theorem dL_law_598 : decode cL_law 598 = .ok (.aload_n 0, 1) := dqr0 dqK_42 dqw_cL_law_597 1 rfl rfl
theorem dL_law_599 : decode cL_law 599 = .ok (.iload_n 3, 1) := dqr0 dqK_29 dqw_cL_law_597 2 rfl rfl
theorem dL_law_600 : decode cL_law 600 = .ok (.iconst 4, 1) := dqr0 dqK_7 dqw_cL_law_597 3 rfl rfl
theorem dL_law_601 : decode cL_law 601 = .ok (.iadd, 1) := dqr0 dqK_96 dqw_cL_law_597 4 rfl rfl
theorem dL_law_602 : decode cL_law 602 = .ok (.iaload, 1) := dqr0 dqK_46 dqw_cL_law_597 5 rfl rfl
theorem dL_law_603 : decode cL_law 603 = .ok (.i2l, 1) := dqr0 dqK_133 dqw_cL_law_597 6 rfl rfl
theorem dL_law_604 : decode cL_law 604 = .ok (.bipush 32, 2) := dqrs1 dqK_16 dqw_cL_law_597 7 rfl rfl rfl (by decide)
theorem dL_law_606 : decode cL_law 606 = .ok (.lshl, 1) := dqr0 dqK_121 dqw_cL_law_597 9 rfl rfl
theorem dL_law_607 : decode cL_law 607 = .ok (.aload_n 0, 1) := dqr0 dqK_42 dqw_cL_law_597 10 rfl rfl
theorem dL_law_608 : decode cL_law 608 = .ok (.iload_n 3, 1) := dqr0 dqK_29 dqw_cL_law_597 11 rfl rfl
theorem dL_law_609 : decode cL_law 609 = .ok (.iconst 5, 1) := dqr0 dqK_8 dqw_cL_law_597 12 rfl rfl
theorem dL_law_610 : decode cL_law 610 = .ok (.iadd, 1) := dqr0 dqK_96 dqw_cL_law_597 13 rfl rfl
theorem dL_law_611 : decode cL_law 611 = .ok (.iaload, 1) := dqr0 dqK_46 dqw_cL_law_597 14 rfl rfl
theorem dL_law_612 : decode cL_law 612 = .ok (.i2l, 1) := dqr0 dqK_133 dqw_cL_law_597 15 rfl rfl
theorem dL_law_613 : decode cL_law 613 = .ok (.ldc2_w 45, 3) := dqr2 dqK_20 dqw_cL_law_597 16 rfl rfl rfl rfl rfl
theorem dL_law_616 : decode cL_law 616 = .ok (.land, 1) := dqr0 dqK_127 dqw_cL_law_597 19 rfl rfl
theorem dL_law_617 : decode cL_law 617 = .ok (.lor, 1) := dqr0 dqK_129 dqw_cL_law_597 20 rfl rfl
theorem dL_law_618 : decode cL_law 618 = .ok (.invokevirtual 65, 3) := dqr2 dqK_182 dqw_cL_law_597 21 rfl rfl rfl rfl rfl
theorem dqw_cL_law_621 : dqLF cL_law 621 [87, 167, 3, 55, 43, 42, 29, 4, 96, 46, 182, 0, 66, 87, 44, 42, 29, 4, 96, 46, 182, 0, 69, 87] := by decide +kernel
theorem dL_law_621 : decode cL_law 621 = .ok (.pop, 1) := dqr0 dqK_87 dqw_cL_law_621 0 rfl rfl
theorem dL_law_622 : decode cL_law 622 = .ok (.goto 823, 3) := dqrs2 dqK_167 dqw_cL_law_621 1 rfl rfl rfl rfl (by decide)
theorem dL_law_625 : decode cL_law 625 = .ok (.aload_n 1, 1) := dqr0 dqK_43 dqw_cL_law_621 4 rfl rfl
theorem dL_law_626 : decode cL_law 626 = .ok (.aload_n 0, 1) := dqr0 dqK_42 dqw_cL_law_621 5 rfl rfl
theorem dL_law_627 : decode cL_law 627 = .ok (.iload_n 3, 1) := dqr0 dqK_29 dqw_cL_law_621 6 rfl rfl
theorem dL_law_628 : decode cL_law 628 = .ok (.iconst 1, 1) := dqr0 dqK_4 dqw_cL_law_621 7 rfl rfl
theorem dL_law_629 : decode cL_law 629 = .ok (.iadd, 1) := dqr0 dqK_96 dqw_cL_law_621 8 rfl rfl
theorem dL_law_630 : decode cL_law 630 = .ok (.iaload, 1) := dqr0 dqK_46 dqw_cL_law_621 9 rfl rfl
theorem dL_law_631 : decode cL_law 631 = .ok (.invokevirtual 66, 3) := dqr2 dqK_182 dqw_cL_law_621 10 rfl rfl rfl rfl rfl
theorem dL_law_634 : decode cL_law 634 = .ok (.pop, 1) := dqr0 dqK_87 dqw_cL_law_621 13 rfl rfl
theorem dL_law_635 : decode cL_law 635 = .ok (.aload_n 2, 1) := dqr0 dqK_44 dqw_cL_law_621 14 rfl rfl
theorem dL_law_636 : decode cL_law 636 = .ok (.aload_n 0, 1) := dqr0 dqK_42 dqw_cL_law_621 15 rfl rfl
theorem dL_law_637 : decode cL_law 637 = .ok (.iload_n 3, 1) := dqr0 dqK_29 dqw_cL_law_621 16 rfl rfl
theorem dL_law_638 : decode cL_law 638 = .ok (.iconst 1, 1) := dqr0 dqK_4 dqw_cL_law_621 17 rfl rfl
theorem dL_law_639 : decode cL_law 639 = .ok (.iadd, 1) := dqr0 dqK_96 dqw_cL_law_621 18 rfl rfl
theorem dL_law_640 : decode cL_law 640 = .ok (.iaload, 1) := dqr0 dqK_46 dqw_cL_law_621 19 rfl rfl
theorem dL_law_641 : decode cL_law 641 = .ok (.invokevirtual 69, 3) := dqr2 dqK_182 dqw_cL_law_621 20 rfl rfl rfl rfl rfl
theorem dL_law_644 : decode cL_law 644 = .ok (.pop, 1) := dqr0 dqK_87 dqw_cL_law_621 23 rfl rfl
theorem dqw_cL_law_645 : dqLF cL_law 645 [167, 3, 32, 43, 42, 29, 4, 96, 46, 182, 0, 70, 87, 44, 42, 29, 4, 96, 46, 182, 0, 73, 87] := by decide +kernel
theorem dL_law_645 : decode cL_law 645 = .ok (.goto 800, 3) := dqrs2 dqK_167 dqw_cL_law_645 0 rfl rfl rfl rfl (by decide)
theorem dL_law_648 : decode cL_law 648 = .ok (.aload_n 1, 1) := dqr0 dqK_43 dqw_cL_law_645 3 rfl rfl
theorem dL_law_649 : decode cL_law 649 = .ok (.aload_n 0, 1) := dqr0 dqK_42 dqw_cL_law_645 4 rfl rfl
theorem dL_law_650 : decode cL_law 650 = .ok (.iload_n 3, 1) := dqr0 dqK_29 dqw_cL_law_645 5 rfl rfl
theorem dL_law_651 : decode cL_law 651 = .ok (.iconst 1, 1) := dqr0 dqK_4 dqw_cL_law_645 6 rfl rfl
theorem dL_law_652 : decode cL_law 652 = .ok (.iadd, 1) := dqr0 dqK_96 dqw_cL_law_645 7 rfl rfl
theorem dL_law_653 : decode cL_law 653 = .ok (.iaload, 1) := dqr0 dqK_46 dqw_cL_law_645 8 rfl rfl
theorem dL_law_654 : decode cL_law 654 = .ok (.invokevirtual 70, 3) := dqr2 dqK_182 dqw_cL_law_645 9 rfl rfl rfl rfl rfl
theorem dL_law_657 : decode cL_law 657 = .ok (.pop, 1) := dqr0 dqK_87 dqw_cL_law_645 12 rfl rfl
theorem dL_law_658 : decode cL_law 658 = .ok (.aload_n 2, 1) := dqr0 dqK_44 dqw_cL_law_645 13 rfl rfl
theorem dL_law_659 : decode cL_law 659 = .ok (.aload_n 0, 1) := dqr0 dqK_42 dqw_cL_law_645 14 rfl rfl
theorem dL_law_660 : decode cL_law 660 = .ok (.iload_n 3, 1) := dqr0 dqK_29 dqw_cL_law_645 15 rfl rfl
theorem dL_law_661 : decode cL_law 661 = .ok (.iconst 1, 1) := dqr0 dqK_4 dqw_cL_law_645 16 rfl rfl
theorem dL_law_662 : decode cL_law 662 = .ok (.iadd, 1) := dqr0 dqK_96 dqw_cL_law_645 17 rfl rfl
theorem dL_law_663 : decode cL_law 663 = .ok (.iaload, 1) := dqr0 dqK_46 dqw_cL_law_645 18 rfl rfl
theorem dL_law_664 : decode cL_law 664 = .ok (.invokevirtual 73, 3) := dqr2 dqK_182 dqw_cL_law_645 19 rfl rfl rfl rfl rfl
theorem dL_law_667 : decode cL_law 667 = .ok (.pop, 1) := dqr0 dqK_87 dqw_cL_law_645 22 rfl rfl
theorem dqw_cL_law_668 : dqLF cL_law 668 [167, 3, 9, 43, 42, 29, 4, 96, 46, 42, 29, 5, 96, 46, 182, 0, 74, 87, 44, 42, 29, 4, 96, 46] := by decide +kernel
theorem dL_law_668 : decode cL_law 668 = .ok (.goto 777, 3) := dqrs2 dqK_167 dqw_cL_law_668 0 rfl rfl rfl rfl (by decide)
theorem dL_law_671 : decode cL_law 671 = .ok (.aload_n 1, 1) := dqr0 dqK_43 dqw_cL_law_668 3 rfl rfl
theorem dL_law_672 : decode cL_law 672 = .ok (.aload_n 0, 1) := dqr0 dqK_42 dqw_cL_law_668 4 rfl rfl
theorem dL_law_673 : decode cL_law 673 = .ok (.iload_n 3, 1) := dqr0 dqK_29 dqw_cL_law_668 5 rfl rfl
theorem dL_law_674 : decode cL_law 674 = .ok (.iconst 1, 1) := dqr0 dqK_4 dqw_cL_law_668 6 rfl rfl
theorem dL_law_675 : decode cL_law 675 = .ok (.iadd, 1) := dqr0 dqK_96 dqw_cL_law_668 7 rfl rfl
theorem dL_law_676 : decode cL_law 676 = .ok (.iaload, 1) := dqr0 dqK_46 dqw_cL_law_668 8 rfl rfl
theorem dL_law_677 : decode cL_law 677 = .ok (.aload_n 0, 1) := dqr0 dqK_42 dqw_cL_law_668 9 rfl rfl
theorem dL_law_678 : decode cL_law 678 = .ok (.iload_n 3, 1) := dqr0 dqK_29 dqw_cL_law_668 10 rfl rfl
theorem dL_law_679 : decode cL_law 679 = .ok (.iconst 2, 1) := dqr0 dqK_5 dqw_cL_law_668 11 rfl rfl
theorem dL_law_680 : decode cL_law 680 = .ok (.iadd, 1) := dqr0 dqK_96 dqw_cL_law_668 12 rfl rfl
theorem dL_law_681 : decode cL_law 681 = .ok (.iaload, 1) := dqr0 dqK_46 dqw_cL_law_668 13 rfl rfl
theorem dL_law_682 : decode cL_law 682 = .ok (.invokevirtual 74, 3) := dqr2 dqK_182 dqw_cL_law_668 14 rfl rfl rfl rfl rfl
theorem dL_law_685 : decode cL_law 685 = .ok (.pop, 1) := dqr0 dqK_87 dqw_cL_law_668 17 rfl rfl
theorem dL_law_686 : decode cL_law 686 = .ok (.aload_n 2, 1) := dqr0 dqK_44 dqw_cL_law_668 18 rfl rfl
theorem dL_law_687 : decode cL_law 687 = .ok (.aload_n 0, 1) := dqr0 dqK_42 dqw_cL_law_668 19 rfl rfl
theorem dL_law_688 : decode cL_law 688 = .ok (.iload_n 3, 1) := dqr0 dqK_29 dqw_cL_law_668 20 rfl rfl
theorem dL_law_689 : decode cL_law 689 = .ok (.iconst 1, 1) := dqr0 dqK_4 dqw_cL_law_668 21 rfl rfl
theorem dL_law_690 : decode cL_law 690 = .ok (.iadd, 1) := dqr0 dqK_96 dqw_cL_law_668 22 rfl rfl
theorem dL_law_691 : decode cL_law 691 = .ok (.iaload, 1) := dqr0 dqK_46 dqw_cL_law_668 23 rfl rfl
theorem dqw_cL_law_692 : dqLF cL_law 692 [42, 29, 5, 96, 46, 182, 0, 77, 87, 167, 2, 232, 43, 42, 29, 4, 96, 46, 42, 29, 5, 96, 46, 42] := by decide +kernel
theorem dL_law_692 : decode cL_law 692 = .ok (.aload_n 0, 1) := dqr0 dqK_42 dqw_cL_law_692 0 rfl rfl
theorem dL_law_693 : decode cL_law 693 = .ok (.iload_n 3, 1) := dqr0 dqK_29 dqw_cL_law_692 1 rfl rfl
theorem dL_law_694 : decode cL_law 694 = .ok (.iconst 2, 1) := dqr0 dqK_5 dqw_cL_law_692 2 rfl rfl
theorem dL_law_695 : decode cL_law 695 = .ok (.iadd, 1) := dqr0 dqK_96 dqw_cL_law_692 3 rfl rfl
theorem dL_law_696 : decode cL_law 696 = .ok (.iaload, 1) := dqr0 dqK_46 dqw_cL_law_692 4 rfl rfl
theorem dL_law_697 : decode cL_law 697 = .ok (.invokevirtual 77, 3) := dqr2 dqK_182 dqw_cL_law_692 5 rfl rfl rfl rfl rfl
theorem dL_law_700 : decode cL_law 700 = .ok (.pop, 1) := dqr0 dqK_87 dqw_cL_law_692 8 rfl rfl
theorem dL_law_701 : decode cL_law 701 = .ok (.goto 744, 3) := dqrs2 dqK_167 dqw_cL_law_692 9 rfl rfl rfl rfl (by decide)
theorem dL_law_704 : decode cL_law 704 = .ok (.aload_n 1, 1) := dqr0 dqK_43 dqw_cL_law_692 12 rfl rfl
theorem dL_law_705 : decode cL_law 705 = .ok (.aload_n 0, 1) := dqr0 dqK_42 dqw_cL_law_692 13 rfl rfl
theorem dL_law_706 : decode cL_law 706 = .ok (.iload_n 3, 1) := dqr0 dqK_29 dqw_cL_law_692 14 rfl rfl
theorem dL_law_707 : decode cL_law 707 = .ok (.iconst 1, 1) := dqr0 dqK_4 dqw_cL_law_692 15 rfl rfl
theorem dL_law_708 : decode cL_law 708 = .ok (.iadd, 1) := dqr0 dqK_96 dqw_cL_law_692 16 rfl rfl
theorem dL_law_709 : decode cL_law 709 = .ok (.iaload, 1) := dqr0 dqK_46 dqw_cL_law_692 17 rfl rfl
theorem dL_law_710 : decode cL_law 710 = .ok (.aload_n 0, 1) := dqr0 dqK_42 dqw_cL_law_692 18 rfl rfl
theorem dL_law_711 : decode cL_law 711 = .ok (.iload_n 3, 1) := dqr0 dqK_29 dqw_cL_law_692 19 rfl rfl
theorem dL_law_712 : decode cL_law 712 = .ok (.iconst 2, 1) := dqr0 dqK_5 dqw_cL_law_692 20 rfl rfl
theorem dL_law_713 : decode cL_law 713 = .ok (.iadd, 1) := dqr0 dqK_96 dqw_cL_law_692 21 rfl rfl
theorem dL_law_714 : decode cL_law 714 = .ok (.iaload, 1) := dqr0 dqK_46 dqw_cL_law_692 22 rfl rfl
theorem dL_law_715 : decode cL_law 715 = .ok (.aload_n 0, 1) := dqr0 dqK_42 dqw_cL_law_692 23 rfl rfl
theorem dqw_cL_law_716 : dqLF cL_law 716 [29, 6, 96, 46, 42, 29, 7, 96, 46, 182, 0, 78, 87, 44, 42, 29, 4, 96, 46, 42, 29, 5, 96, 46] := by decide +kernel
theorem dL_law_716 : decode cL_law 716 = .ok (.iload_n 3, 1) := dqr0 dqK_29 dqw_cL_law_716 0 rfl rfl
theorem dL_law_717 : decode cL_law 717 = .ok (.iconst 3, 1) := dqr0 dqK_6 dqw_cL_law_716 1 rfl rfl
theorem dL_law_718 : decode cL_law 718 = .ok (.iadd, 1) := dqr0 dqK_96 dqw_cL_law_716 2 rfl rfl
theorem dL_law_719 : decode cL_law 719 = .ok (.iaload, 1) := dqr0 dqK_46 dqw_cL_law_716 3 rfl rfl
theorem dL_law_720 : decode cL_law 720 = .ok (.aload_n 0, 1) := dqr0 dqK_42 dqw_cL_law_716 4 rfl rfl
theorem dL_law_721 : decode cL_law 721 = .ok (.iload_n 3, 1) := dqr0 dqK_29 dqw_cL_law_716 5 rfl rfl
theorem dL_law_722 : decode cL_law 722 = .ok (.iconst 4, 1) := dqr0 dqK_7 dqw_cL_law_716 6 rfl rfl
theorem dL_law_723 : decode cL_law 723 = .ok (.iadd, 1) := dqr0 dqK_96 dqw_cL_law_716 7 rfl rfl
theorem dL_law_724 : decode cL_law 724 = .ok (.iaload, 1) := dqr0 dqK_46 dqw_cL_law_716 8 rfl rfl
theorem dL_law_725 : decode cL_law 725 = .ok (.invokevirtual 78, 3) := dqr2 dqK_182 dqw_cL_law_716 9 rfl rfl rfl rfl rfl
theorem dL_law_728 : decode cL_law 728 = .ok (.pop, 1) := dqr0 dqK_87 dqw_cL_law_716 12 rfl rfl
theorem dL_law_729 : decode cL_law 729 = .ok (.aload_n 2, 1) := dqr0 dqK_44 dqw_cL_law_716 13 rfl rfl
theorem dL_law_730 : decode cL_law 730 = .ok (.aload_n 0, 1) := dqr0 dqK_42 dqw_cL_law_716 14 rfl rfl
theorem dL_law_731 : decode cL_law 731 = .ok (.iload_n 3, 1) := dqr0 dqK_29 dqw_cL_law_716 15 rfl rfl
theorem dL_law_732 : decode cL_law 732 = .ok (.iconst 1, 1) := dqr0 dqK_4 dqw_cL_law_716 16 rfl rfl
theorem dL_law_733 : decode cL_law 733 = .ok (.iadd, 1) := dqr0 dqK_96 dqw_cL_law_716 17 rfl rfl
theorem dL_law_734 : decode cL_law 734 = .ok (.iaload, 1) := dqr0 dqK_46 dqw_cL_law_716 18 rfl rfl
theorem dL_law_735 : decode cL_law 735 = .ok (.aload_n 0, 1) := dqr0 dqK_42 dqw_cL_law_716 19 rfl rfl
theorem dL_law_736 : decode cL_law 736 = .ok (.iload_n 3, 1) := dqr0 dqK_29 dqw_cL_law_716 20 rfl rfl
theorem dL_law_737 : decode cL_law 737 = .ok (.iconst 2, 1) := dqr0 dqK_5 dqw_cL_law_716 21 rfl rfl
theorem dL_law_738 : decode cL_law 738 = .ok (.iadd, 1) := dqr0 dqK_96 dqw_cL_law_716 22 rfl rfl
theorem dL_law_739 : decode cL_law 739 = .ok (.iaload, 1) := dqr0 dqK_46 dqw_cL_law_716 23 rfl rfl
theorem dqw_cL_law_740 : dqLF cL_law 740 [42, 29, 6, 96, 46, 42, 29, 7, 96, 46, 182, 0, 82, 87, 167, 2, 179, 43, 42, 29, 4, 96, 46, 42] := by decide +kernel
theorem dL_law_740 : decode cL_law 740 = .ok (.aload_n 0, 1) := dqr0 dqK_42 dqw_cL_law_740 0 rfl rfl
theorem dL_law_741 : decode cL_law 741 = .ok (.iload_n 3, 1) := dqr0 dqK_29 dqw_cL_law_740 1 rfl rfl
theorem dL_law_742 : decode cL_law 742 = .ok (.iconst 3, 1) := dqr0 dqK_6 dqw_cL_law_740 2 rfl rfl
theorem dL_law_743 : decode cL_law 743 = .ok (.iadd, 1) := dqr0 dqK_96 dqw_cL_law_740 3 rfl rfl
theorem dL_law_744 : decode cL_law 744 = .ok (.iaload, 1) := dqr0 dqK_46 dqw_cL_law_740 4 rfl rfl
theorem dL_law_745 : decode cL_law 745 = .ok (.aload_n 0, 1) := dqr0 dqK_42 dqw_cL_law_740 5 rfl rfl
theorem dL_law_746 : decode cL_law 746 = .ok (.iload_n 3, 1) := dqr0 dqK_29 dqw_cL_law_740 6 rfl rfl
theorem dL_law_747 : decode cL_law 747 = .ok (.iconst 4, 1) := dqr0 dqK_7 dqw_cL_law_740 7 rfl rfl
theorem dL_law_748 : decode cL_law 748 = .ok (.iadd, 1) := dqr0 dqK_96 dqw_cL_law_740 8 rfl rfl
theorem dL_law_749 : decode cL_law 749 = .ok (.iaload, 1) := dqr0 dqK_46 dqw_cL_law_740 9 rfl rfl
theorem dL_law_750 : decode cL_law 750 = .ok (.invokevirtual 82, 3) := dqr2 dqK_182 dqw_cL_law_740 10 rfl rfl rfl rfl rfl
theorem dL_law_753 : decode cL_law 753 = .ok (.pop, 1) := dqr0 dqK_87 dqw_cL_law_740 13 rfl rfl
theorem dL_law_754 : decode cL_law 754 = .ok (.goto 691, 3) := dqrs2 dqK_167 dqw_cL_law_740 14 rfl rfl rfl rfl (by decide)
theorem dL_law_757 : decode cL_law 757 = .ok (.aload_n 1, 1) := dqr0 dqK_43 dqw_cL_law_740 17 rfl rfl
theorem dL_law_758 : decode cL_law 758 = .ok (.aload_n 0, 1) := dqr0 dqK_42 dqw_cL_law_740 18 rfl rfl
theorem dL_law_759 : decode cL_law 759 = .ok (.iload_n 3, 1) := dqr0 dqK_29 dqw_cL_law_740 19 rfl rfl
theorem dL_law_760 : decode cL_law 760 = .ok (.iconst 1, 1) := dqr0 dqK_4 dqw_cL_law_740 20 rfl rfl
theorem dL_law_761 : decode cL_law 761 = .ok (.iadd, 1) := dqr0 dqK_96 dqw_cL_law_740 21 rfl rfl
theorem dL_law_762 : decode cL_law 762 = .ok (.iaload, 1) := dqr0 dqK_46 dqw_cL_law_740 22 rfl rfl
theorem dL_law_763 : decode cL_law 763 = .ok (.aload_n 0, 1) := dqr0 dqK_42 dqw_cL_law_740 23 rfl rfl
theorem dqw_cL_law_764 : dqLF cL_law 764 [29, 5, 96, 46, 42, 29, 6, 96, 46, 182, 0, 83, 87, 44, 42, 29, 4, 96, 46, 42, 29, 5, 96, 46] := by decide +kernel
theorem dL_law_764 : decode cL_law 764 = .ok (.iload_n 3, 1) := dqr0 dqK_29 dqw_cL_law_764 0 rfl rfl
theorem dL_law_765 : decode cL_law 765 = .ok (.iconst 2, 1) := dqr0 dqK_5 dqw_cL_law_764 1 rfl rfl
theorem dL_law_766 : decode cL_law 766 = .ok (.iadd, 1) := dqr0 dqK_96 dqw_cL_law_764 2 rfl rfl
theorem dL_law_767 : decode cL_law 767 = .ok (.iaload, 1) := dqr0 dqK_46 dqw_cL_law_764 3 rfl rfl
theorem dL_law_768 : decode cL_law 768 = .ok (.aload_n 0, 1) := dqr0 dqK_42 dqw_cL_law_764 4 rfl rfl
theorem dL_law_769 : decode cL_law 769 = .ok (.iload_n 3, 1) := dqr0 dqK_29 dqw_cL_law_764 5 rfl rfl
theorem dL_law_770 : decode cL_law 770 = .ok (.iconst 3, 1) := dqr0 dqK_6 dqw_cL_law_764 6 rfl rfl
theorem dL_law_771 : decode cL_law 771 = .ok (.iadd, 1) := dqr0 dqK_96 dqw_cL_law_764 7 rfl rfl
theorem dL_law_772 : decode cL_law 772 = .ok (.iaload, 1) := dqr0 dqK_46 dqw_cL_law_764 8 rfl rfl
theorem dL_law_773 : decode cL_law 773 = .ok (.invokevirtual 83, 3) := dqr2 dqK_182 dqw_cL_law_764 9 rfl rfl rfl rfl rfl
theorem dL_law_776 : decode cL_law 776 = .ok (.pop, 1) := dqr0 dqK_87 dqw_cL_law_764 12 rfl rfl
theorem dL_law_777 : decode cL_law 777 = .ok (.aload_n 2, 1) := dqr0 dqK_44 dqw_cL_law_764 13 rfl rfl
theorem dL_law_778 : decode cL_law 778 = .ok (.aload_n 0, 1) := dqr0 dqK_42 dqw_cL_law_764 14 rfl rfl
theorem dL_law_779 : decode cL_law 779 = .ok (.iload_n 3, 1) := dqr0 dqK_29 dqw_cL_law_764 15 rfl rfl
theorem dL_law_780 : decode cL_law 780 = .ok (.iconst 1, 1) := dqr0 dqK_4 dqw_cL_law_764 16 rfl rfl
theorem dL_law_781 : decode cL_law 781 = .ok (.iadd, 1) := dqr0 dqK_96 dqw_cL_law_764 17 rfl rfl
theorem dL_law_782 : decode cL_law 782 = .ok (.iaload, 1) := dqr0 dqK_46 dqw_cL_law_764 18 rfl rfl
theorem dL_law_783 : decode cL_law 783 = .ok (.aload_n 0, 1) := dqr0 dqK_42 dqw_cL_law_764 19 rfl rfl
theorem dL_law_784 : decode cL_law 784 = .ok (.iload_n 3, 1) := dqr0 dqK_29 dqw_cL_law_764 20 rfl rfl
theorem dL_law_785 : decode cL_law 785 = .ok (.iconst 2, 1) := dqr0 dqK_5 dqw_cL_law_764 21 rfl rfl
theorem dL_law_786 : decode cL_law 786 = .ok (.iadd, 1) := dqr0 dqK_96 dqw_cL_law_764 22 rfl rfl
theorem dL_law_787 : decode cL_law 787 = .ok (.iaload, 1) := dqr0 dqK_46 dqw_cL_law_764 23 rfl rfl
theorem dqw_cL_law_788 : dqLF cL_law 788 [42, 29, 6, 96, 46, 182, 0, 86, 87, 167, 2, 136, 43, 42, 29, 4, 96, 46, 42, 29, 5, 96, 46, 42] := by decide +kernel
theorem dL_law_788 : decode cL_law 788 = .ok (.aload_n 0, 1) := dqr0 dqK_42 dqw_cL_law_788 0 rfl rfl
theorem dL_law_789 : decode cL_law 789 = .ok (.iload_n 3, 1) := dqr0 dqK_29 dqw_cL_law_788 1 rfl rfl
theorem dL_law_790 : decode cL_law 790 = .ok (.iconst 3, 1) := dqr0 dqK_6 dqw_cL_law_788 2 rfl rfl
theorem dL_law_791 : decode cL_law 791 = .ok (.iadd, 1) := dqr0 dqK_96 dqw_cL_law_788 3 rfl rfl
theorem dL_law_792 : decode cL_law 792 = .ok (.iaload, 1) := dqr0 dqK_46 dqw_cL_law_788 4 rfl rfl
theorem dL_law_793 : decode cL_law 793 = .ok (.invokevirtual 86, 3) := dqr2 dqK_182 dqw_cL_law_788 5 rfl rfl rfl rfl rfl
theorem dL_law_796 : decode cL_law 796 = .ok (.pop, 1) := dqr0 dqK_87 dqw_cL_law_788 8 rfl rfl
theorem dL_law_797 : decode cL_law 797 = .ok (.goto 648, 3) := dqrs2 dqK_167 dqw_cL_law_788 9 rfl rfl rfl rfl (by decide)
theorem dL_law_800 : decode cL_law 800 = .ok (.aload_n 1, 1) := dqr0 dqK_43 dqw_cL_law_788 12 rfl rfl
theorem dL_law_801 : decode cL_law 801 = .ok (.aload_n 0, 1) := dqr0 dqK_42 dqw_cL_law_788 13 rfl rfl
theorem dL_law_802 : decode cL_law 802 = .ok (.iload_n 3, 1) := dqr0 dqK_29 dqw_cL_law_788 14 rfl rfl
theorem dL_law_803 : decode cL_law 803 = .ok (.iconst 1, 1) := dqr0 dqK_4 dqw_cL_law_788 15 rfl rfl
theorem dL_law_804 : decode cL_law 804 = .ok (.iadd, 1) := dqr0 dqK_96 dqw_cL_law_788 16 rfl rfl
theorem dL_law_805 : decode cL_law 805 = .ok (.iaload, 1) := dqr0 dqK_46 dqw_cL_law_788 17 rfl rfl
theorem dL_law_806 : decode cL_law 806 = .ok (.aload_n 0, 1) := dqr0 dqK_42 dqw_cL_law_788 18 rfl rfl
theorem dL_law_807 : decode cL_law 807 = .ok (.iload_n 3, 1) := dqr0 dqK_29 dqw_cL_law_788 19 rfl rfl
theorem dL_law_808 : decode cL_law 808 = .ok (.iconst 2, 1) := dqr0 dqK_5 dqw_cL_law_788 20 rfl rfl
theorem dL_law_809 : decode cL_law 809 = .ok (.iadd, 1) := dqr0 dqK_96 dqw_cL_law_788 21 rfl rfl
theorem dL_law_810 : decode cL_law 810 = .ok (.iaload, 1) := dqr0 dqK_46 dqw_cL_law_788 22 rfl rfl
theorem dL_law_811 : decode cL_law 811 = .ok (.aload_n 0, 1) := dqr0 dqK_42 dqw_cL_law_788 23 rfl rfl
theorem dqw_cL_law_812 : dqLF cL_law 812 [29, 6, 96, 46, 42, 29, 7, 96, 46, 182, 0, 87, 87, 44, 42, 29, 4, 96, 46, 42, 29, 5, 96, 46] := by decide +kernel
theorem dL_law_812 : decode cL_law 812 = .ok (.iload_n 3, 1) := dqr0 dqK_29 dqw_cL_law_812 0 rfl rfl
theorem dL_law_813 : decode cL_law 813 = .ok (.iconst 3, 1) := dqr0 dqK_6 dqw_cL_law_812 1 rfl rfl
theorem dL_law_814 : decode cL_law 814 = .ok (.iadd, 1) := dqr0 dqK_96 dqw_cL_law_812 2 rfl rfl
theorem dL_law_815 : decode cL_law 815 = .ok (.iaload, 1) := dqr0 dqK_46 dqw_cL_law_812 3 rfl rfl
theorem dL_law_816 : decode cL_law 816 = .ok (.aload_n 0, 1) := dqr0 dqK_42 dqw_cL_law_812 4 rfl rfl
theorem dL_law_817 : decode cL_law 817 = .ok (.iload_n 3, 1) := dqr0 dqK_29 dqw_cL_law_812 5 rfl rfl
theorem dL_law_818 : decode cL_law 818 = .ok (.iconst 4, 1) := dqr0 dqK_7 dqw_cL_law_812 6 rfl rfl
theorem dL_law_819 : decode cL_law 819 = .ok (.iadd, 1) := dqr0 dqK_96 dqw_cL_law_812 7 rfl rfl
theorem dL_law_820 : decode cL_law 820 = .ok (.iaload, 1) := dqr0 dqK_46 dqw_cL_law_812 8 rfl rfl
theorem dL_law_821 : decode cL_law 821 = .ok (.invokevirtual 87, 3) := dqr2 dqK_182 dqw_cL_law_812 9 rfl rfl rfl rfl rfl
theorem dL_law_824 : decode cL_law 824 = .ok (.pop, 1) := dqr0 dqK_87 dqw_cL_law_812 12 rfl rfl
theorem dL_law_825 : decode cL_law 825 = .ok (.aload_n 2, 1) := dqr0 dqK_44 dqw_cL_law_812 13 rfl rfl
theorem dL_law_826 : decode cL_law 826 = .ok (.aload_n 0, 1) := dqr0 dqK_42 dqw_cL_law_812 14 rfl rfl
theorem dL_law_827 : decode cL_law 827 = .ok (.iload_n 3, 1) := dqr0 dqK_29 dqw_cL_law_812 15 rfl rfl
theorem dL_law_828 : decode cL_law 828 = .ok (.iconst 1, 1) := dqr0 dqK_4 dqw_cL_law_812 16 rfl rfl
theorem dL_law_829 : decode cL_law 829 = .ok (.iadd, 1) := dqr0 dqK_96 dqw_cL_law_812 17 rfl rfl
theorem dL_law_830 : decode cL_law 830 = .ok (.iaload, 1) := dqr0 dqK_46 dqw_cL_law_812 18 rfl rfl
theorem dL_law_831 : decode cL_law 831 = .ok (.aload_n 0, 1) := dqr0 dqK_42 dqw_cL_law_812 19 rfl rfl
theorem dL_law_832 : decode cL_law 832 = .ok (.iload_n 3, 1) := dqr0 dqK_29 dqw_cL_law_812 20 rfl rfl
theorem dL_law_833 : decode cL_law 833 = .ok (.iconst 2, 1) := dqr0 dqK_5 dqw_cL_law_812 21 rfl rfl
theorem dL_law_834 : decode cL_law 834 = .ok (.iadd, 1) := dqr0 dqK_96 dqw_cL_law_812 22 rfl rfl
theorem dL_law_835 : decode cL_law 835 = .ok (.iaload, 1) := dqr0 dqK_46 dqw_cL_law_812 23 rfl rfl
theorem dqw_cL_law_836 : dqLF cL_law 836 [42, 29, 6, 96, 46, 42, 29, 7, 96, 46, 182, 0, 90, 87, 167, 2, 83, 43, 42, 29, 4, 96, 46, 42] := by decide +kernel
theorem dL_law_836 : decode cL_law 836 = .ok (.aload_n 0, 1) := dqr0 dqK_42 dqw_cL_law_836 0 rfl rfl
theorem dL_law_837 : decode cL_law 837 = .ok (.iload_n 3, 1) := dqr0 dqK_29 dqw_cL_law_836 1 rfl rfl
theorem dL_law_838 : decode cL_law 838 = .ok (.iconst 3, 1) := dqr0 dqK_6 dqw_cL_law_836 2 rfl rfl
theorem dL_law_839 : decode cL_law 839 = .ok (.iadd, 1) := dqr0 dqK_96 dqw_cL_law_836 3 rfl rfl
theorem dL_law_840 : decode cL_law 840 = .ok (.iaload, 1) := dqr0 dqK_46 dqw_cL_law_836 4 rfl rfl
theorem dL_law_841 : decode cL_law 841 = .ok (.aload_n 0, 1) := dqr0 dqK_42 dqw_cL_law_836 5 rfl rfl
theorem dL_law_842 : decode cL_law 842 = .ok (.iload_n 3, 1) := dqr0 dqK_29 dqw_cL_law_836 6 rfl rfl
theorem dL_law_843 : decode cL_law 843 = .ok (.iconst 4, 1) := dqr0 dqK_7 dqw_cL_law_836 7 rfl rfl
theorem dL_law_844 : decode cL_law 844 = .ok (.iadd, 1) := dqr0 dqK_96 dqw_cL_law_836 8 rfl rfl
theorem dL_law_845 : decode cL_law 845 = .ok (.iaload, 1) := dqr0 dqK_46 dqw_cL_law_836 9 rfl rfl
theorem dL_law_846 : decode cL_law 846 = .ok (.invokevirtual 90, 3) := dqr2 dqK_182 dqw_cL_law_836 10 rfl rfl rfl rfl rfl
theorem dL_law_849 : decode cL_law 849 = .ok (.pop, 1) := dqr0 dqK_87 dqw_cL_law_836 13 rfl rfl
theorem dL_law_850 : decode cL_law 850 = .ok (.goto 595, 3) := dqrs2 dqK_167 dqw_cL_law_836 14 rfl rfl rfl rfl (by decide)
theorem dL_law_853 : decode cL_law 853 = .ok (.aload_n 1, 1) := dqr0 dqK_43 dqw_cL_law_836 17 rfl rfl
theorem dL_law_854 : decode cL_law 854 = .ok (.aload_n 0, 1) := dqr0 dqK_42 dqw_cL_law_836 18 rfl rfl
theorem dL_law_855 : decode cL_law 855 = .ok (.iload_n 3, 1) := dqr0 dqK_29 dqw_cL_law_836 19 rfl rfl
theorem dL_law_856 : decode cL_law 856 = .ok (.iconst 1, 1) := dqr0 dqK_4 dqw_cL_law_836 20 rfl rfl
theorem dL_law_857 : decode cL_law 857 = .ok (.iadd, 1) := dqr0 dqK_96 dqw_cL_law_836 21 rfl rfl
theorem dL_law_858 : decode cL_law 858 = .ok (.iaload, 1) := dqr0 dqK_46 dqw_cL_law_836 22 rfl rfl
theorem dL_law_859 : decode cL_law 859 = .ok (.aload_n 0, 1) := dqr0 dqK_42 dqw_cL_law_836 23 rfl rfl
theorem dqw_cL_law_860 : dqLF cL_law 860 [29, 5, 96, 46, 42, 29, 6, 96, 46, 182, 0, 91, 87, 44, 42, 29, 4, 96, 46, 42, 29, 5, 96, 46] := by decide +kernel
theorem dL_law_860 : decode cL_law 860 = .ok (.iload_n 3, 1) := dqr0 dqK_29 dqw_cL_law_860 0 rfl rfl
theorem dL_law_861 : decode cL_law 861 = .ok (.iconst 2, 1) := dqr0 dqK_5 dqw_cL_law_860 1 rfl rfl
theorem dL_law_862 : decode cL_law 862 = .ok (.iadd, 1) := dqr0 dqK_96 dqw_cL_law_860 2 rfl rfl
theorem dL_law_863 : decode cL_law 863 = .ok (.iaload, 1) := dqr0 dqK_46 dqw_cL_law_860 3 rfl rfl
theorem dL_law_864 : decode cL_law 864 = .ok (.aload_n 0, 1) := dqr0 dqK_42 dqw_cL_law_860 4 rfl rfl
theorem dL_law_865 : decode cL_law 865 = .ok (.iload_n 3, 1) := dqr0 dqK_29 dqw_cL_law_860 5 rfl rfl
theorem dL_law_866 : decode cL_law 866 = .ok (.iconst 3, 1) := dqr0 dqK_6 dqw_cL_law_860 6 rfl rfl
theorem dL_law_867 : decode cL_law 867 = .ok (.iadd, 1) := dqr0 dqK_96 dqw_cL_law_860 7 rfl rfl
theorem dL_law_868 : decode cL_law 868 = .ok (.iaload, 1) := dqr0 dqK_46 dqw_cL_law_860 8 rfl rfl
theorem dL_law_869 : decode cL_law 869 = .ok (.invokevirtual 91, 3) := dqr2 dqK_182 dqw_cL_law_860 9 rfl rfl rfl rfl rfl
theorem dL_law_872 : decode cL_law 872 = .ok (.pop, 1) := dqr0 dqK_87 dqw_cL_law_860 12 rfl rfl
theorem dL_law_873 : decode cL_law 873 = .ok (.aload_n 2, 1) := dqr0 dqK_44 dqw_cL_law_860 13 rfl rfl
theorem dL_law_874 : decode cL_law 874 = .ok (.aload_n 0, 1) := dqr0 dqK_42 dqw_cL_law_860 14 rfl rfl
theorem dL_law_875 : decode cL_law 875 = .ok (.iload_n 3, 1) := dqr0 dqK_29 dqw_cL_law_860 15 rfl rfl
theorem dL_law_876 : decode cL_law 876 = .ok (.iconst 1, 1) := dqr0 dqK_4 dqw_cL_law_860 16 rfl rfl
theorem dL_law_877 : decode cL_law 877 = .ok (.iadd, 1) := dqr0 dqK_96 dqw_cL_law_860 17 rfl rfl
theorem dL_law_878 : decode cL_law 878 = .ok (.iaload, 1) := dqr0 dqK_46 dqw_cL_law_860 18 rfl rfl
theorem dL_law_879 : decode cL_law 879 = .ok (.aload_n 0, 1) := dqr0 dqK_42 dqw_cL_law_860 19 rfl rfl
theorem dL_law_880 : decode cL_law 880 = .ok (.iload_n 3, 1) := dqr0 dqK_29 dqw_cL_law_860 20 rfl rfl
theorem dL_law_881 : decode cL_law 881 = .ok (.iconst 2, 1) := dqr0 dqK_5 dqw_cL_law_860 21 rfl rfl
theorem dL_law_882 : decode cL_law 882 = .ok (.iadd, 1) := dqr0 dqK_96 dqw_cL_law_860 22 rfl rfl
theorem dL_law_883 : decode cL_law 883 = .ok (.iaload, 1) := dqr0 dqK_46 dqw_cL_law_860 23 rfl rfl
theorem dqw_cL_law_884 : dqLF cL_law 884 [42, 29, 6, 96, 46, 182, 0, 94, 87, 167, 2, 40, 43, 42, 29, 4, 96, 46, 42, 29, 5, 96, 46, 42] := by decide +kernel
theorem dL_law_884 : decode cL_law 884 = .ok (.aload_n 0, 1) := dqr0 dqK_42 dqw_cL_law_884 0 rfl rfl
theorem dL_law_885 : decode cL_law 885 = .ok (.iload_n 3, 1) := dqr0 dqK_29 dqw_cL_law_884 1 rfl rfl
theorem dL_law_886 : decode cL_law 886 = .ok (.iconst 3, 1) := dqr0 dqK_6 dqw_cL_law_884 2 rfl rfl
theorem dL_law_887 : decode cL_law 887 = .ok (.iadd, 1) := dqr0 dqK_96 dqw_cL_law_884 3 rfl rfl
theorem dL_law_888 : decode cL_law 888 = .ok (.iaload, 1) := dqr0 dqK_46 dqw_cL_law_884 4 rfl rfl
theorem dL_law_889 : decode cL_law 889 = .ok (.invokevirtual 94, 3) := dqr2 dqK_182 dqw_cL_law_884 5 rfl rfl rfl rfl rfl
theorem dL_law_892 : decode cL_law 892 = .ok (.pop, 1) := dqr0 dqK_87 dqw_cL_law_884 8 rfl rfl
theorem dL_law_893 : decode cL_law 893 = .ok (.goto 552, 3) := dqrs2 dqK_167 dqw_cL_law_884 9 rfl rfl rfl rfl (by decide)
theorem dL_law_896 : decode cL_law 896 = .ok (.aload_n 1, 1) := dqr0 dqK_43 dqw_cL_law_884 12 rfl rfl
theorem dL_law_897 : decode cL_law 897 = .ok (.aload_n 0, 1) := dqr0 dqK_42 dqw_cL_law_884 13 rfl rfl
theorem dL_law_898 : decode cL_law 898 = .ok (.iload_n 3, 1) := dqr0 dqK_29 dqw_cL_law_884 14 rfl rfl
theorem dL_law_899 : decode cL_law 899 = .ok (.iconst 1, 1) := dqr0 dqK_4 dqw_cL_law_884 15 rfl rfl
theorem dL_law_900 : decode cL_law 900 = .ok (.iadd, 1) := dqr0 dqK_96 dqw_cL_law_884 16 rfl rfl
theorem dL_law_901 : decode cL_law 901 = .ok (.iaload, 1) := dqr0 dqK_46 dqw_cL_law_884 17 rfl rfl
theorem dL_law_902 : decode cL_law 902 = .ok (.aload_n 0, 1) := dqr0 dqK_42 dqw_cL_law_884 18 rfl rfl
theorem dL_law_903 : decode cL_law 903 = .ok (.iload_n 3, 1) := dqr0 dqK_29 dqw_cL_law_884 19 rfl rfl
theorem dL_law_904 : decode cL_law 904 = .ok (.iconst 2, 1) := dqr0 dqK_5 dqw_cL_law_884 20 rfl rfl
theorem dL_law_905 : decode cL_law 905 = .ok (.iadd, 1) := dqr0 dqK_96 dqw_cL_law_884 21 rfl rfl
theorem dL_law_906 : decode cL_law 906 = .ok (.iaload, 1) := dqr0 dqK_46 dqw_cL_law_884 22 rfl rfl
theorem dL_law_907 : decode cL_law 907 = .ok (.aload_n 0, 1) := dqr0 dqK_42 dqw_cL_law_884 23 rfl rfl
theorem dqw_cL_law_908 : dqLF cL_law 908 [29, 6, 96, 46, 42, 29, 7, 96, 46, 182, 0, 95, 87, 44, 42, 29, 4, 96, 46, 42, 29, 5, 96, 46] := by decide +kernel
theorem dL_law_908 : decode cL_law 908 = .ok (.iload_n 3, 1) := dqr0 dqK_29 dqw_cL_law_908 0 rfl rfl
theorem dL_law_909 : decode cL_law 909 = .ok (.iconst 3, 1) := dqr0 dqK_6 dqw_cL_law_908 1 rfl rfl
theorem dL_law_910 : decode cL_law 910 = .ok (.iadd, 1) := dqr0 dqK_96 dqw_cL_law_908 2 rfl rfl
theorem dL_law_911 : decode cL_law 911 = .ok (.iaload, 1) := dqr0 dqK_46 dqw_cL_law_908 3 rfl rfl
theorem dL_law_912 : decode cL_law 912 = .ok (.aload_n 0, 1) := dqr0 dqK_42 dqw_cL_law_908 4 rfl rfl
theorem dL_law_913 : decode cL_law 913 = .ok (.iload_n 3, 1) := dqr0 dqK_29 dqw_cL_law_908 5 rfl rfl
theorem dL_law_914 : decode cL_law 914 = .ok (.iconst 4, 1) := dqr0 dqK_7 dqw_cL_law_908 6 rfl rfl
theorem dL_law_915 : decode cL_law 915 = .ok (.iadd, 1) := dqr0 dqK_96 dqw_cL_law_908 7 rfl rfl
theorem dL_law_916 : decode cL_law 916 = .ok (.iaload, 1) := dqr0 dqK_46 dqw_cL_law_908 8 rfl rfl
theorem dL_law_917 : decode cL_law 917 = .ok (.invokevirtual 95, 3) := dqr2 dqK_182 dqw_cL_law_908 9 rfl rfl rfl rfl rfl
theorem dL_law_920 : decode cL_law 920 = .ok (.pop, 1) := dqr0 dqK_87 dqw_cL_law_908 12 rfl rfl
theorem dL_law_921 : decode cL_law 921 = .ok (.aload_n 2, 1) := dqr0 dqK_44 dqw_cL_law_908 13 rfl rfl
theorem dL_law_922 : decode cL_law 922 = .ok (.aload_n 0, 1) := dqr0 dqK_42 dqw_cL_law_908 14 rfl rfl
theorem dL_law_923 : decode cL_law 923 = .ok (.iload_n 3, 1) := dqr0 dqK_29 dqw_cL_law_908 15 rfl rfl
theorem dL_law_924 : decode cL_law 924 = .ok (.iconst 1, 1) := dqr0 dqK_4 dqw_cL_law_908 16 rfl rfl
theorem dL_law_925 : decode cL_law 925 = .ok (.iadd, 1) := dqr0 dqK_96 dqw_cL_law_908 17 rfl rfl
theorem dL_law_926 : decode cL_law 926 = .ok (.iaload, 1) := dqr0 dqK_46 dqw_cL_law_908 18 rfl rfl
theorem dL_law_927 : decode cL_law 927 = .ok (.aload_n 0, 1) := dqr0 dqK_42 dqw_cL_law_908 19 rfl rfl
theorem dL_law_928 : decode cL_law 928 = .ok (.iload_n 3, 1) := dqr0 dqK_29 dqw_cL_law_908 20 rfl rfl
theorem dL_law_929 : decode cL_law 929 = .ok (.iconst 2, 1) := dqr0 dqK_5 dqw_cL_law_908 21 rfl rfl
theorem dL_law_930 : decode cL_law 930 = .ok (.iadd, 1) := dqr0 dqK_96 dqw_cL_law_908 22 rfl rfl
theorem dL_law_931 : decode cL_law 931 = .ok (.iaload, 1) := dqr0 dqK_46 dqw_cL_law_908 23 rfl rfl
theorem dqw_cL_law_932 : dqLF cL_law 932 [42, 29, 6, 96, 46, 42, 29, 7, 96, 46, 182, 0, 98, 87, 167, 1, 243, 43, 42, 29, 4, 96, 46, 42] := by decide +kernel
theorem dL_law_932 : decode cL_law 932 = .ok (.aload_n 0, 1) := dqr0 dqK_42 dqw_cL_law_932 0 rfl rfl
theorem dL_law_933 : decode cL_law 933 = .ok (.iload_n 3, 1) := dqr0 dqK_29 dqw_cL_law_932 1 rfl rfl
theorem dL_law_934 : decode cL_law 934 = .ok (.iconst 3, 1) := dqr0 dqK_6 dqw_cL_law_932 2 rfl rfl
theorem dL_law_935 : decode cL_law 935 = .ok (.iadd, 1) := dqr0 dqK_96 dqw_cL_law_932 3 rfl rfl
theorem dL_law_936 : decode cL_law 936 = .ok (.iaload, 1) := dqr0 dqK_46 dqw_cL_law_932 4 rfl rfl
theorem dL_law_937 : decode cL_law 937 = .ok (.aload_n 0, 1) := dqr0 dqK_42 dqw_cL_law_932 5 rfl rfl
theorem dL_law_938 : decode cL_law 938 = .ok (.iload_n 3, 1) := dqr0 dqK_29 dqw_cL_law_932 6 rfl rfl
theorem dL_law_939 : decode cL_law 939 = .ok (.iconst 4, 1) := dqr0 dqK_7 dqw_cL_law_932 7 rfl rfl
theorem dL_law_940 : decode cL_law 940 = .ok (.iadd, 1) := dqr0 dqK_96 dqw_cL_law_932 8 rfl rfl
theorem dL_law_941 : decode cL_law 941 = .ok (.iaload, 1) := dqr0 dqK_46 dqw_cL_law_932 9 rfl rfl
theorem dL_law_942 : decode cL_law 942 = .ok (.invokevirtual 98, 3) := dqr2 dqK_182 dqw_cL_law_932 10 rfl rfl rfl rfl rfl
theorem dL_law_945 : decode cL_law 945 = .ok (.pop, 1) := dqr0 dqK_87 dqw_cL_law_932 13 rfl rfl
theorem dL_law_946 : decode cL_law 946 = .ok (.goto 499, 3) := dqrs2 dqK_167 dqw_cL_law_932 14 rfl rfl rfl rfl (by decide)
theorem dL_law_949 : decode cL_law 949 = .ok (.aload_n 1, 1) := dqr0 dqK_43 dqw_cL_law_932 17 rfl rfl
theorem dL_law_950 : decode cL_law 950 = .ok (.aload_n 0, 1) := dqr0 dqK_42 dqw_cL_law_932 18 rfl rfl
theorem dL_law_951 : decode cL_law 951 = .ok (.iload_n 3, 1) := dqr0 dqK_29 dqw_cL_law_932 19 rfl rfl
theorem dL_law_952 : decode cL_law 952 = .ok (.iconst 1, 1) := dqr0 dqK_4 dqw_cL_law_932 20 rfl rfl
theorem dL_law_953 : decode cL_law 953 = .ok (.iadd, 1) := dqr0 dqK_96 dqw_cL_law_932 21 rfl rfl
theorem dL_law_954 : decode cL_law 954 = .ok (.iaload, 1) := dqr0 dqK_46 dqw_cL_law_932 22 rfl rfl
theorem dL_law_955 : decode cL_law 955 = .ok (.aload_n 0, 1) := dqr0 dqK_42 dqw_cL_law_932 23 rfl rfl
theorem dqw_cL_law_956 : dqLF cL_law 956 [29, 5, 96, 46, 42, 29, 6, 96, 46, 182, 0, 99, 87, 44, 42, 29, 4, 96, 46, 42, 29, 5, 96, 46] := by decide +kernel
theorem dL_law_956 : decode cL_law 956 = .ok (.iload_n 3, 1) := dqr0 dqK_29 dqw_cL_law_956 0 rfl rfl
theorem dL_law_957 : decode cL_law 957 = .ok (.iconst 2, 1) := dqr0 dqK_5 dqw_cL_law_956 1 rfl rfl
theorem dL_law_958 : decode cL_law 958 = .ok (.iadd, 1) := dqr0 dqK_96 dqw_cL_law_956 2 rfl rfl
theorem dL_law_959 : decode cL_law 959 = .ok (.iaload, 1) := dqr0 dqK_46 dqw_cL_law_956 3 rfl rfl
theorem dL_law_960 : decode cL_law 960 = .ok (.aload_n 0, 1) := dqr0 dqK_42 dqw_cL_law_956 4 rfl rfl
theorem dL_law_961 : decode cL_law 961 = .ok (.iload_n 3, 1) := dqr0 dqK_29 dqw_cL_law_956 5 rfl rfl
theorem dL_law_962 : decode cL_law 962 = .ok (.iconst 3, 1) := dqr0 dqK_6 dqw_cL_law_956 6 rfl rfl
theorem dL_law_963 : decode cL_law 963 = .ok (.iadd, 1) := dqr0 dqK_96 dqw_cL_law_956 7 rfl rfl
theorem dL_law_964 : decode cL_law 964 = .ok (.iaload, 1) := dqr0 dqK_46 dqw_cL_law_956 8 rfl rfl
theorem dL_law_965 : decode cL_law 965 = .ok (.invokevirtual 99, 3) := dqr2 dqK_182 dqw_cL_law_956 9 rfl rfl rfl rfl rfl
theorem dL_law_968 : decode cL_law 968 = .ok (.pop, 1) := dqr0 dqK_87 dqw_cL_law_956 12 rfl rfl
theorem dL_law_969 : decode cL_law 969 = .ok (.aload_n 2, 1) := dqr0 dqK_44 dqw_cL_law_956 13 rfl rfl
theorem dL_law_970 : decode cL_law 970 = .ok (.aload_n 0, 1) := dqr0 dqK_42 dqw_cL_law_956 14 rfl rfl
theorem dL_law_971 : decode cL_law 971 = .ok (.iload_n 3, 1) := dqr0 dqK_29 dqw_cL_law_956 15 rfl rfl
theorem dL_law_972 : decode cL_law 972 = .ok (.iconst 1, 1) := dqr0 dqK_4 dqw_cL_law_956 16 rfl rfl
theorem dL_law_973 : decode cL_law 973 = .ok (.iadd, 1) := dqr0 dqK_96 dqw_cL_law_956 17 rfl rfl
theorem dL_law_974 : decode cL_law 974 = .ok (.iaload, 1) := dqr0 dqK_46 dqw_cL_law_956 18 rfl rfl
theorem dL_law_975 : decode cL_law 975 = .ok (.aload_n 0, 1) := dqr0 dqK_42 dqw_cL_law_956 19 rfl rfl
theorem dL_law_976 : decode cL_law 976 = .ok (.iload_n 3, 1) := dqr0 dqK_29 dqw_cL_law_956 20 rfl rfl
theorem dL_law_977 : decode cL_law 977 = .ok (.iconst 2, 1) := dqr0 dqK_5 dqw_cL_law_956 21 rfl rfl
theorem dL_law_978 : decode cL_law 978 = .ok (.iadd, 1) := dqr0 dqK_96 dqw_cL_law_956 22 rfl rfl
theorem dL_law_979 : decode cL_law 979 = .ok (.iaload, 1) := dqr0 dqK_46 dqw_cL_law_956 23 rfl rfl
theorem dqw_cL_law_980 : dqLF cL_law 980 [42, 29, 6, 96, 46, 182, 0, 102, 87, 167, 1, 200, 43, 42, 29, 4, 96, 46, 42, 29, 5, 96, 46] := by decide +kernel
theorem dL_law_980 : decode cL_law 980 = .ok (.aload_n 0, 1) := dqr0 dqK_42 dqw_cL_law_980 0 rfl rfl
theorem dL_law_981 : decode cL_law 981 = .ok (.iload_n 3, 1) := dqr0 dqK_29 dqw_cL_law_980 1 rfl rfl
theorem dL_law_982 : decode cL_law 982 = .ok (.iconst 3, 1) := dqr0 dqK_6 dqw_cL_law_980 2 rfl rfl
theorem dL_law_983 : decode cL_law 983 = .ok (.iadd, 1) := dqr0 dqK_96 dqw_cL_law_980 3 rfl rfl
theorem dL_law_984 : decode cL_law 984 = .ok (.iaload, 1) := dqr0 dqK_46 dqw_cL_law_980 4 rfl rfl
theorem dL_law_985 : decode cL_law 985 = .ok (.invokevirtual 102, 3) := dqr2 dqK_182 dqw_cL_law_980 5 rfl rfl rfl rfl rfl
theorem dL_law_988 : decode cL_law 988 = .ok (.pop, 1) := dqr0 dqK_87 dqw_cL_law_980 8 rfl rfl
theorem dL_law_989 : decode cL_law 989 = .ok (.goto 456, 3) := dqrs2 dqK_167 dqw_cL_law_980 9 rfl rfl rfl rfl (by decide)
theorem dL_law_992 : decode cL_law 992 = .ok (.aload_n 1, 1) := dqr0 dqK_43 dqw_cL_law_980 12 rfl rfl
theorem dL_law_993 : decode cL_law 993 = .ok (.aload_n 0, 1) := dqr0 dqK_42 dqw_cL_law_980 13 rfl rfl
theorem dL_law_994 : decode cL_law 994 = .ok (.iload_n 3, 1) := dqr0 dqK_29 dqw_cL_law_980 14 rfl rfl
theorem dL_law_995 : decode cL_law 995 = .ok (.iconst 1, 1) := dqr0 dqK_4 dqw_cL_law_980 15 rfl rfl
theorem dL_law_996 : decode cL_law 996 = .ok (.iadd, 1) := dqr0 dqK_96 dqw_cL_law_980 16 rfl rfl
theorem dL_law_997 : decode cL_law 997 = .ok (.iaload, 1) := dqr0 dqK_46 dqw_cL_law_980 17 rfl rfl
theorem dL_law_998 : decode cL_law 998 = .ok (.aload_n 0, 1) := dqr0 dqK_42 dqw_cL_law_980 18 rfl rfl
theorem dL_law_999 : decode cL_law 999 = .ok (.iload_n 3, 1) := dqr0 dqK_29 dqw_cL_law_980 19 rfl rfl
theorem dL_law_1000 : decode cL_law 1000 = .ok (.iconst 2, 1) := dqr0 dqK_5 dqw_cL_law_980 20 rfl rfl
theorem dL_law_1001 : decode cL_law 1001 = .ok (.iadd, 1) := dqr0 dqK_96 dqw_cL_law_980 21 rfl rfl
theorem dL_law_1002 : decode cL_law 1002 = .ok (.iaload, 1) := dqr0 dqK_46 dqw_cL_law_980 22 rfl rfl
theorem dqw_cL_law_1003 : dqLF cL_law 1003 [182, 0, 103, 87, 44, 42, 29, 4, 96, 46, 42, 29, 5, 96, 46, 182, 0, 106, 87, 167, 1, 167, 43, 42] := by decide +kernel
theorem dL_law_1003 : decode cL_law 1003 = .ok (.invokevirtual 103, 3) := dqr2 dqK_182 dqw_cL_law_1003 0 rfl rfl rfl rfl rfl
theorem dL_law_1006 : decode cL_law 1006 = .ok (.pop, 1) := dqr0 dqK_87 dqw_cL_law_1003 3 rfl rfl
theorem dL_law_1007 : decode cL_law 1007 = .ok (.aload_n 2, 1) := dqr0 dqK_44 dqw_cL_law_1003 4 rfl rfl
theorem dL_law_1008 : decode cL_law 1008 = .ok (.aload_n 0, 1) := dqr0 dqK_42 dqw_cL_law_1003 5 rfl rfl
theorem dL_law_1009 : decode cL_law 1009 = .ok (.iload_n 3, 1) := dqr0 dqK_29 dqw_cL_law_1003 6 rfl rfl
theorem dL_law_1010 : decode cL_law 1010 = .ok (.iconst 1, 1) := dqr0 dqK_4 dqw_cL_law_1003 7 rfl rfl
theorem dL_law_1011 : decode cL_law 1011 = .ok (.iadd, 1) := dqr0 dqK_96 dqw_cL_law_1003 8 rfl rfl
theorem dL_law_1012 : decode cL_law 1012 = .ok (.iaload, 1) := dqr0 dqK_46 dqw_cL_law_1003 9 rfl rfl
theorem dL_law_1013 : decode cL_law 1013 = .ok (.aload_n 0, 1) := dqr0 dqK_42 dqw_cL_law_1003 10 rfl rfl
theorem dL_law_1014 : decode cL_law 1014 = .ok (.iload_n 3, 1) := dqr0 dqK_29 dqw_cL_law_1003 11 rfl rfl
theorem dL_law_1015 : decode cL_law 1015 = .ok (.iconst 2, 1) := dqr0 dqK_5 dqw_cL_law_1003 12 rfl rfl
theorem dL_law_1016 : decode cL_law 1016 = .ok (.iadd, 1) := dqr0 dqK_96 dqw_cL_law_1003 13 rfl rfl
theorem dL_law_1017 : decode cL_law 1017 = .ok (.iaload, 1) := dqr0 dqK_46 dqw_cL_law_1003 14 rfl rfl
theorem dL_law_1018 : decode cL_law 1018 = .ok (.invokevirtual 106, 3) := dqr2 dqK_182 dqw_cL_law_1003 15 rfl rfl rfl rfl rfl
theorem dL_law_1021 : decode cL_law 1021 = .ok (.pop, 1) := dqr0 dqK_87 dqw_cL_law_1003 18 rfl rfl
theorem dL_law_1022 : decode cL_law 1022 = .ok (.goto 423, 3) := dqrs2 dqK_167 dqw_cL_law_1003 19 rfl rfl rfl rfl (by decide)
theorem dL_law_1025 : decode cL_law 1025 = .ok (.aload_n 1, 1) := dqr0 dqK_43 dqw_cL_law_1003 22 rfl rfl
theorem dL_law_1026 : decode cL_law 1026 = .ok (.aload_n 0, 1) := dqr0 dqK_42 dqw_cL_law_1003 23 rfl rfl
theorem dqw_cL_law_1027 : dqLF cL_law 1027 [29, 4, 96, 46, 42, 29, 5, 96, 46, 42, 29, 6, 96, 46, 42, 29, 7, 96, 46, 182, 0, 107, 87, 44] := by decide +kernel
theorem dL_law_1027 : decode cL_law 1027 = .ok (.iload_n 3, 1) := dqr0 dqK_29 dqw_cL_law_1027 0 rfl rfl
theorem dL_law_1028 : decode cL_law 1028 = .ok (.iconst 1, 1) := dqr0 dqK_4 dqw_cL_law_1027 1 rfl rfl
theorem dL_law_1029 : decode cL_law 1029 = .ok (.iadd, 1) := dqr0 dqK_96 dqw_cL_law_1027 2 rfl rfl
theorem dL_law_1030 : decode cL_law 1030 = .ok (.iaload, 1) := dqr0 dqK_46 dqw_cL_law_1027 3 rfl rfl
theorem dL_law_1031 : decode cL_law 1031 = .ok (.aload_n 0, 1) := dqr0 dqK_42 dqw_cL_law_1027 4 rfl rfl
theorem dL_law_1032 : decode cL_law 1032 = .ok (.iload_n 3, 1) := dqr0 dqK_29 dqw_cL_law_1027 5 rfl rfl
theorem dL_law_1033 : decode cL_law 1033 = .ok (.iconst 2, 1) := dqr0 dqK_5 dqw_cL_law_1027 6 rfl rfl
theorem dL_law_1034 : decode cL_law 1034 = .ok (.iadd, 1) := dqr0 dqK_96 dqw_cL_law_1027 7 rfl rfl
theorem dL_law_1035 : decode cL_law 1035 = .ok (.iaload, 1) := dqr0 dqK_46 dqw_cL_law_1027 8 rfl rfl
theorem dL_law_1036 : decode cL_law 1036 = .ok (.aload_n 0, 1) := dqr0 dqK_42 dqw_cL_law_1027 9 rfl rfl
theorem dL_law_1037 : decode cL_law 1037 = .ok (.iload_n 3, 1) := dqr0 dqK_29 dqw_cL_law_1027 10 rfl rfl
theorem dL_law_1038 : decode cL_law 1038 = .ok (.iconst 3, 1) := dqr0 dqK_6 dqw_cL_law_1027 11 rfl rfl
theorem dL_law_1039 : decode cL_law 1039 = .ok (.iadd, 1) := dqr0 dqK_96 dqw_cL_law_1027 12 rfl rfl
theorem dL_law_1040 : decode cL_law 1040 = .ok (.iaload, 1) := dqr0 dqK_46 dqw_cL_law_1027 13 rfl rfl
theorem dL_law_1041 : decode cL_law 1041 = .ok (.aload_n 0, 1) := dqr0 dqK_42 dqw_cL_law_1027 14 rfl rfl
theorem dL_law_1042 : decode cL_law 1042 = .ok (.iload_n 3, 1) := dqr0 dqK_29 dqw_cL_law_1027 15 rfl rfl
theorem dL_law_1043 : decode cL_law 1043 = .ok (.iconst 4, 1) := dqr0 dqK_7 dqw_cL_law_1027 16 rfl rfl
theorem dL_law_1044 : decode cL_law 1044 = .ok (.iadd, 1) := dqr0 dqK_96 dqw_cL_law_1027 17 rfl rfl
theorem dL_law_1045 : decode cL_law 1045 = .ok (.iaload, 1) := dqr0 dqK_46 dqw_cL_law_1027 18 rfl rfl
theorem dL_law_1046 : decode cL_law 1046 = .ok (.invokevirtual 107, 3) := dqr2 dqK_182 dqw_cL_law_1027 19 rfl rfl rfl rfl rfl
theorem dL_law_1049 : decode cL_law 1049 = .ok (.pop, 1) := dqr0 dqK_87 dqw_cL_law_1027 22 rfl rfl
theorem dL_law_1050 : decode cL_law 1050 = .ok (.aload_n 2, 1) := dqr0 dqK_44 dqw_cL_law_1027 23 rfl rfl
theorem dqw_cL_law_1051 : dqLF cL_law 1051 [42, 29, 4, 96, 46, 42, 29, 5, 96, 46, 42, 29, 6, 96, 46, 42, 29, 7, 96, 46, 182, 0, 110, 87] := by decide +kernel
theorem dL_law_1051 : decode cL_law 1051 = .ok (.aload_n 0, 1) := dqr0 dqK_42 dqw_cL_law_1051 0 rfl rfl
theorem dL_law_1052 : decode cL_law 1052 = .ok (.iload_n 3, 1) := dqr0 dqK_29 dqw_cL_law_1051 1 rfl rfl
theorem dL_law_1053 : decode cL_law 1053 = .ok (.iconst 1, 1) := dqr0 dqK_4 dqw_cL_law_1051 2 rfl rfl
theorem dL_law_1054 : decode cL_law 1054 = .ok (.iadd, 1) := dqr0 dqK_96 dqw_cL_law_1051 3 rfl rfl
theorem dL_law_1055 : decode cL_law 1055 = .ok (.iaload, 1) := dqr0 dqK_46 dqw_cL_law_1051 4 rfl rfl
theorem dL_law_1056 : decode cL_law 1056 = .ok (.aload_n 0, 1) := dqr0 dqK_42 dqw_cL_law_1051 5 rfl rfl
theorem dL_law_1057 : decode cL_law 1057 = .ok (.iload_n 3, 1) := dqr0 dqK_29 dqw_cL_law_1051 6 rfl rfl
theorem dL_law_1058 : decode cL_law 1058 = .ok (.iconst 2, 1) := dqr0 dqK_5 dqw_cL_law_1051 7 rfl rfl
theorem dL_law_1059 : decode cL_law 1059 = .ok (.iadd, 1) := dqr0 dqK_96 dqw_cL_law_1051 8 rfl rfl
theorem dL_law_1060 : decode cL_law 1060 = .ok (.iaload, 1) := dqr0 dqK_46 dqw_cL_law_1051 9 rfl rfl
theorem dL_law_1061 : decode cL_law 1061 = .ok (.aload_n 0, 1) := dqr0 dqK_42 dqw_cL_law_1051 10 rfl rfl
theorem dL_law_1062 : decode cL_law 1062 = .ok (.iload_n 3, 1) := dqr0 dqK_29 dqw_cL_law_1051 11 rfl rfl
theorem dL_law_1063 : decode cL_law 1063 = .ok (.iconst 3, 1) := dqr0 dqK_6 dqw_cL_law_1051 12 rfl rfl
theorem dL_law_1064 : decode cL_law 1064 = .ok (.iadd, 1) := dqr0 dqK_96 dqw_cL_law_1051 13 rfl rfl
theorem dL_law_1065 : decode cL_law 1065 = .ok (.iaload, 1) := dqr0 dqK_46 dqw_cL_law_1051 14 rfl rfl
theorem dL_law_1066 : decode cL_law 1066 = .ok (.aload_n 0, 1) := dqr0 dqK_42 dqw_cL_law_1051 15 rfl rfl
theorem dL_law_1067 : decode cL_law 1067 = .ok (.iload_n 3, 1) := dqr0 dqK_29 dqw_cL_law_1051 16 rfl rfl
theorem dL_law_1068 : decode cL_law 1068 = .ok (.iconst 4, 1) := dqr0 dqK_7 dqw_cL_law_1051 17 rfl rfl
theorem dL_law_1069 : decode cL_law 1069 = .ok (.iadd, 1) := dqr0 dqK_96 dqw_cL_law_1051 18 rfl rfl
theorem dL_law_1070 : decode cL_law 1070 = .ok (.iaload, 1) := dqr0 dqK_46 dqw_cL_law_1051 19 rfl rfl
theorem dL_law_1071 : decode cL_law 1071 = .ok (.invokevirtual 110, 3) := dqr2 dqK_182 dqw_cL_law_1051 20 rfl rfl rfl rfl rfl
theorem dL_law_1074 : decode cL_law 1074 = .ok (.pop, 1) := dqr0 dqK_87 dqw_cL_law_1051 23 rfl rfl
theorem dqw_cL_law_1075 : dqLF cL_law 1075 [167, 1, 114, 43, 42, 29, 4, 96, 46, 42, 29, 5, 96, 46, 42, 29, 6, 96, 46, 182, 0, 111, 87, 44] := by decide +kernel
theorem dL_law_1075 : decode cL_law 1075 = .ok (.goto 370, 3) := dqrs2 dqK_167 dqw_cL_law_1075 0 rfl rfl rfl rfl (by decide)
theorem dL_law_1078 : decode cL_law 1078 = .ok (.aload_n 1, 1) := dqr0 dqK_43 dqw_cL_law_1075 3 rfl rfl
theorem dL_law_1079 : decode cL_law 1079 = .ok (.aload_n 0, 1) := dqr0 dqK_42 dqw_cL_law_1075 4 rfl rfl
theorem dL_law_1080 : decode cL_law 1080 = .ok (.iload_n 3, 1) := dqr0 dqK_29 dqw_cL_law_1075 5 rfl rfl
theorem dL_law_1081 : decode cL_law 1081 = .ok (.iconst 1, 1) := dqr0 dqK_4 dqw_cL_law_1075 6 rfl rfl
theorem dL_law_1082 : decode cL_law 1082 = .ok (.iadd, 1) := dqr0 dqK_96 dqw_cL_law_1075 7 rfl rfl
theorem dL_law_1083 : decode cL_law 1083 = .ok (.iaload, 1) := dqr0 dqK_46 dqw_cL_law_1075 8 rfl rfl
theorem dL_law_1084 : decode cL_law 1084 = .ok (.aload_n 0, 1) := dqr0 dqK_42 dqw_cL_law_1075 9 rfl rfl
theorem dL_law_1085 : decode cL_law 1085 = .ok (.iload_n 3, 1) := dqr0 dqK_29 dqw_cL_law_1075 10 rfl rfl
theorem dL_law_1086 : decode cL_law 1086 = .ok (.iconst 2, 1) := dqr0 dqK_5 dqw_cL_law_1075 11 rfl rfl
theorem dL_law_1087 : decode cL_law 1087 = .ok (.iadd, 1) := dqr0 dqK_96 dqw_cL_law_1075 12 rfl rfl
theorem dL_law_1088 : decode cL_law 1088 = .ok (.iaload, 1) := dqr0 dqK_46 dqw_cL_law_1075 13 rfl rfl
theorem dL_law_1089 : decode cL_law 1089 = .ok (.aload_n 0, 1) := dqr0 dqK_42 dqw_cL_law_1075 14 rfl rfl
theorem dL_law_1090 : decode cL_law 1090 = .ok (.iload_n 3, 1) := dqr0 dqK_29 dqw_cL_law_1075 15 rfl rfl
theorem dL_law_1091 : decode cL_law 1091 = .ok (.iconst 3, 1) := dqr0 dqK_6 dqw_cL_law_1075 16 rfl rfl
theorem dL_law_1092 : decode cL_law 1092 = .ok (.iadd, 1) := dqr0 dqK_96 dqw_cL_law_1075 17 rfl rfl
theorem dL_law_1093 : decode cL_law 1093 = .ok (.iaload, 1) := dqr0 dqK_46 dqw_cL_law_1075 18 rfl rfl
theorem dL_law_1094 : decode cL_law 1094 = .ok (.invokevirtual 111, 3) := dqr2 dqK_182 dqw_cL_law_1075 19 rfl rfl rfl rfl rfl
theorem dL_law_1097 : decode cL_law 1097 = .ok (.pop, 1) := dqr0 dqK_87 dqw_cL_law_1075 22 rfl rfl
theorem dL_law_1098 : decode cL_law 1098 = .ok (.aload_n 2, 1) := dqr0 dqK_44 dqw_cL_law_1075 23 rfl rfl
theorem dqw_cL_law_1099 : dqLF cL_law 1099 [42, 29, 4, 96, 46, 42, 29, 5, 96, 46, 42, 29, 6, 96, 46, 182, 0, 114, 87, 167, 1, 71, 43, 42] := by decide +kernel
theorem dL_law_1099 : decode cL_law 1099 = .ok (.aload_n 0, 1) := dqr0 dqK_42 dqw_cL_law_1099 0 rfl rfl
theorem dL_law_1100 : decode cL_law 1100 = .ok (.iload_n 3, 1) := dqr0 dqK_29 dqw_cL_law_1099 1 rfl rfl
theorem dL_law_1101 : decode cL_law 1101 = .ok (.iconst 1, 1) := dqr0 dqK_4 dqw_cL_law_1099 2 rfl rfl
theorem dL_law_1102 : decode cL_law 1102 = .ok (.iadd, 1) := dqr0 dqK_96 dqw_cL_law_1099 3 rfl rfl
theorem dL_law_1103 : decode cL_law 1103 = .ok (.iaload, 1) := dqr0 dqK_46 dqw_cL_law_1099 4 rfl rfl
theorem dL_law_1104 : decode cL_law 1104 = .ok (.aload_n 0, 1) := dqr0 dqK_42 dqw_cL_law_1099 5 rfl rfl
theorem dL_law_1105 : decode cL_law 1105 = .ok (.iload_n 3, 1) := dqr0 dqK_29 dqw_cL_law_1099 6 rfl rfl
theorem dL_law_1106 : decode cL_law 1106 = .ok (.iconst 2, 1) := dqr0 dqK_5 dqw_cL_law_1099 7 rfl rfl
theorem dL_law_1107 : decode cL_law 1107 = .ok (.iadd, 1) := dqr0 dqK_96 dqw_cL_law_1099 8 rfl rfl
theorem dL_law_1108 : decode cL_law 1108 = .ok (.iaload, 1) := dqr0 dqK_46 dqw_cL_law_1099 9 rfl rfl
theorem dL_law_1109 : decode cL_law 1109 = .ok (.aload_n 0, 1) := dqr0 dqK_42 dqw_cL_law_1099 10 rfl rfl
theorem dL_law_1110 : decode cL_law 1110 = .ok (.iload_n 3, 1) := dqr0 dqK_29 dqw_cL_law_1099 11 rfl rfl
theorem dL_law_1111 : decode cL_law 1111 = .ok (.iconst 3, 1) := dqr0 dqK_6 dqw_cL_law_1099 12 rfl rfl
theorem dL_law_1112 : decode cL_law 1112 = .ok (.iadd, 1) := dqr0 dqK_96 dqw_cL_law_1099 13 rfl rfl
theorem dL_law_1113 : decode cL_law 1113 = .ok (.iaload, 1) := dqr0 dqK_46 dqw_cL_law_1099 14 rfl rfl
theorem dL_law_1114 : decode cL_law 1114 = .ok (.invokevirtual 114, 3) := dqr2 dqK_182 dqw_cL_law_1099 15 rfl rfl rfl rfl rfl
theorem dL_law_1117 : decode cL_law 1117 = .ok (.pop, 1) := dqr0 dqK_87 dqw_cL_law_1099 18 rfl rfl
theorem dL_law_1118 : decode cL_law 1118 = .ok (.goto 327, 3) := dqrs2 dqK_167 dqw_cL_law_1099 19 rfl rfl rfl rfl (by decide)
theorem dL_law_1121 : decode cL_law 1121 = .ok (.aload_n 1, 1) := dqr0 dqK_43 dqw_cL_law_1099 22 rfl rfl
theorem dL_law_1122 : decode cL_law 1122 = .ok (.aload_n 0, 1) := dqr0 dqK_42 dqw_cL_law_1099 23 rfl rfl
theorem dqw_cL_law_1123 : dqLF cL_law 1123 [29, 4, 96, 46, 42, 29, 5, 96, 46, 42, 29, 6, 96, 46, 182, 0, 115, 87, 44, 42, 29, 4, 96, 46] := by decide +kernel
theorem dL_law_1123 : decode cL_law 1123 = .ok (.iload_n 3, 1) := dqr0 dqK_29 dqw_cL_law_1123 0 rfl rfl
theorem dL_law_1124 : decode cL_law 1124 = .ok (.iconst 1, 1) := dqr0 dqK_4 dqw_cL_law_1123 1 rfl rfl
theorem dL_law_1125 : decode cL_law 1125 = .ok (.iadd, 1) := dqr0 dqK_96 dqw_cL_law_1123 2 rfl rfl
theorem dL_law_1126 : decode cL_law 1126 = .ok (.iaload, 1) := dqr0 dqK_46 dqw_cL_law_1123 3 rfl rfl
theorem dL_law_1127 : decode cL_law 1127 = .ok (.aload_n 0, 1) := dqr0 dqK_42 dqw_cL_law_1123 4 rfl rfl
theorem dL_law_1128 : decode cL_law 1128 = .ok (.iload_n 3, 1) := dqr0 dqK_29 dqw_cL_law_1123 5 rfl rfl
theorem dL_law_1129 : decode cL_law 1129 = .ok (.iconst 2, 1) := dqr0 dqK_5 dqw_cL_law_1123 6 rfl rfl
theorem dL_law_1130 : decode cL_law 1130 = .ok (.iadd, 1) := dqr0 dqK_96 dqw_cL_law_1123 7 rfl rfl
theorem dL_law_1131 : decode cL_law 1131 = .ok (.iaload, 1) := dqr0 dqK_46 dqw_cL_law_1123 8 rfl rfl
theorem dL_law_1132 : decode cL_law 1132 = .ok (.aload_n 0, 1) := dqr0 dqK_42 dqw_cL_law_1123 9 rfl rfl
theorem dL_law_1133 : decode cL_law 1133 = .ok (.iload_n 3, 1) := dqr0 dqK_29 dqw_cL_law_1123 10 rfl rfl
theorem dL_law_1134 : decode cL_law 1134 = .ok (.iconst 3, 1) := dqr0 dqK_6 dqw_cL_law_1123 11 rfl rfl
theorem dL_law_1135 : decode cL_law 1135 = .ok (.iadd, 1) := dqr0 dqK_96 dqw_cL_law_1123 12 rfl rfl
theorem dL_law_1136 : decode cL_law 1136 = .ok (.iaload, 1) := dqr0 dqK_46 dqw_cL_law_1123 13 rfl rfl
theorem dL_law_1137 : decode cL_law 1137 = .ok (.invokevirtual 115, 3) := dqr2 dqK_182 dqw_cL_law_1123 14 rfl rfl rfl rfl rfl
theorem dL_law_1140 : decode cL_law 1140 = .ok (.pop, 1) := dqr0 dqK_87 dqw_cL_law_1123 17 rfl rfl
theorem dL_law_1141 : decode cL_law 1141 = .ok (.aload_n 2, 1) := dqr0 dqK_44 dqw_cL_law_1123 18 rfl rfl
theorem dL_law_1142 : decode cL_law 1142 = .ok (.aload_n 0, 1) := dqr0 dqK_42 dqw_cL_law_1123 19 rfl rfl
theorem dL_law_1143 : decode cL_law 1143 = .ok (.iload_n 3, 1) := dqr0 dqK_29 dqw_cL_law_1123 20 rfl rfl
theorem dL_law_1144 : decode cL_law 1144 = .ok (.iconst 1, 1) := dqr0 dqK_4 dqw_cL_law_1123 21 rfl rfl
theorem dL_law_1145 : decode cL_law 1145 = .ok (.iadd, 1) := dqr0 dqK_96 dqw_cL_law_1123 22 rfl rfl
theorem dL_law_1146 : decode cL_law 1146 = .ok (.iaload, 1) := dqr0 dqK_46 dqw_cL_law_1123 23 rfl rfl
theorem dqw_cL_law_1147 : dqLF cL_law 1147 [42, 29, 5, 96, 46, 42, 29, 6, 96, 46, 182, 0, 118, 87, 167, 1, 28, 43, 42, 29, 4, 96, 46, 42] := by decide +kernel
theorem dL_law_1147 : decode cL_law 1147 = .ok (.aload_n 0, 1) := dqr0 dqK_42 dqw_cL_law_1147 0 rfl rfl
theorem dL_law_1148 : decode cL_law 1148 = .ok (.iload_n 3, 1) := dqr0 dqK_29 dqw_cL_law_1147 1 rfl rfl
theorem dL_law_1149 : decode cL_law 1149 = .ok (.iconst 2, 1) := dqr0 dqK_5 dqw_cL_law_1147 2 rfl rfl
theorem dL_law_1150 : decode cL_law 1150 = .ok (.iadd, 1) := dqr0 dqK_96 dqw_cL_law_1147 3 rfl rfl
theorem dL_law_1151 : decode cL_law 1151 = .ok (.iaload, 1) := dqr0 dqK_46 dqw_cL_law_1147 4 rfl rfl
theorem dL_law_1152 : decode cL_law 1152 = .ok (.aload_n 0, 1) := dqr0 dqK_42 dqw_cL_law_1147 5 rfl rfl
theorem dL_law_1153 : decode cL_law 1153 = .ok (.iload_n 3, 1) := dqr0 dqK_29 dqw_cL_law_1147 6 rfl rfl
theorem dL_law_1154 : decode cL_law 1154 = .ok (.iconst 3, 1) := dqr0 dqK_6 dqw_cL_law_1147 7 rfl rfl
theorem dL_law_1155 : decode cL_law 1155 = .ok (.iadd, 1) := dqr0 dqK_96 dqw_cL_law_1147 8 rfl rfl
theorem dL_law_1156 : decode cL_law 1156 = .ok (.iaload, 1) := dqr0 dqK_46 dqw_cL_law_1147 9 rfl rfl
theorem dL_law_1157 : decode cL_law 1157 = .ok (.invokevirtual 118, 3) := dqr2 dqK_182 dqw_cL_law_1147 10 rfl rfl rfl rfl rfl
theorem dL_law_1160 : decode cL_law 1160 = .ok (.pop, 1) := dqr0 dqK_87 dqw_cL_law_1147 13 rfl rfl
theorem dL_law_1161 : decode cL_law 1161 = .ok (.goto 284, 3) := dqrs2 dqK_167 dqw_cL_law_1147 14 rfl rfl rfl rfl (by decide)
theorem dL_law_1164 : decode cL_law 1164 = .ok (.aload_n 1, 1) := dqr0 dqK_43 dqw_cL_law_1147 17 rfl rfl
theorem dL_law_1165 : decode cL_law 1165 = .ok (.aload_n 0, 1) := dqr0 dqK_42 dqw_cL_law_1147 18 rfl rfl
theorem dL_law_1166 : decode cL_law 1166 = .ok (.iload_n 3, 1) := dqr0 dqK_29 dqw_cL_law_1147 19 rfl rfl
theorem dL_law_1167 : decode cL_law 1167 = .ok (.iconst 1, 1) := dqr0 dqK_4 dqw_cL_law_1147 20 rfl rfl
theorem dL_law_1168 : decode cL_law 1168 = .ok (.iadd, 1) := dqr0 dqK_96 dqw_cL_law_1147 21 rfl rfl
theorem dL_law_1169 : decode cL_law 1169 = .ok (.iaload, 1) := dqr0 dqK_46 dqw_cL_law_1147 22 rfl rfl
theorem dL_law_1170 : decode cL_law 1170 = .ok (.aload_n 0, 1) := dqr0 dqK_42 dqw_cL_law_1147 23 rfl rfl
theorem dqw_cL_law_1171 : dqLF cL_law 1171 [29, 5, 96, 46, 182, 0, 119, 87, 44, 42, 29, 4, 96, 46, 42, 29, 5, 96, 46, 182, 0, 122, 87] := by decide +kernel
theorem dL_law_1171 : decode cL_law 1171 = .ok (.iload_n 3, 1) := dqr0 dqK_29 dqw_cL_law_1171 0 rfl rfl
theorem dL_law_1172 : decode cL_law 1172 = .ok (.iconst 2, 1) := dqr0 dqK_5 dqw_cL_law_1171 1 rfl rfl
theorem dL_law_1173 : decode cL_law 1173 = .ok (.iadd, 1) := dqr0 dqK_96 dqw_cL_law_1171 2 rfl rfl
theorem dL_law_1174 : decode cL_law 1174 = .ok (.iaload, 1) := dqr0 dqK_46 dqw_cL_law_1171 3 rfl rfl
theorem dL_law_1175 : decode cL_law 1175 = .ok (.invokevirtual 119, 3) := dqr2 dqK_182 dqw_cL_law_1171 4 rfl rfl rfl rfl rfl
theorem dL_law_1178 : decode cL_law 1178 = .ok (.pop, 1) := dqr0 dqK_87 dqw_cL_law_1171 7 rfl rfl
theorem dL_law_1179 : decode cL_law 1179 = .ok (.aload_n 2, 1) := dqr0 dqK_44 dqw_cL_law_1171 8 rfl rfl
theorem dL_law_1180 : decode cL_law 1180 = .ok (.aload_n 0, 1) := dqr0 dqK_42 dqw_cL_law_1171 9 rfl rfl
theorem dL_law_1181 : decode cL_law 1181 = .ok (.iload_n 3, 1) := dqr0 dqK_29 dqw_cL_law_1171 10 rfl rfl
theorem dL_law_1182 : decode cL_law 1182 = .ok (.iconst 1, 1) := dqr0 dqK_4 dqw_cL_law_1171 11 rfl rfl
theorem dL_law_1183 : decode cL_law 1183 = .ok (.iadd, 1) := dqr0 dqK_96 dqw_cL_law_1171 12 rfl rfl
theorem dL_law_1184 : decode cL_law 1184 = .ok (.iaload, 1) := dqr0 dqK_46 dqw_cL_law_1171 13 rfl rfl
theorem dL_law_1185 : decode cL_law 1185 = .ok (.aload_n 0, 1) := dqr0 dqK_42 dqw_cL_law_1171 14 rfl rfl
theorem dL_law_1186 : decode cL_law 1186 = .ok (.iload_n 3, 1) := dqr0 dqK_29 dqw_cL_law_1171 15 rfl rfl
theorem dL_law_1187 : decode cL_law 1187 = .ok (.iconst 2, 1) := dqr0 dqK_5 dqw_cL_law_1171 16 rfl rfl
theorem dL_law_1188 : decode cL_law 1188 = .ok (.iadd, 1) := dqr0 dqK_96 dqw_cL_law_1171 17 rfl rfl
theorem dL_law_1189 : decode cL_law 1189 = .ok (.iaload, 1) := dqr0 dqK_46 dqw_cL_law_1171 18 rfl rfl
theorem dL_law_1190 : decode cL_law 1190 = .ok (.invokevirtual 122, 3) := dqr2 dqK_182 dqw_cL_law_1171 19 rfl rfl rfl rfl rfl
theorem dL_law_1193 : decode cL_law 1193 = .ok (.pop, 1) := dqr0 dqK_87 dqw_cL_law_1171 22 rfl rfl
theorem dqw_cL_law_1194 : dqLF cL_law 1194 [167, 0, 251, 43, 42, 29, 4, 96, 46, 42, 29, 5, 96, 46, 42, 29, 6, 96, 46, 42, 29, 7, 96, 46] := by decide +kernel
theorem dL_law_1194 : decode cL_law 1194 = .ok (.goto 251, 3) := dqrs2 dqK_167 dqw_cL_law_1194 0 rfl rfl rfl rfl (by decide)
theorem dL_law_1197 : decode cL_law 1197 = .ok (.aload_n 1, 1) := dqr0 dqK_43 dqw_cL_law_1194 3 rfl rfl
theorem dL_law_1198 : decode cL_law 1198 = .ok (.aload_n 0, 1) := dqr0 dqK_42 dqw_cL_law_1194 4 rfl rfl
theorem dL_law_1199 : decode cL_law 1199 = .ok (.iload_n 3, 1) := dqr0 dqK_29 dqw_cL_law_1194 5 rfl rfl
theorem dL_law_1200 : decode cL_law 1200 = .ok (.iconst 1, 1) := dqr0 dqK_4 dqw_cL_law_1194 6 rfl rfl
theorem dL_law_1201 : decode cL_law 1201 = .ok (.iadd, 1) := dqr0 dqK_96 dqw_cL_law_1194 7 rfl rfl
theorem dL_law_1202 : decode cL_law 1202 = .ok (.iaload, 1) := dqr0 dqK_46 dqw_cL_law_1194 8 rfl rfl
theorem dL_law_1203 : decode cL_law 1203 = .ok (.aload_n 0, 1) := dqr0 dqK_42 dqw_cL_law_1194 9 rfl rfl
theorem dL_law_1204 : decode cL_law 1204 = .ok (.iload_n 3, 1) := dqr0 dqK_29 dqw_cL_law_1194 10 rfl rfl
theorem dL_law_1205 : decode cL_law 1205 = .ok (.iconst 2, 1) := dqr0 dqK_5 dqw_cL_law_1194 11 rfl rfl
theorem dL_law_1206 : decode cL_law 1206 = .ok (.iadd, 1) := dqr0 dqK_96 dqw_cL_law_1194 12 rfl rfl
theorem dL_law_1207 : decode cL_law 1207 = .ok (.iaload, 1) := dqr0 dqK_46 dqw_cL_law_1194 13 rfl rfl
theorem dL_law_1208 : decode cL_law 1208 = .ok (.aload_n 0, 1) := dqr0 dqK_42 dqw_cL_law_1194 14 rfl rfl
theorem dL_law_1209 : decode cL_law 1209 = .ok (.iload_n 3, 1) := dqr0 dqK_29 dqw_cL_law_1194 15 rfl rfl
theorem dL_law_1210 : decode cL_law 1210 = .ok (.iconst 3, 1) := dqr0 dqK_6 dqw_cL_law_1194 16 rfl rfl
theorem dL_law_1211 : decode cL_law 1211 = .ok (.iadd, 1) := dqr0 dqK_96 dqw_cL_law_1194 17 rfl rfl
theorem dL_law_1212 : decode cL_law 1212 = .ok (.iaload, 1) := dqr0 dqK_46 dqw_cL_law_1194 18 rfl rfl
theorem dL_law_1213 : decode cL_law 1213 = .ok (.aload_n 0, 1) := dqr0 dqK_42 dqw_cL_law_1194 19 rfl rfl
theorem dL_law_1214 : decode cL_law 1214 = .ok (.iload_n 3, 1) := dqr0 dqK_29 dqw_cL_law_1194 20 rfl rfl
theorem dL_law_1215 : decode cL_law 1215 = .ok (.iconst 4, 1) := dqr0 dqK_7 dqw_cL_law_1194 21 rfl rfl
theorem dL_law_1216 : decode cL_law 1216 = .ok (.iadd, 1) := dqr0 dqK_96 dqw_cL_law_1194 22 rfl rfl
theorem dL_law_1217 : decode cL_law 1217 = .ok (.iaload, 1) := dqr0 dqK_46 dqw_cL_law_1194 23 rfl rfl
theorem dqw_cL_law_1218 : dqLF cL_law 1218 [182, 0, 123, 87, 44, 42, 29, 4, 96, 46, 42, 29, 5, 96, 46, 42, 29, 6, 96, 46, 42, 29, 7, 96] := by decide +kernel
theorem dL_law_1218 : decode cL_law 1218 = .ok (.invokevirtual 123, 3) := dqr2 dqK_182 dqw_cL_law_1218 0 rfl rfl rfl rfl rfl
theorem dL_law_1221 : decode cL_law 1221 = .ok (.pop, 1) := dqr0 dqK_87 dqw_cL_law_1218 3 rfl rfl
theorem dL_law_1222 : decode cL_law 1222 = .ok (.aload_n 2, 1) := dqr0 dqK_44 dqw_cL_law_1218 4 rfl rfl
theorem dL_law_1223 : decode cL_law 1223 = .ok (.aload_n 0, 1) := dqr0 dqK_42 dqw_cL_law_1218 5 rfl rfl
theorem dL_law_1224 : decode cL_law 1224 = .ok (.iload_n 3, 1) := dqr0 dqK_29 dqw_cL_law_1218 6 rfl rfl
theorem dL_law_1225 : decode cL_law 1225 = .ok (.iconst 1, 1) := dqr0 dqK_4 dqw_cL_law_1218 7 rfl rfl
theorem dL_law_1226 : decode cL_law 1226 = .ok (.iadd, 1) := dqr0 dqK_96 dqw_cL_law_1218 8 rfl rfl
theorem dL_law_1227 : decode cL_law 1227 = .ok (.iaload, 1) := dqr0 dqK_46 dqw_cL_law_1218 9 rfl rfl
theorem dL_law_1228 : decode cL_law 1228 = .ok (.aload_n 0, 1) := dqr0 dqK_42 dqw_cL_law_1218 10 rfl rfl
theorem dL_law_1229 : decode cL_law 1229 = .ok (.iload_n 3, 1) := dqr0 dqK_29 dqw_cL_law_1218 11 rfl rfl
theorem dL_law_1230 : decode cL_law 1230 = .ok (.iconst 2, 1) := dqr0 dqK_5 dqw_cL_law_1218 12 rfl rfl
theorem dL_law_1231 : decode cL_law 1231 = .ok (.iadd, 1) := dqr0 dqK_96 dqw_cL_law_1218 13 rfl rfl
theorem dL_law_1232 : decode cL_law 1232 = .ok (.iaload, 1) := dqr0 dqK_46 dqw_cL_law_1218 14 rfl rfl
theorem dL_law_1233 : decode cL_law 1233 = .ok (.aload_n 0, 1) := dqr0 dqK_42 dqw_cL_law_1218 15 rfl rfl
theorem dL_law_1234 : decode cL_law 1234 = .ok (.iload_n 3, 1) := dqr0 dqK_29 dqw_cL_law_1218 16 rfl rfl
theorem dL_law_1235 : decode cL_law 1235 = .ok (.iconst 3, 1) := dqr0 dqK_6 dqw_cL_law_1218 17 rfl rfl
theorem dL_law_1236 : decode cL_law 1236 = .ok (.iadd, 1) := dqr0 dqK_96 dqw_cL_law_1218 18 rfl rfl
theorem dL_law_1237 : decode cL_law 1237 = .ok (.iaload, 1) := dqr0 dqK_46 dqw_cL_law_1218 19 rfl rfl
theorem dL_law_1238 : decode cL_law 1238 = .ok (.aload_n 0, 1) := dqr0 dqK_42 dqw_cL_law_1218 20 rfl rfl
theorem dL_law_1239 : decode cL_law 1239 = .ok (.iload_n 3, 1) := dqr0 dqK_29 dqw_cL_law_1218 21 rfl rfl
theorem dL_law_1240 : decode cL_law 1240 = .ok (.iconst 4, 1) := dqr0 dqK_7 dqw_cL_law_1218 22 rfl rfl
theorem dL_law_1241 : decode cL_law 1241 = .ok (.iadd, 1) := dqr0 dqK_96 dqw_cL_law_1218 23 rfl rfl
theorem dqw_cL_law_1242 : dqLF cL_law 1242 [46, 182, 0, 126, 87, 167, 0, 198, 43, 42, 29, 4, 96, 46, 42, 29, 5, 96, 46, 42, 29, 6, 96, 46] := by decide +kernel
theorem dL_law_1242 : decode cL_law 1242 = .ok (.iaload, 1) := dqr0 dqK_46 dqw_cL_law_1242 0 rfl rfl
theorem dL_law_1243 : decode cL_law 1243 = .ok (.invokevirtual 126, 3) := dqr2 dqK_182 dqw_cL_law_1242 1 rfl rfl rfl rfl rfl
theorem dL_law_1246 : decode cL_law 1246 = .ok (.pop, 1) := dqr0 dqK_87 dqw_cL_law_1242 4 rfl rfl
theorem dL_law_1247 : decode cL_law 1247 = .ok (.goto 198, 3) := dqrs2 dqK_167 dqw_cL_law_1242 5 rfl rfl rfl rfl (by decide)
theorem dL_law_1250 : decode cL_law 1250 = .ok (.aload_n 1, 1) := dqr0 dqK_43 dqw_cL_law_1242 8 rfl rfl
theorem dL_law_1251 : decode cL_law 1251 = .ok (.aload_n 0, 1) := dqr0 dqK_42 dqw_cL_law_1242 9 rfl rfl
theorem dL_law_1252 : decode cL_law 1252 = .ok (.iload_n 3, 1) := dqr0 dqK_29 dqw_cL_law_1242 10 rfl rfl
theorem dL_law_1253 : decode cL_law 1253 = .ok (.iconst 1, 1) := dqr0 dqK_4 dqw_cL_law_1242 11 rfl rfl
theorem dL_law_1254 : decode cL_law 1254 = .ok (.iadd, 1) := dqr0 dqK_96 dqw_cL_law_1242 12 rfl rfl
theorem dL_law_1255 : decode cL_law 1255 = .ok (.iaload, 1) := dqr0 dqK_46 dqw_cL_law_1242 13 rfl rfl
theorem dL_law_1256 : decode cL_law 1256 = .ok (.aload_n 0, 1) := dqr0 dqK_42 dqw_cL_law_1242 14 rfl rfl
theorem dL_law_1257 : decode cL_law 1257 = .ok (.iload_n 3, 1) := dqr0 dqK_29 dqw_cL_law_1242 15 rfl rfl
theorem dL_law_1258 : decode cL_law 1258 = .ok (.iconst 2, 1) := dqr0 dqK_5 dqw_cL_law_1242 16 rfl rfl
theorem dL_law_1259 : decode cL_law 1259 = .ok (.iadd, 1) := dqr0 dqK_96 dqw_cL_law_1242 17 rfl rfl
theorem dL_law_1260 : decode cL_law 1260 = .ok (.iaload, 1) := dqr0 dqK_46 dqw_cL_law_1242 18 rfl rfl
theorem dL_law_1261 : decode cL_law 1261 = .ok (.aload_n 0, 1) := dqr0 dqK_42 dqw_cL_law_1242 19 rfl rfl
theorem dL_law_1262 : decode cL_law 1262 = .ok (.iload_n 3, 1) := dqr0 dqK_29 dqw_cL_law_1242 20 rfl rfl
theorem dL_law_1263 : decode cL_law 1263 = .ok (.iconst 3, 1) := dqr0 dqK_6 dqw_cL_law_1242 21 rfl rfl
theorem dL_law_1264 : decode cL_law 1264 = .ok (.iadd, 1) := dqr0 dqK_96 dqw_cL_law_1242 22 rfl rfl
theorem dL_law_1265 : decode cL_law 1265 = .ok (.iaload, 1) := dqr0 dqK_46 dqw_cL_law_1242 23 rfl rfl
theorem dqw_cL_law_1266 : dqLF cL_law 1266 [182, 0, 127, 44, 42, 29, 4, 96, 46, 42, 29, 5, 96, 46, 42, 29, 6, 96, 46, 182, 0, 130] := by decide +kernel
theorem dL_law_1266 : decode cL_law 1266 = .ok (.invokevirtual 127, 3) := dqr2 dqK_182 dqw_cL_law_1266 0 rfl rfl rfl rfl rfl
theorem dL_law_1269 : decode cL_law 1269 = .ok (.aload_n 2, 1) := dqr0 dqK_44 dqw_cL_law_1266 3 rfl rfl
theorem dL_law_1270 : decode cL_law 1270 = .ok (.aload_n 0, 1) := dqr0 dqK_42 dqw_cL_law_1266 4 rfl rfl
theorem dL_law_1271 : decode cL_law 1271 = .ok (.iload_n 3, 1) := dqr0 dqK_29 dqw_cL_law_1266 5 rfl rfl
theorem dL_law_1272 : decode cL_law 1272 = .ok (.iconst 1, 1) := dqr0 dqK_4 dqw_cL_law_1266 6 rfl rfl
theorem dL_law_1273 : decode cL_law 1273 = .ok (.iadd, 1) := dqr0 dqK_96 dqw_cL_law_1266 7 rfl rfl
theorem dL_law_1274 : decode cL_law 1274 = .ok (.iaload, 1) := dqr0 dqK_46 dqw_cL_law_1266 8 rfl rfl
theorem dL_law_1275 : decode cL_law 1275 = .ok (.aload_n 0, 1) := dqr0 dqK_42 dqw_cL_law_1266 9 rfl rfl
theorem dL_law_1276 : decode cL_law 1276 = .ok (.iload_n 3, 1) := dqr0 dqK_29 dqw_cL_law_1266 10 rfl rfl
theorem dL_law_1277 : decode cL_law 1277 = .ok (.iconst 2, 1) := dqr0 dqK_5 dqw_cL_law_1266 11 rfl rfl
theorem dL_law_1278 : decode cL_law 1278 = .ok (.iadd, 1) := dqr0 dqK_96 dqw_cL_law_1266 12 rfl rfl
theorem dL_law_1279 : decode cL_law 1279 = .ok (.iaload, 1) := dqr0 dqK_46 dqw_cL_law_1266 13 rfl rfl
theorem dL_law_1280 : decode cL_law 1280 = .ok (.aload_n 0, 1) := dqr0 dqK_42 dqw_cL_law_1266 14 rfl rfl
theorem dL_law_1281 : decode cL_law 1281 = .ok (.iload_n 3, 1) := dqr0 dqK_29 dqw_cL_law_1266 15 rfl rfl
theorem dL_law_1282 : decode cL_law 1282 = .ok (.iconst 3, 1) := dqr0 dqK_6 dqw_cL_law_1266 16 rfl rfl
theorem dL_law_1283 : decode cL_law 1283 = .ok (.iadd, 1) := dqr0 dqK_96 dqw_cL_law_1266 17 rfl rfl
theorem dL_law_1284 : decode cL_law 1284 = .ok (.iaload, 1) := dqr0 dqK_46 dqw_cL_law_1266 18 rfl rfl
theorem dL_law_1285 : decode cL_law 1285 = .ok (.invokevirtual 130, 3) := dqr2 dqK_182 dqw_cL_law_1266 19 rfl rfl rfl rfl rfl
theorem dqw_cL_law_1288 : dqLF cL_law 1288 [159, 0, 157, 3, 172, 43, 42, 29, 4, 96, 46, 42, 29, 5, 96, 46, 42, 29, 6, 96, 46, 182, 0, 131] := by decide +kernel
theorem dL_law_1288 : decode cL_law 1288 = .ok (.if_icmp .eq 157, 3) := dqrs2 dqK_159 dqw_cL_law_1288 0 rfl rfl rfl rfl (by decide)
theorem dL_law_1291 : decode cL_law 1291 = .ok (.iconst 0, 1) := dqr0 dqK_3 dqw_cL_law_1288 3 rfl rfl
theorem dL_law_1292 : decode cL_law 1292 = .ok (.ireturn, 1) := dqr0 dqK_172 dqw_cL_law_1288 4 rfl rfl
theorem dL_law_1293 : decode cL_law 1293 = .ok (.aload_n 1, 1) := dqr0 dqK_43 dqw_cL_law_1288 5 rfl rfl
theorem dL_law_1294 : decode cL_law 1294 = .ok (.aload_n 0, 1) := dqr0 dqK_42 dqw_cL_law_1288 6 rfl rfl
theorem dL_law_1295 : decode cL_law 1295 = .ok (.iload_n 3, 1) := dqr0 dqK_29 dqw_cL_law_1288 7 rfl rfl
theorem dL_law_1296 : decode cL_law 1296 = .ok (.iconst 1, 1) := dqr0 dqK_4 dqw_cL_law_1288 8 rfl rfl
theorem dL_law_1297 : decode cL_law 1297 = .ok (.iadd, 1) := dqr0 dqK_96 dqw_cL_law_1288 9 rfl rfl
theorem dL_law_1298 : decode cL_law 1298 = .ok (.iaload, 1) := dqr0 dqK_46 dqw_cL_law_1288 10 rfl rfl
theorem dL_law_1299 : decode cL_law 1299 = .ok (.aload_n 0, 1) := dqr0 dqK_42 dqw_cL_law_1288 11 rfl rfl
theorem dL_law_1300 : decode cL_law 1300 = .ok (.iload_n 3, 1) := dqr0 dqK_29 dqw_cL_law_1288 12 rfl rfl
theorem dL_law_1301 : decode cL_law 1301 = .ok (.iconst 2, 1) := dqr0 dqK_5 dqw_cL_law_1288 13 rfl rfl
theorem dL_law_1302 : decode cL_law 1302 = .ok (.iadd, 1) := dqr0 dqK_96 dqw_cL_law_1288 14 rfl rfl
theorem dL_law_1303 : decode cL_law 1303 = .ok (.iaload, 1) := dqr0 dqK_46 dqw_cL_law_1288 15 rfl rfl
theorem dL_law_1304 : decode cL_law 1304 = .ok (.aload_n 0, 1) := dqr0 dqK_42 dqw_cL_law_1288 16 rfl rfl
theorem dL_law_1305 : decode cL_law 1305 = .ok (.iload_n 3, 1) := dqr0 dqK_29 dqw_cL_law_1288 17 rfl rfl
theorem dL_law_1306 : decode cL_law 1306 = .ok (.iconst 3, 1) := dqr0 dqK_6 dqw_cL_law_1288 18 rfl rfl
theorem dL_law_1307 : decode cL_law 1307 = .ok (.iadd, 1) := dqr0 dqK_96 dqw_cL_law_1288 19 rfl rfl
theorem dL_law_1308 : decode cL_law 1308 = .ok (.iaload, 1) := dqr0 dqK_46 dqw_cL_law_1288 20 rfl rfl
theorem dL_law_1309 : decode cL_law 1309 = .ok (.invokevirtual 131, 3) := dqr2 dqK_182 dqw_cL_law_1288 21 rfl rfl rfl rfl rfl
theorem dqw_cL_law_1312 : dqLF cL_law 1312 [87, 44, 42, 29, 4, 96, 46, 42, 29, 5, 96, 46, 42, 29, 6, 96, 46, 182, 0, 134, 87, 167, 0, 112] := by decide +kernel
theorem dL_law_1312 : decode cL_law 1312 = .ok (.pop, 1) := dqr0 dqK_87 dqw_cL_law_1312 0 rfl rfl
theorem dL_law_1313 : decode cL_law 1313 = .ok (.aload_n 2, 1) := dqr0 dqK_44 dqw_cL_law_1312 1 rfl rfl
theorem dL_law_1314 : decode cL_law 1314 = .ok (.aload_n 0, 1) := dqr0 dqK_42 dqw_cL_law_1312 2 rfl rfl
theorem dL_law_1315 : decode cL_law 1315 = .ok (.iload_n 3, 1) := dqr0 dqK_29 dqw_cL_law_1312 3 rfl rfl
theorem dL_law_1316 : decode cL_law 1316 = .ok (.iconst 1, 1) := dqr0 dqK_4 dqw_cL_law_1312 4 rfl rfl
theorem dL_law_1317 : decode cL_law 1317 = .ok (.iadd, 1) := dqr0 dqK_96 dqw_cL_law_1312 5 rfl rfl
theorem dL_law_1318 : decode cL_law 1318 = .ok (.iaload, 1) := dqr0 dqK_46 dqw_cL_law_1312 6 rfl rfl
theorem dL_law_1319 : decode cL_law 1319 = .ok (.aload_n 0, 1) := dqr0 dqK_42 dqw_cL_law_1312 7 rfl rfl
theorem dL_law_1320 : decode cL_law 1320 = .ok (.iload_n 3, 1) := dqr0 dqK_29 dqw_cL_law_1312 8 rfl rfl
theorem dL_law_1321 : decode cL_law 1321 = .ok (.iconst 2, 1) := dqr0 dqK_5 dqw_cL_law_1312 9 rfl rfl
theorem dL_law_1322 : decode cL_law 1322 = .ok (.iadd, 1) := dqr0 dqK_96 dqw_cL_law_1312 10 rfl rfl
theorem dL_law_1323 : decode cL_law 1323 = .ok (.iaload, 1) := dqr0 dqK_46 dqw_cL_law_1312 11 rfl rfl
theorem dL_law_1324 : decode cL_law 1324 = .ok (.aload_n 0, 1) := dqr0 dqK_42 dqw_cL_law_1312 12 rfl rfl
theorem dL_law_1325 : decode cL_law 1325 = .ok (.iload_n 3, 1) := dqr0 dqK_29 dqw_cL_law_1312 13 rfl rfl
theorem dL_law_1326 : decode cL_law 1326 = .ok (.iconst 3, 1) := dqr0 dqK_6 dqw_cL_law_1312 14 rfl rfl
theorem dL_law_1327 : decode cL_law 1327 = .ok (.iadd, 1) := dqr0 dqK_96 dqw_cL_law_1312 15 rfl rfl
theorem dL_law_1328 : decode cL_law 1328 = .ok (.iaload, 1) := dqr0 dqK_46 dqw_cL_law_1312 16 rfl rfl
theorem dL_law_1329 : decode cL_law 1329 = .ok (.invokevirtual 134, 3) := dqr2 dqK_182 dqw_cL_law_1312 17 rfl rfl rfl rfl rfl
theorem dL_law_1332 : decode cL_law 1332 = .ok (.pop, 1) := dqr0 dqK_87 dqw_cL_law_1312 20 rfl rfl
theorem dL_law_1333 : decode cL_law 1333 = .ok (.goto 112, 3) := dqrs2 dqK_167 dqw_cL_law_1312 21 rfl rfl rfl rfl (by decide)
theorem dqw_cL_law_1336 : dqLF cL_law 1336 [43, 42, 29, 4, 96, 46, 42, 29, 5, 96, 46, 42, 29, 6, 96, 46, 182, 0, 135, 87, 44, 42, 29, 4] := by decide +kernel
theorem dL_law_1336 : decode cL_law 1336 = .ok (.aload_n 1, 1) := dqr0 dqK_43 dqw_cL_law_1336 0 rfl rfl
theorem dL_law_1337 : decode cL_law 1337 = .ok (.aload_n 0, 1) := dqr0 dqK_42 dqw_cL_law_1336 1 rfl rfl
theorem dL_law_1338 : decode cL_law 1338 = .ok (.iload_n 3, 1) := dqr0 dqK_29 dqw_cL_law_1336 2 rfl rfl
theorem dL_law_1339 : decode cL_law 1339 = .ok (.iconst 1, 1) := dqr0 dqK_4 dqw_cL_law_1336 3 rfl rfl
theorem dL_law_1340 : decode cL_law 1340 = .ok (.iadd, 1) := dqr0 dqK_96 dqw_cL_law_1336 4 rfl rfl
theorem dL_law_1341 : decode cL_law 1341 = .ok (.iaload, 1) := dqr0 dqK_46 dqw_cL_law_1336 5 rfl rfl
theorem dL_law_1342 : decode cL_law 1342 = .ok (.aload_n 0, 1) := dqr0 dqK_42 dqw_cL_law_1336 6 rfl rfl
theorem dL_law_1343 : decode cL_law 1343 = .ok (.iload_n 3, 1) := dqr0 dqK_29 dqw_cL_law_1336 7 rfl rfl
theorem dL_law_1344 : decode cL_law 1344 = .ok (.iconst 2, 1) := dqr0 dqK_5 dqw_cL_law_1336 8 rfl rfl
theorem dL_law_1345 : decode cL_law 1345 = .ok (.iadd, 1) := dqr0 dqK_96 dqw_cL_law_1336 9 rfl rfl
theorem dL_law_1346 : decode cL_law 1346 = .ok (.iaload, 1) := dqr0 dqK_46 dqw_cL_law_1336 10 rfl rfl
theorem dL_law_1347 : decode cL_law 1347 = .ok (.aload_n 0, 1) := dqr0 dqK_42 dqw_cL_law_1336 11 rfl rfl
theorem dL_law_1348 : decode cL_law 1348 = .ok (.iload_n 3, 1) := dqr0 dqK_29 dqw_cL_law_1336 12 rfl rfl
theorem dL_law_1349 : decode cL_law 1349 = .ok (.iconst 3, 1) := dqr0 dqK_6 dqw_cL_law_1336 13 rfl rfl
theorem dL_law_1350 : decode cL_law 1350 = .ok (.iadd, 1) := dqr0 dqK_96 dqw_cL_law_1336 14 rfl rfl
theorem dL_law_1351 : decode cL_law 1351 = .ok (.iaload, 1) := dqr0 dqK_46 dqw_cL_law_1336 15 rfl rfl
theorem dL_law_1352 : decode cL_law 1352 = .ok (.invokevirtual 135, 3) := dqr2 dqK_182 dqw_cL_law_1336 16 rfl rfl rfl rfl rfl
theorem dL_law_1355 : decode cL_law 1355 = .ok (.pop, 1) := dqr0 dqK_87 dqw_cL_law_1336 19 rfl rfl
theorem dL_law_1356 : decode cL_law 1356 = .ok (.aload_n 2, 1) := dqr0 dqK_44 dqw_cL_law_1336 20 rfl rfl
theorem dL_law_1357 : decode cL_law 1357 = .ok (.aload_n 0, 1) := dqr0 dqK_42 dqw_cL_law_1336 21 rfl rfl
theorem dL_law_1358 : decode cL_law 1358 = .ok (.iload_n 3, 1) := dqr0 dqK_29 dqw_cL_law_1336 22 rfl rfl
theorem dL_law_1359 : decode cL_law 1359 = .ok (.iconst 1, 1) := dqr0 dqK_4 dqw_cL_law_1336 23 rfl rfl
theorem dqw_cL_law_1360 : dqLF cL_law 1360 [96, 46, 42, 29, 5, 96, 46, 42, 29, 6, 96, 46, 182, 0, 138, 87, 167, 0, 69, 43, 42, 29, 4, 96] := by decide +kernel
theorem dL_law_1360 : decode cL_law 1360 = .ok (.iadd, 1) := dqr0 dqK_96 dqw_cL_law_1360 0 rfl rfl
theorem dL_law_1361 : decode cL_law 1361 = .ok (.iaload, 1) := dqr0 dqK_46 dqw_cL_law_1360 1 rfl rfl
theorem dL_law_1362 : decode cL_law 1362 = .ok (.aload_n 0, 1) := dqr0 dqK_42 dqw_cL_law_1360 2 rfl rfl
theorem dL_law_1363 : decode cL_law 1363 = .ok (.iload_n 3, 1) := dqr0 dqK_29 dqw_cL_law_1360 3 rfl rfl
theorem dL_law_1364 : decode cL_law 1364 = .ok (.iconst 2, 1) := dqr0 dqK_5 dqw_cL_law_1360 4 rfl rfl
theorem dL_law_1365 : decode cL_law 1365 = .ok (.iadd, 1) := dqr0 dqK_96 dqw_cL_law_1360 5 rfl rfl
theorem dL_law_1366 : decode cL_law 1366 = .ok (.iaload, 1) := dqr0 dqK_46 dqw_cL_law_1360 6 rfl rfl
theorem dL_law_1367 : decode cL_law 1367 = .ok (.aload_n 0, 1) := dqr0 dqK_42 dqw_cL_law_1360 7 rfl rfl
theorem dL_law_1368 : decode cL_law 1368 = .ok (.iload_n 3, 1) := dqr0 dqK_29 dqw_cL_law_1360 8 rfl rfl
theorem dL_law_1369 : decode cL_law 1369 = .ok (.iconst 3, 1) := dqr0 dqK_6 dqw_cL_law_1360 9 rfl rfl
theorem dL_law_1370 : decode cL_law 1370 = .ok (.iadd, 1) := dqr0 dqK_96 dqw_cL_law_1360 10 rfl rfl
theorem dL_law_1371 : decode cL_law 1371 = .ok (.iaload, 1) := dqr0 dqK_46 dqw_cL_law_1360 11 rfl rfl
theorem dL_law_1372 : decode cL_law 1372 = .ok (.invokevirtual 138, 3) := dqr2 dqK_182 dqw_cL_law_1360 12 rfl rfl rfl rfl rfl
theorem dL_law_1375 : decode cL_law 1375 = .ok (.pop, 1) := dqr0 dqK_87 dqw_cL_law_1360 15 rfl rfl
theorem dL_law_1376 : decode cL_law 1376 = .ok (.goto 69, 3) := dqrs2 dqK_167 dqw_cL_law_1360 16 rfl rfl rfl rfl (by decide)
theorem dL_law_1379 : decode cL_law 1379 = .ok (.aload_n 1, 1) := dqr0 dqK_43 dqw_cL_law_1360 19 rfl rfl
theorem dL_law_1380 : decode cL_law 1380 = .ok (.aload_n 0, 1) := dqr0 dqK_42 dqw_cL_law_1360 20 rfl rfl
theorem dL_law_1381 : decode cL_law 1381 = .ok (.iload_n 3, 1) := dqr0 dqK_29 dqw_cL_law_1360 21 rfl rfl
theorem dL_law_1382 : decode cL_law 1382 = .ok (.iconst 1, 1) := dqr0 dqK_4 dqw_cL_law_1360 22 rfl rfl
theorem dL_law_1383 : decode cL_law 1383 = .ok (.iadd, 1) := dqr0 dqK_96 dqw_cL_law_1360 23 rfl rfl
theorem dqw_cL_law_1384 : dqLF cL_law 1384 [46, 42, 29, 5, 96, 46, 42, 29, 6, 96, 46, 182, 0, 139, 87, 44, 42, 29, 4, 96, 46, 42, 29, 5] := by decide +kernel
theorem dL_law_1384 : decode cL_law 1384 = .ok (.iaload, 1) := dqr0 dqK_46 dqw_cL_law_1384 0 rfl rfl
theorem dL_law_1385 : decode cL_law 1385 = .ok (.aload_n 0, 1) := dqr0 dqK_42 dqw_cL_law_1384 1 rfl rfl
theorem dL_law_1386 : decode cL_law 1386 = .ok (.iload_n 3, 1) := dqr0 dqK_29 dqw_cL_law_1384 2 rfl rfl
theorem dL_law_1387 : decode cL_law 1387 = .ok (.iconst 2, 1) := dqr0 dqK_5 dqw_cL_law_1384 3 rfl rfl
theorem dL_law_1388 : decode cL_law 1388 = .ok (.iadd, 1) := dqr0 dqK_96 dqw_cL_law_1384 4 rfl rfl
theorem dL_law_1389 : decode cL_law 1389 = .ok (.iaload, 1) := dqr0 dqK_46 dqw_cL_law_1384 5 rfl rfl
theorem dL_law_1390 : decode cL_law 1390 = .ok (.aload_n 0, 1) := dqr0 dqK_42 dqw_cL_law_1384 6 rfl rfl
theorem dL_law_1391 : decode cL_law 1391 = .ok (.iload_n 3, 1) := dqr0 dqK_29 dqw_cL_law_1384 7 rfl rfl
theorem dL_law_1392 : decode cL_law 1392 = .ok (.iconst 3, 1) := dqr0 dqK_6 dqw_cL_law_1384 8 rfl rfl
theorem dL_law_1393 : decode cL_law 1393 = .ok (.iadd, 1) := dqr0 dqK_96 dqw_cL_law_1384 9 rfl rfl
theorem dL_law_1394 : decode cL_law 1394 = .ok (.iaload, 1) := dqr0 dqK_46 dqw_cL_law_1384 10 rfl rfl
theorem dL_law_1395 : decode cL_law 1395 = .ok (.invokevirtual 139, 3) := dqr2 dqK_182 dqw_cL_law_1384 11 rfl rfl rfl rfl rfl
theorem dL_law_1398 : decode cL_law 1398 = .ok (.pop, 1) := dqr0 dqK_87 dqw_cL_law_1384 14 rfl rfl
theorem dL_law_1399 : decode cL_law 1399 = .ok (.aload_n 2, 1) := dqr0 dqK_44 dqw_cL_law_1384 15 rfl rfl
theorem dL_law_1400 : decode cL_law 1400 = .ok (.aload_n 0, 1) := dqr0 dqK_42 dqw_cL_law_1384 16 rfl rfl
theorem dL_law_1401 : decode cL_law 1401 = .ok (.iload_n 3, 1) := dqr0 dqK_29 dqw_cL_law_1384 17 rfl rfl
theorem dL_law_1402 : decode cL_law 1402 = .ok (.iconst 1, 1) := dqr0 dqK_4 dqw_cL_law_1384 18 rfl rfl
theorem dL_law_1403 : decode cL_law 1403 = .ok (.iadd, 1) := dqr0 dqK_96 dqw_cL_law_1384 19 rfl rfl
theorem dL_law_1404 : decode cL_law 1404 = .ok (.iaload, 1) := dqr0 dqK_46 dqw_cL_law_1384 20 rfl rfl
theorem dL_law_1405 : decode cL_law 1405 = .ok (.aload_n 0, 1) := dqr0 dqK_42 dqw_cL_law_1384 21 rfl rfl
theorem dL_law_1406 : decode cL_law 1406 = .ok (.iload_n 3, 1) := dqr0 dqK_29 dqw_cL_law_1384 22 rfl rfl
theorem dL_law_1407 : decode cL_law 1407 = .ok (.iconst 2, 1) := dqr0 dqK_5 dqw_cL_law_1384 23 rfl rfl
theorem dqw_cL_law_1408 : dqLF cL_law 1408 [96, 46, 42, 29, 6, 96, 46, 182, 0, 142, 87, 167, 0, 26, 43, 42, 29, 4, 96, 46, 182, 0, 143, 87] := by decide +kernel
theorem dL_law_1408 : decode cL_law 1408 = .ok (.iadd, 1) := dqr0 dqK_96 dqw_cL_law_1408 0 rfl rfl
theorem dL_law_1409 : decode cL_law 1409 = .ok (.iaload, 1) := dqr0 dqK_46 dqw_cL_law_1408 1 rfl rfl
theorem dL_law_1410 : decode cL_law 1410 = .ok (.aload_n 0, 1) := dqr0 dqK_42 dqw_cL_law_1408 2 rfl rfl
theorem dL_law_1411 : decode cL_law 1411 = .ok (.iload_n 3, 1) := dqr0 dqK_29 dqw_cL_law_1408 3 rfl rfl
theorem dL_law_1412 : decode cL_law 1412 = .ok (.iconst 3, 1) := dqr0 dqK_6 dqw_cL_law_1408 4 rfl rfl
theorem dL_law_1413 : decode cL_law 1413 = .ok (.iadd, 1) := dqr0 dqK_96 dqw_cL_law_1408 5 rfl rfl
theorem dL_law_1414 : decode cL_law 1414 = .ok (.iaload, 1) := dqr0 dqK_46 dqw_cL_law_1408 6 rfl rfl
theorem dL_law_1415 : decode cL_law 1415 = .ok (.invokevirtual 142, 3) := dqr2 dqK_182 dqw_cL_law_1408 7 rfl rfl rfl rfl rfl
theorem dL_law_1418 : decode cL_law 1418 = .ok (.pop, 1) := dqr0 dqK_87 dqw_cL_law_1408 10 rfl rfl
theorem dL_law_1419 : decode cL_law 1419 = .ok (.goto 26, 3) := dqrs2 dqK_167 dqw_cL_law_1408 11 rfl rfl rfl rfl (by decide)
theorem dL_law_1422 : decode cL_law 1422 = .ok (.aload_n 1, 1) := dqr0 dqK_43 dqw_cL_law_1408 14 rfl rfl
theorem dL_law_1423 : decode cL_law 1423 = .ok (.aload_n 0, 1) := dqr0 dqK_42 dqw_cL_law_1408 15 rfl rfl
theorem dL_law_1424 : decode cL_law 1424 = .ok (.iload_n 3, 1) := dqr0 dqK_29 dqw_cL_law_1408 16 rfl rfl
theorem dL_law_1425 : decode cL_law 1425 = .ok (.iconst 1, 1) := dqr0 dqK_4 dqw_cL_law_1408 17 rfl rfl
theorem dL_law_1426 : decode cL_law 1426 = .ok (.iadd, 1) := dqr0 dqK_96 dqw_cL_law_1408 18 rfl rfl
theorem dL_law_1427 : decode cL_law 1427 = .ok (.iaload, 1) := dqr0 dqK_46 dqw_cL_law_1408 19 rfl rfl
theorem dL_law_1428 : decode cL_law 1428 = .ok (.invokevirtual 143, 3) := dqr2 dqK_182 dqw_cL_law_1408 20 rfl rfl rfl rfl rfl
theorem dL_law_1431 : decode cL_law 1431 = .ok (.pop, 1) := dqr0 dqK_87 dqw_cL_law_1408 23 rfl rfl
theorem dqw_cL_law_1432 : dqLF cL_law 1432 [44, 42, 29, 4, 96, 46, 182, 0, 146, 87, 167, 0, 3, 132, 3, 6, 167, 250, 106, 4, 172] := by decide +kernel
theorem dL_law_1432 : decode cL_law 1432 = .ok (.aload_n 2, 1) := dqr0 dqK_44 dqw_cL_law_1432 0 rfl rfl
theorem dL_law_1433 : decode cL_law 1433 = .ok (.aload_n 0, 1) := dqr0 dqK_42 dqw_cL_law_1432 1 rfl rfl
theorem dL_law_1434 : decode cL_law 1434 = .ok (.iload_n 3, 1) := dqr0 dqK_29 dqw_cL_law_1432 2 rfl rfl
theorem dL_law_1435 : decode cL_law 1435 = .ok (.iconst 1, 1) := dqr0 dqK_4 dqw_cL_law_1432 3 rfl rfl
theorem dL_law_1436 : decode cL_law 1436 = .ok (.iadd, 1) := dqr0 dqK_96 dqw_cL_law_1432 4 rfl rfl
theorem dL_law_1437 : decode cL_law 1437 = .ok (.iaload, 1) := dqr0 dqK_46 dqw_cL_law_1432 5 rfl rfl
theorem dL_law_1438 : decode cL_law 1438 = .ok (.invokevirtual 146, 3) := dqr2 dqK_182 dqw_cL_law_1432 6 rfl rfl rfl rfl rfl
theorem dL_law_1441 : decode cL_law 1441 = .ok (.pop, 1) := dqr0 dqK_87 dqw_cL_law_1432 9 rfl rfl
theorem dL_law_1442 : decode cL_law 1442 = .ok (.goto 3, 3) := dqrs2 dqK_167 dqw_cL_law_1432 10 rfl rfl rfl rfl (by decide)
theorem dL_law_1445 : decode cL_law 1445 = .ok (.iinc 3 6, 3) := dqri dqK_132 dqw_cL_law_1432 13 rfl rfl rfl rfl (by decide)
theorem dL_law_1448 : decode cL_law 1448 = .ok (.goto (-1430), 3) := dqrs2 dqK_167 dqw_cL_law_1432 16 rfl rfl rfl rfl (by decide)
theorem dL_law_1451 : decode cL_law 1451 = .ok (.iconst 1, 1) := dqr0 dqK_4 dqw_cL_law_1432 19 rfl rfl
theorem dL_law_1452 : decode cL_law 1452 = .ok (.ireturn, 1) := dqr0 dqK_172 dqw_cL_law_1432 20 rfl rfl
end
