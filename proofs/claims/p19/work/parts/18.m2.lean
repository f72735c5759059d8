theorem dMo_step_0 : decode cMo_step 0 = .ok (.aload_n 0, 1) := by decide +kernel
theorem dMo_step_1 : decode cMo_step 1 = .ok (.getfield 25, 3) := by decide +kernel
theorem dMo_step_4 : decode cMo_step 4 = .ok (.iconst 0, 1) := by decide +kernel
theorem dMo_step_5 : decode cMo_step 5 = .ok (.iaload, 1) := by decide +kernel
theorem dMo_step_6 : decode cMo_step 6 = .ok (.istore_n 2, 1) := by decide +kernel
theorem dMo_step_7 : decode cMo_step 7 = .ok (.aload_n 0, 1) := by decide +kernel
theorem dMo_step_8 : decode cMo_step 8 = .ok (.getfield 7, 3) := by decide +kernel
theorem dMo_step_11 : decode cMo_step 11 = .ok (.iload_n 2, 1) := by decide +kernel
theorem dMo_step_12 : decode cMo_step 12 = .ok (.iaload, 1) := by decide +kernel
theorem dMo_step_13 : decode cMo_step 13 = .ok (.istore_n 3, 1) := by decide +kernel
theorem dMo_step_14 : decode cMo_step 14 = .ok (.aload_n 0, 1) := by decide +kernel
theorem dMo_step_15 : decode cMo_step 15 = .ok (.getfield 13, 3) := by decide +kernel
theorem dMo_step_18 : decode cMo_step 18 = .ok (.iload_n 2, 1) := by decide +kernel
theorem dMo_step_19 : decode cMo_step 19 = .ok (.iaload, 1) := by decide +kernel
theorem dMo_step_20 : decode cMo_step 20 = .ok (.istore 4, 2) := by decide +kernel
theorem dMo_step_22 : decode cMo_step 22 = .ok (.iload_n 2, 1) := by decide +kernel
theorem dMo_step_23 : decode cMo_step 23 = .ok (.iconst 1, 1) := by decide +kernel
theorem dMo_step_24 : decode cMo_step 24 = .ok (.iadd, 1) := by decide +kernel
theorem dMo_step_25 : decode cMo_step 25 = .ok (.bipush 16, 2) := by decide +kernel
theorem dMo_step_27 : decode cMo_step 27 = .ok (.irem, 1) := by decide +kernel
theorem dMo_step_28 : decode cMo_step 28 = .ok (.istore 5, 2) := by decide +kernel
theorem dMo_step_30 : decode cMo_step 30 = .ok (.aload_n 0, 1) := by decide +kernel
theorem dMo_step_31 : decode cMo_step 31 = .ok (.getfield 25, 3) := by decide +kernel
theorem dMo_step_34 : decode cMo_step 34 = .ok (.iconst 1, 1) := by decide +kernel
theorem dMo_step_35 : decode cMo_step 35 = .ok (.iaload, 1) := by decide +kernel
theorem dMo_step_36 : decode cMo_step 36 = .ok (.istore 6, 2) := by decide +kernel
theorem dMo_step_38 : decode cMo_step 38 = .ok (.aload_n 0, 1) := by decide +kernel
theorem dMo_step_39 : decode cMo_step 39 = .ok (.getfield 25, 3) := by decide +kernel
theorem dMo_step_42 : decode cMo_step 42 = .ok (.iconst 2, 1) := by decide +kernel
theorem dMo_step_43 : decode cMo_step 43 = .ok (.iaload, 1) := by decide +kernel
theorem dMo_step_44 : decode cMo_step 44 = .ok (.istore 7, 2) := by decide +kernel
theorem dMo_step_46 : decode cMo_step 46 = .ok (.iconst 5, 1) := by decide +kernel
theorem dMo_step_47 : decode cMo_step 47 = .ok (.iload 7, 2) := by decide +kernel
theorem dMo_step_49 : decode cMo_step 49 = .ok (.bipush 7, 2) := by decide +kernel
theorem dMo_step_51 : decode cMo_step 51 = .ok (.iand, 1) := by decide +kernel
theorem dMo_step_52 : decode cMo_step 52 = .ok (.iadd, 1) := by decide +kernel
theorem dMo_step_53 : decode cMo_step 53 = .ok (.istore 8, 2) := by decide +kernel
theorem dMo_step_55 : decode cMo_step 55 = .ok (.iload_n 3, 1) := by decide +kernel
theorem dMo_step_56 : decode cMo_step 56 = .ok (.ifCond .eq 36, 3) := by decide +kernel
theorem dMo_step_59 : decode cMo_step 59 = .ok (.iload_n 3, 1) := by decide +kernel
theorem dMo_step_60 : decode cMo_step 60 = .ok (.bipush 9, 2) := by decide +kernel
theorem dMo_step_62 : decode cMo_step 62 = .ok (.if_icmp .ne 13, 3) := by decide +kernel
theorem dMo_step_65 : decode cMo_step 65 = .ok (.aload_n 0, 1) := by decide +kernel
theorem dMo_step_66 : decode cMo_step 66 = .ok (.getfield 25, 3) := by decide +kernel
theorem dMo_step_69 : decode cMo_step 69 = .ok (.iconst 3, 1) := by decide +kernel
theorem dMo_step_70 : decode cMo_step 70 = .ok (.iaload, 1) := by decide +kernel
theorem dMo_step_71 : decode cMo_step 71 = .ok (.iload_n 1, 1) := by decide +kernel
theorem dMo_step_72 : decode cMo_step 72 = .ok (.if_icmp .ge 20, 3) := by decide +kernel
theorem dMo_step_75 : decode cMo_step 75 = .ok (.iload_n 3, 1) := by decide +kernel
theorem dMo_step_76 : decode cMo_step 76 = .ok (.bipush 13, 2) := by decide +kernel
theorem dMo_step_78 : decode cMo_step 78 = .ok (.if_icmp .ne 18, 3) := by decide +kernel
theorem dMo_step_81 : decode cMo_step 81 = .ok (.aload_n 0, 1) := by decide +kernel
theorem dMo_step_82 : decode cMo_step 82 = .ok (.getfield 25, 3) := by decide +kernel
theorem dMo_step_85 : decode cMo_step 85 = .ok (.iconst 4, 1) := by decide +kernel
theorem dMo_step_86 : decode cMo_step 86 = .ok (.iaload, 1) := by decide +kernel
theorem dMo_step_87 : decode cMo_step 87 = .ok (.bipush 30, 2) := by decide +kernel
theorem dMo_step_89 : decode cMo_step 89 = .ok (.if_icmp .ne 7, 3) := by decide +kernel
theorem dMo_step_92 : decode cMo_step 92 = .ok (.iconst 1, 1) := by decide +kernel
theorem dMo_step_93 : decode cMo_step 93 = .ok (.goto 4, 3) := by decide +kernel
theorem dMo_step_96 : decode cMo_step 96 = .ok (.iconst 0, 1) := by decide +kernel
theorem dMo_step_97 : decode cMo_step 97 = .ok (.istore 9, 2) := by decide +kernel
theorem dMo_step_99 : decode cMo_step 99 = .ok (.iload 9, 2) := by decide +kernel
theorem dMo_step_101 : decode cMo_step 101 = .ok (.ifCond .ne 261, 3) := by decide +kernel
theorem dMo_step_104 : decode cMo_step 104 = .ok (.iload_n 3, 1) := by decide +kernel
theorem dMo_step_105 : decode cMo_step 105 = .ok (.iconst 1, 1) := by decide +kernel
theorem dMo_step_106 : decode cMo_step 106 = .ok (.if_icmp .ne 14, 3) := by decide +kernel
theorem dMo_step_109 : decode cMo_step 109 = .ok (.aload_n 0, 1) := by decide +kernel
theorem dMo_step_110 : decode cMo_step 110 = .ok (.getfield 25, 3) := by decide +kernel
theorem dMo_step_113 : decode cMo_step 113 = .ok (.iconst 1, 1) := by decide +kernel
theorem dMo_step_114 : decode cMo_step 114 = .ok (.iload 4, 2) := by decide +kernel
theorem dMo_step_116 : decode cMo_step 116 = .ok (.iastore, 1) := by decide +kernel
theorem dMo_step_117 : decode cMo_step 117 = .ok (.goto 245, 3) := by decide +kernel
theorem dMo_step_120 : decode cMo_step 120 = .ok (.iload_n 3, 1) := by decide +kernel
theorem dMo_step_121 : decode cMo_step 121 = .ok (.iconst 2, 1) := by decide +kernel
theorem dMo_step_122 : decode cMo_step 122 = .ok (.if_icmp .ne 14, 3) := by decide +kernel
theorem dMo_step_125 : decode cMo_step 125 = .ok (.aload_n 0, 1) := by decide +kernel
theorem dMo_step_126 : decode cMo_step 126 = .ok (.getfield 25, 3) := by decide +kernel
theorem dMo_step_129 : decode cMo_step 129 = .ok (.iconst 2, 1) := by decide +kernel
theorem dMo_step_130 : decode cMo_step 130 = .ok (.iload 4, 2) := by decide +kernel
theorem dMo_step_132 : decode cMo_step 132 = .ok (.iastore, 1) := by decide +kernel
theorem dMo_step_133 : decode cMo_step 133 = .ok (.goto 229, 3) := by decide +kernel
theorem dMo_step_136 : decode cMo_step 136 = .ok (.iload_n 3, 1) := by decide +kernel
theorem dMo_step_137 : decode cMo_step 137 = .ok (.iconst 3, 1) := by decide +kernel
theorem dMo_step_138 : decode cMo_step 138 = .ok (.if_icmp .ne 22, 3) := by decide +kernel
theorem dMo_step_141 : decode cMo_step 141 = .ok (.aload_n 0, 1) := by decide +kernel
theorem dMo_step_142 : decode cMo_step 142 = .ok (.getfield 25, 3) := by decide +kernel
theorem dMo_step_145 : decode cMo_step 145 = .ok (.iconst 1, 1) := by decide +kernel
theorem dMo_step_146 : decode cMo_step 146 = .ok (.iload 7, 2) := by decide +kernel
theorem dMo_step_148 : decode cMo_step 148 = .ok (.iastore, 1) := by decide +kernel
theorem dMo_step_149 : decode cMo_step 149 = .ok (.aload_n 0, 1) := by decide +kernel
theorem dMo_step_150 : decode cMo_step 150 = .ok (.getfield 25, 3) := by decide +kernel
theorem dMo_step_153 : decode cMo_step 153 = .ok (.iconst 2, 1) := by decide +kernel
theorem dMo_step_154 : decode cMo_step 154 = .ok (.iload 6, 2) := by decide +kernel
theorem dMo_step_156 : decode cMo_step 156 = .ok (.iastore, 1) := by decide +kernel
theorem dMo_step_157 : decode cMo_step 157 = .ok (.goto 205, 3) := by decide +kernel
theorem dMo_step_160 : decode cMo_step 160 = .ok (.iload_n 3, 1) := by decide +kernel
theorem dMo_step_161 : decode cMo_step 161 = .ok (.iconst 4, 1) := by decide +kernel
theorem dMo_step_162 : decode cMo_step 162 = .ok (.if_icmp .lt 49, 3) := by decide +kernel
theorem dMo_step_165 : decode cMo_step 165 = .ok (.iload_n 3, 1) := by decide +kernel
theorem dMo_step_166 : decode cMo_step 166 = .ok (.bipush 6, 2) := by decide +kernel
theorem dMo_step_168 : decode cMo_step 168 = .ok (.if_icmp .gt 43, 3) := by decide +kernel
theorem dMo_step_171 : decode cMo_step 171 = .ok (.aload_n 0, 1) := by decide +kernel
theorem dMo_step_172 : decode cMo_step 172 = .ok (.getfield 25, 3) := by decide +kernel
theorem dMo_step_175 : decode cMo_step 175 = .ok (.iconst 1, 1) := by decide +kernel
theorem dMo_step_176 : decode cMo_step 176 = .ok (.iload_n 3, 1) := by decide +kernel
theorem dMo_step_177 : decode cMo_step 177 = .ok (.iconst 4, 1) := by decide +kernel
theorem dMo_step_178 : decode cMo_step 178 = .ok (.if_icmp .ne 11, 3) := by decide +kernel
theorem dMo_step_181 : decode cMo_step 181 = .ok (.iload 6, 2) := by decide +kernel
theorem dMo_step_183 : decode cMo_step 183 = .ok (.iload 7, 2) := by decide +kernel
theorem dMo_step_185 : decode cMo_step 185 = .ok (.iadd, 1) := by decide +kernel
theorem dMo_step_186 : decode cMo_step 186 = .ok (.goto 21, 3) := by decide +kernel
theorem dMo_step_189 : decode cMo_step 189 = .ok (.iload_n 3, 1) := by decide +kernel
theorem dMo_step_190 : decode cMo_step 190 = .ok (.iconst 5, 1) := by decide +kernel
theorem dMo_step_191 : decode cMo_step 191 = .ok (.if_icmp .ne 11, 3) := by decide +kernel
theorem dMo_step_194 : decode cMo_step 194 = .ok (.iload 6, 2) := by decide +kernel
theorem dMo_step_196 : decode cMo_step 196 = .ok (.iload 7, 2) := by decide +kernel
theorem dMo_step_198 : decode cMo_step 198 = .ok (.isub, 1) := by decide +kernel
theorem dMo_step_199 : decode cMo_step 199 = .ok (.goto 8, 3) := by decide +kernel
theorem dMo_step_202 : decode cMo_step 202 = .ok (.iload 6, 2) := by decide +kernel
theorem dMo_step_204 : decode cMo_step 204 = .ok (.iload 7, 2) := by decide +kernel
theorem dMo_step_206 : decode cMo_step 206 = .ok (.imul, 1) := by decide +kernel
theorem dMo_step_207 : decode cMo_step 207 = .ok (.iastore, 1) := by decide +kernel
theorem dMo_step_208 : decode cMo_step 208 = .ok (.goto 154, 3) := by decide +kernel
theorem dMo_step_211 : decode cMo_step 211 = .ok (.iload_n 3, 1) := by decide +kernel
theorem dMo_step_212 : decode cMo_step 212 = .ok (.bipush 7, 2) := by decide +kernel
theorem dMo_step_214 : decode cMo_step 214 = .ok (.if_icmp .ne 19, 3) := by decide +kernel
theorem dMo_step_217 : decode cMo_step 217 = .ok (.aload_n 0, 1) := by decide +kernel
theorem dMo_step_218 : decode cMo_step 218 = .ok (.getfield 25, 3) := by decide +kernel
theorem dMo_step_221 : decode cMo_step 221 = .ok (.iconst 1, 1) := by decide +kernel
theorem dMo_step_222 : decode cMo_step 222 = .ok (.aload_n 0, 1) := by decide +kernel
theorem dMo_step_223 : decode cMo_step 223 = .ok (.getfield 25, 3) := by decide +kernel
theorem dMo_step_226 : decode cMo_step 226 = .ok (.iload 8, 2) := by decide +kernel
theorem dMo_step_228 : decode cMo_step 228 = .ok (.iaload, 1) := by decide +kernel
theorem dMo_step_229 : decode cMo_step 229 = .ok (.iastore, 1) := by decide +kernel
theorem dMo_step_230 : decode cMo_step 230 = .ok (.goto 132, 3) := by decide +kernel
theorem dMo_step_233 : decode cMo_step 233 = .ok (.iload_n 3, 1) := by decide +kernel
theorem dMo_step_234 : decode cMo_step 234 = .ok (.bipush 8, 2) := by decide +kernel
theorem dMo_step_236 : decode cMo_step 236 = .ok (.if_icmp .ne 15, 3) := by decide +kernel
theorem dMo_step_239 : decode cMo_step 239 = .ok (.aload_n 0, 1) := by decide +kernel
theorem dMo_step_240 : decode cMo_step 240 = .ok (.getfield 25, 3) := by decide +kernel
theorem dMo_step_243 : decode cMo_step 243 = .ok (.iload 8, 2) := by decide +kernel
theorem dMo_step_245 : decode cMo_step 245 = .ok (.iload 6, 2) := by decide +kernel
theorem dMo_step_247 : decode cMo_step 247 = .ok (.iastore, 1) := by decide +kernel
theorem dMo_step_248 : decode cMo_step 248 = .ok (.goto 114, 3) := by decide +kernel
theorem dMo_step_251 : decode cMo_step 251 = .ok (.iload_n 3, 1) := by decide +kernel
theorem dMo_step_252 : decode cMo_step 252 = .ok (.bipush 9, 2) := by decide +kernel
theorem dMo_step_254 : decode cMo_step 254 = .ok (.if_icmp .ne 32, 3) := by decide +kernel
theorem dMo_step_257 : decode cMo_step 257 = .ok (.aload_n 0, 1) := by decide +kernel
theorem dMo_step_258 : decode cMo_step 258 = .ok (.getfield 25, 3) := by decide +kernel
theorem dMo_step_261 : decode cMo_step 261 = .ok (.iconst 1, 1) := by decide +kernel
theorem dMo_step_262 : decode cMo_step 262 = .ok (.aload_n 0, 1) := by decide +kernel
theorem dMo_step_263 : decode cMo_step 263 = .ok (.aload_n 0, 1) := by decide +kernel
theorem dMo_step_264 : decode cMo_step 264 = .ok (.getfield 25, 3) := by decide +kernel
theorem dMo_step_267 : decode cMo_step 267 = .ok (.iconst 3, 1) := by decide +kernel
theorem dMo_step_268 : decode cMo_step 268 = .ok (.iaload, 1) := by decide +kernel
theorem dMo_step_269 : decode cMo_step 269 = .ok (.invokevirtual 118, 3) := by decide +kernel
theorem dMo_step_272 : decode cMo_step 272 = .ok (.iastore, 1) := by decide +kernel
theorem dMo_step_273 : decode cMo_step 273 = .ok (.aload_n 0, 1) := by decide +kernel
theorem dMo_step_274 : decode cMo_step 274 = .ok (.getfield 25, 3) := by decide +kernel
theorem dMo_step_277 : decode cMo_step 277 = .ok (.iconst 3, 1) := by decide +kernel
theorem dMo_step_278 : decode cMo_step 278 = .ok (.dup2, 1) := by decide +kernel
theorem dMo_step_279 : decode cMo_step 279 = .ok (.iaload, 1) := by decide +kernel
theorem dMo_step_280 : decode cMo_step 280 = .ok (.iconst 1, 1) := by decide +kernel
theorem dMo_step_281 : decode cMo_step 281 = .ok (.iadd, 1) := by decide +kernel
theorem dMo_step_282 : decode cMo_step 282 = .ok (.iastore, 1) := by decide +kernel
theorem dMo_step_283 : decode cMo_step 283 = .ok (.goto 79, 3) := by decide +kernel
theorem dMo_step_286 : decode cMo_step 286 = .ok (.iload_n 3, 1) := by decide +kernel
theorem dMo_step_287 : decode cMo_step 287 = .ok (.bipush 13, 2) := by decide +kernel
theorem dMo_step_289 : decode cMo_step 289 = .ok (.if_icmp .ne 38, 3) := by decide +kernel
theorem dMo_step_292 : decode cMo_step 292 = .ok (.aload_n 0, 1) := by decide +kernel
theorem dMo_step_293 : decode cMo_step 293 = .ok (.aload_n 0, 1) := by decide +kernel
theorem dMo_step_294 : decode cMo_step 294 = .ok (.getfield 102, 3) := by decide +kernel
theorem dMo_step_297 : decode cMo_step 297 = .ok (.iload 7, 2) := by decide +kernel
theorem dMo_step_299 : decode cMo_step 299 = .ok (.iconst 3, 1) := by decide +kernel
theorem dMo_step_300 : decode cMo_step 300 = .ok (.iand, 1) := by decide +kernel
theorem dMo_step_301 : decode cMo_step 301 = .ok (.i2l, 1) := by decide +kernel
theorem dMo_step_302 : decode cMo_step 302 = .ok (.invokestatic 95, 3) := by decide +kernel
theorem dMo_step_305 : decode cMo_step 305 = .ok (.iload 6, 2) := by decide +kernel
theorem dMo_step_307 : decode cMo_step 307 = .ok (.i2l, 1) := by decide +kernel
theorem dMo_step_308 : decode cMo_step 308 = .ok (.invokestatic 95, 3) := by decide +kernel
theorem dMo_step_311 : decode cMo_step 311 = .ok (.putfield 102, 3) := by decide +kernel
theorem dMo_step_314 : decode cMo_step 314 = .ok (.aload_n 0, 1) := by decide +kernel
theorem dMo_step_315 : decode cMo_step 315 = .ok (.getfield 25, 3) := by decide +kernel
theorem dMo_step_318 : decode cMo_step 318 = .ok (.iconst 4, 1) := by decide +kernel
theorem dMo_step_319 : decode cMo_step 319 = .ok (.dup2, 1) := by decide +kernel
theorem dMo_step_320 : decode cMo_step 320 = .ok (.iaload, 1) := by decide +kernel
theorem dMo_step_321 : decode cMo_step 321 = .ok (.iconst 1, 1) := by decide +kernel
theorem dMo_step_322 : decode cMo_step 322 = .ok (.iadd, 1) := by decide +kernel
theorem dMo_step_323 : decode cMo_step 323 = .ok (.iastore, 1) := by decide +kernel
theorem dMo_step_324 : decode cMo_step 324 = .ok (.goto 38, 3) := by decide +kernel
theorem dMo_step_327 : decode cMo_step 327 = .ok (.iload_n 3, 1) := by decide +kernel
theorem dMo_step_328 : decode cMo_step 328 = .ok (.bipush 10, 2) := by decide +kernel
theorem dMo_step_330 : decode cMo_step 330 = .ok (.if_icmp .eq 25, 3) := by decide +kernel
theorem dMo_step_333 : decode cMo_step 333 = .ok (.iload_n 3, 1) := by decide +kernel
theorem dMo_step_334 : decode cMo_step 334 = .ok (.bipush 11, 2) := by decide +kernel
theorem dMo_step_336 : decode cMo_step 336 = .ok (.if_icmp .ne 8, 3) := by decide +kernel
theorem dMo_step_339 : decode cMo_step 339 = .ok (.iload 6, 2) := by decide +kernel
theorem dMo_step_341 : decode cMo_step 341 = .ok (.ifCond .eq 14, 3) := by decide +kernel
theorem dMo_step_344 : decode cMo_step 344 = .ok (.iload_n 3, 1) := by decide +kernel
theorem dMo_step_345 : decode cMo_step 345 = .ok (.bipush 12, 2) := by decide +kernel
theorem dMo_step_347 : decode cMo_step 347 = .ok (.if_icmp .ne 15, 3) := by decide +kernel
theorem dMo_step_350 : decode cMo_step 350 = .ok (.iload 6, 2) := by decide +kernel
theorem dMo_step_352 : decode cMo_step 352 = .ok (.ifCond .ge 10, 3) := by decide +kernel
theorem dMo_step_355 : decode cMo_step 355 = .ok (.iload 4, 2) := by decide +kernel
theorem dMo_step_357 : decode cMo_step 357 = .ok (.bipush 15, 2) := by decide +kernel
theorem dMo_step_359 : decode cMo_step 359 = .ok (.iand, 1) := by decide +kernel
theorem dMo_step_360 : decode cMo_step 360 = .ok (.istore 5, 2) := by decide +kernel
theorem dMo_step_362 : decode cMo_step 362 = .ok (.aload_n 0, 1) := by decide +kernel
theorem dMo_step_363 : decode cMo_step 363 = .ok (.getfield 25, 3) := by decide +kernel
theorem dMo_step_366 : decode cMo_step 366 = .ok (.iconst 0, 1) := by decide +kernel
theorem dMo_step_367 : decode cMo_step 367 = .ok (.iload 9, 2) := by decide +kernel
theorem dMo_step_369 : decode cMo_step 369 = .ok (.ifCond .eq 7, 3) := by decide +kernel
theorem dMo_step_372 : decode cMo_step 372 = .ok (.iload_n 2, 1) := by decide +kernel
theorem dMo_step_373 : decode cMo_step 373 = .ok (.goto 5, 3) := by decide +kernel
theorem dMo_step_376 : decode cMo_step 376 = .ok (.iload 5, 2) := by decide +kernel
theorem dMo_step_378 : decode cMo_step 378 = .ok (.iastore, 1) := by decide +kernel
theorem dMo_step_379 : decode cMo_step 379 = .ok (.return_, 1) := by decide +kernel
abbrev ww_Mo_step (h0 h0_op h0_argument h0_inbox h0_hand h0_balance h0_real h0_payee h0_paid h0_drawn h0_challenger h0_low h0_high h0_agreed h0_disputed h0_posted h0_middle h0_deadline h0_running h0_node h0_side : Nat) (c0_op c0_argument c0_inbox c0_hand : ClassId) (u : ct_Mo × (Nat → Int32) × (Nat → Int32) × (Nat → Int32) × (Nat → Int32)) : va_W := [(h0, ce_Mo h0_op h0_argument h0_balance h0_inbox h0_real h0_hand h0_payee h0_paid h0_drawn h0_challenger h0_low h0_high h0_agreed h0_disputed h0_posted h0_middle h0_deadline h0_running h0_node h0_side u.1), (h0_op, .inl (c0_op, 16, .inl u.2.1)), (h0_argument, .inl (c0_argument, 16, .inl u.2.2.1)), (h0_inbox, .inl (c0_inbox, 60, .inl u.2.2.2.1)), (h0_hand, .inl (c0_hand, 13, .inl u.2.2.2.2))]
def wp_Mo_step (post : (ct_Mo × (Nat → Int32) × (Nat → Int32) × (Nat → Int32) × (Nat → Int32)) → Prop) (u : ct_Mo × (Nat → Int32) × (Nat → Int32) × (Nat → Int32) × (Nat → Int32)) (k1 : Int32) : Prop := ∀ y1 : Int32, y1 = (u.2.2.2.2 0) → (vp_in y1 16 ∧ (∀ y3 : Int32, y3 = (u.2.1 y1.toNatClampNeg) → (vp_in y1 16 ∧ (∀ y5 : Int32, y5 = (u.2.2.1 y1.toNatClampNeg) → (∀ y6 : Int32, y6 = ((y1 + 1) - (y1 + 1) / 16 * 16) → (∀ y7 : Int32, y7 = (u.2.2.2.2 1) → (∀ y8 : Int32, y8 = (u.2.2.2.2 2) → (∀ y9 : Int32, y9 = (5 + (y8 &&& 7)) → (((y3 = 0 → (post (u.1, u.2.1, u.2.2.1, u.2.2.2.1, (upd u.2.2.2.2 0 y1)))) ∧ (¬ y3 = 0 → (((y3 = 9 → (((k1 ≤ (u.2.2.2.2 3) → (post (u.1, u.2.1, u.2.2.1, u.2.2.2.1, (upd u.2.2.2.2 0 y1)))) ∧ (¬ k1 ≤ (u.2.2.2.2 3) → (((y3 = 13 → ((((u.2.2.2.2 4) = 30 → (post (u.1, u.2.1, u.2.2.1, u.2.2.2.1, (upd u.2.2.2.2 0 y1)))) ∧ (¬ (u.2.2.2.2 4) = 30 → (((y3 = 1 → (post (u.1, u.2.1, u.2.2.1, u.2.2.2.1, (upd (upd u.2.2.2.2 1 y5) 0 y6)))) ∧ (¬ y3 = 1 → (((y3 = 2 → (post (u.1, u.2.1, u.2.2.1, u.2.2.2.1, (upd (upd u.2.2.2.2 2 y5) 0 y6)))) ∧ (¬ y3 = 2 → (((y3 = 3 → (post (u.1, u.2.1, u.2.2.1, u.2.2.2.1, (upd (upd (upd u.2.2.2.2 1 y8) 2 y7) 0 y6)))) ∧ (¬ y3 = 3 → (((y3 < 4 → (((y3 = 7 → (vp_in y9 13 ∧ (∀ f343 : Int32, f343 = (u.2.2.2.2 y9.toNatClampNeg) → (post (u.1, u.2.1, u.2.2.1, u.2.2.2.1, (upd (upd u.2.2.2.2 1 f343) 0 y6)))))) ∧ (¬ y3 = 7 → (((y3 = 8 → (vp_in y9 13 ∧ (post (u.1, u.2.1, u.2.2.1, u.2.2.2.1, (upd (upd u.2.2.2.2 y9.toNatClampNeg y7) 0 y6))))) ∧ (¬ y3 = 8 → (((y3 = 9 → (wp_Mo_wordAt (fun r336 u337 => (∀ f338 : Int32, f338 = (((upd u.2.2.2.2 1 r336) 3) + 1) → (post (u337.1, u.2.1, u.2.2.1, u337.2, (upd (upd (upd u.2.2.2.2 1 r336) 3 f338) 0 y6))))) (u.1, u.2.2.2.1) (u.2.2.2.2 3) )) ∧ (¬ y3 = 9 → (((y3 = 13 → (wp_Mo_mix (fun r330 u331 => (wp_Mo_mix (fun r332 u333 => (∀ f334 : Int32, f334 = ((u.2.2.2.2 4) + 1) → (post ((u.1.1, u.1.2.1, u.1.2.2.1, u.1.2.2.2.1, u.1.2.2.2.2.1, u.1.2.2.2.2.2.1, r332, u.1.2.2.2.2.2.2.2.1, u.1.2.2.2.2.2.2.2.2.1, u.1.2.2.2.2.2.2.2.2.2.1, u.1.2.2.2.2.2.2.2.2.2.2.1, u.1.2.2.2.2.2.2.2.2.2.2.2.1, u.1.2.2.2.2.2.2.2.2.2.2.2.2.1, u.1.2.2.2.2.2.2.2.2.2.2.2.2.2.1, u.1.2.2.2.2.2.2.2.2.2.2.2.2.2.2), u.2.1, u.2.2.1, u.2.2.2.1, (upd (upd u.2.2.2.2 4 f334) 0 y6))))) () r330 (y7.toInt64) )) () u.1.2.2.2.2.2.2.1 ((y8 &&& 3).toInt64) )) ∧ (¬ y3 = 13 → (((y3 = 10 → (∀ y312 : Int32, y312 = (y5 &&& 15) → (post (u.1, u.2.1, u.2.2.1, u.2.2.2.1, (upd u.2.2.2.2 0 y312))))) ∧ (¬ y3 = 10 → (((y3 = 11 → (((y7 = 0 → (∀ y322 : Int32, y322 = (y5 &&& 15) → (post (u.1, u.2.1, u.2.2.1, u.2.2.2.1, (upd u.2.2.2.2 0 y322))))) ∧ (¬ y7 = 0 → (((y3 = 12 → (((0 ≤ y7 → (post (u.1, u.2.1, u.2.2.1, u.2.2.2.1, (upd u.2.2.2.2 0 y6)))) ∧ (¬ 0 ≤ y7 → (∀ y328 : Int32, y328 = (y5 &&& 15) → (post (u.1, u.2.1, u.2.2.1, u.2.2.2.1, (upd u.2.2.2.2 0 y328)))))))) ∧ (¬ y3 = 12 → (post (u.1, u.2.1, u.2.2.1, u.2.2.2.1, (upd u.2.2.2.2 0 y6)))))))))) ∧ (¬ y3 = 11 → (((y3 = 12 → (((0 ≤ y7 → (post (u.1, u.2.1, u.2.2.1, u.2.2.2.1, (upd u.2.2.2.2 0 y6)))) ∧ (¬ 0 ≤ y7 → (∀ y319 : Int32, y319 = (y5 &&& 15) → (post (u.1, u.2.1, u.2.2.1, u.2.2.2.1, (upd u.2.2.2.2 0 y319)))))))) ∧ (¬ y3 = 12 → (post (u.1, u.2.1, u.2.2.1, u.2.2.2.1, (upd u.2.2.2.2 0 y6))))))))))))))))))))))))) ∧ (¬ y3 < 4 → (((6 < y3 → (((y3 = 7 → (vp_in y9 13 ∧ (∀ f382 : Int32, f382 = (u.2.2.2.2 y9.toNatClampNeg) → (post (u.1, u.2.1, u.2.2.1, u.2.2.2.1, (upd (upd u.2.2.2.2 1 f382) 0 y6)))))) ∧ (¬ y3 = 7 → (((y3 = 8 → (vp_in y9 13 ∧ (post (u.1, u.2.1, u.2.2.1, u.2.2.2.1, (upd (upd u.2.2.2.2 y9.toNatClampNeg y7) 0 y6))))) ∧ (¬ y3 = 8 → (((y3 = 9 → (wp_Mo_wordAt (fun r375 u376 => (∀ f377 : Int32, f377 = (((upd u.2.2.2.2 1 r375) 3) + 1) → (post (u376.1, u.2.1, u.2.2.1, u376.2, (upd (upd (upd u.2.2.2.2 1 r375) 3 f377) 0 y6))))) (u.1, u.2.2.2.1) (u.2.2.2.2 3) )) ∧ (¬ y3 = 9 → (((y3 = 13 → (wp_Mo_mix (fun r369 u370 => (wp_Mo_mix (fun r371 u372 => (∀ f373 : Int32, f373 = ((u.2.2.2.2 4) + 1) → (post ((u.1.1, u.1.2.1, u.1.2.2.1, u.1.2.2.2.1, u.1.2.2.2.2.1, u.1.2.2.2.2.2.1, r371, u.1.2.2.2.2.2.2.2.1, u.1.2.2.2.2.2.2.2.2.1, u.1.2.2.2.2.2.2.2.2.2.1, u.1.2.2.2.2.2.2.2.2.2.2.1, u.1.2.2.2.2.2.2.2.2.2.2.2.1, u.1.2.2.2.2.2.2.2.2.2.2.2.2.1, u.1.2.2.2.2.2.2.2.2.2.2.2.2.2.1, u.1.2.2.2.2.2.2.2.2.2.2.2.2.2.2), u.2.1, u.2.2.1, u.2.2.2.1, (upd (upd u.2.2.2.2 4 f373) 0 y6))))) () r369 (y7.toInt64) )) () u.1.2.2.2.2.2.2.1 ((y8 &&& 3).toInt64) )) ∧ (¬ y3 = 13 → (((y3 = 10 → (∀ y351 : Int32, y351 = (y5 &&& 15) → (post (u.1, u.2.1, u.2.2.1, u.2.2.2.1, (upd u.2.2.2.2 0 y351))))) ∧ (¬ y3 = 10 → (((y3 = 11 → (((y7 = 0 → (∀ y361 : Int32, y361 = (y5 &&& 15) → (post (u.1, u.2.1, u.2.2.1, u.2.2.2.1, (upd u.2.2.2.2 0 y361))))) ∧ (¬ y7 = 0 → (((y3 = 12 → (((0 ≤ y7 → (post (u.1, u.2.1, u.2.2.1, u.2.2.2.1, (upd u.2.2.2.2 0 y6)))) ∧ (¬ 0 ≤ y7 → (∀ y367 : Int32, y367 = (y5 &&& 15) → (post (u.1, u.2.1, u.2.2.1, u.2.2.2.1, (upd u.2.2.2.2 0 y367)))))))) ∧ (¬ y3 = 12 → (post (u.1, u.2.1, u.2.2.1, u.2.2.2.1, (upd u.2.2.2.2 0 y6)))))))))) ∧ (¬ y3 = 11 → (((y3 = 12 → (((0 ≤ y7 → (post (u.1, u.2.1, u.2.2.1, u.2.2.2.1, (upd u.2.2.2.2 0 y6)))) ∧ (¬ 0 ≤ y7 → (∀ y358 : Int32, y358 = (y5 &&& 15) → (post (u.1, u.2.1, u.2.2.1, u.2.2.2.1, (upd u.2.2.2.2 0 y358)))))))) ∧ (¬ y3 = 12 → (post (u.1, u.2.1, u.2.2.1, u.2.2.2.1, (upd u.2.2.2.2 0 y6))))))))))))))))))))))))) ∧ (¬ 6 < y3 → (((y3 = 4 → (∀ f390 : Int32, f390 = (y7 + y8) → (post (u.1, u.2.1, u.2.2.1, u.2.2.2.1, (upd (upd u.2.2.2.2 1 f390) 0 y6))))) ∧ (¬ y3 = 4 → (((y3 = 5 → (∀ f388 : Int32, f388 = (y7 - y8) → (post (u.1, u.2.1, u.2.2.1, u.2.2.2.1, (upd (upd u.2.2.2.2 1 f388) 0 y6))))) ∧ (¬ y3 = 5 → (∀ f386 : Int32, f386 = (y7 * y8) → (post (u.1, u.2.1, u.2.2.1, u.2.2.2.1, (upd (upd u.2.2.2.2 1 f386) 0 y6))))))))))))))))))))))))))))) ∧ (¬ y3 = 13 → (((y3 = 1 → (post (u.1, u.2.1, u.2.2.1, u.2.2.2.1, (upd (upd u.2.2.2.2 1 y5) 0 y6)))) ∧ (¬ y3 = 1 → (((y3 = 2 → (post (u.1, u.2.1, u.2.2.1, u.2.2.2.1, (upd (upd u.2.2.2.2 2 y5) 0 y6)))) ∧ (¬ y3 = 2 → (((y3 = 3 → (post (u.1, u.2.1, u.2.2.1, u.2.2.2.1, (upd (upd (upd u.2.2.2.2 1 y8) 2 y7) 0 y6)))) ∧ (¬ y3 = 3 → (((y3 < 4 → (((y3 = 7 → (vp_in y9 13 ∧ (∀ f249 : Int32, f249 = (u.2.2.2.2 y9.toNatClampNeg) → (post (u.1, u.2.1, u.2.2.1, u.2.2.2.1, (upd (upd u.2.2.2.2 1 f249) 0 y6)))))) ∧ (¬ y3 = 7 → (((y3 = 8 → (vp_in y9 13 ∧ (post (u.1, u.2.1, u.2.2.1, u.2.2.2.1, (upd (upd u.2.2.2.2 y9.toNatClampNeg y7) 0 y6))))) ∧ (¬ y3 = 8 → (((y3 = 9 → (wp_Mo_wordAt (fun r242 u243 => (∀ f244 : Int32, f244 = (((upd u.2.2.2.2 1 r242) 3) + 1) → (post (u243.1, u.2.1, u.2.2.1, u243.2, (upd (upd (upd u.2.2.2.2 1 r242) 3 f244) 0 y6))))) (u.1, u.2.2.2.1) (u.2.2.2.2 3) )) ∧ (¬ y3 = 9 → (((y3 = 13 → (wp_Mo_mix (fun r236 u237 => (wp_Mo_mix (fun r238 u239 => (∀ f240 : Int32, f240 = ((u.2.2.2.2 4) + 1) → (post ((u.1.1, u.1.2.1, u.1.2.2.1, u.1.2.2.2.1, u.1.2.2.2.2.1, u.1.2.2.2.2.2.1, r238, u.1.2.2.2.2.2.2.2.1, u.1.2.2.2.2.2.2.2.2.1, u.1.2.2.2.2.2.2.2.2.2.1, u.1.2.2.2.2.2.2.2.2.2.2.1, u.1.2.2.2.2.2.2.2.2.2.2.2.1, u.1.2.2.2.2.2.2.2.2.2.2.2.2.1, u.1.2.2.2.2.2.2.2.2.2.2.2.2.2.1, u.1.2.2.2.2.2.2.2.2.2.2.2.2.2.2), u.2.1, u.2.2.1, u.2.2.2.1, (upd (upd u.2.2.2.2 4 f240) 0 y6))))) () r236 (y7.toInt64) )) () u.1.2.2.2.2.2.2.1 ((y8 &&& 3).toInt64) )) ∧ (¬ y3 = 13 → (((y3 = 10 → (∀ y218 : Int32, y218 = (y5 &&& 15) → (post (u.1, u.2.1, u.2.2.1, u.2.2.2.1, (upd u.2.2.2.2 0 y218))))) ∧ (¬ y3 = 10 → (((y3 = 11 → (((y7 = 0 → (∀ y228 : Int32, y228 = (y5 &&& 15) → (post (u.1, u.2.1, u.2.2.1, u.2.2.2.1, (upd u.2.2.2.2 0 y228))))) ∧ (¬ y7 = 0 → (((y3 = 12 → (((0 ≤ y7 → (post (u.1, u.2.1, u.2.2.1, u.2.2.2.1, (upd u.2.2.2.2 0 y6)))) ∧ (¬ 0 ≤ y7 → (∀ y234 : Int32, y234 = (y5 &&& 15) → (post (u.1, u.2.1, u.2.2.1, u.2.2.2.1, (upd u.2.2.2.2 0 y234)))))))) ∧ (¬ y3 = 12 → (post (u.1, u.2.1, u.2.2.1, u.2.2.2.1, (upd u.2.2.2.2 0 y6)))))))))) ∧ (¬ y3 = 11 → (((y3 = 12 → (((0 ≤ y7 → (post (u.1, u.2.1, u.2.2.1, u.2.2.2.1, (upd u.2.2.2.2 0 y6)))) ∧ (¬ 0 ≤ y7 → (∀ y225 : Int32, y225 = (y5 &&& 15) → (post (u.1, u.2.1, u.2.2.1, u.2.2.2.1, (upd u.2.2.2.2 0 y225)))))))) ∧ (¬ y3 = 12 → (post (u.1, u.2.1, u.2.2.1, u.2.2.2.1, (upd u.2.2.2.2 0 y6))))))))))))))))))))))))) ∧ (¬ y3 < 4 → (((6 < y3 → (((y3 = 7 → (vp_in y9 13 ∧ (∀ f288 : Int32, f288 = (u.2.2.2.2 y9.toNatClampNeg) → (post (u.1, u.2.1, u.2.2.1, u.2.2.2.1, (upd (upd u.2.2.2.2 1 f288) 0 y6)))))) ∧ (¬ y3 = 7 → (((y3 = 8 → (vp_in y9 13 ∧ (post (u.1, u.2.1, u.2.2.1, u.2.2.2.1, (upd (upd u.2.2.2.2 y9.toNatClampNeg y7) 0 y6))))) ∧ (¬ y3 = 8 → (((y3 = 9 → (wp_Mo_wordAt (fun r281 u282 => (∀ f283 : Int32, f283 = (((upd u.2.2.2.2 1 r281) 3) + 1) → (post (u282.1, u.2.1, u.2.2.1, u282.2, (upd (upd (upd u.2.2.2.2 1 r281) 3 f283) 0 y6))))) (u.1, u.2.2.2.1) (u.2.2.2.2 3) )) ∧ (¬ y3 = 9 → (((y3 = 13 → (wp_Mo_mix (fun r275 u276 => (wp_Mo_mix (fun r277 u278 => (∀ f279 : Int32, f279 = ((u.2.2.2.2 4) + 1) → (post ((u.1.1, u.1.2.1, u.1.2.2.1, u.1.2.2.2.1, u.1.2.2.2.2.1, u.1.2.2.2.2.2.1, r277, u.1.2.2.2.2.2.2.2.1, u.1.2.2.2.2.2.2.2.2.1, u.1.2.2.2.2.2.2.2.2.2.1, u.1.2.2.2.2.2.2.2.2.2.2.1, u.1.2.2.2.2.2.2.2.2.2.2.2.1, u.1.2.2.2.2.2.2.2.2.2.2.2.2.1, u.1.2.2.2.2.2.2.2.2.2.2.2.2.2.1, u.1.2.2.2.2.2.2.2.2.2.2.2.2.2.2), u.2.1, u.2.2.1, u.2.2.2.1, (upd (upd u.2.2.2.2 4 f279) 0 y6))))) () r275 (y7.toInt64) )) () u.1.2.2.2.2.2.2.1 ((y8 &&& 3).toInt64) )) ∧ (¬ y3 = 13 → (((y3 = 10 → (∀ y257 : Int32, y257 = (y5 &&& 15) → (post (u.1, u.2.1, u.2.2.1, u.2.2.2.1, (upd u.2.2.2.2 0 y257))))) ∧ (¬ y3 = 10 → (((y3 = 11 → (((y7 = 0 → (∀ y267 : Int32, y267 = (y5 &&& 15) → (post (u.1, u.2.1, u.2.2.1, u.2.2.2.1, (upd u.2.2.2.2 0 y267))))) ∧ (¬ y7 = 0 → (((y3 = 12 → (((0 ≤ y7 → (post (u.1, u.2.1, u.2.2.1, u.2.2.2.1, (upd u.2.2.2.2 0 y6)))) ∧ (¬ 0 ≤ y7 → (∀ y273 : Int32, y273 = (y5 &&& 15) → (post (u.1, u.2.1, u.2.2.1, u.2.2.2.1, (upd u.2.2.2.2 0 y273)))))))) ∧ (¬ y3 = 12 → (post (u.1, u.2.1, u.2.2.1, u.2.2.2.1, (upd u.2.2.2.2 0 y6)))))))))) ∧ (¬ y3 = 11 → (((y3 = 12 → (((0 ≤ y7 → (post (u.1, u.2.1, u.2.2.1, u.2.2.2.1, (upd u.2.2.2.2 0 y6)))) ∧ (¬ 0 ≤ y7 → (∀ y264 : Int32, y264 = (y5 &&& 15) → (post (u.1, u.2.1, u.2.2.1, u.2.2.2.1, (upd u.2.2.2.2 0 y264)))))))) ∧ (¬ y3 = 12 → (post (u.1, u.2.1, u.2.2.1, u.2.2.2.1, (upd u.2.2.2.2 0 y6))))))))))))))))))))))))) ∧ (¬ 6 < y3 → (((y3 = 4 → (∀ f296 : Int32, f296 = (y7 + y8) → (post (u.1, u.2.1, u.2.2.1, u.2.2.2.1, (upd (upd u.2.2.2.2 1 f296) 0 y6))))) ∧ (¬ y3 = 4 → (((y3 = 5 → (∀ f294 : Int32, f294 = (y7 - y8) → (post (u.1, u.2.1, u.2.2.1, u.2.2.2.1, (upd (upd u.2.2.2.2 1 f294) 0 y6))))) ∧ (¬ y3 = 5 → (∀ f292 : Int32, f292 = (y7 * y8) → (post (u.1, u.2.1, u.2.2.1, u.2.2.2.1, (upd (upd u.2.2.2.2 1 f292) 0 y6)))))))))))))))))))))))))))))))) ∧ (¬ y3 = 9 → (((y3 = 13 → ((((u.2.2.2.2 4) = 30 → (post (u.1, u.2.1, u.2.2.1, u.2.2.2.1, (upd u.2.2.2.2 0 y1)))) ∧ (¬ (u.2.2.2.2 4) = 30 → (((y3 = 1 → (post (u.1, u.2.1, u.2.2.1, u.2.2.2.1, (upd (upd u.2.2.2.2 1 y5) 0 y6)))) ∧ (¬ y3 = 1 → (((y3 = 2 → (post (u.1, u.2.1, u.2.2.1, u.2.2.2.1, (upd (upd u.2.2.2.2 2 y5) 0 y6)))) ∧ (¬ y3 = 2 → (((y3 = 3 → (post (u.1, u.2.1, u.2.2.1, u.2.2.2.1, (upd (upd (upd u.2.2.2.2 1 y8) 2 y7) 0 y6)))) ∧ (¬ y3 = 3 → (((y3 < 4 → (((y3 = 7 → (vp_in y9 13 ∧ (∀ f150 : Int32, f150 = (u.2.2.2.2 y9.toNatClampNeg) → (post (u.1, u.2.1, u.2.2.1, u.2.2.2.1, (upd (upd u.2.2.2.2 1 f150) 0 y6)))))) ∧ (¬ y3 = 7 → (((y3 = 8 → (vp_in y9 13 ∧ (post (u.1, u.2.1, u.2.2.1, u.2.2.2.1, (upd (upd u.2.2.2.2 y9.toNatClampNeg y7) 0 y6))))) ∧ (¬ y3 = 8 → (((y3 = 9 → (wp_Mo_wordAt (fun r143 u144 => (∀ f145 : Int32, f145 = (((upd u.2.2.2.2 1 r143) 3) + 1) → (post (u144.1, u.2.1, u.2.2.1, u144.2, (upd (upd (upd u.2.2.2.2 1 r143) 3 f145) 0 y6))))) (u.1, u.2.2.2.1) (u.2.2.2.2 3) )) ∧ (¬ y3 = 9 → (((y3 = 13 → (wp_Mo_mix (fun r137 u138 => (wp_Mo_mix (fun r139 u140 => (∀ f141 : Int32, f141 = ((u.2.2.2.2 4) + 1) → (post ((u.1.1, u.1.2.1, u.1.2.2.1, u.1.2.2.2.1, u.1.2.2.2.2.1, u.1.2.2.2.2.2.1, r139, u.1.2.2.2.2.2.2.2.1, u.1.2.2.2.2.2.2.2.2.1, u.1.2.2.2.2.2.2.2.2.2.1, u.1.2.2.2.2.2.2.2.2.2.2.1, u.1.2.2.2.2.2.2.2.2.2.2.2.1, u.1.2.2.2.2.2.2.2.2.2.2.2.2.1, u.1.2.2.2.2.2.2.2.2.2.2.2.2.2.1, u.1.2.2.2.2.2.2.2.2.2.2.2.2.2.2), u.2.1, u.2.2.1, u.2.2.2.1, (upd (upd u.2.2.2.2 4 f141) 0 y6))))) () r137 (y7.toInt64) )) () u.1.2.2.2.2.2.2.1 ((y8 &&& 3).toInt64) )) ∧ (¬ y3 = 13 → (((y3 = 10 → (∀ y119 : Int32, y119 = (y5 &&& 15) → (post (u.1, u.2.1, u.2.2.1, u.2.2.2.1, (upd u.2.2.2.2 0 y119))))) ∧ (¬ y3 = 10 → (((y3 = 11 → (((y7 = 0 → (∀ y129 : Int32, y129 = (y5 &&& 15) → (post (u.1, u.2.1, u.2.2.1, u.2.2.2.1, (upd u.2.2.2.2 0 y129))))) ∧ (¬ y7 = 0 → (((y3 = 12 → (((0 ≤ y7 → (post (u.1, u.2.1, u.2.2.1, u.2.2.2.1, (upd u.2.2.2.2 0 y6)))) ∧ (¬ 0 ≤ y7 → (∀ y135 : Int32, y135 = (y5 &&& 15) → (post (u.1, u.2.1, u.2.2.1, u.2.2.2.1, (upd u.2.2.2.2 0 y135)))))))) ∧ (¬ y3 = 12 → (post (u.1, u.2.1, u.2.2.1, u.2.2.2.1, (upd u.2.2.2.2 0 y6)))))))))) ∧ (¬ y3 = 11 → (((y3 = 12 → (((0 ≤ y7 → (post (u.1, u.2.1, u.2.2.1, u.2.2.2.1, (upd u.2.2.2.2 0 y6)))) ∧ (¬ 0 ≤ y7 → (∀ y126 : Int32, y126 = (y5 &&& 15) → (post (u.1, u.2.1, u.2.2.1, u.2.2.2.1, (upd u.2.2.2.2 0 y126)))))))) ∧ (¬ y3 = 12 → (post (u.1, u.2.1, u.2.2.1, u.2.2.2.1, (upd u.2.2.2.2 0 y6))))))))))))))))))))))))) ∧ (¬ y3 < 4 → (((6 < y3 → (((y3 = 7 → (vp_in y9 13 ∧ (∀ f189 : Int32, f189 = (u.2.2.2.2 y9.toNatClampNeg) → (post (u.1, u.2.1, u.2.2.1, u.2.2.2.1, (upd (upd u.2.2.2.2 1 f189) 0 y6)))))) ∧ (¬ y3 = 7 → (((y3 = 8 → (vp_in y9 13 ∧ (post (u.1, u.2.1, u.2.2.1, u.2.2.2.1, (upd (upd u.2.2.2.2 y9.toNatClampNeg y7) 0 y6))))) ∧ (¬ y3 = 8 → (((y3 = 9 → (wp_Mo_wordAt (fun r182 u183 => (∀ f184 : Int32, f184 = (((upd u.2.2.2.2 1 r182) 3) + 1) → (post (u183.1, u.2.1, u.2.2.1, u183.2, (upd (upd (upd u.2.2.2.2 1 r182) 3 f184) 0 y6))))) (u.1, u.2.2.2.1) (u.2.2.2.2 3) )) ∧ (¬ y3 = 9 → (((y3 = 13 → (wp_Mo_mix (fun r176 u177 => (wp_Mo_mix (fun r178 u179 => (∀ f180 : Int32, f180 = ((u.2.2.2.2 4) + 1) → (post ((u.1.1, u.1.2.1, u.1.2.2.1, u.1.2.2.2.1, u.1.2.2.2.2.1, u.1.2.2.2.2.2.1, r178, u.1.2.2.2.2.2.2.2.1, u.1.2.2.2.2.2.2.2.2.1, u.1.2.2.2.2.2.2.2.2.2.1, u.1.2.2.2.2.2.2.2.2.2.2.1, u.1.2.2.2.2.2.2.2.2.2.2.2.1, u.1.2.2.2.2.2.2.2.2.2.2.2.2.1, u.1.2.2.2.2.2.2.2.2.2.2.2.2.2.1, u.1.2.2.2.2.2.2.2.2.2.2.2.2.2.2), u.2.1, u.2.2.1, u.2.2.2.1, (upd (upd u.2.2.2.2 4 f180) 0 y6))))) () r176 (y7.toInt64) )) () u.1.2.2.2.2.2.2.1 ((y8 &&& 3).toInt64) )) ∧ (¬ y3 = 13 → (((y3 = 10 → (∀ y158 : Int32, y158 = (y5 &&& 15) → (post (u.1, u.2.1, u.2.2.1, u.2.2.2.1, (upd u.2.2.2.2 0 y158))))) ∧ (¬ y3 = 10 → (((y3 = 11 → (((y7 = 0 → (∀ y168 : Int32, y168 = (y5 &&& 15) → (post (u.1, u.2.1, u.2.2.1, u.2.2.2.1, (upd u.2.2.2.2 0 y168))))) ∧ (¬ y7 = 0 → (((y3 = 12 → (((0 ≤ y7 → (post (u.1, u.2.1, u.2.2.1, u.2.2.2.1, (upd u.2.2.2.2 0 y6)))) ∧ (¬ 0 ≤ y7 → (∀ y174 : Int32, y174 = (y5 &&& 15) → (post (u.1, u.2.1, u.2.2.1, u.2.2.2.1, (upd u.2.2.2.2 0 y174)))))))) ∧ (¬ y3 = 12 → (post (u.1, u.2.1, u.2.2.1, u.2.2.2.1, (upd u.2.2.2.2 0 y6)))))))))) ∧ (¬ y3 = 11 → (((y3 = 12 → (((0 ≤ y7 → (post (u.1, u.2.1, u.2.2.1, u.2.2.2.1, (upd u.2.2.2.2 0 y6)))) ∧ (¬ 0 ≤ y7 → (∀ y165 : Int32, y165 = (y5 &&& 15) → (post (u.1, u.2.1, u.2.2.1, u.2.2.2.1, (upd u.2.2.2.2 0 y165)))))))) ∧ (¬ y3 = 12 → (post (u.1, u.2.1, u.2.2.1, u.2.2.2.1, (upd u.2.2.2.2 0 y6))))))))))))))))))))))))) ∧ (¬ 6 < y3 → (((y3 = 4 → (∀ f197 : Int32, f197 = (y7 + y8) → (post (u.1, u.2.1, u.2.2.1, u.2.2.2.1, (upd (upd u.2.2.2.2 1 f197) 0 y6))))) ∧ (¬ y3 = 4 → (((y3 = 5 → (∀ f195 : Int32, f195 = (y7 - y8) → (post (u.1, u.2.1, u.2.2.1, u.2.2.2.1, (upd (upd u.2.2.2.2 1 f195) 0 y6))))) ∧ (¬ y3 = 5 → (∀ f193 : Int32, f193 = (y7 * y8) → (post (u.1, u.2.1, u.2.2.1, u.2.2.2.1, (upd (upd u.2.2.2.2 1 f193) 0 y6))))))))))))))))))))))))))))) ∧ (¬ y3 = 13 → (((y3 = 1 → (post (u.1, u.2.1, u.2.2.1, u.2.2.2.1, (upd (upd u.2.2.2.2 1 y5) 0 y6)))) ∧ (¬ y3 = 1 → (((y3 = 2 → (post (u.1, u.2.1, u.2.2.1, u.2.2.2.1, (upd (upd u.2.2.2.2 2 y5) 0 y6)))) ∧ (¬ y3 = 2 → (((y3 = 3 → (post (u.1, u.2.1, u.2.2.1, u.2.2.2.1, (upd (upd (upd u.2.2.2.2 1 y8) 2 y7) 0 y6)))) ∧ (¬ y3 = 3 → (((y3 < 4 → (((y3 = 7 → (vp_in y9 13 ∧ (∀ f56 : Int32, f56 = (u.2.2.2.2 y9.toNatClampNeg) → (post (u.1, u.2.1, u.2.2.1, u.2.2.2.1, (upd (upd u.2.2.2.2 1 f56) 0 y6)))))) ∧ (¬ y3 = 7 → (((y3 = 8 → (vp_in y9 13 ∧ (post (u.1, u.2.1, u.2.2.1, u.2.2.2.1, (upd (upd u.2.2.2.2 y9.toNatClampNeg y7) 0 y6))))) ∧ (¬ y3 = 8 → (((y3 = 9 → (wp_Mo_wordAt (fun r49 u50 => (∀ f51 : Int32, f51 = (((upd u.2.2.2.2 1 r49) 3) + 1) → (post (u50.1, u.2.1, u.2.2.1, u50.2, (upd (upd (upd u.2.2.2.2 1 r49) 3 f51) 0 y6))))) (u.1, u.2.2.2.1) (u.2.2.2.2 3) )) ∧ (¬ y3 = 9 → (((y3 = 13 → (wp_Mo_mix (fun r43 u44 => (wp_Mo_mix (fun r45 u46 => (∀ f47 : Int32, f47 = ((u.2.2.2.2 4) + 1) → (post ((u.1.1, u.1.2.1, u.1.2.2.1, u.1.2.2.2.1, u.1.2.2.2.2.1, u.1.2.2.2.2.2.1, r45, u.1.2.2.2.2.2.2.2.1, u.1.2.2.2.2.2.2.2.2.1, u.1.2.2.2.2.2.2.2.2.2.1, u.1.2.2.2.2.2.2.2.2.2.2.1, u.1.2.2.2.2.2.2.2.2.2.2.2.1, u.1.2.2.2.2.2.2.2.2.2.2.2.2.1, u.1.2.2.2.2.2.2.2.2.2.2.2.2.2.1, u.1.2.2.2.2.2.2.2.2.2.2.2.2.2.2), u.2.1, u.2.2.1, u.2.2.2.1, (upd (upd u.2.2.2.2 4 f47) 0 y6))))) () r43 (y7.toInt64) )) () u.1.2.2.2.2.2.2.1 ((y8 &&& 3).toInt64) )) ∧ (¬ y3 = 13 → (((y3 = 10 → (∀ y25 : Int32, y25 = (y5 &&& 15) → (post (u.1, u.2.1, u.2.2.1, u.2.2.2.1, (upd u.2.2.2.2 0 y25))))) ∧ (¬ y3 = 10 → (((y3 = 11 → (((y7 = 0 → (∀ y35 : Int32, y35 = (y5 &&& 15) → (post (u.1, u.2.1, u.2.2.1, u.2.2.2.1, (upd u.2.2.2.2 0 y35))))) ∧ (¬ y7 = 0 → (((y3 = 12 → (((0 ≤ y7 → (post (u.1, u.2.1, u.2.2.1, u.2.2.2.1, (upd u.2.2.2.2 0 y6)))) ∧ (¬ 0 ≤ y7 → (∀ y41 : Int32, y41 = (y5 &&& 15) → (post (u.1, u.2.1, u.2.2.1, u.2.2.2.1, (upd u.2.2.2.2 0 y41)))))))) ∧ (¬ y3 = 12 → (post (u.1, u.2.1, u.2.2.1, u.2.2.2.1, (upd u.2.2.2.2 0 y6)))))))))) ∧ (¬ y3 = 11 → (((y3 = 12 → (((0 ≤ y7 → (post (u.1, u.2.1, u.2.2.1, u.2.2.2.1, (upd u.2.2.2.2 0 y6)))) ∧ (¬ 0 ≤ y7 → (∀ y32 : Int32, y32 = (y5 &&& 15) → (post (u.1, u.2.1, u.2.2.1, u.2.2.2.1, (upd u.2.2.2.2 0 y32)))))))) ∧ (¬ y3 = 12 → (post (u.1, u.2.1, u.2.2.1, u.2.2.2.1, (upd u.2.2.2.2 0 y6))))))))))))))))))))))))) ∧ (¬ y3 < 4 → (((6 < y3 → (((y3 = 7 → (vp_in y9 13 ∧ (∀ f95 : Int32, f95 = (u.2.2.2.2 y9.toNatClampNeg) → (post (u.1, u.2.1, u.2.2.1, u.2.2.2.1, (upd (upd u.2.2.2.2 1 f95) 0 y6)))))) ∧ (¬ y3 = 7 → (((y3 = 8 → (vp_in y9 13 ∧ (post (u.1, u.2.1, u.2.2.1, u.2.2.2.1, (upd (upd u.2.2.2.2 y9.toNatClampNeg y7) 0 y6))))) ∧ (¬ y3 = 8 → (((y3 = 9 → (wp_Mo_wordAt (fun r88 u89 => (∀ f90 : Int32, f90 = (((upd u.2.2.2.2 1 r88) 3) + 1) → (post (u89.1, u.2.1, u.2.2.1, u89.2, (upd (upd (upd u.2.2.2.2 1 r88) 3 f90) 0 y6))))) (u.1, u.2.2.2.1) (u.2.2.2.2 3) )) ∧ (¬ y3 = 9 → (((y3 = 13 → (wp_Mo_mix (fun r82 u83 => (wp_Mo_mix (fun r84 u85 => (∀ f86 : Int32, f86 = ((u.2.2.2.2 4) + 1) → (post ((u.1.1, u.1.2.1, u.1.2.2.1, u.1.2.2.2.1, u.1.2.2.2.2.1, u.1.2.2.2.2.2.1, r84, u.1.2.2.2.2.2.2.2.1, u.1.2.2.2.2.2.2.2.2.1, u.1.2.2.2.2.2.2.2.2.2.1, u.1.2.2.2.2.2.2.2.2.2.2.1, u.1.2.2.2.2.2.2.2.2.2.2.2.1, u.1.2.2.2.2.2.2.2.2.2.2.2.2.1, u.1.2.2.2.2.2.2.2.2.2.2.2.2.2.1, u.1.2.2.2.2.2.2.2.2.2.2.2.2.2.2), u.2.1, u.2.2.1, u.2.2.2.1, (upd (upd u.2.2.2.2 4 f86) 0 y6))))) () r82 (y7.toInt64) )) () u.1.2.2.2.2.2.2.1 ((y8 &&& 3).toInt64) )) ∧ (¬ y3 = 13 → (((y3 = 10 → (∀ y64 : Int32, y64 = (y5 &&& 15) → (post (u.1, u.2.1, u.2.2.1, u.2.2.2.1, (upd u.2.2.2.2 0 y64))))) ∧ (¬ y3 = 10 → (((y3 = 11 → (((y7 = 0 → (∀ y74 : Int32, y74 = (y5 &&& 15) → (post (u.1, u.2.1, u.2.2.1, u.2.2.2.1, (upd u.2.2.2.2 0 y74))))) ∧ (¬ y7 = 0 → (((y3 = 12 → (((0 ≤ y7 → (post (u.1, u.2.1, u.2.2.1, u.2.2.2.1, (upd u.2.2.2.2 0 y6)))) ∧ (¬ 0 ≤ y7 → (∀ y80 : Int32, y80 = (y5 &&& 15) → (post (u.1, u.2.1, u.2.2.1, u.2.2.2.1, (upd u.2.2.2.2 0 y80)))))))) ∧ (¬ y3 = 12 → (post (u.1, u.2.1, u.2.2.1, u.2.2.2.1, (upd u.2.2.2.2 0 y6)))))))))) ∧ (¬ y3 = 11 → (((y3 = 12 → (((0 ≤ y7 → (post (u.1, u.2.1, u.2.2.1, u.2.2.2.1, (upd u.2.2.2.2 0 y6)))) ∧ (¬ 0 ≤ y7 → (∀ y71 : Int32, y71 = (y5 &&& 15) → (post (u.1, u.2.1, u.2.2.1, u.2.2.2.1, (upd u.2.2.2.2 0 y71)))))))) ∧ (¬ y3 = 12 → (post (u.1, u.2.1, u.2.2.1, u.2.2.2.1, (upd u.2.2.2.2 0 y6))))))))))))))))))))))))) ∧ (¬ 6 < y3 → (((y3 = 4 → (∀ f103 : Int32, f103 = (y7 + y8) → (post (u.1, u.2.1, u.2.2.1, u.2.2.2.1, (upd (upd u.2.2.2.2 1 f103) 0 y6))))) ∧ (¬ y3 = 4 → (((y3 = 5 → (∀ f101 : Int32, f101 = (y7 - y8) → (post (u.1, u.2.1, u.2.2.1, u.2.2.2.1, (upd (upd u.2.2.2.2 1 f101) 0 y6))))) ∧ (¬ y3 = 5 → (∀ f99 : Int32, f99 = (y7 * y8) → (post (u.1, u.2.1, u.2.2.1, u.2.2.2.1, (upd (upd u.2.2.2.2 1 f99) 0 y6))))))))))))))))))))))))))))))))))))))))))
set_option maxHeartbeats 4000000 in
set_option maxRecDepth 100000 in
theorem mt_Mo_step (l : Launch) (dC : Nat → ClassId) (dI : Nat → Nat → Nat) (h0 h0_op h0_argument h0_inbox h0_hand h0_balance h0_real h0_payee h0_paid h0_drawn h0_challenger h0_low h0_high h0_agreed h0_disputed h0_posted h0_middle h0_deadline h0_running h0_node h0_side : Nat) (c0_op c0_argument c0_inbox c0_hand : ClassId) (sz : Nat) (post : (ct_Mo × (Nat → Int32) × (Nat → Int32) × (Nat → Int32) × (Nat → Int32)) → Prop) (u : ct_Mo × (Nat → Int32) × (Nat → Int32) × (Nat → Int32) × (Nat → Int32)) (k1 : Int32) (hw : wp_Mo_step post u k1) : Met l yMo_step wsMo_step ({ frames := 1, cells := 0, slots := 0, locals := 25 }) (kp_P dC dI [.ref h0, .int k1] sz (ww_Mo_step h0 h0_op h0_argument h0_inbox h0_hand h0_balance h0_real h0_payee h0_paid h0_drawn h0_challenger h0_low h0_high h0_agreed h0_disputed h0_posted h0_middle h0_deadline h0_running h0_node h0_side c0_op c0_argument c0_inbox c0_hand u) [(c0_op, .int), (c0_argument, .int), (c0_inbox, .int), (c0_hand, .int)]) (va_Qv post (fun u9 => kp_B dC dI (va_A (ww_Mo_step h0 h0_op h0_argument h0_inbox h0_hand h0_balance h0_real h0_payee h0_paid h0_drawn h0_challenger h0_low h0_high h0_agreed h0_disputed h0_posted h0_middle h0_deadline h0_running h0_node h0_side c0_op c0_argument c0_inbox c0_hand u) sz) (ww_Mo_step h0 h0_op h0_argument h0_inbox h0_hand h0_balance h0_real h0_payee h0_paid h0_drawn h0_challenger h0_low h0_high h0_agreed h0_disputed h0_posted h0_middle h0_deadline h0_running h0_node h0_side c0_op c0_argument c0_inbox c0_hand u9) [(c0_op, .int), (c0_argument, .int), (c0_inbox, .int), (c0_hand, .int)]) (va_A (ww_Mo_step h0 h0_op h0_argument h0_inbox h0_hand h0_balance h0_real h0_payee h0_paid h0_drawn h0_challenger h0_low h0_high h0_agreed h0_disputed h0_posted h0_middle h0_deadline h0_running h0_node h0_side c0_op c0_argument c0_inbox c0_hand u) sz)) 0 0 (va_A (ww_Mo_step h0 h0_op h0_argument h0_inbox h0_hand h0_balance h0_real h0_payee h0_paid h0_drawn h0_challenger h0_low h0_high h0_agreed h0_disputed h0_posted h0_middle h0_deadline h0_running h0_node h0_side c0_op c0_argument c0_inbox c0_hand u) sz) := by
  refine Met.ofW (cc := cMo_step) (maxL := 10) (ret := none) (by decide) rfl ?_
  intro p e s m args below meth c s₁ B hml hv
  obtain ⟨rfl, hsz, hP, hK, hD0, hZ⟩ := hv
  have hx := B.exec
  have hb := B.bytes
  have hr := B.returns
  have hq : ∀ w ∈ wz, w.before _ s = true := fun w h => atoms_spec (ws := wsMo_step) B.pre w (List.mem_cons_of_mem _ h)
  have hown : s.vm.findClass "StepCourtModel" = some m.cls := findClass_of_methodNamed B.named
  have hlocks := B.notSynchronized
  subst hsz
  have hD := hD0.self (sz := s.heap.size)
  generalize hAe : va_A (ww_Mo_step h0 h0_op h0_argument h0_inbox h0_hand h0_balance h0_real h0_payee h0_paid h0_drawn h0_challenger h0_low h0_high h0_agreed h0_disputed h0_posted h0_middle h0_deadline h0_running h0_node h0_side c0_op c0_argument c0_inbox c0_hand u) s.heap.size = A at hD ⊢
  have hA : ∀ q : Nat, s.heap.size ≤ q → A q := fun q h => by rw [← hAe]; exact Or.inr h
  have hS : va_S A s.heap s.heap [] := va_S.rf
  have hP : va_P (dC, dI) vwCl [(h0, ce_Mo h0_op h0_argument h0_balance h0_inbox h0_real h0_hand h0_payee h0_paid h0_drawn h0_challenger h0_low h0_high h0_agreed h0_disputed h0_posted h0_middle h0_deadline h0_running h0_node h0_side u.1), (h0_op, .inl (c0_op, 16, .inl u.2.1)), (h0_argument, .inl (c0_argument, 16, .inl u.2.2.1)), (h0_inbox, .inl (c0_inbox, 60, .inl u.2.2.2.1)), (h0_hand, .inl (c0_hand, 13, .inl u.2.2.2.2))] s.heap := hP
  have hD : va_D A [(h0, ce_Mo h0_op h0_argument h0_balance h0_inbox h0_real h0_hand h0_payee h0_paid h0_drawn h0_challenger h0_low h0_high h0_agreed h0_disputed h0_posted h0_middle h0_deadline h0_running h0_node h0_side u.1), (h0_op, .inl (c0_op, 16, .inl u.2.1)), (h0_argument, .inl (c0_argument, 16, .inl u.2.2.1)), (h0_inbox, .inl (c0_inbox, 60, .inl u.2.2.2.1)), (h0_hand, .inl (c0_hand, 13, .inl u.2.2.2.2))] := hD
  have hl := lv_entry ([.ref h0, .int k1]) (n := 10) (Nat.le_of_ble_eq_true rfl)
  rw [lg_entry_eq]
  generalize (lg_sl ([.ref h0, .int k1]) ++ List.replicate (10 - (lg_sl ([.ref h0, .int k1])).length) Slot.unset).toArray = ls at hl ⊢
  have hl : lv_has ls 10 [(0, .ref h0), (1, .int k1)] := hl
  skip
  refine lv_aload_n hx hb dMo_step_0 rfl (lv_at hl 0 rfl) ?_
  refine va_get (D := (dC, dI)) (ci := 8) (v := .ref h0_hand) (C := "StepCourtModel") (T := TMo) (N := 35) hx hb hq inMo hown hK hP 0 rfl rfl 11 (by decide) (hq _ wt_745) (fun _ h9 => h9) rfl dMo_step_1 ?_
  refine lv_iconst (v := 0) hx hb dMo_step_4 (by decide) ?_
  refine va_iald hx hb hK hP 4 3 rfl rfl (show ¬ ((0 : Int32) < 0 ∨ 13 ≤ (0 : Int32).toNatClampNeg) by decide) dMo_step_5 ?_
  refine W.eq (g2 := F0 m 6 ls [.int (u.2.2.2.2 0)]) rfl ?_
  refine lv_topi (fun y1 ey1 => ?_)
  have hw := hw y1 ey1
  refine lv_istore_n (lv' := [(2, .int y1), (0, .ref h0), (1, .int k1)]) hx hb dMo_step_6 rfl hl (by decide) rfl (fun ls hl => ?_)
  refine lv_aload_n hx hb dMo_step_7 rfl (lv_at hl 1 rfl) ?_
  refine va_get (D := (dC, dI)) (ci := 8) (v := .ref h0_op) (C := "StepCourtModel") (T := TMo) (N := 35) hx hb hq inMo hown hK hP 0 rfl rfl 1 (by decide) (hq _ wt_735) (fun _ h9 => h9) rfl dMo_step_8 ?_
  refine lv_iload_n hx hb dMo_step_11 rfl (lv_at hl 0 rfl) ?_
  obtain ⟨hh2, hw⟩ := hw
  refine va_iald hx hb hK hP 1 0 rfl rfl hh2 dMo_step_12 ?_
  refine lv_topi (fun y3 ey3 => ?_)
  have hw := hw y3 ey3
  refine lv_istore_n (lv' := [(3, .int y3), (2, .int y1), (0, .ref h0), (1, .int k1)]) hx hb dMo_step_13 rfl hl (by decide) rfl (fun ls hl => ?_)
  refine lv_aload_n hx hb dMo_step_14 rfl (lv_at hl 2 rfl) ?_
  refine va_get (D := (dC, dI)) (ci := 8) (v := .ref h0_argument) (C := "StepCourtModel") (T := TMo) (N := 35) hx hb hq inMo hown hK hP 0 rfl rfl 2 (by decide) (hq _ wt_736) (fun _ h9 => h9) rfl dMo_step_15 ?_
  refine lv_iload_n hx hb dMo_step_18 rfl (lv_at hl 1 rfl) ?_
  obtain ⟨hh4, hw⟩ := hw
  refine va_iald hx hb hK hP 2 1 rfl rfl hh4 dMo_step_19 ?_
  refine lv_topi (fun y5 ey5 => ?_)
  have hw := hw y5 ey5
  refine lv_istore (lv' := [(4, .int y5), (3, .int y3), (2, .int y1), (0, .ref h0), (1, .int k1)]) hx hb dMo_step_20 hl (by decide) rfl (fun ls hl => ?_)
  refine lv_iload_n hx hb dMo_step_22 rfl (lv_at hl 2 rfl) ?_
  refine lv_iconst (v := 1) hx hb dMo_step_23 (by decide) ?_
  refine lv_iadd hx hb dMo_step_24 ?_
  refine lv_bipush (v := 16) hx hb dMo_step_25 (by decide) ?_
  refine lv_irem hx hb dMo_step_27 (by decide) ?_
  refine lv_topi (fun y6 ey6 => ?_)
  have hw := hw y6 ey6
  refine lv_istore (lv' := [(5, .int y6), (4, .int y5), (3, .int y3), (2, .int y1), (0, .ref h0), (1, .int k1)]) hx hb dMo_step_28 hl (by decide) rfl (fun ls hl => ?_)
  refine lv_aload_n hx hb dMo_step_30 rfl (lv_at hl 4 rfl) ?_
  refine va_get (D := (dC, dI)) (ci := 8) (v := .ref h0_hand) (C := "StepCourtModel") (T := TMo) (N := 35) hx hb hq inMo hown hK hP 0 rfl rfl 11 (by decide) (hq _ wt_745) (fun _ h9 => h9) rfl dMo_step_31 ?_
  refine lv_iconst (v := 1) hx hb dMo_step_34 (by decide) ?_
  refine va_iald hx hb hK hP 4 3 rfl rfl (show ¬ ((1 : Int32) < 0 ∨ 13 ≤ (1 : Int32).toNatClampNeg) by decide) dMo_step_35 ?_
  refine W.eq (g2 := F0 m 36 ls [.int (u.2.2.2.2 1)]) rfl ?_
  refine lv_topi (fun y7 ey7 => ?_)
  have hw := hw y7 ey7
  refine lv_istore (lv' := [(6, .int y7), (5, .int y6), (4, .int y5), (3, .int y3), (2, .int y1), (0, .ref h0), (1, .int k1)]) hx hb dMo_step_36 hl (by decide) rfl (fun ls hl => ?_)
  refine lv_aload_n hx hb dMo_step_38 rfl (lv_at hl 5 rfl) ?_
  refine va_get (D := (dC, dI)) (ci := 8) (v := .ref h0_hand) (C := "StepCourtModel") (T := TMo) (N := 35) hx hb hq inMo hown hK hP 0 rfl rfl 11 (by decide) (hq _ wt_745) (fun _ h9 => h9) rfl dMo_step_39 ?_
  refine lv_iconst (v := 2) hx hb dMo_step_42 (by decide) ?_
  refine va_iald hx hb hK hP 4 3 rfl rfl (show ¬ ((2 : Int32) < 0 ∨ 13 ≤ (2 : Int32).toNatClampNeg) by decide) dMo_step_43 ?_
  refine W.eq (g2 := F0 m 44 ls [.int (u.2.2.2.2 2)]) rfl ?_
  refine lv_topi (fun y8 ey8 => ?_)
  have hw := hw y8 ey8
  refine lv_istore (lv' := [(7, .int y8), (6, .int y7), (5, .int y6), (4, .int y5), (3, .int y3), (2, .int y1), (0, .ref h0), (1, .int k1)]) hx hb dMo_step_44 hl (by decide) rfl (fun ls hl => ?_)
  refine lv_iconst (v := 5) hx hb dMo_step_46 (by decide) ?_
  refine lv_iload hx hb dMo_step_47 (lv_at hl 0 rfl) ?_
  refine lv_bipush (v := 7) hx hb dMo_step_49 (by decide) ?_
  refine lv_iand hx hb dMo_step_51 ?_
  refine lv_iadd hx hb dMo_step_52 ?_
  refine lv_topi (fun y9 ey9 => ?_)
  have hw := hw y9 ey9
  refine lv_istore (lv' := [(8, .int y9), (7, .int y8), (6, .int y7), (5, .int y6), (4, .int y5), (3, .int y3), (2, .int y1), (0, .ref h0), (1, .int k1)]) hx hb dMo_step_53 hl (by decide) rfl (fun ls hl => ?_)
  refine lv_iload_n hx hb dMo_step_55 rfl (lv_at hl 5 rfl) ?_
  refine lv_if_eq (tgt := 92) hx hb dMo_step_56 (by decide) (fun cc10 => ?_) (fun cc10 => ?_)
  · have hw := hw.1 cc10
    refine lv_iconst (v := 1) hx hb dMo_step_92 (by decide) ?_
    refine lv_goto (tgt := 97) hx hb dMo_step_93 (by decide) ?_
    refine lv_istore (lv' := [(9, .int 1), (8, .int y9), (7, .int y8), (6, .int y7), (5, .int y6), (4, .int y5), (3, .int y3), (2, .int y1), (0, .ref h0), (1, .int k1)]) hx hb dMo_step_97 hl (by decide) rfl (fun ls hl => ?_)
    refine lv_iload hx hb dMo_step_99 (lv_at hl 0 rfl) ?_
    refine lv_if_ne (tgt := 362) hx hb dMo_step_101 (by decide) (fun cc11 => ?_) (fun cc11 => ?_)
    · have hw := hw
      refine lv_aload_n hx hb dMo_step_362 rfl (lv_at hl 8 rfl) ?_
      refine va_get (D := (dC, dI)) (ci := 8) (v := .ref h0_hand) (C := "StepCourtModel") (T := TMo) (N := 35) hx hb hq inMo hown hK hP 0 rfl rfl 11 (by decide) (hq _ wt_745) (fun _ h9 => h9) rfl dMo_step_363 ?_
      refine lv_iconst (v := 0) hx hb dMo_step_366 (by decide) ?_
      refine lv_iload hx hb dMo_step_367 (lv_at hl 0 rfl) ?_
      refine lv_if_eq (tgt := 376) hx hb dMo_step_369 (by decide) (fun cc12 => ?_) (fun cc12 => ?_)
      · first | exact absurd cc12 (by decide) | exact (cc12 (by decide)).elim
      · have hw := hw
        refine lv_iload_n hx hb dMo_step_372 rfl (lv_at hl 7 rfl) ?_
        refine lv_goto (tgt := 378) hx hb dMo_step_373 (by decide) ?_
        refine va_iast hx hb hK hP hD hS 4 3 rfl rfl (show ¬ ((0 : Int32) < 0 ∨ 13 ≤ (0 : Int32).toNatClampNeg) by decide) dMo_step_378 (fun H locs hP hD hS => ?_)
        have hP : va_P (dC, dI) vwCl [(h0, ce_Mo h0_op h0_argument h0_balance h0_inbox h0_real h0_hand h0_payee h0_paid h0_drawn h0_challenger h0_low h0_high h0_agreed h0_disputed h0_posted h0_middle h0_deadline h0_running h0_node h0_side u.1), (h0_op, .inl (c0_op, 16, .inl u.2.1)), (h0_argument, .inl (c0_argument, 16, .inl u.2.2.1)), (h0_inbox, .inl (c0_inbox, 60, .inl u.2.2.2.1)), (h0_hand, .inl (c0_hand, 13, .inl (upd u.2.2.2.2 0 y1)))] H := hP
        have hD : va_D A [(h0, ce_Mo h0_op h0_argument h0_balance h0_inbox h0_real h0_hand h0_payee h0_paid h0_drawn h0_challenger h0_low h0_high h0_agreed h0_disputed h0_posted h0_middle h0_deadline h0_running h0_node h0_side u.1), (h0_op, .inl (c0_op, 16, .inl u.2.1)), (h0_argument, .inl (c0_argument, 16, .inl u.2.2.1)), (h0_inbox, .inl (c0_inbox, 60, .inl u.2.2.2.1)), (h0_hand, .inl (c0_hand, 13, .inl (upd u.2.2.2.2 0 y1)))] := hD
        have hP9 := hP.sub (ws' := [(h0, ce_Mo h0_op h0_argument h0_balance h0_inbox h0_real h0_hand h0_payee h0_paid h0_drawn h0_challenger h0_low h0_high h0_agreed h0_disputed h0_posted h0_middle h0_deadline h0_running h0_node h0_side u.1), (h0_op, .inl (c0_op, 16, .inl u.2.1)), (h0_argument, .inl (c0_argument, 16, .inl u.2.2.1)), (h0_inbox, .inl (c0_inbox, 60, .inl u.2.2.2.1)), (h0_hand, .inl (c0_hand, 13, .inl (upd u.2.2.2.2 0 y1)))]) [0, 1, 2, 3, 4] rfl
        have hD9 := hD.sub (ws' := [(h0, ce_Mo h0_op h0_argument h0_balance h0_inbox h0_real h0_hand h0_payee h0_paid h0_drawn h0_challenger h0_low h0_high h0_agreed h0_disputed h0_posted h0_middle h0_deadline h0_running h0_node h0_side u.1), (h0_op, .inl (c0_op, 16, .inl u.2.1)), (h0_argument, .inl (c0_argument, 16, .inl u.2.2.1)), (h0_inbox, .inl (c0_inbox, 60, .inl u.2.2.2.1)), (h0_hand, .inl (c0_hand, 13, .inl (upd u.2.2.2.2 0 y1)))]) [0, 1, 2, 3, 4] (by decide) rfl
        have hK9 := hK.sub (tys' := [(c0_op, .int), (c0_argument, .int), (c0_inbox, .int), (c0_hand, .int)]) [0, 1, 2, 3] rfl
        exact W.vret hx hb hr (fun t ht hW => ⟨⟨(u.1, u.2.1, u.2.2.1, u.2.2.2.1, (upd u.2.2.2.2 0 y1)), rfl, hw, by rw [ht]; exact hP9, va_K.moved hW.alike hK9, hD9⟩, hS.F ht⟩) hS.2.2 dMo_step_379
    · first | exact absurd cc11 (by decide) | exact (cc11 (by decide)).elim
  · have hw := hw.2 cc10
    refine lv_iload_n hx hb dMo_step_59 rfl (lv_at hl 5 rfl) ?_
    refine lv_bipush (v := 9) hx hb dMo_step_60 (by decide) ?_
    refine lv_icmp_ne (tgt := 75) hx hb dMo_step_62 (by decide) (fun cc13 => ?_) (fun cc13 => ?_)
    · have hw := hw.2 cc13
      refine lv_iload_n hx hb dMo_step_75 rfl (lv_at hl 5 rfl) ?_
      refine lv_bipush (v := 13) hx hb dMo_step_76 (by decide) ?_
      refine lv_icmp_ne (tgt := 96) hx hb dMo_step_78 (by decide) (fun cc14 => ?_) (fun cc14 => ?_)
      · have hw := hw.2 cc14
        refine lv_iconst (v := 0) hx hb dMo_step_96 (by decide) ?_
        refine lv_istore (lv' := [(9, .int 0), (8, .int y9), (7, .int y8), (6, .int y7), (5, .int y6), (4, .int y5), (3, .int y3), (2, .int y1), (0, .ref h0), (1, .int k1)]) hx hb dMo_step_97 hl (by decide) rfl (fun ls hl => ?_)
        refine lv_iload hx hb dMo_step_99 (lv_at hl 0 rfl) ?_
        refine lv_if_ne (tgt := 362) hx hb dMo_step_101 (by decide) (fun cc15 => ?_) (fun cc15 => ?_)
        · first | exact absurd cc15 (by decide) | exact (cc15 (by decide)).elim
        · have hw := hw
          refine lv_iload_n hx hb dMo_step_104 rfl (lv_at hl 6 rfl) ?_
          refine lv_iconst (v := 1) hx hb dMo_step_105 (by decide) ?_
          refine lv_icmp_ne (tgt := 120) hx hb dMo_step_106 (by decide) (fun cc16 => ?_) (fun cc16 => ?_)
          · have hw := hw.2 cc16
            refine lv_iload_n hx hb dMo_step_120 rfl (lv_at hl 6 rfl) ?_
            refine lv_iconst (v := 2) hx hb dMo_step_121 (by decide) ?_
            refine lv_icmp_ne (tgt := 136) hx hb dMo_step_122 (by decide) (fun cc17 => ?_) (fun cc17 => ?_)
            · have hw := hw.2 cc17
              refine lv_iload_n hx hb dMo_step_136 rfl (lv_at hl 6 rfl) ?_
              refine lv_iconst (v := 3) hx hb dMo_step_137 (by decide) ?_
              refine lv_icmp_ne (tgt := 160) hx hb dMo_step_138 (by decide) (fun cc18 => ?_) (fun cc18 => ?_)
              · have hw := hw.2 cc18
                refine lv_iload_n hx hb dMo_step_160 rfl (lv_at hl 6 rfl) ?_
                refine lv_iconst (v := 4) hx hb dMo_step_161 (by decide) ?_
                refine lv_icmp_lt (tgt := 211) hx hb dMo_step_162 (by decide) (fun cc19 => ?_) (fun cc19 => ?_)
                · have hw := hw.1 cc19
                  refine lv_iload_n hx hb dMo_step_211 rfl (lv_at hl 6 rfl) ?_
                  refine lv_bipush (v := 7) hx hb dMo_step_212 (by decide) ?_
                  refine lv_icmp_ne (tgt := 233) hx hb dMo_step_214 (by decide) (fun cc20 => ?_) (fun cc20 => ?_)
                  · have hw := hw.2 cc20
                    refine lv_iload_n hx hb dMo_step_233 rfl (lv_at hl 6 rfl) ?_
                    refine lv_bipush (v := 8) hx hb dMo_step_234 (by decide) ?_
                    refine lv_icmp_ne (tgt := 251) hx hb dMo_step_236 (by decide) (fun cc21 => ?_) (fun cc21 => ?_)
                    · have hw := hw.2 cc21
                      refine lv_iload_n hx hb dMo_step_251 rfl (lv_at hl 6 rfl) ?_
                      refine lv_bipush (v := 9) hx hb dMo_step_252 (by decide) ?_
                      refine lv_icmp_ne (tgt := 286) hx hb dMo_step_254 (by decide) (fun cc22 => ?_) (fun cc22 => ?_)
                      · have hw := hw.2 cc22
                        refine lv_iload_n hx hb dMo_step_286 rfl (lv_at hl 6 rfl) ?_
                        refine lv_bipush (v := 13) hx hb dMo_step_287 (by decide) ?_
                        refine lv_icmp_ne (tgt := 327) hx hb dMo_step_289 (by decide) (fun cc23 => ?_) (fun cc23 => ?_)
                        · have hw := hw.2 cc23
                          refine lv_iload_n hx hb dMo_step_327 rfl (lv_at hl 6 rfl) ?_
                          refine lv_bipush (v := 10) hx hb dMo_step_328 (by decide) ?_
                          refine lv_icmp_eq (tgt := 355) hx hb dMo_step_330 (by decide) (fun cc24 => ?_) (fun cc24 => ?_)
                          · have hw := hw.1 cc24
                            refine lv_iload hx hb dMo_step_355 (lv_at hl 5 rfl) ?_
                            refine lv_bipush (v := 15) hx hb dMo_step_357 (by decide) ?_
                            refine lv_iand hx hb dMo_step_359 ?_
                            refine lv_topi (fun y25 ey25 => ?_)
                            have hw := hw y25 ey25
                            refine lv_istore (lv' := [(5, .int y25), (9, .int 0), (8, .int y9), (7, .int y8), (6, .int y7), (4, .int y5), (3, .int y3), (2, .int y1), (0, .ref h0), (1, .int k1)]) hx hb dMo_step_360 hl (by decide) rfl (fun ls hl => ?_)
                            refine lv_aload_n hx hb dMo_step_362 rfl (lv_at hl 8 rfl) ?_
                            refine va_get (D := (dC, dI)) (ci := 8) (v := .ref h0_hand) (C := "StepCourtModel") (T := TMo) (N := 35) hx hb hq inMo hown hK hP 0 rfl rfl 11 (by decide) (hq _ wt_745) (fun _ h9 => h9) rfl dMo_step_363 ?_
                            refine lv_iconst (v := 0) hx hb dMo_step_366 (by decide) ?_
                            refine lv_iload hx hb dMo_step_367 (lv_at hl 1 rfl) ?_
                            refine lv_if_eq (tgt := 376) hx hb dMo_step_369 (by decide) (fun cc26 => ?_) (fun cc26 => ?_)
                            · have hw := hw
                              refine lv_iload hx hb dMo_step_376 (lv_at hl 0 rfl) ?_
                              refine va_iast hx hb hK hP hD hS 4 3 rfl rfl (show ¬ ((0 : Int32) < 0 ∨ 13 ≤ (0 : Int32).toNatClampNeg) by decide) dMo_step_378 (fun H locs hP hD hS => ?_)
                              have hP : va_P (dC, dI) vwCl [(h0, ce_Mo h0_op h0_argument h0_balance h0_inbox h0_real h0_hand h0_payee h0_paid h0_drawn h0_challenger h0_low h0_high h0_agreed h0_disputed h0_posted h0_middle h0_deadline h0_running h0_node h0_side u.1), (h0_op, .inl (c0_op, 16, .inl u.2.1)), (h0_argument, .inl (c0_argument, 16, .inl u.2.2.1)), (h0_inbox, .inl (c0_inbox, 60, .inl u.2.2.2.1)), (h0_hand, .inl (c0_hand, 13, .inl (upd u.2.2.2.2 0 y25)))] H := hP
                              have hD : va_D A [(h0, ce_Mo h0_op h0_argument h0_balance h0_inbox h0_real h0_hand h0_payee h0_paid h0_drawn h0_challenger h0_low h0_high h0_agreed h0_disputed h0_posted h0_middle h0_deadline h0_running h0_node h0_side u.1), (h0_op, .inl (c0_op, 16, .inl u.2.1)), (h0_argument, .inl (c0_argument, 16, .inl u.2.2.1)), (h0_inbox, .inl (c0_inbox, 60, .inl u.2.2.2.1)), (h0_hand, .inl (c0_hand, 13, .inl (upd u.2.2.2.2 0 y25)))] := hD
                              have hP9 := hP.sub (ws' := [(h0, ce_Mo h0_op h0_argument h0_balance h0_inbox h0_real h0_hand h0_payee h0_paid h0_drawn h0_challenger h0_low h0_high h0_agreed h0_disputed h0_posted h0_middle h0_deadline h0_running h0_node h0_side u.1), (h0_op, .inl (c0_op, 16, .inl u.2.1)), (h0_argument, .inl (c0_argument, 16, .inl u.2.2.1)), (h0_inbox, .inl (c0_inbox, 60, .inl u.2.2.2.1)), (h0_hand, .inl (c0_hand, 13, .inl (upd u.2.2.2.2 0 y25)))]) [0, 1, 2, 3, 4] rfl
                              have hD9 := hD.sub (ws' := [(h0, ce_Mo h0_op h0_argument h0_balance h0_inbox h0_real h0_hand h0_payee h0_paid h0_drawn h0_challenger h0_low h0_high h0_agreed h0_disputed h0_posted h0_middle h0_deadline h0_running h0_node h0_side u.1), (h0_op, .inl (c0_op, 16, .inl u.2.1)), (h0_argument, .inl (c0_argument, 16, .inl u.2.2.1)), (h0_inbox, .inl (c0_inbox, 60, .inl u.2.2.2.1)), (h0_hand, .inl (c0_hand, 13, .inl (upd u.2.2.2.2 0 y25)))]) [0, 1, 2, 3, 4] (by decide) rfl
                              have hK9 := hK.sub (tys' := [(c0_op, .int), (c0_argument, .int), (c0_inbox, .int), (c0_hand, .int)]) [0, 1, 2, 3] rfl
                              exact W.vret hx hb hr (fun t ht hW => ⟨⟨(u.1, u.2.1, u.2.2.1, u.2.2.2.1, (upd u.2.2.2.2 0 y25)), rfl, hw, by rw [ht]; exact hP9, va_K.moved hW.alike hK9, hD9⟩, hS.F ht⟩) hS.2.2 dMo_step_379
                            · first | exact absurd cc26 (by decide) | exact (cc26 (by decide)).elim
                          · have hw := hw.2 cc24
                            refine lv_iload_n hx hb dMo_step_333 rfl (lv_at hl 6 rfl) ?_
                            refine lv_bipush (v := 11) hx hb dMo_step_334 (by decide) ?_
                            refine lv_icmp_ne (tgt := 344) hx hb dMo_step_336 (by decide) (fun cc27 => ?_) (fun cc27 => ?_)
                            · have hw := hw.2 cc27
                              refine lv_iload_n hx hb dMo_step_344 rfl (lv_at hl 6 rfl) ?_
                              refine lv_bipush (v := 12) hx hb dMo_step_345 (by decide) ?_
                              refine lv_icmp_ne (tgt := 362) hx hb dMo_step_347 (by decide) (fun cc28 => ?_) (fun cc28 => ?_)
                              · have hw := hw.2 cc28
                                refine lv_aload_n hx hb dMo_step_362 rfl (lv_at hl 8 rfl) ?_
                                refine va_get (D := (dC, dI)) (ci := 8) (v := .ref h0_hand) (C := "StepCourtModel") (T := TMo) (N := 35) hx hb hq inMo hown hK hP 0 rfl rfl 11 (by decide) (hq _ wt_745) (fun _ h9 => h9) rfl dMo_step_363 ?_
                                refine lv_iconst (v := 0) hx hb dMo_step_366 (by decide) ?_
                                refine lv_iload hx hb dMo_step_367 (lv_at hl 0 rfl) ?_
                                refine lv_if_eq (tgt := 376) hx hb dMo_step_369 (by decide) (fun cc29 => ?_) (fun cc29 => ?_)
                                · have hw := hw
                                  refine lv_iload hx hb dMo_step_376 (lv_at hl 4 rfl) ?_
                                  refine va_iast hx hb hK hP hD hS 4 3 rfl rfl (show ¬ ((0 : Int32) < 0 ∨ 13 ≤ (0 : Int32).toNatClampNeg) by decide) dMo_step_378 (fun H locs hP hD hS => ?_)
                                  have hP : va_P (dC, dI) vwCl [(h0, ce_Mo h0_op h0_argument h0_balance h0_inbox h0_real h0_hand h0_payee h0_paid h0_drawn h0_challenger h0_low h0_high h0_agreed h0_disputed h0_posted h0_middle h0_deadline h0_running h0_node h0_side u.1), (h0_op, .inl (c0_op, 16, .inl u.2.1)), (h0_argument, .inl (c0_argument, 16, .inl u.2.2.1)), (h0_inbox, .inl (c0_inbox, 60, .inl u.2.2.2.1)), (h0_hand, .inl (c0_hand, 13, .inl (upd u.2.2.2.2 0 y6)))] H := hP
                                  have hD : va_D A [(h0, ce_Mo h0_op h0_argument h0_balance h0_inbox h0_real h0_hand h0_payee h0_paid h0_drawn h0_challenger h0_low h0_high h0_agreed h0_disputed h0_posted h0_middle h0_deadline h0_running h0_node h0_side u.1), (h0_op, .inl (c0_op, 16, .inl u.2.1)), (h0_argument, .inl (c0_argument, 16, .inl u.2.2.1)), (h0_inbox, .inl (c0_inbox, 60, .inl u.2.2.2.1)), (h0_hand, .inl (c0_hand, 13, .inl (upd u.2.2.2.2 0 y6)))] := hD
                                  have hP9 := hP.sub (ws' := [(h0, ce_Mo h0_op h0_argument h0_balance h0_inbox h0_real h0_hand h0_payee h0_paid h0_drawn h0_challenger h0_low h0_high h0_agreed h0_disputed h0_posted h0_middle h0_deadline h0_running h0_node h0_side u.1), (h0_op, .inl (c0_op, 16, .inl u.2.1)), (h0_argument, .inl (c0_argument, 16, .inl u.2.2.1)), (h0_inbox, .inl (c0_inbox, 60, .inl u.2.2.2.1)), (h0_hand, .inl (c0_hand, 13, .inl (upd u.2.2.2.2 0 y6)))]) [0, 1, 2, 3, 4] rfl
                                  have hD9 := hD.sub (ws' := [(h0, ce_Mo h0_op h0_argument h0_balance h0_inbox h0_real h0_hand h0_payee h0_paid h0_drawn h0_challenger h0_low h0_high h0_agreed h0_disputed h0_posted h0_middle h0_deadline h0_running h0_node h0_side u.1), (h0_op, .inl (c0_op, 16, .inl u.2.1)), (h0_argument, .inl (c0_argument, 16, .inl u.2.2.1)), (h0_inbox, .inl (c0_inbox, 60, .inl u.2.2.2.1)), (h0_hand, .inl (c0_hand, 13, .inl (upd u.2.2.2.2 0 y6)))]) [0, 1, 2, 3, 4] (by decide) rfl
                                  have hK9 := hK.sub (tys' := [(c0_op, .int), (c0_argument, .int), (c0_inbox, .int), (c0_hand, .int)]) [0, 1, 2, 3] rfl
                                  exact W.vret hx hb hr (fun t ht hW => ⟨⟨(u.1, u.2.1, u.2.2.1, u.2.2.2.1, (upd u.2.2.2.2 0 y6)), rfl, hw, by rw [ht]; exact hP9, va_K.moved hW.alike hK9, hD9⟩, hS.F ht⟩) hS.2.2 dMo_step_379
                                · first | exact absurd cc29 (by decide) | exact (cc29 (by decide)).elim
                              · have hw := hw.1 cc28
                                refine lv_iload hx hb dMo_step_350 (lv_at hl 3 rfl) ?_
                                refine lv_if_ge (tgt := 362) hx hb dMo_step_352 (by decide) (fun cc30 => ?_) (fun cc30 => ?_)
                                · have hw := hw.1 cc30
                                  refine lv_aload_n hx hb dMo_step_362 rfl (lv_at hl 8 rfl) ?_
                                  refine va_get (D := (dC, dI)) (ci := 8) (v := .ref h0_hand) (C := "StepCourtModel") (T := TMo) (N := 35) hx hb hq inMo hown hK hP 0 rfl rfl 11 (by decide) (hq _ wt_745) (fun _ h9 => h9) rfl dMo_step_363 ?_
                                  refine lv_iconst (v := 0) hx hb dMo_step_366 (by decide) ?_
                                  refine lv_iload hx hb dMo_step_367 (lv_at hl 0 rfl) ?_
                                  refine lv_if_eq (tgt := 376) hx hb dMo_step_369 (by decide) (fun cc31 => ?_) (fun cc31 => ?_)
                                  · have hw := hw
                                    refine lv_iload hx hb dMo_step_376 (lv_at hl 4 rfl) ?_
                                    refine va_iast hx hb hK hP hD hS 4 3 rfl rfl (show ¬ ((0 : Int32) < 0 ∨ 13 ≤ (0 : Int32).toNatClampNeg) by decide) dMo_step_378 (fun H locs hP hD hS => ?_)
                                    have hP : va_P (dC, dI) vwCl [(h0, ce_Mo h0_op h0_argument h0_balance h0_inbox h0_real h0_hand h0_payee h0_paid h0_drawn h0_challenger h0_low h0_high h0_agreed h0_disputed h0_posted h0_middle h0_deadline h0_running h0_node h0_side u.1), (h0_op, .inl (c0_op, 16, .inl u.2.1)), (h0_argument, .inl (c0_argument, 16, .inl u.2.2.1)), (h0_inbox, .inl (c0_inbox, 60, .inl u.2.2.2.1)), (h0_hand, .inl (c0_hand, 13, .inl (upd u.2.2.2.2 0 y6)))] H := hP
                                    have hD : va_D A [(h0, ce_Mo h0_op h0_argument h0_balance h0_inbox h0_real h0_hand h0_payee h0_paid h0_drawn h0_challenger h0_low h0_high h0_agreed h0_disputed h0_posted h0_middle h0_deadline h0_running h0_node h0_side u.1), (h0_op, .inl (c0_op, 16, .inl u.2.1)), (h0_argument, .inl (c0_argument, 16, .inl u.2.2.1)), (h0_inbox, .inl (c0_inbox, 60, .inl u.2.2.2.1)), (h0_hand, .inl (c0_hand, 13, .inl (upd u.2.2.2.2 0 y6)))] := hD
                                    have hP9 := hP.sub (ws' := [(h0, ce_Mo h0_op h0_argument h0_balance h0_inbox h0_real h0_hand h0_payee h0_paid h0_drawn h0_challenger h0_low h0_high h0_agreed h0_disputed h0_posted h0_middle h0_deadline h0_running h0_node h0_side u.1), (h0_op, .inl (c0_op, 16, .inl u.2.1)), (h0_argument, .inl (c0_argument, 16, .inl u.2.2.1)), (h0_inbox, .inl (c0_inbox, 60, .inl u.2.2.2.1)), (h0_hand, .inl (c0_hand, 13, .inl (upd u.2.2.2.2 0 y6)))]) [0, 1, 2, 3, 4] rfl
                                    have hD9 := hD.sub (ws' := [(h0, ce_Mo h0_op h0_argument h0_balance h0_inbox h0_real h0_hand h0_payee h0_paid h0_drawn h0_challenger h0_low h0_high h0_agreed h0_disputed h0_posted h0_middle h0_deadline h0_running h0_node h0_side u.1), (h0_op, .inl (c0_op, 16, .inl u.2.1)), (h0_argument, .inl (c0_argument, 16, .inl u.2.2.1)), (h0_inbox, .inl (c0_inbox, 60, .inl u.2.2.2.1)), (h0_hand, .inl (c0_hand, 13, .inl (upd u.2.2.2.2 0 y6)))]) [0, 1, 2, 3, 4] (by decide) rfl
                                    have hK9 := hK.sub (tys' := [(c0_op, .int), (c0_argument, .int), (c0_inbox, .int), (c0_hand, .int)]) [0, 1, 2, 3] rfl
                                    exact W.vret hx hb hr (fun t ht hW => ⟨⟨(u.1, u.2.1, u.2.2.1, u.2.2.2.1, (upd u.2.2.2.2 0 y6)), rfl, hw, by rw [ht]; exact hP9, va_K.moved hW.alike hK9, hD9⟩, hS.F ht⟩) hS.2.2 dMo_step_379
                                  · first | exact absurd cc31 (by decide) | exact (cc31 (by decide)).elim
                                · have hw := hw.2 cc30
                                  refine lv_iload hx hb dMo_step_355 (lv_at hl 5 rfl) ?_
                                  refine lv_bipush (v := 15) hx hb dMo_step_357 (by decide) ?_
                                  refine lv_iand hx hb dMo_step_359 ?_
                                  refine lv_topi (fun y32 ey32 => ?_)
                                  have hw := hw y32 ey32
                                  refine lv_istore (lv' := [(5, .int y32), (9, .int 0), (8, .int y9), (7, .int y8), (6, .int y7), (4, .int y5), (3, .int y3), (2, .int y1), (0, .ref h0), (1, .int k1)]) hx hb dMo_step_360 hl (by decide) rfl (fun ls hl => ?_)
                                  refine lv_aload_n hx hb dMo_step_362 rfl (lv_at hl 8 rfl) ?_
                                  refine va_get (D := (dC, dI)) (ci := 8) (v := .ref h0_hand) (C := "StepCourtModel") (T := TMo) (N := 35) hx hb hq inMo hown hK hP 0 rfl rfl 11 (by decide) (hq _ wt_745) (fun _ h9 => h9) rfl dMo_step_363 ?_
                                  refine lv_iconst (v := 0) hx hb dMo_step_366 (by decide) ?_
                                  refine lv_iload hx hb dMo_step_367 (lv_at hl 1 rfl) ?_
                                  refine lv_if_eq (tgt := 376) hx hb dMo_step_369 (by decide) (fun cc33 => ?_) (fun cc33 => ?_)
                                  · have hw := hw
                                    refine lv_iload hx hb dMo_step_376 (lv_at hl 0 rfl) ?_
                                    refine va_iast hx hb hK hP hD hS 4 3 rfl rfl (show ¬ ((0 : Int32) < 0 ∨ 13 ≤ (0 : Int32).toNatClampNeg) by decide) dMo_step_378 (fun H locs hP hD hS => ?_)
                                    have hP : va_P (dC, dI) vwCl [(h0, ce_Mo h0_op h0_argument h0_balance h0_inbox h0_real h0_hand h0_payee h0_paid h0_drawn h0_challenger h0_low h0_high h0_agreed h0_disputed h0_posted h0_middle h0_deadline h0_running h0_node h0_side u.1), (h0_op, .inl (c0_op, 16, .inl u.2.1)), (h0_argument, .inl (c0_argument, 16, .inl u.2.2.1)), (h0_inbox, .inl (c0_inbox, 60, .inl u.2.2.2.1)), (h0_hand, .inl (c0_hand, 13, .inl (upd u.2.2.2.2 0 y32)))] H := hP
                                    have hD : va_D A [(h0, ce_Mo h0_op h0_argument h0_balance h0_inbox h0_real h0_hand h0_payee h0_paid h0_drawn h0_challenger h0_low h0_high h0_agreed h0_disputed h0_posted h0_middle h0_deadline h0_running h0_node h0_side u.1), (h0_op, .inl (c0_op, 16, .inl u.2.1)), (h0_argument, .inl (c0_argument, 16, .inl u.2.2.1)), (h0_inbox, .inl (c0_inbox, 60, .inl u.2.2.2.1)), (h0_hand, .inl (c0_hand, 13, .inl (upd u.2.2.2.2 0 y32)))] := hD
                                    have hP9 := hP.sub (ws' := [(h0, ce_Mo h0_op h0_argument h0_balance h0_inbox h0_real h0_hand h0_payee h0_paid h0_drawn h0_challenger h0_low h0_high h0_agreed h0_disputed h0_posted h0_middle h0_deadline h0_running h0_node h0_side u.1), (h0_op, .inl (c0_op, 16, .inl u.2.1)), (h0_argument, .inl (c0_argument, 16, .inl u.2.2.1)), (h0_inbox, .inl (c0_inbox, 60, .inl u.2.2.2.1)), (h0_hand, .inl (c0_hand, 13, .inl (upd u.2.2.2.2 0 y32)))]) [0, 1, 2, 3, 4] rfl
                                    have hD9 := hD.sub (ws' := [(h0, ce_Mo h0_op h0_argument h0_balance h0_inbox h0_real h0_hand h0_payee h0_paid h0_drawn h0_challenger h0_low h0_high h0_agreed h0_disputed h0_posted h0_middle h0_deadline h0_running h0_node h0_side u.1), (h0_op, .inl (c0_op, 16, .inl u.2.1)), (h0_argument, .inl (c0_argument, 16, .inl u.2.2.1)), (h0_inbox, .inl (c0_inbox, 60, .inl u.2.2.2.1)), (h0_hand, .inl (c0_hand, 13, .inl (upd u.2.2.2.2 0 y32)))]) [0, 1, 2, 3, 4] (by decide) rfl
                                    have hK9 := hK.sub (tys' := [(c0_op, .int), (c0_argument, .int), (c0_inbox, .int), (c0_hand, .int)]) [0, 1, 2, 3] rfl
                                    exact W.vret hx hb hr (fun t ht hW => ⟨⟨(u.1, u.2.1, u.2.2.1, u.2.2.2.1, (upd u.2.2.2.2 0 y32)), rfl, hw, by rw [ht]; exact hP9, va_K.moved hW.alike hK9, hD9⟩, hS.F ht⟩) hS.2.2 dMo_step_379
                                  · first | exact absurd cc33 (by decide) | exact (cc33 (by decide)).elim
                            · have hw := hw.1 cc27
                              refine lv_iload hx hb dMo_step_339 (lv_at hl 3 rfl) ?_
                              refine lv_if_eq (tgt := 355) hx hb dMo_step_341 (by decide) (fun cc34 => ?_) (fun cc34 => ?_)
                              · have hw := hw.1 cc34
                                refine lv_iload hx hb dMo_step_355 (lv_at hl 5 rfl) ?_
                                refine lv_bipush (v := 15) hx hb dMo_step_357 (by decide) ?_
                                refine lv_iand hx hb dMo_step_359 ?_
                                refine lv_topi (fun y35 ey35 => ?_)
                                have hw := hw y35 ey35
                                refine lv_istore (lv' := [(5, .int y35), (9, .int 0), (8, .int y9), (7, .int y8), (6, .int y7), (4, .int y5), (3, .int y3), (2, .int y1), (0, .ref h0), (1, .int k1)]) hx hb dMo_step_360 hl (by decide) rfl (fun ls hl => ?_)
                                refine lv_aload_n hx hb dMo_step_362 rfl (lv_at hl 8 rfl) ?_
                                refine va_get (D := (dC, dI)) (ci := 8) (v := .ref h0_hand) (C := "StepCourtModel") (T := TMo) (N := 35) hx hb hq inMo hown hK hP 0 rfl rfl 11 (by decide) (hq _ wt_745) (fun _ h9 => h9) rfl dMo_step_363 ?_
                                refine lv_iconst (v := 0) hx hb dMo_step_366 (by decide) ?_
                                refine lv_iload hx hb dMo_step_367 (lv_at hl 1 rfl) ?_
                                refine lv_if_eq (tgt := 376) hx hb dMo_step_369 (by decide) (fun cc36 => ?_) (fun cc36 => ?_)
                                · have hw := hw
                                  refine lv_iload hx hb dMo_step_376 (lv_at hl 0 rfl) ?_
                                  refine va_iast hx hb hK hP hD hS 4 3 rfl rfl (show ¬ ((0 : Int32) < 0 ∨ 13 ≤ (0 : Int32).toNatClampNeg) by decide) dMo_step_378 (fun H locs hP hD hS => ?_)
                                  have hP : va_P (dC, dI) vwCl [(h0, ce_Mo h0_op h0_argument h0_balance h0_inbox h0_real h0_hand h0_payee h0_paid h0_drawn h0_challenger h0_low h0_high h0_agreed h0_disputed h0_posted h0_middle h0_deadline h0_running h0_node h0_side u.1), (h0_op, .inl (c0_op, 16, .inl u.2.1)), (h0_argument, .inl (c0_argument, 16, .inl u.2.2.1)), (h0_inbox, .inl (c0_inbox, 60, .inl u.2.2.2.1)), (h0_hand, .inl (c0_hand, 13, .inl (upd u.2.2.2.2 0 y35)))] H := hP
                                  have hD : va_D A [(h0, ce_Mo h0_op h0_argument h0_balance h0_inbox h0_real h0_hand h0_payee h0_paid h0_drawn h0_challenger h0_low h0_high h0_agreed h0_disputed h0_posted h0_middle h0_deadline h0_running h0_node h0_side u.1), (h0_op, .inl (c0_op, 16, .inl u.2.1)), (h0_argument, .inl (c0_argument, 16, .inl u.2.2.1)), (h0_inbox, .inl (c0_inbox, 60, .inl u.2.2.2.1)), (h0_hand, .inl (c0_hand, 13, .inl (upd u.2.2.2.2 0 y35)))] := hD
                                  have hP9 := hP.sub (ws' := [(h0, ce_Mo h0_op h0_argument h0_balance h0_inbox h0_real h0_hand h0_payee h0_paid h0_drawn h0_challenger h0_low h0_high h0_agreed h0_disputed h0_posted h0_middle h0_deadline h0_running h0_node h0_side u.1), (h0_op, .inl (c0_op, 16, .inl u.2.1)), (h0_argument, .inl (c0_argument, 16, .inl u.2.2.1)), (h0_inbox, .inl (c0_inbox, 60, .inl u.2.2.2.1)), (h0_hand, .inl (c0_hand, 13, .inl (upd u.2.2.2.2 0 y35)))]) [0, 1, 2, 3, 4] rfl
                                  have hD9 := hD.sub (ws' := [(h0, ce_Mo h0_op h0_argument h0_balance h0_inbox h0_real h0_hand h0_payee h0_paid h0_drawn h0_challenger h0_low h0_high h0_agreed h0_disputed h0_posted h0_middle h0_deadline h0_running h0_node h0_side u.1), (h0_op, .inl (c0_op, 16, .inl u.2.1)), (h0_argument, .inl (c0_argument, 16, .inl u.2.2.1)), (h0_inbox, .inl (c0_inbox, 60, .inl u.2.2.2.1)), (h0_hand, .inl (c0_hand, 13, .inl (upd u.2.2.2.2 0 y35)))]) [0, 1, 2, 3, 4] (by decide) rfl
                                  have hK9 := hK.sub (tys' := [(c0_op, .int), (c0_argument, .int), (c0_inbox, .int), (c0_hand, .int)]) [0, 1, 2, 3] rfl
                                  exact W.vret hx hb hr (fun t ht hW => ⟨⟨(u.1, u.2.1, u.2.2.1, u.2.2.2.1, (upd u.2.2.2.2 0 y35)), rfl, hw, by rw [ht]; exact hP9, va_K.moved hW.alike hK9, hD9⟩, hS.F ht⟩) hS.2.2 dMo_step_379
                                · first | exact absurd cc36 (by decide) | exact (cc36 (by decide)).elim
                              · have hw := hw.2 cc34
                                refine lv_iload_n hx hb dMo_step_344 rfl (lv_at hl 6 rfl) ?_
                                refine lv_bipush (v := 12) hx hb dMo_step_345 (by decide) ?_
                                refine lv_icmp_ne (tgt := 362) hx hb dMo_step_347 (by decide) (fun cc37 => ?_) (fun cc37 => ?_)
                                · have hw := hw.2 cc37
                                  refine lv_aload_n hx hb dMo_step_362 rfl (lv_at hl 8 rfl) ?_
                                  refine va_get (D := (dC, dI)) (ci := 8) (v := .ref h0_hand) (C := "StepCourtModel") (T := TMo) (N := 35) hx hb hq inMo hown hK hP 0 rfl rfl 11 (by decide) (hq _ wt_745) (fun _ h9 => h9) rfl dMo_step_363 ?_
                                  refine lv_iconst (v := 0) hx hb dMo_step_366 (by decide) ?_
                                  refine lv_iload hx hb dMo_step_367 (lv_at hl 0 rfl) ?_
                                  refine lv_if_eq (tgt := 376) hx hb dMo_step_369 (by decide) (fun cc38 => ?_) (fun cc38 => ?_)
                                  · have hw := hw
                                    refine lv_iload hx hb dMo_step_376 (lv_at hl 4 rfl) ?_
                                    refine va_iast hx hb hK hP hD hS 4 3 rfl rfl (show ¬ ((0 : Int32) < 0 ∨ 13 ≤ (0 : Int32).toNatClampNeg) by decide) dMo_step_378 (fun H locs hP hD hS => ?_)
                                    have hP : va_P (dC, dI) vwCl [(h0, ce_Mo h0_op h0_argument h0_balance h0_inbox h0_real h0_hand h0_payee h0_paid h0_drawn h0_challenger h0_low h0_high h0_agreed h0_disputed h0_posted h0_middle h0_deadline h0_running h0_node h0_side u.1), (h0_op, .inl (c0_op, 16, .inl u.2.1)), (h0_argument, .inl (c0_argument, 16, .inl u.2.2.1)), (h0_inbox, .inl (c0_inbox, 60, .inl u.2.2.2.1)), (h0_hand, .inl (c0_hand, 13, .inl (upd u.2.2.2.2 0 y6)))] H := hP
                                    have hD : va_D A [(h0, ce_Mo h0_op h0_argument h0_balance h0_inbox h0_real h0_hand h0_payee h0_paid h0_drawn h0_challenger h0_low h0_high h0_agreed h0_disputed h0_posted h0_middle h0_deadline h0_running h0_node h0_side u.1), (h0_op, .inl (c0_op, 16, .inl u.2.1)), (h0_argument, .inl (c0_argument, 16, .inl u.2.2.1)), (h0_inbox, .inl (c0_inbox, 60, .inl u.2.2.2.1)), (h0_hand, .inl (c0_hand, 13, .inl (upd u.2.2.2.2 0 y6)))] := hD
                                    have hP9 := hP.sub (ws' := [(h0, ce_Mo h0_op h0_argument h0_balance h0_inbox h0_real h0_hand h0_payee h0_paid h0_drawn h0_challenger h0_low h0_high h0_agreed h0_disputed h0_posted h0_middle h0_deadline h0_running h0_node h0_side u.1), (h0_op, .inl (c0_op, 16, .inl u.2.1)), (h0_argument, .inl (c0_argument, 16, .inl u.2.2.1)), (h0_inbox, .inl (c0_inbox, 60, .inl u.2.2.2.1)), (h0_hand, .inl (c0_hand, 13, .inl (upd u.2.2.2.2 0 y6)))]) [0, 1, 2, 3, 4] rfl
                                    have hD9 := hD.sub (ws' := [(h0, ce_Mo h0_op h0_argument h0_balance h0_inbox h0_real h0_hand h0_payee h0_paid h0_drawn h0_challenger h0_low h0_high h0_agreed h0_disputed h0_posted h0_middle h0_deadline h0_running h0_node h0_side u.1), (h0_op, .inl (c0_op, 16, .inl u.2.1)), (h0_argument, .inl (c0_argument, 16, .inl u.2.2.1)), (h0_inbox, .inl (c0_inbox, 60, .inl u.2.2.2.1)), (h0_hand, .inl (c0_hand, 13, .inl (upd u.2.2.2.2 0 y6)))]) [0, 1, 2, 3, 4] (by decide) rfl
                                    have hK9 := hK.sub (tys' := [(c0_op, .int), (c0_argument, .int), (c0_inbox, .int), (c0_hand, .int)]) [0, 1, 2, 3] rfl
                                    exact W.vret hx hb hr (fun t ht hW => ⟨⟨(u.1, u.2.1, u.2.2.1, u.2.2.2.1, (upd u.2.2.2.2 0 y6)), rfl, hw, by rw [ht]; exact hP9, va_K.moved hW.alike hK9, hD9⟩, hS.F ht⟩) hS.2.2 dMo_step_379
                                  · first | exact absurd cc38 (by decide) | exact (cc38 (by decide)).elim
                                · have hw := hw.1 cc37
                                  refine lv_iload hx hb dMo_step_350 (lv_at hl 3 rfl) ?_
                                  refine lv_if_ge (tgt := 362) hx hb dMo_step_352 (by decide) (fun cc39 => ?_) (fun cc39 => ?_)
                                  · have hw := hw.1 cc39
                                    refine lv_aload_n hx hb dMo_step_362 rfl (lv_at hl 8 rfl) ?_
                                    refine va_get (D := (dC, dI)) (ci := 8) (v := .ref h0_hand) (C := "StepCourtModel") (T := TMo) (N := 35) hx hb hq inMo hown hK hP 0 rfl rfl 11 (by decide) (hq _ wt_745) (fun _ h9 => h9) rfl dMo_step_363 ?_
                                    refine lv_iconst (v := 0) hx hb dMo_step_366 (by decide) ?_
                                    refine lv_iload hx hb dMo_step_367 (lv_at hl 0 rfl) ?_
                                    refine lv_if_eq (tgt := 376) hx hb dMo_step_369 (by decide) (fun cc40 => ?_) (fun cc40 => ?_)
                                    · have hw := hw
                                      refine lv_iload hx hb dMo_step_376 (lv_at hl 4 rfl) ?_
                                      refine va_iast hx hb hK hP hD hS 4 3 rfl rfl (show ¬ ((0 : Int32) < 0 ∨ 13 ≤ (0 : Int32).toNatClampNeg) by decide) dMo_step_378 (fun H locs hP hD hS => ?_)
                                      have hP : va_P (dC, dI) vwCl [(h0, ce_Mo h0_op h0_argument h0_balance h0_inbox h0_real h0_hand h0_payee h0_paid h0_drawn h0_challenger h0_low h0_high h0_agreed h0_disputed h0_posted h0_middle h0_deadline h0_running h0_node h0_side u.1), (h0_op, .inl (c0_op, 16, .inl u.2.1)), (h0_argument, .inl (c0_argument, 16, .inl u.2.2.1)), (h0_inbox, .inl (c0_inbox, 60, .inl u.2.2.2.1)), (h0_hand, .inl (c0_hand, 13, .inl (upd u.2.2.2.2 0 y6)))] H := hP
                                      have hD : va_D A [(h0, ce_Mo h0_op h0_argument h0_balance h0_inbox h0_real h0_hand h0_payee h0_paid h0_drawn h0_challenger h0_low h0_high h0_agreed h0_disputed h0_posted h0_middle h0_deadline h0_running h0_node h0_side u.1), (h0_op, .inl (c0_op, 16, .inl u.2.1)), (h0_argument, .inl (c0_argument, 16, .inl u.2.2.1)), (h0_inbox, .inl (c0_inbox, 60, .inl u.2.2.2.1)), (h0_hand, .inl (c0_hand, 13, .inl (upd u.2.2.2.2 0 y6)))] := hD
                                      have hP9 := hP.sub (ws' := [(h0, ce_Mo h0_op h0_argument h0_balance h0_inbox h0_real h0_hand h0_payee h0_paid h0_drawn h0_challenger h0_low h0_high h0_agreed h0_disputed h0_posted h0_middle h0_deadline h0_running h0_node h0_side u.1), (h0_op, .inl (c0_op, 16, .inl u.2.1)), (h0_argument, .inl (c0_argument, 16, .inl u.2.2.1)), (h0_inbox, .inl (c0_inbox, 60, .inl u.2.2.2.1)), (h0_hand, .inl (c0_hand, 13, .inl (upd u.2.2.2.2 0 y6)))]) [0, 1, 2, 3, 4] rfl
                                      have hD9 := hD.sub (ws' := [(h0, ce_Mo h0_op h0_argument h0_balance h0_inbox h0_real h0_hand h0_payee h0_paid h0_drawn h0_challenger h0_low h0_high h0_agreed h0_disputed h0_posted h0_middle h0_deadline h0_running h0_node h0_side u.1), (h0_op, .inl (c0_op, 16, .inl u.2.1)), (h0_argument, .inl (c0_argument, 16, .inl u.2.2.1)), (h0_inbox, .inl (c0_inbox, 60, .inl u.2.2.2.1)), (h0_hand, .inl (c0_hand, 13, .inl (upd u.2.2.2.2 0 y6)))]) [0, 1, 2, 3, 4] (by decide) rfl
                                      have hK9 := hK.sub (tys' := [(c0_op, .int), (c0_argument, .int), (c0_inbox, .int), (c0_hand, .int)]) [0, 1, 2, 3] rfl
                                      exact W.vret hx hb hr (fun t ht hW => ⟨⟨(u.1, u.2.1, u.2.2.1, u.2.2.2.1, (upd u.2.2.2.2 0 y6)), rfl, hw, by rw [ht]; exact hP9, va_K.moved hW.alike hK9, hD9⟩, hS.F ht⟩) hS.2.2 dMo_step_379
                                    · first | exact absurd cc40 (by decide) | exact (cc40 (by decide)).elim
                                  · have hw := hw.2 cc39
                                    refine lv_iload hx hb dMo_step_355 (lv_at hl 5 rfl) ?_
                                    refine lv_bipush (v := 15) hx hb dMo_step_357 (by decide) ?_
                                    refine lv_iand hx hb dMo_step_359 ?_
                                    refine lv_topi (fun y41 ey41 => ?_)
                                    have hw := hw y41 ey41
                                    refine lv_istore (lv' := [(5, .int y41), (9, .int 0), (8, .int y9), (7, .int y8), (6, .int y7), (4, .int y5), (3, .int y3), (2, .int y1), (0, .ref h0), (1, .int k1)]) hx hb dMo_step_360 hl (by decide) rfl (fun ls hl => ?_)
                                    refine lv_aload_n hx hb dMo_step_362 rfl (lv_at hl 8 rfl) ?_
                                    refine va_get (D := (dC, dI)) (ci := 8) (v := .ref h0_hand) (C := "StepCourtModel") (T := TMo) (N := 35) hx hb hq inMo hown hK hP 0 rfl rfl 11 (by decide) (hq _ wt_745) (fun _ h9 => h9) rfl dMo_step_363 ?_
                                    refine lv_iconst (v := 0) hx hb dMo_step_366 (by decide) ?_
                                    refine lv_iload hx hb dMo_step_367 (lv_at hl 1 rfl) ?_
                                    refine lv_if_eq (tgt := 376) hx hb dMo_step_369 (by decide) (fun cc42 => ?_) (fun cc42 => ?_)
                                    · have hw := hw
                                      refine lv_iload hx hb dMo_step_376 (lv_at hl 0 rfl) ?_
                                      refine va_iast hx hb hK hP hD hS 4 3 rfl rfl (show ¬ ((0 : Int32) < 0 ∨ 13 ≤ (0 : Int32).toNatClampNeg) by decide) dMo_step_378 (fun H locs hP hD hS => ?_)
                                      have hP : va_P (dC, dI) vwCl [(h0, ce_Mo h0_op h0_argument h0_balance h0_inbox h0_real h0_hand h0_payee h0_paid h0_drawn h0_challenger h0_low h0_high h0_agreed h0_disputed h0_posted h0_middle h0_deadline h0_running h0_node h0_side u.1), (h0_op, .inl (c0_op, 16, .inl u.2.1)), (h0_argument, .inl (c0_argument, 16, .inl u.2.2.1)), (h0_inbox, .inl (c0_inbox, 60, .inl u.2.2.2.1)), (h0_hand, .inl (c0_hand, 13, .inl (upd u.2.2.2.2 0 y41)))] H := hP
                                      have hD : va_D A [(h0, ce_Mo h0_op h0_argument h0_balance h0_inbox h0_real h0_hand h0_payee h0_paid h0_drawn h0_challenger h0_low h0_high h0_agreed h0_disputed h0_posted h0_middle h0_deadline h0_running h0_node h0_side u.1), (h0_op, .inl (c0_op, 16, .inl u.2.1)), (h0_argument, .inl (c0_argument, 16, .inl u.2.2.1)), (h0_inbox, .inl (c0_inbox, 60, .inl u.2.2.2.1)), (h0_hand, .inl (c0_hand, 13, .inl (upd u.2.2.2.2 0 y41)))] := hD
                                      have hP9 := hP.sub (ws' := [(h0, ce_Mo h0_op h0_argument h0_balance h0_inbox h0_real h0_hand h0_payee h0_paid h0_drawn h0_challenger h0_low h0_high h0_agreed h0_disputed h0_posted h0_middle h0_deadline h0_running h0_node h0_side u.1), (h0_op, .inl (c0_op, 16, .inl u.2.1)), (h0_argument, .inl (c0_argument, 16, .inl u.2.2.1)), (h0_inbox, .inl (c0_inbox, 60, .inl u.2.2.2.1)), (h0_hand, .inl (c0_hand, 13, .inl (upd u.2.2.2.2 0 y41)))]) [0, 1, 2, 3, 4] rfl
                                      have hD9 := hD.sub (ws' := [(h0, ce_Mo h0_op h0_argument h0_balance h0_inbox h0_real h0_hand h0_payee h0_paid h0_drawn h0_challenger h0_low h0_high h0_agreed h0_disputed h0_posted h0_middle h0_deadline h0_running h0_node h0_side u.1), (h0_op, .inl (c0_op, 16, .inl u.2.1)), (h0_argument, .inl (c0_argument, 16, .inl u.2.2.1)), (h0_inbox, .inl (c0_inbox, 60, .inl u.2.2.2.1)), (h0_hand, .inl (c0_hand, 13, .inl (upd u.2.2.2.2 0 y41)))]) [0, 1, 2, 3, 4] (by decide) rfl
                                      have hK9 := hK.sub (tys' := [(c0_op, .int), (c0_argument, .int), (c0_inbox, .int), (c0_hand, .int)]) [0, 1, 2, 3] rfl
                                      exact W.vret hx hb hr (fun t ht hW => ⟨⟨(u.1, u.2.1, u.2.2.1, u.2.2.2.1, (upd u.2.2.2.2 0 y41)), rfl, hw, by rw [ht]; exact hP9, va_K.moved hW.alike hK9, hD9⟩, hS.F ht⟩) hS.2.2 dMo_step_379
                                    · first | exact absurd cc42 (by decide) | exact (cc42 (by decide)).elim
                        · have hw := hw.1 cc23
                          refine lv_aload_n hx hb dMo_step_292 rfl (lv_at hl 8 rfl) ?_
                          refine lv_aload_n hx hb dMo_step_293 rfl (lv_at hl 8 rfl) ?_
                          refine va_get (D := (dC, dI)) (ci := 8) (v := .long u.1.2.2.2.2.2.2.1) (C := "StepCourtModel") (T := TMo) (N := 35) hx hb hq inMo hown hK hP 0 rfl rfl 12 (by decide) (hq _ wt_746) (fun _ h9 => h9) rfl dMo_step_294 ?_
                          refine lv_iload hx hb dMo_step_297 (lv_at hl 2 rfl) ?_
                          refine lv_iconst (v := 3) hx hb dMo_step_299 (by decide) ?_
                          refine lv_iand hx hb dMo_step_300 ?_
                          refine lv_i2l (v := (y8 &&& 3).toInt64) hx hb dMo_step_301 rfl ?_
                          have hPc := hP.sub (ws' := []) [] rfl
                          have hDc := hD.sub (ws' := []) [] (by decide) rfl
                          have hKc := hK.sub (tys' := []) [] rfl
                          have hFc := va_free (wc := []) hD hS hA [] rfl
                          refine va_calll (va_runS (As := [.long u.1.2.2.2.2.2.2.1, .long ((y8 &&& 3).toInt64)]) (rest := [.ref h0]) ⟨hx, hb, hml, hown, hq⟩ (mt_Mo_mix l dC dI s.heap.size _ () u.1.2.2.2.2.2.2.1 ((y8 &&& 3).toInt64) hw) ⟨cq_B 2 hq wt_723 wt_721 wt_10 rfl rfl hd_Mo_mix ⟨Nat.le_of_ble_eq_true rfl, Nat.le_of_ble_eq_true rfl⟩, (hq _ wt_722)⟩ ⟨kp_bl, kp_at hPc hKc hDc hZ⟩ rfl rfl hl.1 rfl (lv_room (Nat.le_of_ble_eq_true rfl)) dMo_step_302 ⟨(by decide), (by decide)⟩) hS (fun q _ h => hFc q h) hFc (fun r43 u44 t H1 locs ht hvm hw hB hz1 hk1 hS => ?_)
                          obtain ⟨hP1, hK1, hD1⟩ := hB
                          rw [ht] at hP1
                          have hK1 := va_K.moved hvm.symm hK1
                          obtain ⟨hP, hD⟩ := va_join (wr := [(h0, ce_Mo h0_op h0_argument h0_balance h0_inbox h0_real h0_hand h0_payee h0_paid h0_drawn h0_challenger h0_low h0_high h0_agreed h0_disputed h0_posted h0_middle h0_deadline h0_running h0_node h0_side u.1), (h0_op, .inl (c0_op, 16, .inl u.2.1)), (h0_argument, .inl (c0_argument, 16, .inl u.2.2.1)), (h0_inbox, .inl (c0_inbox, 60, .inl u.2.2.2.1)), (h0_hand, .inl (c0_hand, 13, .inl u.2.2.2.2))]) (w1 := []) hP hD [] [0, 1, 2, 3, 4] rfl rfl (by decide) (by decide) hk1 hFc hP1 hD1
                          have hK := (hK.sub (tys' := [(c0_op, .int), (c0_argument, .int), (c0_inbox, .int), (c0_hand, .int)]) [0, 1, 2, 3] rfl).app hK1
                          generalize H1 = H at hP hS ⊢
                          have hP : va_P (dC, dI) vwCl [(h0, ce_Mo h0_op h0_argument h0_balance h0_inbox h0_real h0_hand h0_payee h0_paid h0_drawn h0_challenger h0_low h0_high h0_agreed h0_disputed h0_posted h0_middle h0_deadline h0_running h0_node h0_side u.1), (h0_op, .inl (c0_op, 16, .inl u.2.1)), (h0_argument, .inl (c0_argument, 16, .inl u.2.2.1)), (h0_inbox, .inl (c0_inbox, 60, .inl u.2.2.2.1)), (h0_hand, .inl (c0_hand, 13, .inl u.2.2.2.2))] H := hP
                          have hD : va_D A [(h0, ce_Mo h0_op h0_argument h0_balance h0_inbox h0_real h0_hand h0_payee h0_paid h0_drawn h0_challenger h0_low h0_high h0_agreed h0_disputed h0_posted h0_middle h0_deadline h0_running h0_node h0_side u.1), (h0_op, .inl (c0_op, 16, .inl u.2.1)), (h0_argument, .inl (c0_argument, 16, .inl u.2.2.1)), (h0_inbox, .inl (c0_inbox, 60, .inl u.2.2.2.1)), (h0_hand, .inl (c0_hand, 13, .inl u.2.2.2.2))] := hD
                          have hK : va_K (dC, dI) vwCl [(c0_op, .int), (c0_argument, .int), (c0_inbox, .int), (c0_hand, .int)] s := hK
                          refine lv_iload hx hb dMo_step_305 (lv_at hl 3 rfl) ?_
                          refine lv_i2l (v := y7.toInt64) hx hb dMo_step_307 rfl ?_
                          have hPc := hP.sub (ws' := []) [] rfl
                          have hDc := hD.sub (ws' := []) [] (by decide) rfl
                          have hKc := hK.sub (tys' := []) [] rfl
                          have hFc := va_free (wc := []) hD hS hA [] rfl
                          refine va_calll (va_runS (As := [.long r43, .long (y7.toInt64)]) (rest := [.ref h0]) ⟨hx, hb, hml, hown, hq⟩ (mt_Mo_mix l dC dI H.size _ () r43 (y7.toInt64) hw) ⟨cq_B 2 hq wt_723 wt_721 wt_10 rfl rfl hd_Mo_mix ⟨Nat.le_of_ble_eq_true rfl, Nat.le_of_ble_eq_true rfl⟩, (hq _ wt_722)⟩ ⟨kp_bl, kp_at hPc hKc hDc hZ⟩ rfl rfl hl.1 rfl (lv_room (Nat.le_of_ble_eq_true rfl)) dMo_step_308 ⟨(by decide), (by decide)⟩) hS (fun q _ h => hFc q h) hFc (fun r45 u46 t H1 locs ht hvm hw hB hz1 hk1 hS => ?_)
                          obtain ⟨hP1, hK1, hD1⟩ := hB
                          rw [ht] at hP1
                          have hK1 := va_K.moved hvm.symm hK1
                          obtain ⟨hP, hD⟩ := va_join (wr := [(h0, ce_Mo h0_op h0_argument h0_balance h0_inbox h0_real h0_hand h0_payee h0_paid h0_drawn h0_challenger h0_low h0_high h0_agreed h0_disputed h0_posted h0_middle h0_deadline h0_running h0_node h0_side u.1), (h0_op, .inl (c0_op, 16, .inl u.2.1)), (h0_argument, .inl (c0_argument, 16, .inl u.2.2.1)), (h0_inbox, .inl (c0_inbox, 60, .inl u.2.2.2.1)), (h0_hand, .inl (c0_hand, 13, .inl u.2.2.2.2))]) (w1 := []) hP hD [] [0, 1, 2, 3, 4] rfl rfl (by decide) (by decide) hk1 hFc hP1 hD1
                          have hK := (hK.sub (tys' := [(c0_op, .int), (c0_argument, .int), (c0_inbox, .int), (c0_hand, .int)]) [0, 1, 2, 3] rfl).app hK1
                          generalize H1 = H at hP hS ⊢
                          have hP : va_P (dC, dI) vwCl [(h0, ce_Mo h0_op h0_argument h0_balance h0_inbox h0_real h0_hand h0_payee h0_paid h0_drawn h0_challenger h0_low h0_high h0_agreed h0_disputed h0_posted h0_middle h0_deadline h0_running h0_node h0_side u.1), (h0_op, .inl (c0_op, 16, .inl u.2.1)), (h0_argument, .inl (c0_argument, 16, .inl u.2.2.1)), (h0_inbox, .inl (c0_inbox, 60, .inl u.2.2.2.1)), (h0_hand, .inl (c0_hand, 13, .inl u.2.2.2.2))] H := hP
                          have hD : va_D A [(h0, ce_Mo h0_op h0_argument h0_balance h0_inbox h0_real h0_hand h0_payee h0_paid h0_drawn h0_challenger h0_low h0_high h0_agreed h0_disputed h0_posted h0_middle h0_deadline h0_running h0_node h0_side u.1), (h0_op, .inl (c0_op, 16, .inl u.2.1)), (h0_argument, .inl (c0_argument, 16, .inl u.2.2.1)), (h0_inbox, .inl (c0_inbox, 60, .inl u.2.2.2.1)), (h0_hand, .inl (c0_hand, 13, .inl u.2.2.2.2))] := hD
                          have hK : va_K (dC, dI) vwCl [(c0_op, .int), (c0_argument, .int), (c0_inbox, .int), (c0_hand, .int)] s := hK
                          refine va_put (D := (dC, dI)) (ci := 8) (v := .long r45) (ty := .long) (C := "StepCourtModel") (T := TMo) (N := 35) hx hb hq inMo tyMo tyMo_ok nmMo hown hK hP hD hS 0 rfl rfl 12 (by decide) (hq _ wt_746) (fun _ h9 => h9) rfl (by decide +kernel) rfl rfl (Nat.le_of_ble_eq_true rfl) dMo_step_311 (fun H locs hP hD hS => ?_)
                          have hP : va_P (dC, dI) vwCl [(h0, ce_Mo h0_op h0_argument h0_balance h0_inbox h0_real h0_hand h0_payee h0_paid h0_drawn h0_challenger h0_low h0_high h0_agreed h0_disputed h0_posted h0_middle h0_deadline h0_running h0_node h0_side (u.1.1, u.1.2.1, u.1.2.2.1, u.1.2.2.2.1, u.1.2.2.2.2.1, u.1.2.2.2.2.2.1, r45, u.1.2.2.2.2.2.2.2.1, u.1.2.2.2.2.2.2.2.2.1, u.1.2.2.2.2.2.2.2.2.2.1, u.1.2.2.2.2.2.2.2.2.2.2.1, u.1.2.2.2.2.2.2.2.2.2.2.2.1, u.1.2.2.2.2.2.2.2.2.2.2.2.2.1, u.1.2.2.2.2.2.2.2.2.2.2.2.2.2.1, u.1.2.2.2.2.2.2.2.2.2.2.2.2.2.2)), (h0_op, .inl (c0_op, 16, .inl u.2.1)), (h0_argument, .inl (c0_argument, 16, .inl u.2.2.1)), (h0_inbox, .inl (c0_inbox, 60, .inl u.2.2.2.1)), (h0_hand, .inl (c0_hand, 13, .inl u.2.2.2.2))] H := hP
                          have hD : va_D A [(h0, ce_Mo h0_op h0_argument h0_balance h0_inbox h0_real h0_hand h0_payee h0_paid h0_drawn h0_challenger h0_low h0_high h0_agreed h0_disputed h0_posted h0_middle h0_deadline h0_running h0_node h0_side (u.1.1, u.1.2.1, u.1.2.2.1, u.1.2.2.2.1, u.1.2.2.2.2.1, u.1.2.2.2.2.2.1, r45, u.1.2.2.2.2.2.2.2.1, u.1.2.2.2.2.2.2.2.2.1, u.1.2.2.2.2.2.2.2.2.2.1, u.1.2.2.2.2.2.2.2.2.2.2.1, u.1.2.2.2.2.2.2.2.2.2.2.2.1, u.1.2.2.2.2.2.2.2.2.2.2.2.2.1, u.1.2.2.2.2.2.2.2.2.2.2.2.2.2.1, u.1.2.2.2.2.2.2.2.2.2.2.2.2.2.2)), (h0_op, .inl (c0_op, 16, .inl u.2.1)), (h0_argument, .inl (c0_argument, 16, .inl u.2.2.1)), (h0_inbox, .inl (c0_inbox, 60, .inl u.2.2.2.1)), (h0_hand, .inl (c0_hand, 13, .inl u.2.2.2.2))] := hD
                          refine lv_aload_n hx hb dMo_step_314 rfl (lv_at hl 8 rfl) ?_
                          refine va_get (D := (dC, dI)) (ci := 8) (v := .ref h0_hand) (C := "StepCourtModel") (T := TMo) (N := 35) hx hb hq inMo hown hK hP 0 rfl rfl 11 (by decide) (hq _ wt_745) (fun _ h9 => h9) rfl dMo_step_315 ?_
                          refine lv_iconst (v := 4) hx hb dMo_step_318 (by decide) ?_
                          refine lv_dup2_11 hx hb dMo_step_319 rfl rfl ?_
                          refine va_iald hx hb hK hP 4 3 rfl rfl (show ¬ ((4 : Int32) < 0 ∨ 13 ≤ (4 : Int32).toNatClampNeg) by decide) dMo_step_320 ?_
                          refine W.eq (g2 := F0 m 321 ls [.int (u.2.2.2.2 4), .int 4, .ref h0_hand]) rfl ?_
                          refine lv_iconst (v := 1) hx hb dMo_step_321 (by decide) ?_
                          refine lv_iadd hx hb dMo_step_322 ?_
                          refine lv_topi (fun f47 ef47 => ?_)
                          have hw := hw f47 ef47
                          refine va_iast hx hb hK hP hD hS 4 3 rfl rfl (show ¬ ((4 : Int32) < 0 ∨ 13 ≤ (4 : Int32).toNatClampNeg) by decide) dMo_step_323 (fun H locs hP hD hS => ?_)
                          have hP : va_P (dC, dI) vwCl [(h0, ce_Mo h0_op h0_argument h0_balance h0_inbox h0_real h0_hand h0_payee h0_paid h0_drawn h0_challenger h0_low h0_high h0_agreed h0_disputed h0_posted h0_middle h0_deadline h0_running h0_node h0_side (u.1.1, u.1.2.1, u.1.2.2.1, u.1.2.2.2.1, u.1.2.2.2.2.1, u.1.2.2.2.2.2.1, r45, u.1.2.2.2.2.2.2.2.1, u.1.2.2.2.2.2.2.2.2.1, u.1.2.2.2.2.2.2.2.2.2.1, u.1.2.2.2.2.2.2.2.2.2.2.1, u.1.2.2.2.2.2.2.2.2.2.2.2.1, u.1.2.2.2.2.2.2.2.2.2.2.2.2.1, u.1.2.2.2.2.2.2.2.2.2.2.2.2.2.1, u.1.2.2.2.2.2.2.2.2.2.2.2.2.2.2)), (h0_op, .inl (c0_op, 16, .inl u.2.1)), (h0_argument, .inl (c0_argument, 16, .inl u.2.2.1)), (h0_inbox, .inl (c0_inbox, 60, .inl u.2.2.2.1)), (h0_hand, .inl (c0_hand, 13, .inl (upd u.2.2.2.2 4 f47)))] H := hP
                          have hD : va_D A [(h0, ce_Mo h0_op h0_argument h0_balance h0_inbox h0_real h0_hand h0_payee h0_paid h0_drawn h0_challenger h0_low h0_high h0_agreed h0_disputed h0_posted h0_middle h0_deadline h0_running h0_node h0_side (u.1.1, u.1.2.1, u.1.2.2.1, u.1.2.2.2.1, u.1.2.2.2.2.1, u.1.2.2.2.2.2.1, r45, u.1.2.2.2.2.2.2.2.1, u.1.2.2.2.2.2.2.2.2.1, u.1.2.2.2.2.2.2.2.2.2.1, u.1.2.2.2.2.2.2.2.2.2.2.1, u.1.2.2.2.2.2.2.2.2.2.2.2.1, u.1.2.2.2.2.2.2.2.2.2.2.2.2.1, u.1.2.2.2.2.2.2.2.2.2.2.2.2.2.1, u.1.2.2.2.2.2.2.2.2.2.2.2.2.2.2)), (h0_op, .inl (c0_op, 16, .inl u.2.1)), (h0_argument, .inl (c0_argument, 16, .inl u.2.2.1)), (h0_inbox, .inl (c0_inbox, 60, .inl u.2.2.2.1)), (h0_hand, .inl (c0_hand, 13, .inl (upd u.2.2.2.2 4 f47)))] := hD
                          refine lv_goto (tgt := 362) hx hb dMo_step_324 (by decide) ?_
                          refine lv_aload_n hx hb dMo_step_362 rfl (lv_at hl 8 rfl) ?_
                          refine va_get (D := (dC, dI)) (ci := 8) (v := .ref h0_hand) (C := "StepCourtModel") (T := TMo) (N := 35) hx hb hq inMo hown hK hP 0 rfl rfl 11 (by decide) (hq _ wt_745) (fun _ h9 => h9) rfl dMo_step_363 ?_
                          refine lv_iconst (v := 0) hx hb dMo_step_366 (by decide) ?_
                          refine lv_iload hx hb dMo_step_367 (lv_at hl 0 rfl) ?_
                          refine lv_if_eq (tgt := 376) hx hb dMo_step_369 (by decide) (fun cc48 => ?_) (fun cc48 => ?_)
                          · have hw := hw
                            refine lv_iload hx hb dMo_step_376 (lv_at hl 4 rfl) ?_
                            refine va_iast hx hb hK hP hD hS 4 3 rfl rfl (show ¬ ((0 : Int32) < 0 ∨ 13 ≤ (0 : Int32).toNatClampNeg) by decide) dMo_step_378 (fun H locs hP hD hS => ?_)
                            have hP : va_P (dC, dI) vwCl [(h0, ce_Mo h0_op h0_argument h0_balance h0_inbox h0_real h0_hand h0_payee h0_paid h0_drawn h0_challenger h0_low h0_high h0_agreed h0_disputed h0_posted h0_middle h0_deadline h0_running h0_node h0_side (u.1.1, u.1.2.1, u.1.2.2.1, u.1.2.2.2.1, u.1.2.2.2.2.1, u.1.2.2.2.2.2.1, r45, u.1.2.2.2.2.2.2.2.1, u.1.2.2.2.2.2.2.2.2.1, u.1.2.2.2.2.2.2.2.2.2.1, u.1.2.2.2.2.2.2.2.2.2.2.1, u.1.2.2.2.2.2.2.2.2.2.2.2.1, u.1.2.2.2.2.2.2.2.2.2.2.2.2.1, u.1.2.2.2.2.2.2.2.2.2.2.2.2.2.1, u.1.2.2.2.2.2.2.2.2.2.2.2.2.2.2)), (h0_op, .inl (c0_op, 16, .inl u.2.1)), (h0_argument, .inl (c0_argument, 16, .inl u.2.2.1)), (h0_inbox, .inl (c0_inbox, 60, .inl u.2.2.2.1)), (h0_hand, .inl (c0_hand, 13, .inl (upd (upd u.2.2.2.2 4 f47) 0 y6)))] H := hP
                            have hD : va_D A [(h0, ce_Mo h0_op h0_argument h0_balance h0_inbox h0_real h0_hand h0_payee h0_paid h0_drawn h0_challenger h0_low h0_high h0_agreed h0_disputed h0_posted h0_middle h0_deadline h0_running h0_node h0_side (u.1.1, u.1.2.1, u.1.2.2.1, u.1.2.2.2.1, u.1.2.2.2.2.1, u.1.2.2.2.2.2.1, r45, u.1.2.2.2.2.2.2.2.1, u.1.2.2.2.2.2.2.2.2.1, u.1.2.2.2.2.2.2.2.2.2.1, u.1.2.2.2.2.2.2.2.2.2.2.1, u.1.2.2.2.2.2.2.2.2.2.2.2.1, u.1.2.2.2.2.2.2.2.2.2.2.2.2.1, u.1.2.2.2.2.2.2.2.2.2.2.2.2.2.1, u.1.2.2.2.2.2.2.2.2.2.2.2.2.2.2)), (h0_op, .inl (c0_op, 16, .inl u.2.1)), (h0_argument, .inl (c0_argument, 16, .inl u.2.2.1)), (h0_inbox, .inl (c0_inbox, 60, .inl u.2.2.2.1)), (h0_hand, .inl (c0_hand, 13, .inl (upd (upd u.2.2.2.2 4 f47) 0 y6)))] := hD
                            have hP9 := hP.sub (ws' := [(h0, ce_Mo h0_op h0_argument h0_balance h0_inbox h0_real h0_hand h0_payee h0_paid h0_drawn h0_challenger h0_low h0_high h0_agreed h0_disputed h0_posted h0_middle h0_deadline h0_running h0_node h0_side (u.1.1, u.1.2.1, u.1.2.2.1, u.1.2.2.2.1, u.1.2.2.2.2.1, u.1.2.2.2.2.2.1, r45, u.1.2.2.2.2.2.2.2.1, u.1.2.2.2.2.2.2.2.2.1, u.1.2.2.2.2.2.2.2.2.2.1, u.1.2.2.2.2.2.2.2.2.2.2.1, u.1.2.2.2.2.2.2.2.2.2.2.2.1, u.1.2.2.2.2.2.2.2.2.2.2.2.2.1, u.1.2.2.2.2.2.2.2.2.2.2.2.2.2.1, u.1.2.2.2.2.2.2.2.2.2.2.2.2.2.2)), (h0_op, .inl (c0_op, 16, .inl u.2.1)), (h0_argument, .inl (c0_argument, 16, .inl u.2.2.1)), (h0_inbox, .inl (c0_inbox, 60, .inl u.2.2.2.1)), (h0_hand, .inl (c0_hand, 13, .inl (upd (upd u.2.2.2.2 4 f47) 0 y6)))]) [0, 1, 2, 3, 4] rfl
                            have hD9 := hD.sub (ws' := [(h0, ce_Mo h0_op h0_argument h0_balance h0_inbox h0_real h0_hand h0_payee h0_paid h0_drawn h0_challenger h0_low h0_high h0_agreed h0_disputed h0_posted h0_middle h0_deadline h0_running h0_node h0_side (u.1.1, u.1.2.1, u.1.2.2.1, u.1.2.2.2.1, u.1.2.2.2.2.1, u.1.2.2.2.2.2.1, r45, u.1.2.2.2.2.2.2.2.1, u.1.2.2.2.2.2.2.2.2.1, u.1.2.2.2.2.2.2.2.2.2.1, u.1.2.2.2.2.2.2.2.2.2.2.1, u.1.2.2.2.2.2.2.2.2.2.2.2.1, u.1.2.2.2.2.2.2.2.2.2.2.2.2.1, u.1.2.2.2.2.2.2.2.2.2.2.2.2.2.1, u.1.2.2.2.2.2.2.2.2.2.2.2.2.2.2)), (h0_op, .inl (c0_op, 16, .inl u.2.1)), (h0_argument, .inl (c0_argument, 16, .inl u.2.2.1)), (h0_inbox, .inl (c0_inbox, 60, .inl u.2.2.2.1)), (h0_hand, .inl (c0_hand, 13, .inl (upd (upd u.2.2.2.2 4 f47) 0 y6)))]) [0, 1, 2, 3, 4] (by decide) rfl
                            have hK9 := hK.sub (tys' := [(c0_op, .int), (c0_argument, .int), (c0_inbox, .int), (c0_hand, .int)]) [0, 1, 2, 3] rfl
                            exact W.vret hx hb hr (fun t ht hW => ⟨⟨((u.1.1, u.1.2.1, u.1.2.2.1, u.1.2.2.2.1, u.1.2.2.2.2.1, u.1.2.2.2.2.2.1, r45, u.1.2.2.2.2.2.2.2.1, u.1.2.2.2.2.2.2.2.2.1, u.1.2.2.2.2.2.2.2.2.2.1, u.1.2.2.2.2.2.2.2.2.2.2.1, u.1.2.2.2.2.2.2.2.2.2.2.2.1, u.1.2.2.2.2.2.2.2.2.2.2.2.2.1, u.1.2.2.2.2.2.2.2.2.2.2.2.2.2.1, u.1.2.2.2.2.2.2.2.2.2.2.2.2.2.2), u.2.1, u.2.2.1, u.2.2.2.1, (upd (upd u.2.2.2.2 4 f47) 0 y6)), rfl, hw, by rw [ht]; exact hP9, va_K.moved hW.alike hK9, hD9⟩, hS.F ht⟩) hS.2.2 dMo_step_379
                          · first | exact absurd cc48 (by decide) | exact (cc48 (by decide)).elim
                      · have hw := hw.1 cc22
                        refine lv_aload_n hx hb dMo_step_257 rfl (lv_at hl 8 rfl) ?_
                        refine va_get (D := (dC, dI)) (ci := 8) (v := .ref h0_hand) (C := "StepCourtModel") (T := TMo) (N := 35) hx hb hq inMo hown hK hP 0 rfl rfl 11 (by decide) (hq _ wt_745) (fun _ h9 => h9) rfl dMo_step_258 ?_
                        refine lv_iconst (v := 1) hx hb dMo_step_261 (by decide) ?_
                        refine lv_aload_n hx hb dMo_step_262 rfl (lv_at hl 8 rfl) ?_
                        refine lv_aload_n hx hb dMo_step_263 rfl (lv_at hl 8 rfl) ?_
                        refine va_get (D := (dC, dI)) (ci := 8) (v := .ref h0_hand) (C := "StepCourtModel") (T := TMo) (N := 35) hx hb hq inMo hown hK hP 0 rfl rfl 11 (by decide) (hq _ wt_745) (fun _ h9 => h9) rfl dMo_step_264 ?_
                        refine lv_iconst (v := 3) hx hb dMo_step_267 (by decide) ?_
                        refine va_iald hx hb hK hP 4 3 rfl rfl (show ¬ ((3 : Int32) < 0 ∨ 13 ≤ (3 : Int32).toNatClampNeg) by decide) dMo_step_268 ?_
                        refine W.eq (g2 := F0 m 269 ls [.int (u.2.2.2.2 3), .ref h0, .int 1, .ref h0_hand]) rfl ?_
                        have hPc := hP.sub (ws' := [(h0, ce_Mo h0_op h0_argument h0_balance h0_inbox h0_real h0_hand h0_payee h0_paid h0_drawn h0_challenger h0_low h0_high h0_agreed h0_disputed h0_posted h0_middle h0_deadline h0_running h0_node h0_side u.1), (h0_inbox, .inl (c0_inbox, 60, .inl u.2.2.2.1))]) [0, 3] rfl
                        have hDc := hD.sub (ws' := [(h0, ce_Mo h0_op h0_argument h0_balance h0_inbox h0_real h0_hand h0_payee h0_paid h0_drawn h0_challenger h0_low h0_high h0_agreed h0_disputed h0_posted h0_middle h0_deadline h0_running h0_node h0_side u.1), (h0_inbox, .inl (c0_inbox, 60, .inl u.2.2.2.1))]) [0, 3] (by decide) rfl
                        have hKc := hK.sub (tys' := [(c0_inbox, .int)]) [2] rfl
                        have hFc := va_free (wc := [(h0, ce_Mo h0_op h0_argument h0_balance h0_inbox h0_real h0_hand h0_payee h0_paid h0_drawn h0_challenger h0_low h0_high h0_agreed h0_disputed h0_posted h0_middle h0_deadline h0_running h0_node h0_side u.1), (h0_inbox, .inl (c0_inbox, 60, .inl u.2.2.2.1))]) hD hS hA [0, 3] rfl
                        refine va_calli (va_runV (As := [.int (u.2.2.2.2 3)]) (rest := [.int 1, .ref h0_hand]) ⟨hx, hb, hml, hown, hq⟩ (mt_Mo_wordAt l dC dI h0 h0_inbox h0_op h0_argument h0_balance h0_real h0_hand h0_payee h0_paid h0_drawn h0_challenger h0_low h0_high h0_agreed h0_disputed h0_posted h0_middle h0_deadline h0_running h0_node h0_side c0_inbox s.heap.size _ (u.1, u.2.2.2.1) (u.2.2.2.2 3) hw) ⟨cq_B 1 hq wt_882 wt_879 wt_10 rfl rfl hd_Mo_wordAt ⟨Nat.le_of_ble_eq_true rfl, Nat.le_of_ble_eq_true rfl⟩, (hq _ wt_881), (hq _ wv_29)⟩ ⟨kp_bl, va_recv hKc hPc (ci := 8) (q0 := 0) rfl rfl, kp_at hPc hKc hDc hZ⟩ rfl rfl hl.1 rfl (lv_room (Nat.le_of_ble_eq_true rfl)) dMo_step_269 ⟨(by decide), (by decide)⟩) hS (fun q _ h => hFc q h) hFc (fun r49 u50 t H1 locs ht hvm hw hB hz1 hk1 hS => ?_)
                        obtain ⟨hP1, hK1, hD1⟩ := hB
                        rw [ht] at hP1
                        have hK1 := va_K.moved hvm.symm hK1
                        obtain ⟨hP, hD⟩ := va_join (wr := [(h0_op, .inl (c0_op, 16, .inl u.2.1)), (h0_argument, .inl (c0_argument, 16, .inl u.2.2.1)), (h0_hand, .inl (c0_hand, 13, .inl u.2.2.2.2))]) (w1 := [(h0, ce_Mo h0_op h0_argument h0_balance h0_inbox h0_real h0_hand h0_payee h0_paid h0_drawn h0_challenger h0_low h0_high h0_agreed h0_disputed h0_posted h0_middle h0_deadline h0_running h0_node h0_side u50.1), (h0_inbox, .inl (c0_inbox, 60, .inl u50.2))]) hP hD [0, 3] [1, 2, 4] rfl rfl (by decide) (by decide) hk1 hFc hP1 hD1
                        have hK := (hK.sub (tys' := [(c0_op, .int), (c0_argument, .int), (c0_hand, .int)]) [0, 1, 3] rfl).app hK1
                        generalize H1 = H at hP hS ⊢
                        have hP : va_P (dC, dI) vwCl [(h0_op, .inl (c0_op, 16, .inl u.2.1)), (h0_argument, .inl (c0_argument, 16, .inl u.2.2.1)), (h0_hand, .inl (c0_hand, 13, .inl u.2.2.2.2)), (h0, ce_Mo h0_op h0_argument h0_balance h0_inbox h0_real h0_hand h0_payee h0_paid h0_drawn h0_challenger h0_low h0_high h0_agreed h0_disputed h0_posted h0_middle h0_deadline h0_running h0_node h0_side u50.1), (h0_inbox, .inl (c0_inbox, 60, .inl u50.2))] H := hP
                        have hD : va_D A [(h0_op, .inl (c0_op, 16, .inl u.2.1)), (h0_argument, .inl (c0_argument, 16, .inl u.2.2.1)), (h0_hand, .inl (c0_hand, 13, .inl u.2.2.2.2)), (h0, ce_Mo h0_op h0_argument h0_balance h0_inbox h0_real h0_hand h0_payee h0_paid h0_drawn h0_challenger h0_low h0_high h0_agreed h0_disputed h0_posted h0_middle h0_deadline h0_running h0_node h0_side u50.1), (h0_inbox, .inl (c0_inbox, 60, .inl u50.2))] := hD
                        have hK : va_K (dC, dI) vwCl [(c0_op, .int), (c0_argument, .int), (c0_hand, .int), (c0_inbox, .int)] s := hK
                        refine va_iast hx hb hK hP hD hS 2 2 rfl rfl (show ¬ ((1 : Int32) < 0 ∨ 13 ≤ (1 : Int32).toNatClampNeg) by decide) dMo_step_272 (fun H locs hP hD hS => ?_)
                        have hP : va_P (dC, dI) vwCl [(h0_op, .inl (c0_op, 16, .inl u.2.1)), (h0_argument, .inl (c0_argument, 16, .inl u.2.2.1)), (h0_hand, .inl (c0_hand, 13, .inl (upd u.2.2.2.2 1 r49))), (h0, ce_Mo h0_op h0_argument h0_balance h0_inbox h0_real h0_hand h0_payee h0_paid h0_drawn h0_challenger h0_low h0_high h0_agreed h0_disputed h0_posted h0_middle h0_deadline h0_running h0_node h0_side u50.1), (h0_inbox, .inl (c0_inbox, 60, .inl u50.2))] H := hP
                        have hD : va_D A [(h0_op, .inl (c0_op, 16, .inl u.2.1)), (h0_argument, .inl (c0_argument, 16, .inl u.2.2.1)), (h0_hand, .inl (c0_hand, 13, .inl (upd u.2.2.2.2 1 r49))), (h0, ce_Mo h0_op h0_argument h0_balance h0_inbox h0_real h0_hand h0_payee h0_paid h0_drawn h0_challenger h0_low h0_high h0_agreed h0_disputed h0_posted h0_middle h0_deadline h0_running h0_node h0_side u50.1), (h0_inbox, .inl (c0_inbox, 60, .inl u50.2))] := hD
                        refine lv_aload_n hx hb dMo_step_273 rfl (lv_at hl 8 rfl) ?_
                        refine va_get (D := (dC, dI)) (ci := 8) (v := .ref h0_hand) (C := "StepCourtModel") (T := TMo) (N := 35) hx hb hq inMo hown hK hP 3 rfl rfl 11 (by decide) (hq _ wt_745) (fun _ h9 => h9) rfl dMo_step_274 ?_
                        refine lv_iconst (v := 3) hx hb dMo_step_277 (by decide) ?_
                        refine lv_dup2_11 hx hb dMo_step_278 rfl rfl ?_
                        refine va_iald hx hb hK hP 2 2 rfl rfl (show ¬ ((3 : Int32) < 0 ∨ 13 ≤ (3 : Int32).toNatClampNeg) by decide) dMo_step_279 ?_
                        refine W.eq (g2 := F0 m 280 ls [.int ((upd u.2.2.2.2 1 r49) 3), .int 3, .ref h0_hand]) rfl ?_
                        refine lv_iconst (v := 1) hx hb dMo_step_280 (by decide) ?_
                        refine lv_iadd hx hb dMo_step_281 ?_
                        refine lv_topi (fun f51 ef51 => ?_)
                        have hw := hw f51 ef51
                        refine va_iast hx hb hK hP hD hS 2 2 rfl rfl (show ¬ ((3 : Int32) < 0 ∨ 13 ≤ (3 : Int32).toNatClampNeg) by decide) dMo_step_282 (fun H locs hP hD hS => ?_)
                        have hP : va_P (dC, dI) vwCl [(h0_op, .inl (c0_op, 16, .inl u.2.1)), (h0_argument, .inl (c0_argument, 16, .inl u.2.2.1)), (h0_hand, .inl (c0_hand, 13, .inl (upd (upd u.2.2.2.2 1 r49) 3 f51))), (h0, ce_Mo h0_op h0_argument h0_balance h0_inbox h0_real h0_hand h0_payee h0_paid h0_drawn h0_challenger h0_low h0_high h0_agreed h0_disputed h0_posted h0_middle h0_deadline h0_running h0_node h0_side u50.1), (h0_inbox, .inl (c0_inbox, 60, .inl u50.2))] H := hP
                        have hD : va_D A [(h0_op, .inl (c0_op, 16, .inl u.2.1)), (h0_argument, .inl (c0_argument, 16, .inl u.2.2.1)), (h0_hand, .inl (c0_hand, 13, .inl (upd (upd u.2.2.2.2 1 r49) 3 f51))), (h0, ce_Mo h0_op h0_argument h0_balance h0_inbox h0_real h0_hand h0_payee h0_paid h0_drawn h0_challenger h0_low h0_high h0_agreed h0_disputed h0_posted h0_middle h0_deadline h0_running h0_node h0_side u50.1), (h0_inbox, .inl (c0_inbox, 60, .inl u50.2))] := hD
                        refine lv_goto (tgt := 362) hx hb dMo_step_283 (by decide) ?_
                        refine lv_aload_n hx hb dMo_step_362 rfl (lv_at hl 8 rfl) ?_
                        refine va_get (D := (dC, dI)) (ci := 8) (v := .ref h0_hand) (C := "StepCourtModel") (T := TMo) (N := 35) hx hb hq inMo hown hK hP 3 rfl rfl 11 (by decide) (hq _ wt_745) (fun _ h9 => h9) rfl dMo_step_363 ?_
                        refine lv_iconst (v := 0) hx hb dMo_step_366 (by decide) ?_
                        refine lv_iload hx hb dMo_step_367 (lv_at hl 0 rfl) ?_
                        refine lv_if_eq (tgt := 376) hx hb dMo_step_369 (by decide) (fun cc52 => ?_) (fun cc52 => ?_)
                        · have hw := hw
                          refine lv_iload hx hb dMo_step_376 (lv_at hl 4 rfl) ?_
                          refine va_iast hx hb hK hP hD hS 2 2 rfl rfl (show ¬ ((0 : Int32) < 0 ∨ 13 ≤ (0 : Int32).toNatClampNeg) by decide) dMo_step_378 (fun H locs hP hD hS => ?_)
                          have hP : va_P (dC, dI) vwCl [(h0_op, .inl (c0_op, 16, .inl u.2.1)), (h0_argument, .inl (c0_argument, 16, .inl u.2.2.1)), (h0_hand, .inl (c0_hand, 13, .inl (upd (upd (upd u.2.2.2.2 1 r49) 3 f51) 0 y6))), (h0, ce_Mo h0_op h0_argument h0_balance h0_inbox h0_real h0_hand h0_payee h0_paid h0_drawn h0_challenger h0_low h0_high h0_agreed h0_disputed h0_posted h0_middle h0_deadline h0_running h0_node h0_side u50.1), (h0_inbox, .inl (c0_inbox, 60, .inl u50.2))] H := hP
                          have hD : va_D A [(h0_op, .inl (c0_op, 16, .inl u.2.1)), (h0_argument, .inl (c0_argument, 16, .inl u.2.2.1)), (h0_hand, .inl (c0_hand, 13, .inl (upd (upd (upd u.2.2.2.2 1 r49) 3 f51) 0 y6))), (h0, ce_Mo h0_op h0_argument h0_balance h0_inbox h0_real h0_hand h0_payee h0_paid h0_drawn h0_challenger h0_low h0_high h0_agreed h0_disputed h0_posted h0_middle h0_deadline h0_running h0_node h0_side u50.1), (h0_inbox, .inl (c0_inbox, 60, .inl u50.2))] := hD
                          have hP9 := hP.sub (ws' := [(h0, ce_Mo h0_op h0_argument h0_balance h0_inbox h0_real h0_hand h0_payee h0_paid h0_drawn h0_challenger h0_low h0_high h0_agreed h0_disputed h0_posted h0_middle h0_deadline h0_running h0_node h0_side u50.1), (h0_op, .inl (c0_op, 16, .inl u.2.1)), (h0_argument, .inl (c0_argument, 16, .inl u.2.2.1)), (h0_inbox, .inl (c0_inbox, 60, .inl u50.2)), (h0_hand, .inl (c0_hand, 13, .inl (upd (upd (upd u.2.2.2.2 1 r49) 3 f51) 0 y6)))]) [3, 0, 1, 4, 2] rfl
                          have hD9 := hD.sub (ws' := [(h0, ce_Mo h0_op h0_argument h0_balance h0_inbox h0_real h0_hand h0_payee h0_paid h0_drawn h0_challenger h0_low h0_high h0_agreed h0_disputed h0_posted h0_middle h0_deadline h0_running h0_node h0_side u50.1), (h0_op, .inl (c0_op, 16, .inl u.2.1)), (h0_argument, .inl (c0_argument, 16, .inl u.2.2.1)), (h0_inbox, .inl (c0_inbox, 60, .inl u50.2)), (h0_hand, .inl (c0_hand, 13, .inl (upd (upd (upd u.2.2.2.2 1 r49) 3 f51) 0 y6)))]) [3, 0, 1, 4, 2] (by decide) rfl
                          have hK9 := hK.sub (tys' := [(c0_op, .int), (c0_argument, .int), (c0_inbox, .int), (c0_hand, .int)]) [0, 1, 3, 2] rfl
                          exact W.vret hx hb hr (fun t ht hW => ⟨⟨(u50.1, u.2.1, u.2.2.1, u50.2, (upd (upd (upd u.2.2.2.2 1 r49) 3 f51) 0 y6)), rfl, hw, by rw [ht]; exact hP9, va_K.moved hW.alike hK9, hD9⟩, hS.F ht⟩) hS.2.2 dMo_step_379
                        · first | exact absurd cc52 (by decide) | exact (cc52 (by decide)).elim
                    · have hw := hw.1 cc21
                      refine lv_aload_n hx hb dMo_step_239 rfl (lv_at hl 8 rfl) ?_
                      refine va_get (D := (dC, dI)) (ci := 8) (v := .ref h0_hand) (C := "StepCourtModel") (T := TMo) (N := 35) hx hb hq inMo hown hK hP 0 rfl rfl 11 (by decide) (hq _ wt_745) (fun _ h9 => h9) rfl dMo_step_240 ?_
                      refine lv_iload hx hb dMo_step_243 (lv_at hl 1 rfl) ?_
                      refine lv_iload hx hb dMo_step_245 (lv_at hl 3 rfl) ?_
                      obtain ⟨hh53, hw⟩ := hw
                      refine va_iast hx hb hK hP hD hS 4 3 rfl rfl hh53 dMo_step_247 (fun H locs hP hD hS => ?_)
                      have hP : va_P (dC, dI) vwCl [(h0, ce_Mo h0_op h0_argument h0_balance h0_inbox h0_real h0_hand h0_payee h0_paid h0_drawn h0_challenger h0_low h0_high h0_agreed h0_disputed h0_posted h0_middle h0_deadline h0_running h0_node h0_side u.1), (h0_op, .inl (c0_op, 16, .inl u.2.1)), (h0_argument, .inl (c0_argument, 16, .inl u.2.2.1)), (h0_inbox, .inl (c0_inbox, 60, .inl u.2.2.2.1)), (h0_hand, .inl (c0_hand, 13, .inl (upd u.2.2.2.2 y9.toNatClampNeg y7)))] H := hP
                      have hD : va_D A [(h0, ce_Mo h0_op h0_argument h0_balance h0_inbox h0_real h0_hand h0_payee h0_paid h0_drawn h0_challenger h0_low h0_high h0_agreed h0_disputed h0_posted h0_middle h0_deadline h0_running h0_node h0_side u.1), (h0_op, .inl (c0_op, 16, .inl u.2.1)), (h0_argument, .inl (c0_argument, 16, .inl u.2.2.1)), (h0_inbox, .inl (c0_inbox, 60, .inl u.2.2.2.1)), (h0_hand, .inl (c0_hand, 13, .inl (upd u.2.2.2.2 y9.toNatClampNeg y7)))] := hD
                      refine lv_goto (tgt := 362) hx hb dMo_step_248 (by decide) ?_
                      refine lv_aload_n hx hb dMo_step_362 rfl (lv_at hl 8 rfl) ?_
                      refine va_get (D := (dC, dI)) (ci := 8) (v := .ref h0_hand) (C := "StepCourtModel") (T := TMo) (N := 35) hx hb hq inMo hown hK hP 0 rfl rfl 11 (by decide) (hq _ wt_745) (fun _ h9 => h9) rfl dMo_step_363 ?_
                      refine lv_iconst (v := 0) hx hb dMo_step_366 (by decide) ?_
                      refine lv_iload hx hb dMo_step_367 (lv_at hl 0 rfl) ?_
                      refine lv_if_eq (tgt := 376) hx hb dMo_step_369 (by decide) (fun cc54 => ?_) (fun cc54 => ?_)
                      · have hw := hw
                        refine lv_iload hx hb dMo_step_376 (lv_at hl 4 rfl) ?_
                        refine va_iast hx hb hK hP hD hS 4 3 rfl rfl (show ¬ ((0 : Int32) < 0 ∨ 13 ≤ (0 : Int32).toNatClampNeg) by decide) dMo_step_378 (fun H locs hP hD hS => ?_)
                        have hP : va_P (dC, dI) vwCl [(h0, ce_Mo h0_op h0_argument h0_balance h0_inbox h0_real h0_hand h0_payee h0_paid h0_drawn h0_challenger h0_low h0_high h0_agreed h0_disputed h0_posted h0_middle h0_deadline h0_running h0_node h0_side u.1), (h0_op, .inl (c0_op, 16, .inl u.2.1)), (h0_argument, .inl (c0_argument, 16, .inl u.2.2.1)), (h0_inbox, .inl (c0_inbox, 60, .inl u.2.2.2.1)), (h0_hand, .inl (c0_hand, 13, .inl (upd (upd u.2.2.2.2 y9.toNatClampNeg y7) 0 y6)))] H := hP
                        have hD : va_D A [(h0, ce_Mo h0_op h0_argument h0_balance h0_inbox h0_real h0_hand h0_payee h0_paid h0_drawn h0_challenger h0_low h0_high h0_agreed h0_disputed h0_posted h0_middle h0_deadline h0_running h0_node h0_side u.1), (h0_op, .inl (c0_op, 16, .inl u.2.1)), (h0_argument, .inl (c0_argument, 16, .inl u.2.2.1)), (h0_inbox, .inl (c0_inbox, 60, .inl u.2.2.2.1)), (h0_hand, .inl (c0_hand, 13, .inl (upd (upd u.2.2.2.2 y9.toNatClampNeg y7) 0 y6)))] := hD
                        have hP9 := hP.sub (ws' := [(h0, ce_Mo h0_op h0_argument h0_balance h0_inbox h0_real h0_hand h0_payee h0_paid h0_drawn h0_challenger h0_low h0_high h0_agreed h0_disputed h0_posted h0_middle h0_deadline h0_running h0_node h0_side u.1), (h0_op, .inl (c0_op, 16, .inl u.2.1)), (h0_argument, .inl (c0_argument, 16, .inl u.2.2.1)), (h0_inbox, .inl (c0_inbox, 60, .inl u.2.2.2.1)), (h0_hand, .inl (c0_hand, 13, .inl (upd (upd u.2.2.2.2 y9.toNatClampNeg y7) 0 y6)))]) [0, 1, 2, 3, 4] rfl
                        have hD9 := hD.sub (ws' := [(h0, ce_Mo h0_op h0_argument h0_balance h0_inbox h0_real h0_hand h0_payee h0_paid h0_drawn h0_challenger h0_low h0_high h0_agreed h0_disputed h0_posted h0_middle h0_deadline h0_running h0_node h0_side u.1), (h0_op, .inl (c0_op, 16, .inl u.2.1)), (h0_argument, .inl (c0_argument, 16, .inl u.2.2.1)), (h0_inbox, .inl (c0_inbox, 60, .inl u.2.2.2.1)), (h0_hand, .inl (c0_hand, 13, .inl (upd (upd u.2.2.2.2 y9.toNatClampNeg y7) 0 y6)))]) [0, 1, 2, 3, 4] (by decide) rfl
                        have hK9 := hK.sub (tys' := [(c0_op, .int), (c0_argument, .int), (c0_inbox, .int), (c0_hand, .int)]) [0, 1, 2, 3] rfl
                        exact W.vret hx hb hr (fun t ht hW => ⟨⟨(u.1, u.2.1, u.2.2.1, u.2.2.2.1, (upd (upd u.2.2.2.2 y9.toNatClampNeg y7) 0 y6)), rfl, hw, by rw [ht]; exact hP9, va_K.moved hW.alike hK9, hD9⟩, hS.F ht⟩) hS.2.2 dMo_step_379
                      · first | exact absurd cc54 (by decide) | exact (cc54 (by decide)).elim
                  · have hw := hw.1 cc20
                    refine lv_aload_n hx hb dMo_step_217 rfl (lv_at hl 8 rfl) ?_
                    refine va_get (D := (dC, dI)) (ci := 8) (v := .ref h0_hand) (C := "StepCourtModel") (T := TMo) (N := 35) hx hb hq inMo hown hK hP 0 rfl rfl 11 (by decide) (hq _ wt_745) (fun _ h9 => h9) rfl dMo_step_218 ?_
                    refine lv_iconst (v := 1) hx hb dMo_step_221 (by decide) ?_
                    refine lv_aload_n hx hb dMo_step_222 rfl (lv_at hl 8 rfl) ?_
                    refine va_get (D := (dC, dI)) (ci := 8) (v := .ref h0_hand) (C := "StepCourtModel") (T := TMo) (N := 35) hx hb hq inMo hown hK hP 0 rfl rfl 11 (by decide) (hq _ wt_745) (fun _ h9 => h9) rfl dMo_step_223 ?_
                    refine lv_iload hx hb dMo_step_226 (lv_at hl 1 rfl) ?_
                    obtain ⟨hh55, hw⟩ := hw
                    refine va_iald hx hb hK hP 4 3 rfl rfl hh55 dMo_step_228 ?_
                    refine lv_topi (fun f56 ef56 => ?_)
                    have hw := hw f56 ef56
                    refine va_iast hx hb hK hP hD hS 4 3 rfl rfl (show ¬ ((1 : Int32) < 0 ∨ 13 ≤ (1 : Int32).toNatClampNeg) by decide) dMo_step_229 (fun H locs hP hD hS => ?_)
                    have hP : va_P (dC, dI) vwCl [(h0, ce_Mo h0_op h0_argument h0_balance h0_inbox h0_real h0_hand h0_payee h0_paid h0_drawn h0_challenger h0_low h0_high h0_agreed h0_disputed h0_posted h0_middle h0_deadline h0_running h0_node h0_side u.1), (h0_op, .inl (c0_op, 16, .inl u.2.1)), (h0_argument, .inl (c0_argument, 16, .inl u.2.2.1)), (h0_inbox, .inl (c0_inbox, 60, .inl u.2.2.2.1)), (h0_hand, .inl (c0_hand, 13, .inl (upd u.2.2.2.2 1 f56)))] H := hP
                    have hD : va_D A [(h0, ce_Mo h0_op h0_argument h0_balance h0_inbox h0_real h0_hand h0_payee h0_paid h0_drawn h0_challenger h0_low h0_high h0_agreed h0_disputed h0_posted h0_middle h0_deadline h0_running h0_node h0_side u.1), (h0_op, .inl (c0_op, 16, .inl u.2.1)), (h0_argument, .inl (c0_argument, 16, .inl u.2.2.1)), (h0_inbox, .inl (c0_inbox, 60, .inl u.2.2.2.1)), (h0_hand, .inl (c0_hand, 13, .inl (upd u.2.2.2.2 1 f56)))] := hD
                    refine lv_goto (tgt := 362) hx hb dMo_step_230 (by decide) ?_
                    refine lv_aload_n hx hb dMo_step_362 rfl (lv_at hl 8 rfl) ?_
                    refine va_get (D := (dC, dI)) (ci := 8) (v := .ref h0_hand) (C := "StepCourtModel") (T := TMo) (N := 35) hx hb hq inMo hown hK hP 0 rfl rfl 11 (by decide) (hq _ wt_745) (fun _ h9 => h9) rfl dMo_step_363 ?_
                    refine lv_iconst (v := 0) hx hb dMo_step_366 (by decide) ?_
                    refine lv_iload hx hb dMo_step_367 (lv_at hl 0 rfl) ?_
                    refine lv_if_eq (tgt := 376) hx hb dMo_step_369 (by decide) (fun cc57 => ?_) (fun cc57 => ?_)
                    · have hw := hw
                      refine lv_iload hx hb dMo_step_376 (lv_at hl 4 rfl) ?_
                      refine va_iast hx hb hK hP hD hS 4 3 rfl rfl (show ¬ ((0 : Int32) < 0 ∨ 13 ≤ (0 : Int32).toNatClampNeg) by decide) dMo_step_378 (fun H locs hP hD hS => ?_)
                      have hP : va_P (dC, dI) vwCl [(h0, ce_Mo h0_op h0_argument h0_balance h0_inbox h0_real h0_hand h0_payee h0_paid h0_drawn h0_challenger h0_low h0_high h0_agreed h0_disputed h0_posted h0_middle h0_deadline h0_running h0_node h0_side u.1), (h0_op, .inl (c0_op, 16, .inl u.2.1)), (h0_argument, .inl (c0_argument, 16, .inl u.2.2.1)), (h0_inbox, .inl (c0_inbox, 60, .inl u.2.2.2.1)), (h0_hand, .inl (c0_hand, 13, .inl (upd (upd u.2.2.2.2 1 f56) 0 y6)))] H := hP
                      have hD : va_D A [(h0, ce_Mo h0_op h0_argument h0_balance h0_inbox h0_real h0_hand h0_payee h0_paid h0_drawn h0_challenger h0_low h0_high h0_agreed h0_disputed h0_posted h0_middle h0_deadline h0_running h0_node h0_side u.1), (h0_op, .inl (c0_op, 16, .inl u.2.1)), (h0_argument, .inl (c0_argument, 16, .inl u.2.2.1)), (h0_inbox, .inl (c0_inbox, 60, .inl u.2.2.2.1)), (h0_hand, .inl (c0_hand, 13, .inl (upd (upd u.2.2.2.2 1 f56) 0 y6)))] := hD
                      have hP9 := hP.sub (ws' := [(h0, ce_Mo h0_op h0_argument h0_balance h0_inbox h0_real h0_hand h0_payee h0_paid h0_drawn h0_challenger h0_low h0_high h0_agreed h0_disputed h0_posted h0_middle h0_deadline h0_running h0_node h0_side u.1), (h0_op, .inl (c0_op, 16, .inl u.2.1)), (h0_argument, .inl (c0_argument, 16, .inl u.2.2.1)), (h0_inbox, .inl (c0_inbox, 60, .inl u.2.2.2.1)), (h0_hand, .inl (c0_hand, 13, .inl (upd (upd u.2.2.2.2 1 f56) 0 y6)))]) [0, 1, 2, 3, 4] rfl
                      have hD9 := hD.sub (ws' := [(h0, ce_Mo h0_op h0_argument h0_balance h0_inbox h0_real h0_hand h0_payee h0_paid h0_drawn h0_challenger h0_low h0_high h0_agreed h0_disputed h0_posted h0_middle h0_deadline h0_running h0_node h0_side u.1), (h0_op, .inl (c0_op, 16, .inl u.2.1)), (h0_argument, .inl (c0_argument, 16, .inl u.2.2.1)), (h0_inbox, .inl (c0_inbox, 60, .inl u.2.2.2.1)), (h0_hand, .inl (c0_hand, 13, .inl (upd (upd u.2.2.2.2 1 f56) 0 y6)))]) [0, 1, 2, 3, 4] (by decide) rfl
                      have hK9 := hK.sub (tys' := [(c0_op, .int), (c0_argument, .int), (c0_inbox, .int), (c0_hand, .int)]) [0, 1, 2, 3] rfl
                      exact W.vret hx hb hr (fun t ht hW => ⟨⟨(u.1, u.2.1, u.2.2.1, u.2.2.2.1, (upd (upd u.2.2.2.2 1 f56) 0 y6)), rfl, hw, by rw [ht]; exact hP9, va_K.moved hW.alike hK9, hD9⟩, hS.F ht⟩) hS.2.2 dMo_step_379
                    · first | exact absurd cc57 (by decide) | exact (cc57 (by decide)).elim
                · have hw := hw.2 cc19
                  refine lv_iload_n hx hb dMo_step_165 rfl (lv_at hl 6 rfl) ?_
                  refine lv_bipush (v := 6) hx hb dMo_step_166 (by decide) ?_
                  refine lv_icmp_gt (tgt := 211) hx hb dMo_step_168 (by decide) (fun cc58 => ?_) (fun cc58 => ?_)
                  · have hw := hw.1 cc58
                    refine lv_iload_n hx hb dMo_step_211 rfl (lv_at hl 6 rfl) ?_
                    refine lv_bipush (v := 7) hx hb dMo_step_212 (by decide) ?_
                    refine lv_icmp_ne (tgt := 233) hx hb dMo_step_214 (by decide) (fun cc59 => ?_) (fun cc59 => ?_)
                    · have hw := hw.2 cc59
                      refine lv_iload_n hx hb dMo_step_233 rfl (lv_at hl 6 rfl) ?_
                      refine lv_bipush (v := 8) hx hb dMo_step_234 (by decide) ?_
                      refine lv_icmp_ne (tgt := 251) hx hb dMo_step_236 (by decide) (fun cc60 => ?_) (fun cc60 => ?_)
                      · have hw := hw.2 cc60
                        refine lv_iload_n hx hb dMo_step_251 rfl (lv_at hl 6 rfl) ?_
                        refine lv_bipush (v := 9) hx hb dMo_step_252 (by decide) ?_
                        refine lv_icmp_ne (tgt := 286) hx hb dMo_step_254 (by decide) (fun cc61 => ?_) (fun cc61 => ?_)
                        · have hw := hw.2 cc61
                          refine lv_iload_n hx hb dMo_step_286 rfl (lv_at hl 6 rfl) ?_
                          refine lv_bipush (v := 13) hx hb dMo_step_287 (by decide) ?_
                          refine lv_icmp_ne (tgt := 327) hx hb dMo_step_289 (by decide) (fun cc62 => ?_) (fun cc62 => ?_)
                          · have hw := hw.2 cc62
                            refine lv_iload_n hx hb dMo_step_327 rfl (lv_at hl 6 rfl) ?_
                            refine lv_bipush (v := 10) hx hb dMo_step_328 (by decide) ?_
                            refine lv_icmp_eq (tgt := 355) hx hb dMo_step_330 (by decide) (fun cc63 => ?_) (fun cc63 => ?_)
                            · have hw := hw.1 cc63
                              refine lv_iload hx hb dMo_step_355 (lv_at hl 5 rfl) ?_
                              refine lv_bipush (v := 15) hx hb dMo_step_357 (by decide) ?_
                              refine lv_iand hx hb dMo_step_359 ?_
                              refine lv_topi (fun y64 ey64 => ?_)
                              have hw := hw y64 ey64
                              refine lv_istore (lv' := [(5, .int y64), (9, .int 0), (8, .int y9), (7, .int y8), (6, .int y7), (4, .int y5), (3, .int y3), (2, .int y1), (0, .ref h0), (1, .int k1)]) hx hb dMo_step_360 hl (by decide) rfl (fun ls hl => ?_)
                              refine lv_aload_n hx hb dMo_step_362 rfl (lv_at hl 8 rfl) ?_
                              refine va_get (D := (dC, dI)) (ci := 8) (v := .ref h0_hand) (C := "StepCourtModel") (T := TMo) (N := 35) hx hb hq inMo hown hK hP 0 rfl rfl 11 (by decide) (hq _ wt_745) (fun _ h9 => h9) rfl dMo_step_363 ?_
                              refine lv_iconst (v := 0) hx hb dMo_step_366 (by decide) ?_
                              refine lv_iload hx hb dMo_step_367 (lv_at hl 1 rfl) ?_
                              refine lv_if_eq (tgt := 376) hx hb dMo_step_369 (by decide) (fun cc65 => ?_) (fun cc65 => ?_)
                              · have hw := hw
                                refine lv_iload hx hb dMo_step_376 (lv_at hl 0 rfl) ?_
                                refine va_iast hx hb hK hP hD hS 4 3 rfl rfl (show ¬ ((0 : Int32) < 0 ∨ 13 ≤ (0 : Int32).toNatClampNeg) by decide) dMo_step_378 (fun H locs hP hD hS => ?_)
                                have hP : va_P (dC, dI) vwCl [(h0, ce_Mo h0_op h0_argument h0_balance h0_inbox h0_real h0_hand h0_payee h0_paid h0_drawn h0_challenger h0_low h0_high h0_agreed h0_disputed h0_posted h0_middle h0_deadline h0_running h0_node h0_side u.1), (h0_op, .inl (c0_op, 16, .inl u.2.1)), (h0_argument, .inl (c0_argument, 16, .inl u.2.2.1)), (h0_inbox, .inl (c0_inbox, 60, .inl u.2.2.2.1)), (h0_hand, .inl (c0_hand, 13, .inl (upd u.2.2.2.2 0 y64)))] H := hP
                                have hD : va_D A [(h0, ce_Mo h0_op h0_argument h0_balance h0_inbox h0_real h0_hand h0_payee h0_paid h0_drawn h0_challenger h0_low h0_high h0_agreed h0_disputed h0_posted h0_middle h0_deadline h0_running h0_node h0_side u.1), (h0_op, .inl (c0_op, 16, .inl u.2.1)), (h0_argument, .inl (c0_argument, 16, .inl u.2.2.1)), (h0_inbox, .inl (c0_inbox, 60, .inl u.2.2.2.1)), (h0_hand, .inl (c0_hand, 13, .inl (upd u.2.2.2.2 0 y64)))] := hD
                                have hP9 := hP.sub (ws' := [(h0, ce_Mo h0_op h0_argument h0_balance h0_inbox h0_real h0_hand h0_payee h0_paid h0_drawn h0_challenger h0_low h0_high h0_agreed h0_disputed h0_posted h0_middle h0_deadline h0_running h0_node h0_side u.1), (h0_op, .inl (c0_op, 16, .inl u.2.1)), (h0_argument, .inl (c0_argument, 16, .inl u.2.2.1)), (h0_inbox, .inl (c0_inbox, 60, .inl u.2.2.2.1)), (h0_hand, .inl (c0_hand, 13, .inl (upd u.2.2.2.2 0 y64)))]) [0, 1, 2, 3, 4] rfl
                                have hD9 := hD.sub (ws' := [(h0, ce_Mo h0_op h0_argument h0_balance h0_inbox h0_real h0_hand h0_payee h0_paid h0_drawn h0_challenger h0_low h0_high h0_agreed h0_disputed h0_posted h0_middle h0_deadline h0_running h0_node h0_side u.1), (h0_op, .inl (c0_op, 16, .inl u.2.1)), (h0_argument, .inl (c0_argument, 16, .inl u.2.2.1)), (h0_inbox, .inl (c0_inbox, 60, .inl u.2.2.2.1)), (h0_hand, .inl (c0_hand, 13, .inl (upd u.2.2.2.2 0 y64)))]) [0, 1, 2, 3, 4] (by decide) rfl
                                have hK9 := hK.sub (tys' := [(c0_op, .int), (c0_argument, .int), (c0_inbox, .int), (c0_hand, .int)]) [0, 1, 2, 3] rfl
                                exact W.vret hx hb hr (fun t ht hW => ⟨⟨(u.1, u.2.1, u.2.2.1, u.2.2.2.1, (upd u.2.2.2.2 0 y64)), rfl, hw, by rw [ht]; exact hP9, va_K.moved hW.alike hK9, hD9⟩, hS.F ht⟩) hS.2.2 dMo_step_379
                              · first | exact absurd cc65 (by decide) | exact (cc65 (by decide)).elim
                            · have hw := hw.2 cc63
                              refine lv_iload_n hx hb dMo_step_333 rfl (lv_at hl 6 rfl) ?_
                              refine lv_bipush (v := 11) hx hb dMo_step_334 (by decide) ?_
                              refine lv_icmp_ne (tgt := 344) hx hb dMo_step_336 (by decide) (fun cc66 => ?_) (fun cc66 => ?_)
                              · have hw := hw.2 cc66
                                refine lv_iload_n hx hb dMo_step_344 rfl (lv_at hl 6 rfl) ?_
                                refine lv_bipush (v := 12) hx hb dMo_step_345 (by decide) ?_
                                refine lv_icmp_ne (tgt := 362) hx hb dMo_step_347 (by decide) (fun cc67 => ?_) (fun cc67 => ?_)
                                · have hw := hw.2 cc67
                                  refine lv_aload_n hx hb dMo_step_362 rfl (lv_at hl 8 rfl) ?_
                                  refine va_get (D := (dC, dI)) (ci := 8) (v := .ref h0_hand) (C := "StepCourtModel") (T := TMo) (N := 35) hx hb hq inMo hown hK hP 0 rfl rfl 11 (by decide) (hq _ wt_745) (fun _ h9 => h9) rfl dMo_step_363 ?_
                                  refine lv_iconst (v := 0) hx hb dMo_step_366 (by decide) ?_
                                  refine lv_iload hx hb dMo_step_367 (lv_at hl 0 rfl) ?_
                                  refine lv_if_eq (tgt := 376) hx hb dMo_step_369 (by decide) (fun cc68 => ?_) (fun cc68 => ?_)
                                  · have hw := hw
                                    refine lv_iload hx hb dMo_step_376 (lv_at hl 4 rfl) ?_
                                    refine va_iast hx hb hK hP hD hS 4 3 rfl rfl (show ¬ ((0 : Int32) < 0 ∨ 13 ≤ (0 : Int32).toNatClampNeg) by decide) dMo_step_378 (fun H locs hP hD hS => ?_)
                                    have hP : va_P (dC, dI) vwCl [(h0, ce_Mo h0_op h0_argument h0_balance h0_inbox h0_real h0_hand h0_payee h0_paid h0_drawn h0_challenger h0_low h0_high h0_agreed h0_disputed h0_posted h0_middle h0_deadline h0_running h0_node h0_side u.1), (h0_op, .inl (c0_op, 16, .inl u.2.1)), (h0_argument, .inl (c0_argument, 16, .inl u.2.2.1)), (h0_inbox, .inl (c0_inbox, 60, .inl u.2.2.2.1)), (h0_hand, .inl (c0_hand, 13, .inl (upd u.2.2.2.2 0 y6)))] H := hP
                                    have hD : va_D A [(h0, ce_Mo h0_op h0_argument h0_balance h0_inbox h0_real h0_hand h0_payee h0_paid h0_drawn h0_challenger h0_low h0_high h0_agreed h0_disputed h0_posted h0_middle h0_deadline h0_running h0_node h0_side u.1), (h0_op, .inl (c0_op, 16, .inl u.2.1)), (h0_argument, .inl (c0_argument, 16, .inl u.2.2.1)), (h0_inbox, .inl (c0_inbox, 60, .inl u.2.2.2.1)), (h0_hand, .inl (c0_hand, 13, .inl (upd u.2.2.2.2 0 y6)))] := hD
                                    have hP9 := hP.sub (ws' := [(h0, ce_Mo h0_op h0_argument h0_balance h0_inbox h0_real h0_hand h0_payee h0_paid h0_drawn h0_challenger h0_low h0_high h0_agreed h0_disputed h0_posted h0_middle h0_deadline h0_running h0_node h0_side u.1), (h0_op, .inl (c0_op, 16, .inl u.2.1)), (h0_argument, .inl (c0_argument, 16, .inl u.2.2.1)), (h0_inbox, .inl (c0_inbox, 60, .inl u.2.2.2.1)), (h0_hand, .inl (c0_hand, 13, .inl (upd u.2.2.2.2 0 y6)))]) [0, 1, 2, 3, 4] rfl
                                    have hD9 := hD.sub (ws' := [(h0, ce_Mo h0_op h0_argument h0_balance h0_inbox h0_real h0_hand h0_payee h0_paid h0_drawn h0_challenger h0_low h0_high h0_agreed h0_disputed h0_posted h0_middle h0_deadline h0_running h0_node h0_side u.1), (h0_op, .inl (c0_op, 16, .inl u.2.1)), (h0_argument, .inl (c0_argument, 16, .inl u.2.2.1)), (h0_inbox, .inl (c0_inbox, 60, .inl u.2.2.2.1)), (h0_hand, .inl (c0_hand, 13, .inl (upd u.2.2.2.2 0 y6)))]) [0, 1, 2, 3, 4] (by decide) rfl
                                    have hK9 := hK.sub (tys' := [(c0_op, .int), (c0_argument, .int), (c0_inbox, .int), (c0_hand, .int)]) [0, 1, 2, 3] rfl
                                    exact W.vret hx hb hr (fun t ht hW => ⟨⟨(u.1, u.2.1, u.2.2.1, u.2.2.2.1, (upd u.2.2.2.2 0 y6)), rfl, hw, by rw [ht]; exact hP9, va_K.moved hW.alike hK9, hD9⟩, hS.F ht⟩) hS.2.2 dMo_step_379
                                  · first | exact absurd cc68 (by decide) | exact (cc68 (by decide)).elim
                                · have hw := hw.1 cc67
                                  refine lv_iload hx hb dMo_step_350 (lv_at hl 3 rfl) ?_
                                  refine lv_if_ge (tgt := 362) hx hb dMo_step_352 (by decide) (fun cc69 => ?_) (fun cc69 => ?_)
                                  · have hw := hw.1 cc69
                                    refine lv_aload_n hx hb dMo_step_362 rfl (lv_at hl 8 rfl) ?_
                                    refine va_get (D := (dC, dI)) (ci := 8) (v := .ref h0_hand) (C := "StepCourtModel") (T := TMo) (N := 35) hx hb hq inMo hown hK hP 0 rfl rfl 11 (by decide) (hq _ wt_745) (fun _ h9 => h9) rfl dMo_step_363 ?_
                                    refine lv_iconst (v := 0) hx hb dMo_step_366 (by decide) ?_
                                    refine lv_iload hx hb dMo_step_367 (lv_at hl 0 rfl) ?_
                                    refine lv_if_eq (tgt := 376) hx hb dMo_step_369 (by decide) (fun cc70 => ?_) (fun cc70 => ?_)
                                    · have hw := hw
                                      refine lv_iload hx hb dMo_step_376 (lv_at hl 4 rfl) ?_
                                      refine va_iast hx hb hK hP hD hS 4 3 rfl rfl (show ¬ ((0 : Int32) < 0 ∨ 13 ≤ (0 : Int32).toNatClampNeg) by decide) dMo_step_378 (fun H locs hP hD hS => ?_)
                                      have hP : va_P (dC, dI) vwCl [(h0, ce_Mo h0_op h0_argument h0_balance h0_inbox h0_real h0_hand h0_payee h0_paid h0_drawn h0_challenger h0_low h0_high h0_agreed h0_disputed h0_posted h0_middle h0_deadline h0_running h0_node h0_side u.1), (h0_op, .inl (c0_op, 16, .inl u.2.1)), (h0_argument, .inl (c0_argument, 16, .inl u.2.2.1)), (h0_inbox, .inl (c0_inbox, 60, .inl u.2.2.2.1)), (h0_hand, .inl (c0_hand, 13, .inl (upd u.2.2.2.2 0 y6)))] H := hP
                                      have hD : va_D A [(h0, ce_Mo h0_op h0_argument h0_balance h0_inbox h0_real h0_hand h0_payee h0_paid h0_drawn h0_challenger h0_low h0_high h0_agreed h0_disputed h0_posted h0_middle h0_deadline h0_running h0_node h0_side u.1), (h0_op, .inl (c0_op, 16, .inl u.2.1)), (h0_argument, .inl (c0_argument, 16, .inl u.2.2.1)), (h0_inbox, .inl (c0_inbox, 60, .inl u.2.2.2.1)), (h0_hand, .inl (c0_hand, 13, .inl (upd u.2.2.2.2 0 y6)))] := hD
                                      have hP9 := hP.sub (ws' := [(h0, ce_Mo h0_op h0_argument h0_balance h0_inbox h0_real h0_hand h0_payee h0_paid h0_drawn h0_challenger h0_low h0_high h0_agreed h0_disputed h0_posted h0_middle h0_deadline h0_running h0_node h0_side u.1), (h0_op, .inl (c0_op, 16, .inl u.2.1)), (h0_argument, .inl (c0_argument, 16, .inl u.2.2.1)), (h0_inbox, .inl (c0_inbox, 60, .inl u.2.2.2.1)), (h0_hand, .inl (c0_hand, 13, .inl (upd u.2.2.2.2 0 y6)))]) [0, 1, 2, 3, 4] rfl
                                      have hD9 := hD.sub (ws' := [(h0, ce_Mo h0_op h0_argument h0_balance h0_inbox h0_real h0_hand h0_payee h0_paid h0_drawn h0_challenger h0_low h0_high h0_agreed h0_disputed h0_posted h0_middle h0_deadline h0_running h0_node h0_side u.1), (h0_op, .inl (c0_op, 16, .inl u.2.1)), (h0_argument, .inl (c0_argument, 16, .inl u.2.2.1)), (h0_inbox, .inl (c0_inbox, 60, .inl u.2.2.2.1)), (h0_hand, .inl (c0_hand, 13, .inl (upd u.2.2.2.2 0 y6)))]) [0, 1, 2, 3, 4] (by decide) rfl
                                      have hK9 := hK.sub (tys' := [(c0_op, .int), (c0_argument, .int), (c0_inbox, .int), (c0_hand, .int)]) [0, 1, 2, 3] rfl
                                      exact W.vret hx hb hr (fun t ht hW => ⟨⟨(u.1, u.2.1, u.2.2.1, u.2.2.2.1, (upd u.2.2.2.2 0 y6)), rfl, hw, by rw [ht]; exact hP9, va_K.moved hW.alike hK9, hD9⟩, hS.F ht⟩) hS.2.2 dMo_step_379
                                    · first | exact absurd cc70 (by decide) | exact (cc70 (by decide)).elim
                                  · have hw := hw.2 cc69
                                    refine lv_iload hx hb dMo_step_355 (lv_at hl 5 rfl) ?_
                                    refine lv_bipush (v := 15) hx hb dMo_step_357 (by decide) ?_
                                    refine lv_iand hx hb dMo_step_359 ?_
                                    refine lv_topi (fun y71 ey71 => ?_)
                                    have hw := hw y71 ey71
                                    refine lv_istore (lv' := [(5, .int y71), (9, .int 0), (8, .int y9), (7, .int y8), (6, .int y7), (4, .int y5), (3, .int y3), (2, .int y1), (0, .ref h0), (1, .int k1)]) hx hb dMo_step_360 hl (by decide) rfl (fun ls hl => ?_)
                                    refine lv_aload_n hx hb dMo_step_362 rfl (lv_at hl 8 rfl) ?_
                                    refine va_get (D := (dC, dI)) (ci := 8) (v := .ref h0_hand) (C := "StepCourtModel") (T := TMo) (N := 35) hx hb hq inMo hown hK hP 0 rfl rfl 11 (by decide) (hq _ wt_745) (fun _ h9 => h9) rfl dMo_step_363 ?_
                                    refine lv_iconst (v := 0) hx hb dMo_step_366 (by decide) ?_
                                    refine lv_iload hx hb dMo_step_367 (lv_at hl 1 rfl) ?_
                                    refine lv_if_eq (tgt := 376) hx hb dMo_step_369 (by decide) (fun cc72 => ?_) (fun cc72 => ?_)
                                    · have hw := hw
                                      refine lv_iload hx hb dMo_step_376 (lv_at hl 0 rfl) ?_
                                      refine va_iast hx hb hK hP hD hS 4 3 rfl rfl (show ¬ ((0 : Int32) < 0 ∨ 13 ≤ (0 : Int32).toNatClampNeg) by decide) dMo_step_378 (fun H locs hP hD hS => ?_)
                                      have hP : va_P (dC, dI) vwCl [(h0, ce_Mo h0_op h0_argument h0_balance h0_inbox h0_real h0_hand h0_payee h0_paid h0_drawn h0_challenger h0_low h0_high h0_agreed h0_disputed h0_posted h0_middle h0_deadline h0_running h0_node h0_side u.1), (h0_op, .inl (c0_op, 16, .inl u.2.1)), (h0_argument, .inl (c0_argument, 16, .inl u.2.2.1)), (h0_inbox, .inl (c0_inbox, 60, .inl u.2.2.2.1)), (h0_hand, .inl (c0_hand, 13, .inl (upd u.2.2.2.2 0 y71)))] H := hP
                                      have hD : va_D A [(h0, ce_Mo h0_op h0_argument h0_balance h0_inbox h0_real h0_hand h0_payee h0_paid h0_drawn h0_challenger h0_low h0_high h0_agreed h0_disputed h0_posted h0_middle h0_deadline h0_running h0_node h0_side u.1), (h0_op, .inl (c0_op, 16, .inl u.2.1)), (h0_argument, .inl (c0_argument, 16, .inl u.2.2.1)), (h0_inbox, .inl (c0_inbox, 60, .inl u.2.2.2.1)), (h0_hand, .inl (c0_hand, 13, .inl (upd u.2.2.2.2 0 y71)))] := hD
                                      have hP9 := hP.sub (ws' := [(h0, ce_Mo h0_op h0_argument h0_balance h0_inbox h0_real h0_hand h0_payee h0_paid h0_drawn h0_challenger h0_low h0_high h0_agreed h0_disputed h0_posted h0_middle h0_deadline h0_running h0_node h0_side u.1), (h0_op, .inl (c0_op, 16, .inl u.2.1)), (h0_argument, .inl (c0_argument, 16, .inl u.2.2.1)), (h0_inbox, .inl (c0_inbox, 60, .inl u.2.2.2.1)), (h0_hand, .inl (c0_hand, 13, .inl (upd u.2.2.2.2 0 y71)))]) [0, 1, 2, 3, 4] rfl
                                      have hD9 := hD.sub (ws' := [(h0, ce_Mo h0_op h0_argument h0_balance h0_inbox h0_real h0_hand h0_payee h0_paid h0_drawn h0_challenger h0_low h0_high h0_agreed h0_disputed h0_posted h0_middle h0_deadline h0_running h0_node h0_side u.1), (h0_op, .inl (c0_op, 16, .inl u.2.1)), (h0_argument, .inl (c0_argument, 16, .inl u.2.2.1)), (h0_inbox, .inl (c0_inbox, 60, .inl u.2.2.2.1)), (h0_hand, .inl (c0_hand, 13, .inl (upd u.2.2.2.2 0 y71)))]) [0, 1, 2, 3, 4] (by decide) rfl
                                      have hK9 := hK.sub (tys' := [(c0_op, .int), (c0_argument, .int), (c0_inbox, .int), (c0_hand, .int)]) [0, 1, 2, 3] rfl
                                      exact W.vret hx hb hr (fun t ht hW => ⟨⟨(u.1, u.2.1, u.2.2.1, u.2.2.2.1, (upd u.2.2.2.2 0 y71)), rfl, hw, by rw [ht]; exact hP9, va_K.moved hW.alike hK9, hD9⟩, hS.F ht⟩) hS.2.2 dMo_step_379
                                    · first | exact absurd cc72 (by decide) | exact (cc72 (by decide)).elim
                              · have hw := hw.1 cc66
                                refine lv_iload hx hb dMo_step_339 (lv_at hl 3 rfl) ?_
                                refine lv_if_eq (tgt := 355) hx hb dMo_step_341 (by decide) (fun cc73 => ?_) (fun cc73 => ?_)
                                · have hw := hw.1 cc73
                                  refine lv_iload hx hb dMo_step_355 (lv_at hl 5 rfl) ?_
                                  refine lv_bipush (v := 15) hx hb dMo_step_357 (by decide) ?_
                                  refine lv_iand hx hb dMo_step_359 ?_
                                  refine lv_topi (fun y74 ey74 => ?_)
                                  have hw := hw y74 ey74
                                  refine lv_istore (lv' := [(5, .int y74), (9, .int 0), (8, .int y9), (7, .int y8), (6, .int y7), (4, .int y5), (3, .int y3), (2, .int y1), (0, .ref h0), (1, .int k1)]) hx hb dMo_step_360 hl (by decide) rfl (fun ls hl => ?_)
                                  refine lv_aload_n hx hb dMo_step_362 rfl (lv_at hl 8 rfl) ?_
                                  refine va_get (D := (dC, dI)) (ci := 8) (v := .ref h0_hand) (C := "StepCourtModel") (T := TMo) (N := 35) hx hb hq inMo hown hK hP 0 rfl rfl 11 (by decide) (hq _ wt_745) (fun _ h9 => h9) rfl dMo_step_363 ?_
                                  refine lv_iconst (v := 0) hx hb dMo_step_366 (by decide) ?_
                                  refine lv_iload hx hb dMo_step_367 (lv_at hl 1 rfl) ?_
                                  refine lv_if_eq (tgt := 376) hx hb dMo_step_369 (by decide) (fun cc75 => ?_) (fun cc75 => ?_)
                                  · have hw := hw
                                    refine lv_iload hx hb dMo_step_376 (lv_at hl 0 rfl) ?_
                                    refine va_iast hx hb hK hP hD hS 4 3 rfl rfl (show ¬ ((0 : Int32) < 0 ∨ 13 ≤ (0 : Int32).toNatClampNeg) by decide) dMo_step_378 (fun H locs hP hD hS => ?_)
                                    have hP : va_P (dC, dI) vwCl [(h0, ce_Mo h0_op h0_argument h0_balance h0_inbox h0_real h0_hand h0_payee h0_paid h0_drawn h0_challenger h0_low h0_high h0_agreed h0_disputed h0_posted h0_middle h0_deadline h0_running h0_node h0_side u.1), (h0_op, .inl (c0_op, 16, .inl u.2.1)), (h0_argument, .inl (c0_argument, 16, .inl u.2.2.1)), (h0_inbox, .inl (c0_inbox, 60, .inl u.2.2.2.1)), (h0_hand, .inl (c0_hand, 13, .inl (upd u.2.2.2.2 0 y74)))] H := hP
                                    have hD : va_D A [(h0, ce_Mo h0_op h0_argument h0_balance h0_inbox h0_real h0_hand h0_payee h0_paid h0_drawn h0_challenger h0_low h0_high h0_agreed h0_disputed h0_posted h0_middle h0_deadline h0_running h0_node h0_side u.1), (h0_op, .inl (c0_op, 16, .inl u.2.1)), (h0_argument, .inl (c0_argument, 16, .inl u.2.2.1)), (h0_inbox, .inl (c0_inbox, 60, .inl u.2.2.2.1)), (h0_hand, .inl (c0_hand, 13, .inl (upd u.2.2.2.2 0 y74)))] := hD
                                    have hP9 := hP.sub (ws' := [(h0, ce_Mo h0_op h0_argument h0_balance h0_inbox h0_real h0_hand h0_payee h0_paid h0_drawn h0_challenger h0_low h0_high h0_agreed h0_disputed h0_posted h0_middle h0_deadline h0_running h0_node h0_side u.1), (h0_op, .inl (c0_op, 16, .inl u.2.1)), (h0_argument, .inl (c0_argument, 16, .inl u.2.2.1)), (h0_inbox, .inl (c0_inbox, 60, .inl u.2.2.2.1)), (h0_hand, .inl (c0_hand, 13, .inl (upd u.2.2.2.2 0 y74)))]) [0, 1, 2, 3, 4] rfl
                                    have hD9 := hD.sub (ws' := [(h0, ce_Mo h0_op h0_argument h0_balance h0_inbox h0_real h0_hand h0_payee h0_paid h0_drawn h0_challenger h0_low h0_high h0_agreed h0_disputed h0_posted h0_middle h0_deadline h0_running h0_node h0_side u.1), (h0_op, .inl (c0_op, 16, .inl u.2.1)), (h0_argument, .inl (c0_argument, 16, .inl u.2.2.1)), (h0_inbox, .inl (c0_inbox, 60, .inl u.2.2.2.1)), (h0_hand, .inl (c0_hand, 13, .inl (upd u.2.2.2.2 0 y74)))]) [0, 1, 2, 3, 4] (by decide) rfl
                                    have hK9 := hK.sub (tys' := [(c0_op, .int), (c0_argument, .int), (c0_inbox, .int), (c0_hand, .int)]) [0, 1, 2, 3] rfl
                                    exact W.vret hx hb hr (fun t ht hW => ⟨⟨(u.1, u.2.1, u.2.2.1, u.2.2.2.1, (upd u.2.2.2.2 0 y74)), rfl, hw, by rw [ht]; exact hP9, va_K.moved hW.alike hK9, hD9⟩, hS.F ht⟩) hS.2.2 dMo_step_379
                                  · first | exact absurd cc75 (by decide) | exact (cc75 (by decide)).elim
                                · have hw := hw.2 cc73
                                  refine lv_iload_n hx hb dMo_step_344 rfl (lv_at hl 6 rfl) ?_
                                  refine lv_bipush (v := 12) hx hb dMo_step_345 (by decide) ?_
                                  refine lv_icmp_ne (tgt := 362) hx hb dMo_step_347 (by decide) (fun cc76 => ?_) (fun cc76 => ?_)
                                  · have hw := hw.2 cc76
                                    refine lv_aload_n hx hb dMo_step_362 rfl (lv_at hl 8 rfl) ?_
                                    refine va_get (D := (dC, dI)) (ci := 8) (v := .ref h0_hand) (C := "StepCourtModel") (T := TMo) (N := 35) hx hb hq inMo hown hK hP 0 rfl rfl 11 (by decide) (hq _ wt_745) (fun _ h9 => h9) rfl dMo_step_363 ?_
                                    refine lv_iconst (v := 0) hx hb dMo_step_366 (by decide) ?_
                                    refine lv_iload hx hb dMo_step_367 (lv_at hl 0 rfl) ?_
                                    refine lv_if_eq (tgt := 376) hx hb dMo_step_369 (by decide) (fun cc77 => ?_) (fun cc77 => ?_)
                                    · have hw := hw
                                      refine lv_iload hx hb dMo_step_376 (lv_at hl 4 rfl) ?_
                                      refine va_iast hx hb hK hP hD hS 4 3 rfl rfl (show ¬ ((0 : Int32) < 0 ∨ 13 ≤ (0 : Int32).toNatClampNeg) by decide) dMo_step_378 (fun H locs hP hD hS => ?_)
                                      have hP : va_P (dC, dI) vwCl [(h0, ce_Mo h0_op h0_argument h0_balance h0_inbox h0_real h0_hand h0_payee h0_paid h0_drawn h0_challenger h0_low h0_high h0_agreed h0_disputed h0_posted h0_middle h0_deadline h0_running h0_node h0_side u.1), (h0_op, .inl (c0_op, 16, .inl u.2.1)), (h0_argument, .inl (c0_argument, 16, .inl u.2.2.1)), (h0_inbox, .inl (c0_inbox, 60, .inl u.2.2.2.1)), (h0_hand, .inl (c0_hand, 13, .inl (upd u.2.2.2.2 0 y6)))] H := hP
                                      have hD : va_D A [(h0, ce_Mo h0_op h0_argument h0_balance h0_inbox h0_real h0_hand h0_payee h0_paid h0_drawn h0_challenger h0_low h0_high h0_agreed h0_disputed h0_posted h0_middle h0_deadline h0_running h0_node h0_side u.1), (h0_op, .inl (c0_op, 16, .inl u.2.1)), (h0_argument, .inl (c0_argument, 16, .inl u.2.2.1)), (h0_inbox, .inl (c0_inbox, 60, .inl u.2.2.2.1)), (h0_hand, .inl (c0_hand, 13, .inl (upd u.2.2.2.2 0 y6)))] := hD
                                      have hP9 := hP.sub (ws' := [(h0, ce_Mo h0_op h0_argument h0_balance h0_inbox h0_real h0_hand h0_payee h0_paid h0_drawn h0_challenger h0_low h0_high h0_agreed h0_disputed h0_posted h0_middle h0_deadline h0_running h0_node h0_side u.1), (h0_op, .inl (c0_op, 16, .inl u.2.1)), (h0_argument, .inl (c0_argument, 16, .inl u.2.2.1)), (h0_inbox, .inl (c0_inbox, 60, .inl u.2.2.2.1)), (h0_hand, .inl (c0_hand, 13, .inl (upd u.2.2.2.2 0 y6)))]) [0, 1, 2, 3, 4] rfl
                                      have hD9 := hD.sub (ws' := [(h0, ce_Mo h0_op h0_argument h0_balance h0_inbox h0_real h0_hand h0_payee h0_paid h0_drawn h0_challenger h0_low h0_high h0_agreed h0_disputed h0_posted h0_middle h0_deadline h0_running h0_node h0_side u.1), (h0_op, .inl (c0_op, 16, .inl u.2.1)), (h0_argument, .inl (c0_argument, 16, .inl u.2.2.1)), (h0_inbox, .inl (c0_inbox, 60, .inl u.2.2.2.1)), (h0_hand, .inl (c0_hand, 13, .inl (upd u.2.2.2.2 0 y6)))]) [0, 1, 2, 3, 4] (by decide) rfl
                                      have hK9 := hK.sub (tys' := [(c0_op, .int), (c0_argument, .int), (c0_inbox, .int), (c0_hand, .int)]) [0, 1, 2, 3] rfl
                                      exact W.vret hx hb hr (fun t ht hW => ⟨⟨(u.1, u.2.1, u.2.2.1, u.2.2.2.1, (upd u.2.2.2.2 0 y6)), rfl, hw, by rw [ht]; exact hP9, va_K.moved hW.alike hK9, hD9⟩, hS.F ht⟩) hS.2.2 dMo_step_379
                                    · first | exact absurd cc77 (by decide) | exact (cc77 (by decide)).elim
                                  · have hw := hw.1 cc76
                                    refine lv_iload hx hb dMo_step_350 (lv_at hl 3 rfl) ?_
                                    refine lv_if_ge (tgt := 362) hx hb dMo_step_352 (by decide) (fun cc78 => ?_) (fun cc78 => ?_)
                                    · have hw := hw.1 cc78
                                      refine lv_aload_n hx hb dMo_step_362 rfl (lv_at hl 8 rfl) ?_
                                      refine va_get (D := (dC, dI)) (ci := 8) (v := .ref h0_hand) (C := "StepCourtModel") (T := TMo) (N := 35) hx hb hq inMo hown hK hP 0 rfl rfl 11 (by decide) (hq _ wt_745) (fun _ h9 => h9) rfl dMo_step_363 ?_
                                      refine lv_iconst (v := 0) hx hb dMo_step_366 (by decide) ?_
                                      refine lv_iload hx hb dMo_step_367 (lv_at hl 0 rfl) ?_
                                      refine lv_if_eq (tgt := 376) hx hb dMo_step_369 (by decide) (fun cc79 => ?_) (fun cc79 => ?_)
                                      · have hw := hw
                                        refine lv_iload hx hb dMo_step_376 (lv_at hl 4 rfl) ?_
                                        refine va_iast hx hb hK hP hD hS 4 3 rfl rfl (show ¬ ((0 : Int32) < 0 ∨ 13 ≤ (0 : Int32).toNatClampNeg) by decide) dMo_step_378 (fun H locs hP hD hS => ?_)
                                        have hP : va_P (dC, dI) vwCl [(h0, ce_Mo h0_op h0_argument h0_balance h0_inbox h0_real h0_hand h0_payee h0_paid h0_drawn h0_challenger h0_low h0_high h0_agreed h0_disputed h0_posted h0_middle h0_deadline h0_running h0_node h0_side u.1), (h0_op, .inl (c0_op, 16, .inl u.2.1)), (h0_argument, .inl (c0_argument, 16, .inl u.2.2.1)), (h0_inbox, .inl (c0_inbox, 60, .inl u.2.2.2.1)), (h0_hand, .inl (c0_hand, 13, .inl (upd u.2.2.2.2 0 y6)))] H := hP
                                        have hD : va_D A [(h0, ce_Mo h0_op h0_argument h0_balance h0_inbox h0_real h0_hand h0_payee h0_paid h0_drawn h0_challenger h0_low h0_high h0_agreed h0_disputed h0_posted h0_middle h0_deadline h0_running h0_node h0_side u.1), (h0_op, .inl (c0_op, 16, .inl u.2.1)), (h0_argument, .inl (c0_argument, 16, .inl u.2.2.1)), (h0_inbox, .inl (c0_inbox, 60, .inl u.2.2.2.1)), (h0_hand, .inl (c0_hand, 13, .inl (upd u.2.2.2.2 0 y6)))] := hD
                                        have hP9 := hP.sub (ws' := [(h0, ce_Mo h0_op h0_argument h0_balance h0_inbox h0_real h0_hand h0_payee h0_paid h0_drawn h0_challenger h0_low h0_high h0_agreed h0_disputed h0_posted h0_middle h0_deadline h0_running h0_node h0_side u.1), (h0_op, .inl (c0_op, 16, .inl u.2.1)), (h0_argument, .inl (c0_argument, 16, .inl u.2.2.1)), (h0_inbox, .inl (c0_inbox, 60, .inl u.2.2.2.1)), (h0_hand, .inl (c0_hand, 13, .inl (upd u.2.2.2.2 0 y6)))]) [0, 1, 2, 3, 4] rfl
                                        have hD9 := hD.sub (ws' := [(h0, ce_Mo h0_op h0_argument h0_balance h0_inbox h0_real h0_hand h0_payee h0_paid h0_drawn h0_challenger h0_low h0_high h0_agreed h0_disputed h0_posted h0_middle h0_deadline h0_running h0_node h0_side u.1), (h0_op, .inl (c0_op, 16, .inl u.2.1)), (h0_argument, .inl (c0_argument, 16, .inl u.2.2.1)), (h0_inbox, .inl (c0_inbox, 60, .inl u.2.2.2.1)), (h0_hand, .inl (c0_hand, 13, .inl (upd u.2.2.2.2 0 y6)))]) [0, 1, 2, 3, 4] (by decide) rfl
                                        have hK9 := hK.sub (tys' := [(c0_op, .int), (c0_argument, .int), (c0_inbox, .int), (c0_hand, .int)]) [0, 1, 2, 3] rfl
                                        exact W.vret hx hb hr (fun t ht hW => ⟨⟨(u.1, u.2.1, u.2.2.1, u.2.2.2.1, (upd u.2.2.2.2 0 y6)), rfl, hw, by rw [ht]; exact hP9, va_K.moved hW.alike hK9, hD9⟩, hS.F ht⟩) hS.2.2 dMo_step_379
                                      · first | exact absurd cc79 (by decide) | exact (cc79 (by decide)).elim
                                    · have hw := hw.2 cc78
                                      refine lv_iload hx hb dMo_step_355 (lv_at hl 5 rfl) ?_
                                      refine lv_bipush (v := 15) hx hb dMo_step_357 (by decide) ?_
                                      refine lv_iand hx hb dMo_step_359 ?_
                                      refine lv_topi (fun y80 ey80 => ?_)
                                      have hw := hw y80 ey80
                                      refine lv_istore (lv' := [(5, .int y80), (9, .int 0), (8, .int y9), (7, .int y8), (6, .int y7), (4, .int y5), (3, .int y3), (2, .int y1), (0, .ref h0), (1, .int k1)]) hx hb dMo_step_360 hl (by decide) rfl (fun ls hl => ?_)
                                      refine lv_aload_n hx hb dMo_step_362 rfl (lv_at hl 8 rfl) ?_
                                      refine va_get (D := (dC, dI)) (ci := 8) (v := .ref h0_hand) (C := "StepCourtModel") (T := TMo) (N := 35) hx hb hq inMo hown hK hP 0 rfl rfl 11 (by decide) (hq _ wt_745) (fun _ h9 => h9) rfl dMo_step_363 ?_
                                      refine lv_iconst (v := 0) hx hb dMo_step_366 (by decide) ?_
                                      refine lv_iload hx hb dMo_step_367 (lv_at hl 1 rfl) ?_
                                      refine lv_if_eq (tgt := 376) hx hb dMo_step_369 (by decide) (fun cc81 => ?_) (fun cc81 => ?_)
                                      · have hw := hw
                                        refine lv_iload hx hb dMo_step_376 (lv_at hl 0 rfl) ?_
                                        refine va_iast hx hb hK hP hD hS 4 3 rfl rfl (show ¬ ((0 : Int32) < 0 ∨ 13 ≤ (0 : Int32).toNatClampNeg) by decide) dMo_step_378 (fun H locs hP hD hS => ?_)
                                        have hP : va_P (dC, dI) vwCl [(h0, ce_Mo h0_op h0_argument h0_balance h0_inbox h0_real h0_hand h0_payee h0_paid h0_drawn h0_challenger h0_low h0_high h0_agreed h0_disputed h0_posted h0_middle h0_deadline h0_running h0_node h0_side u.1), (h0_op, .inl (c0_op, 16, .inl u.2.1)), (h0_argument, .inl (c0_argument, 16, .inl u.2.2.1)), (h0_inbox, .inl (c0_inbox, 60, .inl u.2.2.2.1)), (h0_hand, .inl (c0_hand, 13, .inl (upd u.2.2.2.2 0 y80)))] H := hP
                                        have hD : va_D A [(h0, ce_Mo h0_op h0_argument h0_balance h0_inbox h0_real h0_hand h0_payee h0_paid h0_drawn h0_challenger h0_low h0_high h0_agreed h0_disputed h0_posted h0_middle h0_deadline h0_running h0_node h0_side u.1), (h0_op, .inl (c0_op, 16, .inl u.2.1)), (h0_argument, .inl (c0_argument, 16, .inl u.2.2.1)), (h0_inbox, .inl (c0_inbox, 60, .inl u.2.2.2.1)), (h0_hand, .inl (c0_hand, 13, .inl (upd u.2.2.2.2 0 y80)))] := hD
                                        have hP9 := hP.sub (ws' := [(h0, ce_Mo h0_op h0_argument h0_balance h0_inbox h0_real h0_hand h0_payee h0_paid h0_drawn h0_challenger h0_low h0_high h0_agreed h0_disputed h0_posted h0_middle h0_deadline h0_running h0_node h0_side u.1), (h0_op, .inl (c0_op, 16, .inl u.2.1)), (h0_argument, .inl (c0_argument, 16, .inl u.2.2.1)), (h0_inbox, .inl (c0_inbox, 60, .inl u.2.2.2.1)), (h0_hand, .inl (c0_hand, 13, .inl (upd u.2.2.2.2 0 y80)))]) [0, 1, 2, 3, 4] rfl
                                        have hD9 := hD.sub (ws' := [(h0, ce_Mo h0_op h0_argument h0_balance h0_inbox h0_real h0_hand h0_payee h0_paid h0_drawn h0_challenger h0_low h0_high h0_agreed h0_disputed h0_posted h0_middle h0_deadline h0_running h0_node h0_side u.1), (h0_op, .inl (c0_op, 16, .inl u.2.1)), (h0_argument, .inl (c0_argument, 16, .inl u.2.2.1)), (h0_inbox, .inl (c0_inbox, 60, .inl u.2.2.2.1)), (h0_hand, .inl (c0_hand, 13, .inl (upd u.2.2.2.2 0 y80)))]) [0, 1, 2, 3, 4] (by decide) rfl
                                        have hK9 := hK.sub (tys' := [(c0_op, .int), (c0_argument, .int), (c0_inbox, .int), (c0_hand, .int)]) [0, 1, 2, 3] rfl
                                        exact W.vret hx hb hr (fun t ht hW => ⟨⟨(u.1, u.2.1, u.2.2.1, u.2.2.2.1, (upd u.2.2.2.2 0 y80)), rfl, hw, by rw [ht]; exact hP9, va_K.moved hW.alike hK9, hD9⟩, hS.F ht⟩) hS.2.2 dMo_step_379
                                      · first | exact absurd cc81 (by decide) | exact (cc81 (by decide)).elim
                          · have hw := hw.1 cc62
                            refine lv_aload_n hx hb dMo_step_292 rfl (lv_at hl 8 rfl) ?_
                            refine lv_aload_n hx hb dMo_step_293 rfl (lv_at hl 8 rfl) ?_
                            refine va_get (D := (dC, dI)) (ci := 8) (v := .long u.1.2.2.2.2.2.2.1) (C := "StepCourtModel") (T := TMo) (N := 35) hx hb hq inMo hown hK hP 0 rfl rfl 12 (by decide) (hq _ wt_746) (fun _ h9 => h9) rfl dMo_step_294 ?_
                            refine lv_iload hx hb dMo_step_297 (lv_at hl 2 rfl) ?_
                            refine lv_iconst (v := 3) hx hb dMo_step_299 (by decide) ?_
                            refine lv_iand hx hb dMo_step_300 ?_
                            refine lv_i2l (v := (y8 &&& 3).toInt64) hx hb dMo_step_301 rfl ?_
                            have hPc := hP.sub (ws' := []) [] rfl
                            have hDc := hD.sub (ws' := []) [] (by decide) rfl
                            have hKc := hK.sub (tys' := []) [] rfl
                            have hFc := va_free (wc := []) hD hS hA [] rfl
                            refine va_calll (va_runS (As := [.long u.1.2.2.2.2.2.2.1, .long ((y8 &&& 3).toInt64)]) (rest := [.ref h0]) ⟨hx, hb, hml, hown, hq⟩ (mt_Mo_mix l dC dI s.heap.size _ () u.1.2.2.2.2.2.2.1 ((y8 &&& 3).toInt64) hw) ⟨cq_B 2 hq wt_723 wt_721 wt_10 rfl rfl hd_Mo_mix ⟨Nat.le_of_ble_eq_true rfl, Nat.le_of_ble_eq_true rfl⟩, (hq _ wt_722)⟩ ⟨kp_bl, kp_at hPc hKc hDc hZ⟩ rfl rfl hl.1 rfl (lv_room (Nat.le_of_ble_eq_true rfl)) dMo_step_302 ⟨(by decide), (by decide)⟩) hS (fun q _ h => hFc q h) hFc (fun r82 u83 t H1 locs ht hvm hw hB hz1 hk1 hS => ?_)
                            obtain ⟨hP1, hK1, hD1⟩ := hB
                            rw [ht] at hP1
                            have hK1 := va_K.moved hvm.symm hK1
                            obtain ⟨hP, hD⟩ := va_join (wr := [(h0, ce_Mo h0_op h0_argument h0_balance h0_inbox h0_real h0_hand h0_payee h0_paid h0_drawn h0_challenger h0_low h0_high h0_agreed h0_disputed h0_posted h0_middle h0_deadline h0_running h0_node h0_side u.1), (h0_op, .inl (c0_op, 16, .inl u.2.1)), (h0_argument, .inl (c0_argument, 16, .inl u.2.2.1)), (h0_inbox, .inl (c0_inbox, 60, .inl u.2.2.2.1)), (h0_hand, .inl (c0_hand, 13, .inl u.2.2.2.2))]) (w1 := []) hP hD [] [0, 1, 2, 3, 4] rfl rfl (by decide) (by decide) hk1 hFc hP1 hD1
                            have hK := (hK.sub (tys' := [(c0_op, .int), (c0_argument, .int), (c0_inbox, .int), (c0_hand, .int)]) [0, 1, 2, 3] rfl).app hK1
                            generalize H1 = H at hP hS ⊢
                            have hP : va_P (dC, dI) vwCl [(h0, ce_Mo h0_op h0_argument h0_balance h0_inbox h0_real h0_hand h0_payee h0_paid h0_drawn h0_challenger h0_low h0_high h0_agreed h0_disputed h0_posted h0_middle h0_deadline h0_running h0_node h0_side u.1), (h0_op, .inl (c0_op, 16, .inl u.2.1)), (h0_argument, .inl (c0_argument, 16, .inl u.2.2.1)), (h0_inbox, .inl (c0_inbox, 60, .inl u.2.2.2.1)), (h0_hand, .inl (c0_hand, 13, .inl u.2.2.2.2))] H := hP
                            have hD : va_D A [(h0, ce_Mo h0_op h0_argument h0_balance h0_inbox h0_real h0_hand h0_payee h0_paid h0_drawn h0_challenger h0_low h0_high h0_agreed h0_disputed h0_posted h0_middle h0_deadline h0_running h0_node h0_side u.1), (h0_op, .inl (c0_op, 16, .inl u.2.1)), (h0_argument, .inl (c0_argument, 16, .inl u.2.2.1)), (h0_inbox, .inl (c0_inbox, 60, .inl u.2.2.2.1)), (h0_hand, .inl (c0_hand, 13, .inl u.2.2.2.2))] := hD
                            have hK : va_K (dC, dI) vwCl [(c0_op, .int), (c0_argument, .int), (c0_inbox, .int), (c0_hand, .int)] s := hK
                            refine lv_iload hx hb dMo_step_305 (lv_at hl 3 rfl) ?_
                            refine lv_i2l (v := y7.toInt64) hx hb dMo_step_307 rfl ?_
                            have hPc := hP.sub (ws' := []) [] rfl
                            have hDc := hD.sub (ws' := []) [] (by decide) rfl
                            have hKc := hK.sub (tys' := []) [] rfl
                            have hFc := va_free (wc := []) hD hS hA [] rfl
                            refine va_calll (va_runS (As := [.long r82, .long (y7.toInt64)]) (rest := [.ref h0]) ⟨hx, hb, hml, hown, hq⟩ (mt_Mo_mix l dC dI H.size _ () r82 (y7.toInt64) hw) ⟨cq_B 2 hq wt_723 wt_721 wt_10 rfl rfl hd_Mo_mix ⟨Nat.le_of_ble_eq_true rfl, Nat.le_of_ble_eq_true rfl⟩, (hq _ wt_722)⟩ ⟨kp_bl, kp_at hPc hKc hDc hZ⟩ rfl rfl hl.1 rfl (lv_room (Nat.le_of_ble_eq_true rfl)) dMo_step_308 ⟨(by decide), (by decide)⟩) hS (fun q _ h => hFc q h) hFc (fun r84 u85 t H1 locs ht hvm hw hB hz1 hk1 hS => ?_)
                            obtain ⟨hP1, hK1, hD1⟩ := hB
                            rw [ht] at hP1
                            have hK1 := va_K.moved hvm.symm hK1
                            obtain ⟨hP, hD⟩ := va_join (wr := [(h0, ce_Mo h0_op h0_argument h0_balance h0_inbox h0_real h0_hand h0_payee h0_paid h0_drawn h0_challenger h0_low h0_high h0_agreed h0_disputed h0_posted h0_middle h0_deadline h0_running h0_node h0_side u.1), (h0_op, .inl (c0_op, 16, .inl u.2.1)), (h0_argument, .inl (c0_argument, 16, .inl u.2.2.1)), (h0_inbox, .inl (c0_inbox, 60, .inl u.2.2.2.1)), (h0_hand, .inl (c0_hand, 13, .inl u.2.2.2.2))]) (w1 := []) hP hD [] [0, 1, 2, 3, 4] rfl rfl (by decide) (by decide) hk1 hFc hP1 hD1
                            have hK := (hK.sub (tys' := [(c0_op, .int), (c0_argument, .int), (c0_inbox, .int), (c0_hand, .int)]) [0, 1, 2, 3] rfl).app hK1
                            generalize H1 = H at hP hS ⊢
                            have hP : va_P (dC, dI) vwCl [(h0, ce_Mo h0_op h0_argument h0_balance h0_inbox h0_real h0_hand h0_payee h0_paid h0_drawn h0_challenger h0_low h0_high h0_agreed h0_disputed h0_posted h0_middle h0_deadline h0_running h0_node h0_side u.1), (h0_op, .inl (c0_op, 16, .inl u.2.1)), (h0_argument, .inl (c0_argument, 16, .inl u.2.2.1)), (h0_inbox, .inl (c0_inbox, 60, .inl u.2.2.2.1)), (h0_hand, .inl (c0_hand, 13, .inl u.2.2.2.2))] H := hP
                            have hD : va_D A [(h0, ce_Mo h0_op h0_argument h0_balance h0_inbox h0_real h0_hand h0_payee h0_paid h0_drawn h0_challenger h0_low h0_high h0_agreed h0_disputed h0_posted h0_middle h0_deadline h0_running h0_node h0_side u.1), (h0_op, .inl (c0_op, 16, .inl u.2.1)), (h0_argument, .inl (c0_argument, 16, .inl u.2.2.1)), (h0_inbox, .inl (c0_inbox, 60, .inl u.2.2.2.1)), (h0_hand, .inl (c0_hand, 13, .inl u.2.2.2.2))] := hD
                            have hK : va_K (dC, dI) vwCl [(c0_op, .int), (c0_argument, .int), (c0_inbox, .int), (c0_hand, .int)] s := hK
                            refine va_put (D := (dC, dI)) (ci := 8) (v := .long r84) (ty := .long) (C := "StepCourtModel") (T := TMo) (N := 35) hx hb hq inMo tyMo tyMo_ok nmMo hown hK hP hD hS 0 rfl rfl 12 (by decide) (hq _ wt_746) (fun _ h9 => h9) rfl (by decide +kernel) rfl rfl (Nat.le_of_ble_eq_true rfl) dMo_step_311 (fun H locs hP hD hS => ?_)
                            have hP : va_P (dC, dI) vwCl [(h0, ce_Mo h0_op h0_argument h0_balance h0_inbox h0_real h0_hand h0_payee h0_paid h0_drawn h0_challenger h0_low h0_high h0_agreed h0_disputed h0_posted h0_middle h0_deadline h0_running h0_node h0_side (u.1.1, u.1.2.1, u.1.2.2.1, u.1.2.2.2.1, u.1.2.2.2.2.1, u.1.2.2.2.2.2.1, r84, u.1.2.2.2.2.2.2.2.1, u.1.2.2.2.2.2.2.2.2.1, u.1.2.2.2.2.2.2.2.2.2.1, u.1.2.2.2.2.2.2.2.2.2.2.1, u.1.2.2.2.2.2.2.2.2.2.2.2.1, u.1.2.2.2.2.2.2.2.2.2.2.2.2.1, u.1.2.2.2.2.2.2.2.2.2.2.2.2.2.1, u.1.2.2.2.2.2.2.2.2.2.2.2.2.2.2)), (h0_op, .inl (c0_op, 16, .inl u.2.1)), (h0_argument, .inl (c0_argument, 16, .inl u.2.2.1)), (h0_inbox, .inl (c0_inbox, 60, .inl u.2.2.2.1)), (h0_hand, .inl (c0_hand, 13, .inl u.2.2.2.2))] H := hP
                            have hD : va_D A [(h0, ce_Mo h0_op h0_argument h0_balance h0_inbox h0_real h0_hand h0_payee h0_paid h0_drawn h0_challenger h0_low h0_high h0_agreed h0_disputed h0_posted h0_middle h0_deadline h0_running h0_node h0_side (u.1.1, u.1.2.1, u.1.2.2.1, u.1.2.2.2.1, u.1.2.2.2.2.1, u.1.2.2.2.2.2.1, r84, u.1.2.2.2.2.2.2.2.1, u.1.2.2.2.2.2.2.2.2.1, u.1.2.2.2.2.2.2.2.2.2.1, u.1.2.2.2.2.2.2.2.2.2.2.1, u.1.2.2.2.2.2.2.2.2.2.2.2.1, u.1.2.2.2.2.2.2.2.2.2.2.2.2.1, u.1.2.2.2.2.2.2.2.2.2.2.2.2.2.1, u.1.2.2.2.2.2.2.2.2.2.2.2.2.2.2)), (h0_op, .inl (c0_op, 16, .inl u.2.1)), (h0_argument, .inl (c0_argument, 16, .inl u.2.2.1)), (h0_inbox, .inl (c0_inbox, 60, .inl u.2.2.2.1)), (h0_hand, .inl (c0_hand, 13, .inl u.2.2.2.2))] := hD
                            refine lv_aload_n hx hb dMo_step_314 rfl (lv_at hl 8 rfl) ?_
                            refine va_get (D := (dC, dI)) (ci := 8) (v := .ref h0_hand) (C := "StepCourtModel") (T := TMo) (N := 35) hx hb hq inMo hown hK hP 0 rfl rfl 11 (by decide) (hq _ wt_745) (fun _ h9 => h9) rfl dMo_step_315 ?_
                            refine lv_iconst (v := 4) hx hb dMo_step_318 (by decide) ?_
                            refine lv_dup2_11 hx hb dMo_step_319 rfl rfl ?_
                            refine va_iald hx hb hK hP 4 3 rfl rfl (show ¬ ((4 : Int32) < 0 ∨ 13 ≤ (4 : Int32).toNatClampNeg) by decide) dMo_step_320 ?_
                            refine W.eq (g2 := F0 m 321 ls [.int (u.2.2.2.2 4), .int 4, .ref h0_hand]) rfl ?_
                            refine lv_iconst (v := 1) hx hb dMo_step_321 (by decide) ?_
                            refine lv_iadd hx hb dMo_step_322 ?_
                            refine lv_topi (fun f86 ef86 => ?_)
                            have hw := hw f86 ef86
                            refine va_iast hx hb hK hP hD hS 4 3 rfl rfl (show ¬ ((4 : Int32) < 0 ∨ 13 ≤ (4 : Int32).toNatClampNeg) by decide) dMo_step_323 (fun H locs hP hD hS => ?_)
                            have hP : va_P (dC, dI) vwCl [(h0, ce_Mo h0_op h0_argument h0_balance h0_inbox h0_real h0_hand h0_payee h0_paid h0_drawn h0_challenger h0_low h0_high h0_agreed h0_disputed h0_posted h0_middle h0_deadline h0_running h0_node h0_side (u.1.1, u.1.2.1, u.1.2.2.1, u.1.2.2.2.1, u.1.2.2.2.2.1, u.1.2.2.2.2.2.1, r84, u.1.2.2.2.2.2.2.2.1, u.1.2.2.2.2.2.2.2.2.1, u.1.2.2.2.2.2.2.2.2.2.1, u.1.2.2.2.2.2.2.2.2.2.2.1, u.1.2.2.2.2.2.2.2.2.2.2.2.1, u.1.2.2.2.2.2.2.2.2.2.2.2.2.1, u.1.2.2.2.2.2.2.2.2.2.2.2.2.2.1, u.1.2.2.2.2.2.2.2.2.2.2.2.2.2.2)), (h0_op, .inl (c0_op, 16, .inl u.2.1)), (h0_argument, .inl (c0_argument, 16, .inl u.2.2.1)), (h0_inbox, .inl (c0_inbox, 60, .inl u.2.2.2.1)), (h0_hand, .inl (c0_hand, 13, .inl (upd u.2.2.2.2 4 f86)))] H := hP
                            have hD : va_D A [(h0, ce_Mo h0_op h0_argument h0_balance h0_inbox h0_real h0_hand h0_payee h0_paid h0_drawn h0_challenger h0_low h0_high h0_agreed h0_disputed h0_posted h0_middle h0_deadline h0_running h0_node h0_side (u.1.1, u.1.2.1, u.1.2.2.1, u.1.2.2.2.1, u.1.2.2.2.2.1, u.1.2.2.2.2.2.1, r84, u.1.2.2.2.2.2.2.2.1, u.1.2.2.2.2.2.2.2.2.1, u.1.2.2.2.2.2.2.2.2.2.1, u.1.2.2.2.2.2.2.2.2.2.2.1, u.1.2.2.2.2.2.2.2.2.2.2.2.1, u.1.2.2.2.2.2.2.2.2.2.2.2.2.1, u.1.2.2.2.2.2.2.2.2.2.2.2.2.2.1, u.1.2.2.2.2.2.2.2.2.2.2.2.2.2.2)), (h0_op, .inl (c0_op, 16, .inl u.2.1)), (h0_argument, .inl (c0_argument, 16, .inl u.2.2.1)), (h0_inbox, .inl (c0_inbox, 60, .inl u.2.2.2.1)), (h0_hand, .inl (c0_hand, 13, .inl (upd u.2.2.2.2 4 f86)))] := hD
                            refine lv_goto (tgt := 362) hx hb dMo_step_324 (by decide) ?_
                            refine lv_aload_n hx hb dMo_step_362 rfl (lv_at hl 8 rfl) ?_
                            refine va_get (D := (dC, dI)) (ci := 8) (v := .ref h0_hand) (C := "StepCourtModel") (T := TMo) (N := 35) hx hb hq inMo hown hK hP 0 rfl rfl 11 (by decide) (hq _ wt_745) (fun _ h9 => h9) rfl dMo_step_363 ?_
                            refine lv_iconst (v := 0) hx hb dMo_step_366 (by decide) ?_
                            refine lv_iload hx hb dMo_step_367 (lv_at hl 0 rfl) ?_
                            refine lv_if_eq (tgt := 376) hx hb dMo_step_369 (by decide) (fun cc87 => ?_) (fun cc87 => ?_)
                            · have hw := hw
                              refine lv_iload hx hb dMo_step_376 (lv_at hl 4 rfl) ?_
                              refine va_iast hx hb hK hP hD hS 4 3 rfl rfl (show ¬ ((0 : Int32) < 0 ∨ 13 ≤ (0 : Int32).toNatClampNeg) by decide) dMo_step_378 (fun H locs hP hD hS => ?_)
                              have hP : va_P (dC, dI) vwCl [(h0, ce_Mo h0_op h0_argument h0_balance h0_inbox h0_real h0_hand h0_payee h0_paid h0_drawn h0_challenger h0_low h0_high h0_agreed h0_disputed h0_posted h0_middle h0_deadline h0_running h0_node h0_side (u.1.1, u.1.2.1, u.1.2.2.1, u.1.2.2.2.1, u.1.2.2.2.2.1, u.1.2.2.2.2.2.1, r84, u.1.2.2.2.2.2.2.2.1, u.1.2.2.2.2.2.2.2.2.1, u.1.2.2.2.2.2.2.2.2.2.1, u.1.2.2.2.2.2.2.2.2.2.2.1, u.1.2.2.2.2.2.2.2.2.2.2.2.1, u.1.2.2.2.2.2.2.2.2.2.2.2.2.1, u.1.2.2.2.2.2.2.2.2.2.2.2.2.2.1, u.1.2.2.2.2.2.2.2.2.2.2.2.2.2.2)), (h0_op, .inl (c0_op, 16, .inl u.2.1)), (h0_argument, .inl (c0_argument, 16, .inl u.2.2.1)), (h0_inbox, .inl (c0_inbox, 60, .inl u.2.2.2.1)), (h0_hand, .inl (c0_hand, 13, .inl (upd (upd u.2.2.2.2 4 f86) 0 y6)))] H := hP
                              have hD : va_D A [(h0, ce_Mo h0_op h0_argument h0_balance h0_inbox h0_real h0_hand h0_payee h0_paid h0_drawn h0_challenger h0_low h0_high h0_agreed h0_disputed h0_posted h0_middle h0_deadline h0_running h0_node h0_side (u.1.1, u.1.2.1, u.1.2.2.1, u.1.2.2.2.1, u.1.2.2.2.2.1, u.1.2.2.2.2.2.1, r84, u.1.2.2.2.2.2.2.2.1, u.1.2.2.2.2.2.2.2.2.1, u.1.2.2.2.2.2.2.2.2.2.1, u.1.2.2.2.2.2.2.2.2.2.2.1, u.1.2.2.2.2.2.2.2.2.2.2.2.1, u.1.2.2.2.2.2.2.2.2.2.2.2.2.1, u.1.2.2.2.2.2.2.2.2.2.2.2.2.2.1, u.1.2.2.2.2.2.2.2.2.2.2.2.2.2.2)), (h0_op, .inl (c0_op, 16, .inl u.2.1)), (h0_argument, .inl (c0_argument, 16, .inl u.2.2.1)), (h0_inbox, .inl (c0_inbox, 60, .inl u.2.2.2.1)), (h0_hand, .inl (c0_hand, 13, .inl (upd (upd u.2.2.2.2 4 f86) 0 y6)))] := hD
                              have hP9 := hP.sub (ws' := [(h0, ce_Mo h0_op h0_argument h0_balance h0_inbox h0_real h0_hand h0_payee h0_paid h0_drawn h0_challenger h0_low h0_high h0_agreed h0_disputed h0_posted h0_middle h0_deadline h0_running h0_node h0_side (u.1.1, u.1.2.1, u.1.2.2.1, u.1.2.2.2.1, u.1.2.2.2.2.1, u.1.2.2.2.2.2.1, r84, u.1.2.2.2.2.2.2.2.1, u.1.2.2.2.2.2.2.2.2.1, u.1.2.2.2.2.2.2.2.2.2.1, u.1.2.2.2.2.2.2.2.2.2.2.1, u.1.2.2.2.2.2.2.2.2.2.2.2.1, u.1.2.2.2.2.2.2.2.2.2.2.2.2.1, u.1.2.2.2.2.2.2.2.2.2.2.2.2.2.1, u.1.2.2.2.2.2.2.2.2.2.2.2.2.2.2)), (h0_op, .inl (c0_op, 16, .inl u.2.1)), (h0_argument, .inl (c0_argument, 16, .inl u.2.2.1)), (h0_inbox, .inl (c0_inbox, 60, .inl u.2.2.2.1)), (h0_hand, .inl (c0_hand, 13, .inl (upd (upd u.2.2.2.2 4 f86) 0 y6)))]) [0, 1, 2, 3, 4] rfl
                              have hD9 := hD.sub (ws' := [(h0, ce_Mo h0_op h0_argument h0_balance h0_inbox h0_real h0_hand h0_payee h0_paid h0_drawn h0_challenger h0_low h0_high h0_agreed h0_disputed h0_posted h0_middle h0_deadline h0_running h0_node h0_side (u.1.1, u.1.2.1, u.1.2.2.1, u.1.2.2.2.1, u.1.2.2.2.2.1, u.1.2.2.2.2.2.1, r84, u.1.2.2.2.2.2.2.2.1, u.1.2.2.2.2.2.2.2.2.1, u.1.2.2.2.2.2.2.2.2.2.1, u.1.2.2.2.2.2.2.2.2.2.2.1, u.1.2.2.2.2.2.2.2.2.2.2.2.1, u.1.2.2.2.2.2.2.2.2.2.2.2.2.1, u.1.2.2.2.2.2.2.2.2.2.2.2.2.2.1, u.1.2.2.2.2.2.2.2.2.2.2.2.2.2.2)), (h0_op, .inl (c0_op, 16, .inl u.2.1)), (h0_argument, .inl (c0_argument, 16, .inl u.2.2.1)), (h0_inbox, .inl (c0_inbox, 60, .inl u.2.2.2.1)), (h0_hand, .inl (c0_hand, 13, .inl (upd (upd u.2.2.2.2 4 f86) 0 y6)))]) [0, 1, 2, 3, 4] (by decide) rfl
                              have hK9 := hK.sub (tys' := [(c0_op, .int), (c0_argument, .int), (c0_inbox, .int), (c0_hand, .int)]) [0, 1, 2, 3] rfl
                              exact W.vret hx hb hr (fun t ht hW => ⟨⟨((u.1.1, u.1.2.1, u.1.2.2.1, u.1.2.2.2.1, u.1.2.2.2.2.1, u.1.2.2.2.2.2.1, r84, u.1.2.2.2.2.2.2.2.1, u.1.2.2.2.2.2.2.2.2.1, u.1.2.2.2.2.2.2.2.2.2.1, u.1.2.2.2.2.2.2.2.2.2.2.1, u.1.2.2.2.2.2.2.2.2.2.2.2.1, u.1.2.2.2.2.2.2.2.2.2.2.2.2.1, u.1.2.2.2.2.2.2.2.2.2.2.2.2.2.1, u.1.2.2.2.2.2.2.2.2.2.2.2.2.2.2), u.2.1, u.2.2.1, u.2.2.2.1, (upd (upd u.2.2.2.2 4 f86) 0 y6)), rfl, hw, by rw [ht]; exact hP9, va_K.moved hW.alike hK9, hD9⟩, hS.F ht⟩) hS.2.2 dMo_step_379
                            · first | exact absurd cc87 (by decide) | exact (cc87 (by decide)).elim
                        · have hw := hw.1 cc61
                          refine lv_aload_n hx hb dMo_step_257 rfl (lv_at hl 8 rfl) ?_
                          refine va_get (D := (dC, dI)) (ci := 8) (v := .ref h0_hand) (C := "StepCourtModel") (T := TMo) (N := 35) hx hb hq inMo hown hK hP 0 rfl rfl 11 (by decide) (hq _ wt_745) (fun _ h9 => h9) rfl dMo_step_258 ?_
                          refine lv_iconst (v := 1) hx hb dMo_step_261 (by decide) ?_
                          refine lv_aload_n hx hb dMo_step_262 rfl (lv_at hl 8 rfl) ?_
                          refine lv_aload_n hx hb dMo_step_263 rfl (lv_at hl 8 rfl) ?_
                          refine va_get (D := (dC, dI)) (ci := 8) (v := .ref h0_hand) (C := "StepCourtModel") (T := TMo) (N := 35) hx hb hq inMo hown hK hP 0 rfl rfl 11 (by decide) (hq _ wt_745) (fun _ h9 => h9) rfl dMo_step_264 ?_
                          refine lv_iconst (v := 3) hx hb dMo_step_267 (by decide) ?_
                          refine va_iald hx hb hK hP 4 3 rfl rfl (show ¬ ((3 : Int32) < 0 ∨ 13 ≤ (3 : Int32).toNatClampNeg) by decide) dMo_step_268 ?_
                          refine W.eq (g2 := F0 m 269 ls [.int (u.2.2.2.2 3), .ref h0, .int 1, .ref h0_hand]) rfl ?_
                          have hPc := hP.sub (ws' := [(h0, ce_Mo h0_op h0_argument h0_balance h0_inbox h0_real h0_hand h0_payee h0_paid h0_drawn h0_challenger h0_low h0_high h0_agreed h0_disputed h0_posted h0_middle h0_deadline h0_running h0_node h0_side u.1), (h0_inbox, .inl (c0_inbox, 60, .inl u.2.2.2.1))]) [0, 3] rfl
                          have hDc := hD.sub (ws' := [(h0, ce_Mo h0_op h0_argument h0_balance h0_inbox h0_real h0_hand h0_payee h0_paid h0_drawn h0_challenger h0_low h0_high h0_agreed h0_disputed h0_posted h0_middle h0_deadline h0_running h0_node h0_side u.1), (h0_inbox, .inl (c0_inbox, 60, .inl u.2.2.2.1))]) [0, 3] (by decide) rfl
                          have hKc := hK.sub (tys' := [(c0_inbox, .int)]) [2] rfl
                          have hFc := va_free (wc := [(h0, ce_Mo h0_op h0_argument h0_balance h0_inbox h0_real h0_hand h0_payee h0_paid h0_drawn h0_challenger h0_low h0_high h0_agreed h0_disputed h0_posted h0_middle h0_deadline h0_running h0_node h0_side u.1), (h0_inbox, .inl (c0_inbox, 60, .inl u.2.2.2.1))]) hD hS hA [0, 3] rfl
                          refine va_calli (va_runV (As := [.int (u.2.2.2.2 3)]) (rest := [.int 1, .ref h0_hand]) ⟨hx, hb, hml, hown, hq⟩ (mt_Mo_wordAt l dC dI h0 h0_inbox h0_op h0_argument h0_balance h0_real h0_hand h0_payee h0_paid h0_drawn h0_challenger h0_low h0_high h0_agreed h0_disputed h0_posted h0_middle h0_deadline h0_running h0_node h0_side c0_inbox s.heap.size _ (u.1, u.2.2.2.1) (u.2.2.2.2 3) hw) ⟨cq_B 1 hq wt_882 wt_879 wt_10 rfl rfl hd_Mo_wordAt ⟨Nat.le_of_ble_eq_true rfl, Nat.le_of_ble_eq_true rfl⟩, (hq _ wt_881), (hq _ wv_29)⟩ ⟨kp_bl, va_recv hKc hPc (ci := 8) (q0 := 0) rfl rfl, kp_at hPc hKc hDc hZ⟩ rfl rfl hl.1 rfl (lv_room (Nat.le_of_ble_eq_true rfl)) dMo_step_269 ⟨(by decide), (by decide)⟩) hS (fun q _ h => hFc q h) hFc (fun r88 u89 t H1 locs ht hvm hw hB hz1 hk1 hS => ?_)
                          obtain ⟨hP1, hK1, hD1⟩ := hB
                          rw [ht] at hP1
                          have hK1 := va_K.moved hvm.symm hK1
                          obtain ⟨hP, hD⟩ := va_join (wr := [(h0_op, .inl (c0_op, 16, .inl u.2.1)), (h0_argument, .inl (c0_argument, 16, .inl u.2.2.1)), (h0_hand, .inl (c0_hand, 13, .inl u.2.2.2.2))]) (w1 := [(h0, ce_Mo h0_op h0_argument h0_balance h0_inbox h0_real h0_hand h0_payee h0_paid h0_drawn h0_challenger h0_low h0_high h0_agreed h0_disputed h0_posted h0_middle h0_deadline h0_running h0_node h0_side u89.1), (h0_inbox, .inl (c0_inbox, 60, .inl u89.2))]) hP hD [0, 3] [1, 2, 4] rfl rfl (by decide) (by decide) hk1 hFc hP1 hD1
                          have hK := (hK.sub (tys' := [(c0_op, .int), (c0_argument, .int), (c0_hand, .int)]) [0, 1, 3] rfl).app hK1
                          generalize H1 = H at hP hS ⊢
                          have hP : va_P (dC, dI) vwCl [(h0_op, .inl (c0_op, 16, .inl u.2.1)), (h0_argument, .inl (c0_argument, 16, .inl u.2.2.1)), (h0_hand, .inl (c0_hand, 13, .inl u.2.2.2.2)), (h0, ce_Mo h0_op h0_argument h0_balance h0_inbox h0_real h0_hand h0_payee h0_paid h0_drawn h0_challenger h0_low h0_high h0_agreed h0_disputed h0_posted h0_middle h0_deadline h0_running h0_node h0_side u89.1), (h0_inbox, .inl (c0_inbox, 60, .inl u89.2))] H := hP
                          have hD : va_D A [(h0_op, .inl (c0_op, 16, .inl u.2.1)), (h0_argument, .inl (c0_argument, 16, .inl u.2.2.1)), (h0_hand, .inl (c0_hand, 13, .inl u.2.2.2.2)), (h0, ce_Mo h0_op h0_argument h0_balance h0_inbox h0_real h0_hand h0_payee h0_paid h0_drawn h0_challenger h0_low h0_high h0_agreed h0_disputed h0_posted h0_middle h0_deadline h0_running h0_node h0_side u89.1), (h0_inbox, .inl (c0_inbox, 60, .inl u89.2))] := hD
                          have hK : va_K (dC, dI) vwCl [(c0_op, .int), (c0_argument, .int), (c0_hand, .int), (c0_inbox, .int)] s := hK
                          refine va_iast hx hb hK hP hD hS 2 2 rfl rfl (show ¬ ((1 : Int32) < 0 ∨ 13 ≤ (1 : Int32).toNatClampNeg) by decide) dMo_step_272 (fun H locs hP hD hS => ?_)
                          have hP : va_P (dC, dI) vwCl [(h0_op, .inl (c0_op, 16, .inl u.2.1)), (h0_argument, .inl (c0_argument, 16, .inl u.2.2.1)), (h0_hand, .inl (c0_hand, 13, .inl (upd u.2.2.2.2 1 r88))), (h0, ce_Mo h0_op h0_argument h0_balance h0_inbox h0_real h0_hand h0_payee h0_paid h0_drawn h0_challenger h0_low h0_high h0_agreed h0_disputed h0_posted h0_middle h0_deadline h0_running h0_node h0_side u89.1), (h0_inbox, .inl (c0_inbox, 60, .inl u89.2))] H := hP
                          have hD : va_D A [(h0_op, .inl (c0_op, 16, .inl u.2.1)), (h0_argument, .inl (c0_argument, 16, .inl u.2.2.1)), (h0_hand, .inl (c0_hand, 13, .inl (upd u.2.2.2.2 1 r88))), (h0, ce_Mo h0_op h0_argument h0_balance h0_inbox h0_real h0_hand h0_payee h0_paid h0_drawn h0_challenger h0_low h0_high h0_agreed h0_disputed h0_posted h0_middle h0_deadline h0_running h0_node h0_side u89.1), (h0_inbox, .inl (c0_inbox, 60, .inl u89.2))] := hD
                          refine lv_aload_n hx hb dMo_step_273 rfl (lv_at hl 8 rfl) ?_
                          refine va_get (D := (dC, dI)) (ci := 8) (v := .ref h0_hand) (C := "StepCourtModel") (T := TMo) (N := 35) hx hb hq inMo hown hK hP 3 rfl rfl 11 (by decide) (hq _ wt_745) (fun _ h9 => h9) rfl dMo_step_274 ?_
                          refine lv_iconst (v := 3) hx hb dMo_step_277 (by decide) ?_
                          refine lv_dup2_11 hx hb dMo_step_278 rfl rfl ?_
                          refine va_iald hx hb hK hP 2 2 rfl rfl (show ¬ ((3 : Int32) < 0 ∨ 13 ≤ (3 : Int32).toNatClampNeg) by decide) dMo_step_279 ?_
                          refine W.eq (g2 := F0 m 280 ls [.int ((upd u.2.2.2.2 1 r88) 3), .int 3, .ref h0_hand]) rfl ?_
                          refine lv_iconst (v := 1) hx hb dMo_step_280 (by decide) ?_
                          refine lv_iadd hx hb dMo_step_281 ?_
                          refine lv_topi (fun f90 ef90 => ?_)
                          have hw := hw f90 ef90
                          refine va_iast hx hb hK hP hD hS 2 2 rfl rfl (show ¬ ((3 : Int32) < 0 ∨ 13 ≤ (3 : Int32).toNatClampNeg) by decide) dMo_step_282 (fun H locs hP hD hS => ?_)
                          have hP : va_P (dC, dI) vwCl [(h0_op, .inl (c0_op, 16, .inl u.2.1)), (h0_argument, .inl (c0_argument, 16, .inl u.2.2.1)), (h0_hand, .inl (c0_hand, 13, .inl (upd (upd u.2.2.2.2 1 r88) 3 f90))), (h0, ce_Mo h0_op h0_argument h0_balance h0_inbox h0_real h0_hand h0_payee h0_paid h0_drawn h0_challenger h0_low h0_high h0_agreed h0_disputed h0_posted h0_middle h0_deadline h0_running h0_node h0_side u89.1), (h0_inbox, .inl (c0_inbox, 60, .inl u89.2))] H := hP
                          have hD : va_D A [(h0_op, .inl (c0_op, 16, .inl u.2.1)), (h0_argument, .inl (c0_argument, 16, .inl u.2.2.1)), (h0_hand, .inl (c0_hand, 13, .inl (upd (upd u.2.2.2.2 1 r88) 3 f90))), (h0, ce_Mo h0_op h0_argument h0_balance h0_inbox h0_real h0_hand h0_payee h0_paid h0_drawn h0_challenger h0_low h0_high h0_agreed h0_disputed h0_posted h0_middle h0_deadline h0_running h0_node h0_side u89.1), (h0_inbox, .inl (c0_inbox, 60, .inl u89.2))] := hD
                          refine lv_goto (tgt := 362) hx hb dMo_step_283 (by decide) ?_
                          refine lv_aload_n hx hb dMo_step_362 rfl (lv_at hl 8 rfl) ?_
                          refine va_get (D := (dC, dI)) (ci := 8) (v := .ref h0_hand) (C := "StepCourtModel") (T := TMo) (N := 35) hx hb hq inMo hown hK hP 3 rfl rfl 11 (by decide) (hq _ wt_745) (fun _ h9 => h9) rfl dMo_step_363 ?_
                          refine lv_iconst (v := 0) hx hb dMo_step_366 (by decide) ?_
                          refine lv_iload hx hb dMo_step_367 (lv_at hl 0 rfl) ?_
                          refine lv_if_eq (tgt := 376) hx hb dMo_step_369 (by decide) (fun cc91 => ?_) (fun cc91 => ?_)
                          · have hw := hw
                            refine lv_iload hx hb dMo_step_376 (lv_at hl 4 rfl) ?_
                            refine va_iast hx hb hK hP hD hS 2 2 rfl rfl (show ¬ ((0 : Int32) < 0 ∨ 13 ≤ (0 : Int32).toNatClampNeg) by decide) dMo_step_378 (fun H locs hP hD hS => ?_)
                            have hP : va_P (dC, dI) vwCl [(h0_op, .inl (c0_op, 16, .inl u.2.1)), (h0_argument, .inl (c0_argument, 16, .inl u.2.2.1)), (h0_hand, .inl (c0_hand, 13, .inl (upd (upd (upd u.2.2.2.2 1 r88) 3 f90) 0 y6))), (h0, ce_Mo h0_op h0_argument h0_balance h0_inbox h0_real h0_hand h0_payee h0_paid h0_drawn h0_challenger h0_low h0_high h0_agreed h0_disputed h0_posted h0_middle h0_deadline h0_running h0_node h0_side u89.1), (h0_inbox, .inl (c0_inbox, 60, .inl u89.2))] H := hP
                            have hD : va_D A [(h0_op, .inl (c0_op, 16, .inl u.2.1)), (h0_argument, .inl (c0_argument, 16, .inl u.2.2.1)), (h0_hand, .inl (c0_hand, 13, .inl (upd (upd (upd u.2.2.2.2 1 r88) 3 f90) 0 y6))), (h0, ce_Mo h0_op h0_argument h0_balance h0_inbox h0_real h0_hand h0_payee h0_paid h0_drawn h0_challenger h0_low h0_high h0_agreed h0_disputed h0_posted h0_middle h0_deadline h0_running h0_node h0_side u89.1), (h0_inbox, .inl (c0_inbox, 60, .inl u89.2))] := hD
                            have hP9 := hP.sub (ws' := [(h0, ce_Mo h0_op h0_argument h0_balance h0_inbox h0_real h0_hand h0_payee h0_paid h0_drawn h0_challenger h0_low h0_high h0_agreed h0_disputed h0_posted h0_middle h0_deadline h0_running h0_node h0_side u89.1), (h0_op, .inl (c0_op, 16, .inl u.2.1)), (h0_argument, .inl (c0_argument, 16, .inl u.2.2.1)), (h0_inbox, .inl (c0_inbox, 60, .inl u89.2)), (h0_hand, .inl (c0_hand, 13, .inl (upd (upd (upd u.2.2.2.2 1 r88) 3 f90) 0 y6)))]) [3, 0, 1, 4, 2] rfl
                            have hD9 := hD.sub (ws' := [(h0, ce_Mo h0_op h0_argument h0_balance h0_inbox h0_real h0_hand h0_payee h0_paid h0_drawn h0_challenger h0_low h0_high h0_agreed h0_disputed h0_posted h0_middle h0_deadline h0_running h0_node h0_side u89.1), (h0_op, .inl (c0_op, 16, .inl u.2.1)), (h0_argument, .inl (c0_argument, 16, .inl u.2.2.1)), (h0_inbox, .inl (c0_inbox, 60, .inl u89.2)), (h0_hand, .inl (c0_hand, 13, .inl (upd (upd (upd u.2.2.2.2 1 r88) 3 f90) 0 y6)))]) [3, 0, 1, 4, 2] (by decide) rfl
                            have hK9 := hK.sub (tys' := [(c0_op, .int), (c0_argument, .int), (c0_inbox, .int), (c0_hand, .int)]) [0, 1, 3, 2] rfl
                            exact W.vret hx hb hr (fun t ht hW => ⟨⟨(u89.1, u.2.1, u.2.2.1, u89.2, (upd (upd (upd u.2.2.2.2 1 r88) 3 f90) 0 y6)), rfl, hw, by rw [ht]; exact hP9, va_K.moved hW.alike hK9, hD9⟩, hS.F ht⟩) hS.2.2 dMo_step_379
                          · first | exact absurd cc91 (by decide) | exact (cc91 (by decide)).elim
                      · have hw := hw.1 cc60
                        refine lv_aload_n hx hb dMo_step_239 rfl (lv_at hl 8 rfl) ?_
                        refine va_get (D := (dC, dI)) (ci := 8) (v := .ref h0_hand) (C := "StepCourtModel") (T := TMo) (N := 35) hx hb hq inMo hown hK hP 0 rfl rfl 11 (by decide) (hq _ wt_745) (fun _ h9 => h9) rfl dMo_step_240 ?_
                        refine lv_iload hx hb dMo_step_243 (lv_at hl 1 rfl) ?_
                        refine lv_iload hx hb dMo_step_245 (lv_at hl 3 rfl) ?_
                        obtain ⟨hh92, hw⟩ := hw
                        refine va_iast hx hb hK hP hD hS 4 3 rfl rfl hh92 dMo_step_247 (fun H locs hP hD hS => ?_)
                        have hP : va_P (dC, dI) vwCl [(h0, ce_Mo h0_op h0_argument h0_balance h0_inbox h0_real h0_hand h0_payee h0_paid h0_drawn h0_challenger h0_low h0_high h0_agreed h0_disputed h0_posted h0_middle h0_deadline h0_running h0_node h0_side u.1), (h0_op, .inl (c0_op, 16, .inl u.2.1)), (h0_argument, .inl (c0_argument, 16, .inl u.2.2.1)), (h0_inbox, .inl (c0_inbox, 60, .inl u.2.2.2.1)), (h0_hand, .inl (c0_hand, 13, .inl (upd u.2.2.2.2 y9.toNatClampNeg y7)))] H := hP
                        have hD : va_D A [(h0, ce_Mo h0_op h0_argument h0_balance h0_inbox h0_real h0_hand h0_payee h0_paid h0_drawn h0_challenger h0_low h0_high h0_agreed h0_disputed h0_posted h0_middle h0_deadline h0_running h0_node h0_side u.1), (h0_op, .inl (c0_op, 16, .inl u.2.1)), (h0_argument, .inl (c0_argument, 16, .inl u.2.2.1)), (h0_inbox, .inl (c0_inbox, 60, .inl u.2.2.2.1)), (h0_hand, .inl (c0_hand, 13, .inl (upd u.2.2.2.2 y9.toNatClampNeg y7)))] := hD
                        refine lv_goto (tgt := 362) hx hb dMo_step_248 (by decide) ?_
                        refine lv_aload_n hx hb dMo_step_362 rfl (lv_at hl 8 rfl) ?_
                        refine va_get (D := (dC, dI)) (ci := 8) (v := .ref h0_hand) (C := "StepCourtModel") (T := TMo) (N := 35) hx hb hq inMo hown hK hP 0 rfl rfl 11 (by decide) (hq _ wt_745) (fun _ h9 => h9) rfl dMo_step_363 ?_
                        refine lv_iconst (v := 0) hx hb dMo_step_366 (by decide) ?_
                        refine lv_iload hx hb dMo_step_367 (lv_at hl 0 rfl) ?_
                        refine lv_if_eq (tgt := 376) hx hb dMo_step_369 (by decide) (fun cc93 => ?_) (fun cc93 => ?_)
                        · have hw := hw
                          refine lv_iload hx hb dMo_step_376 (lv_at hl 4 rfl) ?_
                          refine va_iast hx hb hK hP hD hS 4 3 rfl rfl (show ¬ ((0 : Int32) < 0 ∨ 13 ≤ (0 : Int32).toNatClampNeg) by decide) dMo_step_378 (fun H locs hP hD hS => ?_)
                          have hP : va_P (dC, dI) vwCl [(h0, ce_Mo h0_op h0_argument h0_balance h0_inbox h0_real h0_hand h0_payee h0_paid h0_drawn h0_challenger h0_low h0_high h0_agreed h0_disputed h0_posted h0_middle h0_deadline h0_running h0_node h0_side u.1), (h0_op, .inl (c0_op, 16, .inl u.2.1)), (h0_argument, .inl (c0_argument, 16, .inl u.2.2.1)), (h0_inbox, .inl (c0_inbox, 60, .inl u.2.2.2.1)), (h0_hand, .inl (c0_hand, 13, .inl (upd (upd u.2.2.2.2 y9.toNatClampNeg y7) 0 y6)))] H := hP
                          have hD : va_D A [(h0, ce_Mo h0_op h0_argument h0_balance h0_inbox h0_real h0_hand h0_payee h0_paid h0_drawn h0_challenger h0_low h0_high h0_agreed h0_disputed h0_posted h0_middle h0_deadline h0_running h0_node h0_side u.1), (h0_op, .inl (c0_op, 16, .inl u.2.1)), (h0_argument, .inl (c0_argument, 16, .inl u.2.2.1)), (h0_inbox, .inl (c0_inbox, 60, .inl u.2.2.2.1)), (h0_hand, .inl (c0_hand, 13, .inl (upd (upd u.2.2.2.2 y9.toNatClampNeg y7) 0 y6)))] := hD
                          have hP9 := hP.sub (ws' := [(h0, ce_Mo h0_op h0_argument h0_balance h0_inbox h0_real h0_hand h0_payee h0_paid h0_drawn h0_challenger h0_low h0_high h0_agreed h0_disputed h0_posted h0_middle h0_deadline h0_running h0_node h0_side u.1), (h0_op, .inl (c0_op, 16, .inl u.2.1)), (h0_argument, .inl (c0_argument, 16, .inl u.2.2.1)), (h0_inbox, .inl (c0_inbox, 60, .inl u.2.2.2.1)), (h0_hand, .inl (c0_hand, 13, .inl (upd (upd u.2.2.2.2 y9.toNatClampNeg y7) 0 y6)))]) [0, 1, 2, 3, 4] rfl
                          have hD9 := hD.sub (ws' := [(h0, ce_Mo h0_op h0_argument h0_balance h0_inbox h0_real h0_hand h0_payee h0_paid h0_drawn h0_challenger h0_low h0_high h0_agreed h0_disputed h0_posted h0_middle h0_deadline h0_running h0_node h0_side u.1), (h0_op, .inl (c0_op, 16, .inl u.2.1)), (h0_argument, .inl (c0_argument, 16, .inl u.2.2.1)), (h0_inbox, .inl (c0_inbox, 60, .inl u.2.2.2.1)), (h0_hand, .inl (c0_hand, 13, .inl (upd (upd u.2.2.2.2 y9.toNatClampNeg y7) 0 y6)))]) [0, 1, 2, 3, 4] (by decide) rfl
                          have hK9 := hK.sub (tys' := [(c0_op, .int), (c0_argument, .int), (c0_inbox, .int), (c0_hand, .int)]) [0, 1, 2, 3] rfl
                          exact W.vret hx hb hr (fun t ht hW => ⟨⟨(u.1, u.2.1, u.2.2.1, u.2.2.2.1, (upd (upd u.2.2.2.2 y9.toNatClampNeg y7) 0 y6)), rfl, hw, by rw [ht]; exact hP9, va_K.moved hW.alike hK9, hD9⟩, hS.F ht⟩) hS.2.2 dMo_step_379
                        · first | exact absurd cc93 (by decide) | exact (cc93 (by decide)).elim
                    · have hw := hw.1 cc59
                      refine lv_aload_n hx hb dMo_step_217 rfl (lv_at hl 8 rfl) ?_
                      refine va_get (D := (dC, dI)) (ci := 8) (v := .ref h0_hand) (C := "StepCourtModel") (T := TMo) (N := 35) hx hb hq inMo hown hK hP 0 rfl rfl 11 (by decide) (hq _ wt_745) (fun _ h9 => h9) rfl dMo_step_218 ?_
                      refine lv_iconst (v := 1) hx hb dMo_step_221 (by decide) ?_
                      refine lv_aload_n hx hb dMo_step_222 rfl (lv_at hl 8 rfl) ?_
                      refine va_get (D := (dC, dI)) (ci := 8) (v := .ref h0_hand) (C := "StepCourtModel") (T := TMo) (N := 35) hx hb hq inMo hown hK hP 0 rfl rfl 11 (by decide) (hq _ wt_745) (fun _ h9 => h9) rfl dMo_step_223 ?_
                      refine lv_iload hx hb dMo_step_226 (lv_at hl 1 rfl) ?_
                      obtain ⟨hh94, hw⟩ := hw
                      refine va_iald hx hb hK hP 4 3 rfl rfl hh94 dMo_step_228 ?_
                      refine lv_topi (fun f95 ef95 => ?_)
                      have hw := hw f95 ef95
                      refine va_iast hx hb hK hP hD hS 4 3 rfl rfl (show ¬ ((1 : Int32) < 0 ∨ 13 ≤ (1 : Int32).toNatClampNeg) by decide) dMo_step_229 (fun H locs hP hD hS => ?_)
                      have hP : va_P (dC, dI) vwCl [(h0, ce_Mo h0_op h0_argument h0_balance h0_inbox h0_real h0_hand h0_payee h0_paid h0_drawn h0_challenger h0_low h0_high h0_agreed h0_disputed h0_posted h0_middle h0_deadline h0_running h0_node h0_side u.1), (h0_op, .inl (c0_op, 16, .inl u.2.1)), (h0_argument, .inl (c0_argument, 16, .inl u.2.2.1)), (h0_inbox, .inl (c0_inbox, 60, .inl u.2.2.2.1)), (h0_hand, .inl (c0_hand, 13, .inl (upd u.2.2.2.2 1 f95)))] H := hP
                      have hD : va_D A [(h0, ce_Mo h0_op h0_argument h0_balance h0_inbox h0_real h0_hand h0_payee h0_paid h0_drawn h0_challenger h0_low h0_high h0_agreed h0_disputed h0_posted h0_middle h0_deadline h0_running h0_node h0_side u.1), (h0_op, .inl (c0_op, 16, .inl u.2.1)), (h0_argument, .inl (c0_argument, 16, .inl u.2.2.1)), (h0_inbox, .inl (c0_inbox, 60, .inl u.2.2.2.1)), (h0_hand, .inl (c0_hand, 13, .inl (upd u.2.2.2.2 1 f95)))] := hD
                      refine lv_goto (tgt := 362) hx hb dMo_step_230 (by decide) ?_
                      refine lv_aload_n hx hb dMo_step_362 rfl (lv_at hl 8 rfl) ?_
                      refine va_get (D := (dC, dI)) (ci := 8) (v := .ref h0_hand) (C := "StepCourtModel") (T := TMo) (N := 35) hx hb hq inMo hown hK hP 0 rfl rfl 11 (by decide) (hq _ wt_745) (fun _ h9 => h9) rfl dMo_step_363 ?_
                      refine lv_iconst (v := 0) hx hb dMo_step_366 (by decide) ?_
                      refine lv_iload hx hb dMo_step_367 (lv_at hl 0 rfl) ?_
                      refine lv_if_eq (tgt := 376) hx hb dMo_step_369 (by decide) (fun cc96 => ?_) (fun cc96 => ?_)
                      · have hw := hw
                        refine lv_iload hx hb dMo_step_376 (lv_at hl 4 rfl) ?_
                        refine va_iast hx hb hK hP hD hS 4 3 rfl rfl (show ¬ ((0 : Int32) < 0 ∨ 13 ≤ (0 : Int32).toNatClampNeg) by decide) dMo_step_378 (fun H locs hP hD hS => ?_)
                        have hP : va_P (dC, dI) vwCl [(h0, ce_Mo h0_op h0_argument h0_balance h0_inbox h0_real h0_hand h0_payee h0_paid h0_drawn h0_challenger h0_low h0_high h0_agreed h0_disputed h0_posted h0_middle h0_deadline h0_running h0_node h0_side u.1), (h0_op, .inl (c0_op, 16, .inl u.2.1)), (h0_argument, .inl (c0_argument, 16, .inl u.2.2.1)), (h0_inbox, .inl (c0_inbox, 60, .inl u.2.2.2.1)), (h0_hand, .inl (c0_hand, 13, .inl (upd (upd u.2.2.2.2 1 f95) 0 y6)))] H := hP
                        have hD : va_D A [(h0, ce_Mo h0_op h0_argument h0_balance h0_inbox h0_real h0_hand h0_payee h0_paid h0_drawn h0_challenger h0_low h0_high h0_agreed h0_disputed h0_posted h0_middle h0_deadline h0_running h0_node h0_side u.1), (h0_op, .inl (c0_op, 16, .inl u.2.1)), (h0_argument, .inl (c0_argument, 16, .inl u.2.2.1)), (h0_inbox, .inl (c0_inbox, 60, .inl u.2.2.2.1)), (h0_hand, .inl (c0_hand, 13, .inl (upd (upd u.2.2.2.2 1 f95) 0 y6)))] := hD
                        have hP9 := hP.sub (ws' := [(h0, ce_Mo h0_op h0_argument h0_balance h0_inbox h0_real h0_hand h0_payee h0_paid h0_drawn h0_challenger h0_low h0_high h0_agreed h0_disputed h0_posted h0_middle h0_deadline h0_running h0_node h0_side u.1), (h0_op, .inl (c0_op, 16, .inl u.2.1)), (h0_argument, .inl (c0_argument, 16, .inl u.2.2.1)), (h0_inbox, .inl (c0_inbox, 60, .inl u.2.2.2.1)), (h0_hand, .inl (c0_hand, 13, .inl (upd (upd u.2.2.2.2 1 f95) 0 y6)))]) [0, 1, 2, 3, 4] rfl
                        have hD9 := hD.sub (ws' := [(h0, ce_Mo h0_op h0_argument h0_balance h0_inbox h0_real h0_hand h0_payee h0_paid h0_drawn h0_challenger h0_low h0_high h0_agreed h0_disputed h0_posted h0_middle h0_deadline h0_running h0_node h0_side u.1), (h0_op, .inl (c0_op, 16, .inl u.2.1)), (h0_argument, .inl (c0_argument, 16, .inl u.2.2.1)), (h0_inbox, .inl (c0_inbox, 60, .inl u.2.2.2.1)), (h0_hand, .inl (c0_hand, 13, .inl (upd (upd u.2.2.2.2 1 f95) 0 y6)))]) [0, 1, 2, 3, 4] (by decide) rfl
                        have hK9 := hK.sub (tys' := [(c0_op, .int), (c0_argument, .int), (c0_inbox, .int), (c0_hand, .int)]) [0, 1, 2, 3] rfl
                        exact W.vret hx hb hr (fun t ht hW => ⟨⟨(u.1, u.2.1, u.2.2.1, u.2.2.2.1, (upd (upd u.2.2.2.2 1 f95) 0 y6)), rfl, hw, by rw [ht]; exact hP9, va_K.moved hW.alike hK9, hD9⟩, hS.F ht⟩) hS.2.2 dMo_step_379
                      · first | exact absurd cc96 (by decide) | exact (cc96 (by decide)).elim
                  · have hw := hw.2 cc58
                    refine lv_aload_n hx hb dMo_step_171 rfl (lv_at hl 8 rfl) ?_
                    refine va_get (D := (dC, dI)) (ci := 8) (v := .ref h0_hand) (C := "StepCourtModel") (T := TMo) (N := 35) hx hb hq inMo hown hK hP 0 rfl rfl 11 (by decide) (hq _ wt_745) (fun _ h9 => h9) rfl dMo_step_172 ?_
                    refine lv_iconst (v := 1) hx hb dMo_step_175 (by decide) ?_
                    refine lv_iload_n hx hb dMo_step_176 rfl (lv_at hl 6 rfl) ?_
                    refine lv_iconst (v := 4) hx hb dMo_step_177 (by decide) ?_
                    refine lv_icmp_ne (tgt := 189) hx hb dMo_step_178 (by decide) (fun cc97 => ?_) (fun cc97 => ?_)
                    · have hw := hw.2 cc97
                      refine lv_iload_n hx hb dMo_step_189 rfl (lv_at hl 6 rfl) ?_
                      refine lv_iconst (v := 5) hx hb dMo_step_190 (by decide) ?_
                      refine lv_icmp_ne (tgt := 202) hx hb dMo_step_191 (by decide) (fun cc98 => ?_) (fun cc98 => ?_)
                      · have hw := hw.2 cc98
                        refine lv_iload hx hb dMo_step_202 (lv_at hl 3 rfl) ?_
                        refine lv_iload hx hb dMo_step_204 (lv_at hl 2 rfl) ?_
                        refine lv_imul hx hb dMo_step_206 ?_
                        refine lv_topi (fun f99 ef99 => ?_)
                        have hw := hw f99 ef99
                        refine va_iast hx hb hK hP hD hS 4 3 rfl rfl (show ¬ ((1 : Int32) < 0 ∨ 13 ≤ (1 : Int32).toNatClampNeg) by decide) dMo_step_207 (fun H locs hP hD hS => ?_)
                        have hP : va_P (dC, dI) vwCl [(h0, ce_Mo h0_op h0_argument h0_balance h0_inbox h0_real h0_hand h0_payee h0_paid h0_drawn h0_challenger h0_low h0_high h0_agreed h0_disputed h0_posted h0_middle h0_deadline h0_running h0_node h0_side u.1), (h0_op, .inl (c0_op, 16, .inl u.2.1)), (h0_argument, .inl (c0_argument, 16, .inl u.2.2.1)), (h0_inbox, .inl (c0_inbox, 60, .inl u.2.2.2.1)), (h0_hand, .inl (c0_hand, 13, .inl (upd u.2.2.2.2 1 f99)))] H := hP
                        have hD : va_D A [(h0, ce_Mo h0_op h0_argument h0_balance h0_inbox h0_real h0_hand h0_payee h0_paid h0_drawn h0_challenger h0_low h0_high h0_agreed h0_disputed h0_posted h0_middle h0_deadline h0_running h0_node h0_side u.1), (h0_op, .inl (c0_op, 16, .inl u.2.1)), (h0_argument, .inl (c0_argument, 16, .inl u.2.2.1)), (h0_inbox, .inl (c0_inbox, 60, .inl u.2.2.2.1)), (h0_hand, .inl (c0_hand, 13, .inl (upd u.2.2.2.2 1 f99)))] := hD
                        refine lv_goto (tgt := 362) hx hb dMo_step_208 (by decide) ?_
                        refine lv_aload_n hx hb dMo_step_362 rfl (lv_at hl 8 rfl) ?_
                        refine va_get (D := (dC, dI)) (ci := 8) (v := .ref h0_hand) (C := "StepCourtModel") (T := TMo) (N := 35) hx hb hq inMo hown hK hP 0 rfl rfl 11 (by decide) (hq _ wt_745) (fun _ h9 => h9) rfl dMo_step_363 ?_
                        refine lv_iconst (v := 0) hx hb dMo_step_366 (by decide) ?_
                        refine lv_iload hx hb dMo_step_367 (lv_at hl 0 rfl) ?_
                        refine lv_if_eq (tgt := 376) hx hb dMo_step_369 (by decide) (fun cc100 => ?_) (fun cc100 => ?_)
                        · have hw := hw
                          refine lv_iload hx hb dMo_step_376 (lv_at hl 4 rfl) ?_
                          refine va_iast hx hb hK hP hD hS 4 3 rfl rfl (show ¬ ((0 : Int32) < 0 ∨ 13 ≤ (0 : Int32).toNatClampNeg) by decide) dMo_step_378 (fun H locs hP hD hS => ?_)
                          have hP : va_P (dC, dI) vwCl [(h0, ce_Mo h0_op h0_argument h0_balance h0_inbox h0_real h0_hand h0_payee h0_paid h0_drawn h0_challenger h0_low h0_high h0_agreed h0_disputed h0_posted h0_middle h0_deadline h0_running h0_node h0_side u.1), (h0_op, .inl (c0_op, 16, .inl u.2.1)), (h0_argument, .inl (c0_argument, 16, .inl u.2.2.1)), (h0_inbox, .inl (c0_inbox, 60, .inl u.2.2.2.1)), (h0_hand, .inl (c0_hand, 13, .inl (upd (upd u.2.2.2.2 1 f99) 0 y6)))] H := hP
                          have hD : va_D A [(h0, ce_Mo h0_op h0_argument h0_balance h0_inbox h0_real h0_hand h0_payee h0_paid h0_drawn h0_challenger h0_low h0_high h0_agreed h0_disputed h0_posted h0_middle h0_deadline h0_running h0_node h0_side u.1), (h0_op, .inl (c0_op, 16, .inl u.2.1)), (h0_argument, .inl (c0_argument, 16, .inl u.2.2.1)), (h0_inbox, .inl (c0_inbox, 60, .inl u.2.2.2.1)), (h0_hand, .inl (c0_hand, 13, .inl (upd (upd u.2.2.2.2 1 f99) 0 y6)))] := hD
                          have hP9 := hP.sub (ws' := [(h0, ce_Mo h0_op h0_argument h0_balance h0_inbox h0_real h0_hand h0_payee h0_paid h0_drawn h0_challenger h0_low h0_high h0_agreed h0_disputed h0_posted h0_middle h0_deadline h0_running h0_node h0_side u.1), (h0_op, .inl (c0_op, 16, .inl u.2.1)), (h0_argument, .inl (c0_argument, 16, .inl u.2.2.1)), (h0_inbox, .inl (c0_inbox, 60, .inl u.2.2.2.1)), (h0_hand, .inl (c0_hand, 13, .inl (upd (upd u.2.2.2.2 1 f99) 0 y6)))]) [0, 1, 2, 3, 4] rfl
                          have hD9 := hD.sub (ws' := [(h0, ce_Mo h0_op h0_argument h0_balance h0_inbox h0_real h0_hand h0_payee h0_paid h0_drawn h0_challenger h0_low h0_high h0_agreed h0_disputed h0_posted h0_middle h0_deadline h0_running h0_node h0_side u.1), (h0_op, .inl (c0_op, 16, .inl u.2.1)), (h0_argument, .inl (c0_argument, 16, .inl u.2.2.1)), (h0_inbox, .inl (c0_inbox, 60, .inl u.2.2.2.1)), (h0_hand, .inl (c0_hand, 13, .inl (upd (upd u.2.2.2.2 1 f99) 0 y6)))]) [0, 1, 2, 3, 4] (by decide) rfl
                          have hK9 := hK.sub (tys' := [(c0_op, .int), (c0_argument, .int), (c0_inbox, .int), (c0_hand, .int)]) [0, 1, 2, 3] rfl
                          exact W.vret hx hb hr (fun t ht hW => ⟨⟨(u.1, u.2.1, u.2.2.1, u.2.2.2.1, (upd (upd u.2.2.2.2 1 f99) 0 y6)), rfl, hw, by rw [ht]; exact hP9, va_K.moved hW.alike hK9, hD9⟩, hS.F ht⟩) hS.2.2 dMo_step_379
                        · first | exact absurd cc100 (by decide) | exact (cc100 (by decide)).elim
                      · have hw := hw.1 cc98
                        refine lv_iload hx hb dMo_step_194 (lv_at hl 3 rfl) ?_
                        refine lv_iload hx hb dMo_step_196 (lv_at hl 2 rfl) ?_
                        refine lv_isub hx hb dMo_step_198 ?_
                        refine lv_goto (tgt := 207) hx hb dMo_step_199 (by decide) ?_
                        refine lv_topi (fun f101 ef101 => ?_)
                        have hw := hw f101 ef101
                        refine va_iast hx hb hK hP hD hS 4 3 rfl rfl (show ¬ ((1 : Int32) < 0 ∨ 13 ≤ (1 : Int32).toNatClampNeg) by decide) dMo_step_207 (fun H locs hP hD hS => ?_)
                        have hP : va_P (dC, dI) vwCl [(h0, ce_Mo h0_op h0_argument h0_balance h0_inbox h0_real h0_hand h0_payee h0_paid h0_drawn h0_challenger h0_low h0_high h0_agreed h0_disputed h0_posted h0_middle h0_deadline h0_running h0_node h0_side u.1), (h0_op, .inl (c0_op, 16, .inl u.2.1)), (h0_argument, .inl (c0_argument, 16, .inl u.2.2.1)), (h0_inbox, .inl (c0_inbox, 60, .inl u.2.2.2.1)), (h0_hand, .inl (c0_hand, 13, .inl (upd u.2.2.2.2 1 f101)))] H := hP
                        have hD : va_D A [(h0, ce_Mo h0_op h0_argument h0_balance h0_inbox h0_real h0_hand h0_payee h0_paid h0_drawn h0_challenger h0_low h0_high h0_agreed h0_disputed h0_posted h0_middle h0_deadline h0_running h0_node h0_side u.1), (h0_op, .inl (c0_op, 16, .inl u.2.1)), (h0_argument, .inl (c0_argument, 16, .inl u.2.2.1)), (h0_inbox, .inl (c0_inbox, 60, .inl u.2.2.2.1)), (h0_hand, .inl (c0_hand, 13, .inl (upd u.2.2.2.2 1 f101)))] := hD
                        refine lv_goto (tgt := 362) hx hb dMo_step_208 (by decide) ?_
                        refine lv_aload_n hx hb dMo_step_362 rfl (lv_at hl 8 rfl) ?_
                        refine va_get (D := (dC, dI)) (ci := 8) (v := .ref h0_hand) (C := "StepCourtModel") (T := TMo) (N := 35) hx hb hq inMo hown hK hP 0 rfl rfl 11 (by decide) (hq _ wt_745) (fun _ h9 => h9) rfl dMo_step_363 ?_
                        refine lv_iconst (v := 0) hx hb dMo_step_366 (by decide) ?_
                        refine lv_iload hx hb dMo_step_367 (lv_at hl 0 rfl) ?_
                        refine lv_if_eq (tgt := 376) hx hb dMo_step_369 (by decide) (fun cc102 => ?_) (fun cc102 => ?_)
                        · have hw := hw
                          refine lv_iload hx hb dMo_step_376 (lv_at hl 4 rfl) ?_
                          refine va_iast hx hb hK hP hD hS 4 3 rfl rfl (show ¬ ((0 : Int32) < 0 ∨ 13 ≤ (0 : Int32).toNatClampNeg) by decide) dMo_step_378 (fun H locs hP hD hS => ?_)
                          have hP : va_P (dC, dI) vwCl [(h0, ce_Mo h0_op h0_argument h0_balance h0_inbox h0_real h0_hand h0_payee h0_paid h0_drawn h0_challenger h0_low h0_high h0_agreed h0_disputed h0_posted h0_middle h0_deadline h0_running h0_node h0_side u.1), (h0_op, .inl (c0_op, 16, .inl u.2.1)), (h0_argument, .inl (c0_argument, 16, .inl u.2.2.1)), (h0_inbox, .inl (c0_inbox, 60, .inl u.2.2.2.1)), (h0_hand, .inl (c0_hand, 13, .inl (upd (upd u.2.2.2.2 1 f101) 0 y6)))] H := hP
                          have hD : va_D A [(h0, ce_Mo h0_op h0_argument h0_balance h0_inbox h0_real h0_hand h0_payee h0_paid h0_drawn h0_challenger h0_low h0_high h0_agreed h0_disputed h0_posted h0_middle h0_deadline h0_running h0_node h0_side u.1), (h0_op, .inl (c0_op, 16, .inl u.2.1)), (h0_argument, .inl (c0_argument, 16, .inl u.2.2.1)), (h0_inbox, .inl (c0_inbox, 60, .inl u.2.2.2.1)), (h0_hand, .inl (c0_hand, 13, .inl (upd (upd u.2.2.2.2 1 f101) 0 y6)))] := hD
                          have hP9 := hP.sub (ws' := [(h0, ce_Mo h0_op h0_argument h0_balance h0_inbox h0_real h0_hand h0_payee h0_paid h0_drawn h0_challenger h0_low h0_high h0_agreed h0_disputed h0_posted h0_middle h0_deadline h0_running h0_node h0_side u.1), (h0_op, .inl (c0_op, 16, .inl u.2.1)), (h0_argument, .inl (c0_argument, 16, .inl u.2.2.1)), (h0_inbox, .inl (c0_inbox, 60, .inl u.2.2.2.1)), (h0_hand, .inl (c0_hand, 13, .inl (upd (upd u.2.2.2.2 1 f101) 0 y6)))]) [0, 1, 2, 3, 4] rfl
                          have hD9 := hD.sub (ws' := [(h0, ce_Mo h0_op h0_argument h0_balance h0_inbox h0_real h0_hand h0_payee h0_paid h0_drawn h0_challenger h0_low h0_high h0_agreed h0_disputed h0_posted h0_middle h0_deadline h0_running h0_node h0_side u.1), (h0_op, .inl (c0_op, 16, .inl u.2.1)), (h0_argument, .inl (c0_argument, 16, .inl u.2.2.1)), (h0_inbox, .inl (c0_inbox, 60, .inl u.2.2.2.1)), (h0_hand, .inl (c0_hand, 13, .inl (upd (upd u.2.2.2.2 1 f101) 0 y6)))]) [0, 1, 2, 3, 4] (by decide) rfl
                          have hK9 := hK.sub (tys' := [(c0_op, .int), (c0_argument, .int), (c0_inbox, .int), (c0_hand, .int)]) [0, 1, 2, 3] rfl
                          exact W.vret hx hb hr (fun t ht hW => ⟨⟨(u.1, u.2.1, u.2.2.1, u.2.2.2.1, (upd (upd u.2.2.2.2 1 f101) 0 y6)), rfl, hw, by rw [ht]; exact hP9, va_K.moved hW.alike hK9, hD9⟩, hS.F ht⟩) hS.2.2 dMo_step_379
                        · first | exact absurd cc102 (by decide) | exact (cc102 (by decide)).elim
                    · have hw := hw.1 cc97
                      refine lv_iload hx hb dMo_step_181 (lv_at hl 3 rfl) ?_
                      refine lv_iload hx hb dMo_step_183 (lv_at hl 2 rfl) ?_
                      refine lv_iadd hx hb dMo_step_185 ?_
                      refine lv_goto (tgt := 207) hx hb dMo_step_186 (by decide) ?_
                      refine lv_topi (fun f103 ef103 => ?_)
                      have hw := hw f103 ef103
                      refine va_iast hx hb hK hP hD hS 4 3 rfl rfl (show ¬ ((1 : Int32) < 0 ∨ 13 ≤ (1 : Int32).toNatClampNeg) by decide) dMo_step_207 (fun H locs hP hD hS => ?_)
                      have hP : va_P (dC, dI) vwCl [(h0, ce_Mo h0_op h0_argument h0_balance h0_inbox h0_real h0_hand h0_payee h0_paid h0_drawn h0_challenger h0_low h0_high h0_agreed h0_disputed h0_posted h0_middle h0_deadline h0_running h0_node h0_side u.1), (h0_op, .inl (c0_op, 16, .inl u.2.1)), (h0_argument, .inl (c0_argument, 16, .inl u.2.2.1)), (h0_inbox, .inl (c0_inbox, 60, .inl u.2.2.2.1)), (h0_hand, .inl (c0_hand, 13, .inl (upd u.2.2.2.2 1 f103)))] H := hP
                      have hD : va_D A [(h0, ce_Mo h0_op h0_argument h0_balance h0_inbox h0_real h0_hand h0_payee h0_paid h0_drawn h0_challenger h0_low h0_high h0_agreed h0_disputed h0_posted h0_middle h0_deadline h0_running h0_node h0_side u.1), (h0_op, .inl (c0_op, 16, .inl u.2.1)), (h0_argument, .inl (c0_argument, 16, .inl u.2.2.1)), (h0_inbox, .inl (c0_inbox, 60, .inl u.2.2.2.1)), (h0_hand, .inl (c0_hand, 13, .inl (upd u.2.2.2.2 1 f103)))] := hD
                      refine lv_goto (tgt := 362) hx hb dMo_step_208 (by decide) ?_
                      refine lv_aload_n hx hb dMo_step_362 rfl (lv_at hl 8 rfl) ?_
                      refine va_get (D := (dC, dI)) (ci := 8) (v := .ref h0_hand) (C := "StepCourtModel") (T := TMo) (N := 35) hx hb hq inMo hown hK hP 0 rfl rfl 11 (by decide) (hq _ wt_745) (fun _ h9 => h9) rfl dMo_step_363 ?_
                      refine lv_iconst (v := 0) hx hb dMo_step_366 (by decide) ?_
                      refine lv_iload hx hb dMo_step_367 (lv_at hl 0 rfl) ?_
                      refine lv_if_eq (tgt := 376) hx hb dMo_step_369 (by decide) (fun cc104 => ?_) (fun cc104 => ?_)
                      · have hw := hw
                        refine lv_iload hx hb dMo_step_376 (lv_at hl 4 rfl) ?_
                        refine va_iast hx hb hK hP hD hS 4 3 rfl rfl (show ¬ ((0 : Int32) < 0 ∨ 13 ≤ (0 : Int32).toNatClampNeg) by decide) dMo_step_378 (fun H locs hP hD hS => ?_)
                        have hP : va_P (dC, dI) vwCl [(h0, ce_Mo h0_op h0_argument h0_balance h0_inbox h0_real h0_hand h0_payee h0_paid h0_drawn h0_challenger h0_low h0_high h0_agreed h0_disputed h0_posted h0_middle h0_deadline h0_running h0_node h0_side u.1), (h0_op, .inl (c0_op, 16, .inl u.2.1)), (h0_argument, .inl (c0_argument, 16, .inl u.2.2.1)), (h0_inbox, .inl (c0_inbox, 60, .inl u.2.2.2.1)), (h0_hand, .inl (c0_hand, 13, .inl (upd (upd u.2.2.2.2 1 f103) 0 y6)))] H := hP
                        have hD : va_D A [(h0, ce_Mo h0_op h0_argument h0_balance h0_inbox h0_real h0_hand h0_payee h0_paid h0_drawn h0_challenger h0_low h0_high h0_agreed h0_disputed h0_posted h0_middle h0_deadline h0_running h0_node h0_side u.1), (h0_op, .inl (c0_op, 16, .inl u.2.1)), (h0_argument, .inl (c0_argument, 16, .inl u.2.2.1)), (h0_inbox, .inl (c0_inbox, 60, .inl u.2.2.2.1)), (h0_hand, .inl (c0_hand, 13, .inl (upd (upd u.2.2.2.2 1 f103) 0 y6)))] := hD
                        have hP9 := hP.sub (ws' := [(h0, ce_Mo h0_op h0_argument h0_balance h0_inbox h0_real h0_hand h0_payee h0_paid h0_drawn h0_challenger h0_low h0_high h0_agreed h0_disputed h0_posted h0_middle h0_deadline h0_running h0_node h0_side u.1), (h0_op, .inl (c0_op, 16, .inl u.2.1)), (h0_argument, .inl (c0_argument, 16, .inl u.2.2.1)), (h0_inbox, .inl (c0_inbox, 60, .inl u.2.2.2.1)), (h0_hand, .inl (c0_hand, 13, .inl (upd (upd u.2.2.2.2 1 f103) 0 y6)))]) [0, 1, 2, 3, 4] rfl
                        have hD9 := hD.sub (ws' := [(h0, ce_Mo h0_op h0_argument h0_balance h0_inbox h0_real h0_hand h0_payee h0_paid h0_drawn h0_challenger h0_low h0_high h0_agreed h0_disputed h0_posted h0_middle h0_deadline h0_running h0_node h0_side u.1), (h0_op, .inl (c0_op, 16, .inl u.2.1)), (h0_argument, .inl (c0_argument, 16, .inl u.2.2.1)), (h0_inbox, .inl (c0_inbox, 60, .inl u.2.2.2.1)), (h0_hand, .inl (c0_hand, 13, .inl (upd (upd u.2.2.2.2 1 f103) 0 y6)))]) [0, 1, 2, 3, 4] (by decide) rfl
                        have hK9 := hK.sub (tys' := [(c0_op, .int), (c0_argument, .int), (c0_inbox, .int), (c0_hand, .int)]) [0, 1, 2, 3] rfl
                        exact W.vret hx hb hr (fun t ht hW => ⟨⟨(u.1, u.2.1, u.2.2.1, u.2.2.2.1, (upd (upd u.2.2.2.2 1 f103) 0 y6)), rfl, hw, by rw [ht]; exact hP9, va_K.moved hW.alike hK9, hD9⟩, hS.F ht⟩) hS.2.2 dMo_step_379
                      · first | exact absurd cc104 (by decide) | exact (cc104 (by decide)).elim
              · have hw := hw.1 cc18
                refine lv_aload_n hx hb dMo_step_141 rfl (lv_at hl 8 rfl) ?_
                refine va_get (D := (dC, dI)) (ci := 8) (v := .ref h0_hand) (C := "StepCourtModel") (T := TMo) (N := 35) hx hb hq inMo hown hK hP 0 rfl rfl 11 (by decide) (hq _ wt_745) (fun _ h9 => h9) rfl dMo_step_142 ?_
                refine lv_iconst (v := 1) hx hb dMo_step_145 (by decide) ?_
                refine lv_iload hx hb dMo_step_146 (lv_at hl 2 rfl) ?_
                refine va_iast hx hb hK hP hD hS 4 3 rfl rfl (show ¬ ((1 : Int32) < 0 ∨ 13 ≤ (1 : Int32).toNatClampNeg) by decide) dMo_step_148 (fun H locs hP hD hS => ?_)
                have hP : va_P (dC, dI) vwCl [(h0, ce_Mo h0_op h0_argument h0_balance h0_inbox h0_real h0_hand h0_payee h0_paid h0_drawn h0_challenger h0_low h0_high h0_agreed h0_disputed h0_posted h0_middle h0_deadline h0_running h0_node h0_side u.1), (h0_op, .inl (c0_op, 16, .inl u.2.1)), (h0_argument, .inl (c0_argument, 16, .inl u.2.2.1)), (h0_inbox, .inl (c0_inbox, 60, .inl u.2.2.2.1)), (h0_hand, .inl (c0_hand, 13, .inl (upd u.2.2.2.2 1 y8)))] H := hP
                have hD : va_D A [(h0, ce_Mo h0_op h0_argument h0_balance h0_inbox h0_real h0_hand h0_payee h0_paid h0_drawn h0_challenger h0_low h0_high h0_agreed h0_disputed h0_posted h0_middle h0_deadline h0_running h0_node h0_side u.1), (h0_op, .inl (c0_op, 16, .inl u.2.1)), (h0_argument, .inl (c0_argument, 16, .inl u.2.2.1)), (h0_inbox, .inl (c0_inbox, 60, .inl u.2.2.2.1)), (h0_hand, .inl (c0_hand, 13, .inl (upd u.2.2.2.2 1 y8)))] := hD
                refine lv_aload_n hx hb dMo_step_149 rfl (lv_at hl 8 rfl) ?_
                refine va_get (D := (dC, dI)) (ci := 8) (v := .ref h0_hand) (C := "StepCourtModel") (T := TMo) (N := 35) hx hb hq inMo hown hK hP 0 rfl rfl 11 (by decide) (hq _ wt_745) (fun _ h9 => h9) rfl dMo_step_150 ?_
                refine lv_iconst (v := 2) hx hb dMo_step_153 (by decide) ?_
                refine lv_iload hx hb dMo_step_154 (lv_at hl 3 rfl) ?_
                refine va_iast hx hb hK hP hD hS 4 3 rfl rfl (show ¬ ((2 : Int32) < 0 ∨ 13 ≤ (2 : Int32).toNatClampNeg) by decide) dMo_step_156 (fun H locs hP hD hS => ?_)
                have hP : va_P (dC, dI) vwCl [(h0, ce_Mo h0_op h0_argument h0_balance h0_inbox h0_real h0_hand h0_payee h0_paid h0_drawn h0_challenger h0_low h0_high h0_agreed h0_disputed h0_posted h0_middle h0_deadline h0_running h0_node h0_side u.1), (h0_op, .inl (c0_op, 16, .inl u.2.1)), (h0_argument, .inl (c0_argument, 16, .inl u.2.2.1)), (h0_inbox, .inl (c0_inbox, 60, .inl u.2.2.2.1)), (h0_hand, .inl (c0_hand, 13, .inl (upd (upd u.2.2.2.2 1 y8) 2 y7)))] H := hP
                have hD : va_D A [(h0, ce_Mo h0_op h0_argument h0_balance h0_inbox h0_real h0_hand h0_payee h0_paid h0_drawn h0_challenger h0_low h0_high h0_agreed h0_disputed h0_posted h0_middle h0_deadline h0_running h0_node h0_side u.1), (h0_op, .inl (c0_op, 16, .inl u.2.1)), (h0_argument, .inl (c0_argument, 16, .inl u.2.2.1)), (h0_inbox, .inl (c0_inbox, 60, .inl u.2.2.2.1)), (h0_hand, .inl (c0_hand, 13, .inl (upd (upd u.2.2.2.2 1 y8) 2 y7)))] := hD
                refine lv_goto (tgt := 362) hx hb dMo_step_157 (by decide) ?_
                refine lv_aload_n hx hb dMo_step_362 rfl (lv_at hl 8 rfl) ?_
                refine va_get (D := (dC, dI)) (ci := 8) (v := .ref h0_hand) (C := "StepCourtModel") (T := TMo) (N := 35) hx hb hq inMo hown hK hP 0 rfl rfl 11 (by decide) (hq _ wt_745) (fun _ h9 => h9) rfl dMo_step_363 ?_
                refine lv_iconst (v := 0) hx hb dMo_step_366 (by decide) ?_
                refine lv_iload hx hb dMo_step_367 (lv_at hl 0 rfl) ?_
                refine lv_if_eq (tgt := 376) hx hb dMo_step_369 (by decide) (fun cc105 => ?_) (fun cc105 => ?_)
                · have hw := hw
                  refine lv_iload hx hb dMo_step_376 (lv_at hl 4 rfl) ?_
                  refine va_iast hx hb hK hP hD hS 4 3 rfl rfl (show ¬ ((0 : Int32) < 0 ∨ 13 ≤ (0 : Int32).toNatClampNeg) by decide) dMo_step_378 (fun H locs hP hD hS => ?_)
                  have hP : va_P (dC, dI) vwCl [(h0, ce_Mo h0_op h0_argument h0_balance h0_inbox h0_real h0_hand h0_payee h0_paid h0_drawn h0_challenger h0_low h0_high h0_agreed h0_disputed h0_posted h0_middle h0_deadline h0_running h0_node h0_side u.1), (h0_op, .inl (c0_op, 16, .inl u.2.1)), (h0_argument, .inl (c0_argument, 16, .inl u.2.2.1)), (h0_inbox, .inl (c0_inbox, 60, .inl u.2.2.2.1)), (h0_hand, .inl (c0_hand, 13, .inl (upd (upd (upd u.2.2.2.2 1 y8) 2 y7) 0 y6)))] H := hP
                  have hD : va_D A [(h0, ce_Mo h0_op h0_argument h0_balance h0_inbox h0_real h0_hand h0_payee h0_paid h0_drawn h0_challenger h0_low h0_high h0_agreed h0_disputed h0_posted h0_middle h0_deadline h0_running h0_node h0_side u.1), (h0_op, .inl (c0_op, 16, .inl u.2.1)), (h0_argument, .inl (c0_argument, 16, .inl u.2.2.1)), (h0_inbox, .inl (c0_inbox, 60, .inl u.2.2.2.1)), (h0_hand, .inl (c0_hand, 13, .inl (upd (upd (upd u.2.2.2.2 1 y8) 2 y7) 0 y6)))] := hD
                  have hP9 := hP.sub (ws' := [(h0, ce_Mo h0_op h0_argument h0_balance h0_inbox h0_real h0_hand h0_payee h0_paid h0_drawn h0_challenger h0_low h0_high h0_agreed h0_disputed h0_posted h0_middle h0_deadline h0_running h0_node h0_side u.1), (h0_op, .inl (c0_op, 16, .inl u.2.1)), (h0_argument, .inl (c0_argument, 16, .inl u.2.2.1)), (h0_inbox, .inl (c0_inbox, 60, .inl u.2.2.2.1)), (h0_hand, .inl (c0_hand, 13, .inl (upd (upd (upd u.2.2.2.2 1 y8) 2 y7) 0 y6)))]) [0, 1, 2, 3, 4] rfl
                  have hD9 := hD.sub (ws' := [(h0, ce_Mo h0_op h0_argument h0_balance h0_inbox h0_real h0_hand h0_payee h0_paid h0_drawn h0_challenger h0_low h0_high h0_agreed h0_disputed h0_posted h0_middle h0_deadline h0_running h0_node h0_side u.1), (h0_op, .inl (c0_op, 16, .inl u.2.1)), (h0_argument, .inl (c0_argument, 16, .inl u.2.2.1)), (h0_inbox, .inl (c0_inbox, 60, .inl u.2.2.2.1)), (h0_hand, .inl (c0_hand, 13, .inl (upd (upd (upd u.2.2.2.2 1 y8) 2 y7) 0 y6)))]) [0, 1, 2, 3, 4] (by decide) rfl
                  have hK9 := hK.sub (tys' := [(c0_op, .int), (c0_argument, .int), (c0_inbox, .int), (c0_hand, .int)]) [0, 1, 2, 3] rfl
                  exact W.vret hx hb hr (fun t ht hW => ⟨⟨(u.1, u.2.1, u.2.2.1, u.2.2.2.1, (upd (upd (upd u.2.2.2.2 1 y8) 2 y7) 0 y6)), rfl, hw, by rw [ht]; exact hP9, va_K.moved hW.alike hK9, hD9⟩, hS.F ht⟩) hS.2.2 dMo_step_379
                · first | exact absurd cc105 (by decide) | exact (cc105 (by decide)).elim
            · have hw := hw.1 cc17
              refine lv_aload_n hx hb dMo_step_125 rfl (lv_at hl 8 rfl) ?_
              refine va_get (D := (dC, dI)) (ci := 8) (v := .ref h0_hand) (C := "StepCourtModel") (T := TMo) (N := 35) hx hb hq inMo hown hK hP 0 rfl rfl 11 (by decide) (hq _ wt_745) (fun _ h9 => h9) rfl dMo_step_126 ?_
              refine lv_iconst (v := 2) hx hb dMo_step_129 (by decide) ?_
              refine lv_iload hx hb dMo_step_130 (lv_at hl 5 rfl) ?_
              refine va_iast hx hb hK hP hD hS 4 3 rfl rfl (show ¬ ((2 : Int32) < 0 ∨ 13 ≤ (2 : Int32).toNatClampNeg) by decide) dMo_step_132 (fun H locs hP hD hS => ?_)
              have hP : va_P (dC, dI) vwCl [(h0, ce_Mo h0_op h0_argument h0_balance h0_inbox h0_real h0_hand h0_payee h0_paid h0_drawn h0_challenger h0_low h0_high h0_agreed h0_disputed h0_posted h0_middle h0_deadline h0_running h0_node h0_side u.1), (h0_op, .inl (c0_op, 16, .inl u.2.1)), (h0_argument, .inl (c0_argument, 16, .inl u.2.2.1)), (h0_inbox, .inl (c0_inbox, 60, .inl u.2.2.2.1)), (h0_hand, .inl (c0_hand, 13, .inl (upd u.2.2.2.2 2 y5)))] H := hP
              have hD : va_D A [(h0, ce_Mo h0_op h0_argument h0_balance h0_inbox h0_real h0_hand h0_payee h0_paid h0_drawn h0_challenger h0_low h0_high h0_agreed h0_disputed h0_posted h0_middle h0_deadline h0_running h0_node h0_side u.1), (h0_op, .inl (c0_op, 16, .inl u.2.1)), (h0_argument, .inl (c0_argument, 16, .inl u.2.2.1)), (h0_inbox, .inl (c0_inbox, 60, .inl u.2.2.2.1)), (h0_hand, .inl (c0_hand, 13, .inl (upd u.2.2.2.2 2 y5)))] := hD
              refine lv_goto (tgt := 362) hx hb dMo_step_133 (by decide) ?_
              refine lv_aload_n hx hb dMo_step_362 rfl (lv_at hl 8 rfl) ?_
              refine va_get (D := (dC, dI)) (ci := 8) (v := .ref h0_hand) (C := "StepCourtModel") (T := TMo) (N := 35) hx hb hq inMo hown hK hP 0 rfl rfl 11 (by decide) (hq _ wt_745) (fun _ h9 => h9) rfl dMo_step_363 ?_
              refine lv_iconst (v := 0) hx hb dMo_step_366 (by decide) ?_
              refine lv_iload hx hb dMo_step_367 (lv_at hl 0 rfl) ?_
              refine lv_if_eq (tgt := 376) hx hb dMo_step_369 (by decide) (fun cc106 => ?_) (fun cc106 => ?_)
              · have hw := hw
                refine lv_iload hx hb dMo_step_376 (lv_at hl 4 rfl) ?_
                refine va_iast hx hb hK hP hD hS 4 3 rfl rfl (show ¬ ((0 : Int32) < 0 ∨ 13 ≤ (0 : Int32).toNatClampNeg) by decide) dMo_step_378 (fun H locs hP hD hS => ?_)
                have hP : va_P (dC, dI) vwCl [(h0, ce_Mo h0_op h0_argument h0_balance h0_inbox h0_real h0_hand h0_payee h0_paid h0_drawn h0_challenger h0_low h0_high h0_agreed h0_disputed h0_posted h0_middle h0_deadline h0_running h0_node h0_side u.1), (h0_op, .inl (c0_op, 16, .inl u.2.1)), (h0_argument, .inl (c0_argument, 16, .inl u.2.2.1)), (h0_inbox, .inl (c0_inbox, 60, .inl u.2.2.2.1)), (h0_hand, .inl (c0_hand, 13, .inl (upd (upd u.2.2.2.2 2 y5) 0 y6)))] H := hP
                have hD : va_D A [(h0, ce_Mo h0_op h0_argument h0_balance h0_inbox h0_real h0_hand h0_payee h0_paid h0_drawn h0_challenger h0_low h0_high h0_agreed h0_disputed h0_posted h0_middle h0_deadline h0_running h0_node h0_side u.1), (h0_op, .inl (c0_op, 16, .inl u.2.1)), (h0_argument, .inl (c0_argument, 16, .inl u.2.2.1)), (h0_inbox, .inl (c0_inbox, 60, .inl u.2.2.2.1)), (h0_hand, .inl (c0_hand, 13, .inl (upd (upd u.2.2.2.2 2 y5) 0 y6)))] := hD
                have hP9 := hP.sub (ws' := [(h0, ce_Mo h0_op h0_argument h0_balance h0_inbox h0_real h0_hand h0_payee h0_paid h0_drawn h0_challenger h0_low h0_high h0_agreed h0_disputed h0_posted h0_middle h0_deadline h0_running h0_node h0_side u.1), (h0_op, .inl (c0_op, 16, .inl u.2.1)), (h0_argument, .inl (c0_argument, 16, .inl u.2.2.1)), (h0_inbox, .inl (c0_inbox, 60, .inl u.2.2.2.1)), (h0_hand, .inl (c0_hand, 13, .inl (upd (upd u.2.2.2.2 2 y5) 0 y6)))]) [0, 1, 2, 3, 4] rfl
                have hD9 := hD.sub (ws' := [(h0, ce_Mo h0_op h0_argument h0_balance h0_inbox h0_real h0_hand h0_payee h0_paid h0_drawn h0_challenger h0_low h0_high h0_agreed h0_disputed h0_posted h0_middle h0_deadline h0_running h0_node h0_side u.1), (h0_op, .inl (c0_op, 16, .inl u.2.1)), (h0_argument, .inl (c0_argument, 16, .inl u.2.2.1)), (h0_inbox, .inl (c0_inbox, 60, .inl u.2.2.2.1)), (h0_hand, .inl (c0_hand, 13, .inl (upd (upd u.2.2.2.2 2 y5) 0 y6)))]) [0, 1, 2, 3, 4] (by decide) rfl
                have hK9 := hK.sub (tys' := [(c0_op, .int), (c0_argument, .int), (c0_inbox, .int), (c0_hand, .int)]) [0, 1, 2, 3] rfl
                exact W.vret hx hb hr (fun t ht hW => ⟨⟨(u.1, u.2.1, u.2.2.1, u.2.2.2.1, (upd (upd u.2.2.2.2 2 y5) 0 y6)), rfl, hw, by rw [ht]; exact hP9, va_K.moved hW.alike hK9, hD9⟩, hS.F ht⟩) hS.2.2 dMo_step_379
              · first | exact absurd cc106 (by decide) | exact (cc106 (by decide)).elim
          · have hw := hw.1 cc16
            refine lv_aload_n hx hb dMo_step_109 rfl (lv_at hl 8 rfl) ?_
            refine va_get (D := (dC, dI)) (ci := 8) (v := .ref h0_hand) (C := "StepCourtModel") (T := TMo) (N := 35) hx hb hq inMo hown hK hP 0 rfl rfl 11 (by decide) (hq _ wt_745) (fun _ h9 => h9) rfl dMo_step_110 ?_
            refine lv_iconst (v := 1) hx hb dMo_step_113 (by decide) ?_
            refine lv_iload hx hb dMo_step_114 (lv_at hl 5 rfl) ?_
            refine va_iast hx hb hK hP hD hS 4 3 rfl rfl (show ¬ ((1 : Int32) < 0 ∨ 13 ≤ (1 : Int32).toNatClampNeg) by decide) dMo_step_116 (fun H locs hP hD hS => ?_)
            have hP : va_P (dC, dI) vwCl [(h0, ce_Mo h0_op h0_argument h0_balance h0_inbox h0_real h0_hand h0_payee h0_paid h0_drawn h0_challenger h0_low h0_high h0_agreed h0_disputed h0_posted h0_middle h0_deadline h0_running h0_node h0_side u.1), (h0_op, .inl (c0_op, 16, .inl u.2.1)), (h0_argument, .inl (c0_argument, 16, .inl u.2.2.1)), (h0_inbox, .inl (c0_inbox, 60, .inl u.2.2.2.1)), (h0_hand, .inl (c0_hand, 13, .inl (upd u.2.2.2.2 1 y5)))] H := hP
            have hD : va_D A [(h0, ce_Mo h0_op h0_argument h0_balance h0_inbox h0_real h0_hand h0_payee h0_paid h0_drawn h0_challenger h0_low h0_high h0_agreed h0_disputed h0_posted h0_middle h0_deadline h0_running h0_node h0_side u.1), (h0_op, .inl (c0_op, 16, .inl u.2.1)), (h0_argument, .inl (c0_argument, 16, .inl u.2.2.1)), (h0_inbox, .inl (c0_inbox, 60, .inl u.2.2.2.1)), (h0_hand, .inl (c0_hand, 13, .inl (upd u.2.2.2.2 1 y5)))] := hD
            refine lv_goto (tgt := 362) hx hb dMo_step_117 (by decide) ?_
            refine lv_aload_n hx hb dMo_step_362 rfl (lv_at hl 8 rfl) ?_
            refine va_get (D := (dC, dI)) (ci := 8) (v := .ref h0_hand) (C := "StepCourtModel") (T := TMo) (N := 35) hx hb hq inMo hown hK hP 0 rfl rfl 11 (by decide) (hq _ wt_745) (fun _ h9 => h9) rfl dMo_step_363 ?_
            refine lv_iconst (v := 0) hx hb dMo_step_366 (by decide) ?_
            refine lv_iload hx hb dMo_step_367 (lv_at hl 0 rfl) ?_
            refine lv_if_eq (tgt := 376) hx hb dMo_step_369 (by decide) (fun cc107 => ?_) (fun cc107 => ?_)
            · have hw := hw
              refine lv_iload hx hb dMo_step_376 (lv_at hl 4 rfl) ?_
              refine va_iast hx hb hK hP hD hS 4 3 rfl rfl (show ¬ ((0 : Int32) < 0 ∨ 13 ≤ (0 : Int32).toNatClampNeg) by decide) dMo_step_378 (fun H locs hP hD hS => ?_)
              have hP : va_P (dC, dI) vwCl [(h0, ce_Mo h0_op h0_argument h0_balance h0_inbox h0_real h0_hand h0_payee h0_paid h0_drawn h0_challenger h0_low h0_high h0_agreed h0_disputed h0_posted h0_middle h0_deadline h0_running h0_node h0_side u.1), (h0_op, .inl (c0_op, 16, .inl u.2.1)), (h0_argument, .inl (c0_argument, 16, .inl u.2.2.1)), (h0_inbox, .inl (c0_inbox, 60, .inl u.2.2.2.1)), (h0_hand, .inl (c0_hand, 13, .inl (upd (upd u.2.2.2.2 1 y5) 0 y6)))] H := hP
              have hD : va_D A [(h0, ce_Mo h0_op h0_argument h0_balance h0_inbox h0_real h0_hand h0_payee h0_paid h0_drawn h0_challenger h0_low h0_high h0_agreed h0_disputed h0_posted h0_middle h0_deadline h0_running h0_node h0_side u.1), (h0_op, .inl (c0_op, 16, .inl u.2.1)), (h0_argument, .inl (c0_argument, 16, .inl u.2.2.1)), (h0_inbox, .inl (c0_inbox, 60, .inl u.2.2.2.1)), (h0_hand, .inl (c0_hand, 13, .inl (upd (upd u.2.2.2.2 1 y5) 0 y6)))] := hD
              have hP9 := hP.sub (ws' := [(h0, ce_Mo h0_op h0_argument h0_balance h0_inbox h0_real h0_hand h0_payee h0_paid h0_drawn h0_challenger h0_low h0_high h0_agreed h0_disputed h0_posted h0_middle h0_deadline h0_running h0_node h0_side u.1), (h0_op, .inl (c0_op, 16, .inl u.2.1)), (h0_argument, .inl (c0_argument, 16, .inl u.2.2.1)), (h0_inbox, .inl (c0_inbox, 60, .inl u.2.2.2.1)), (h0_hand, .inl (c0_hand, 13, .inl (upd (upd u.2.2.2.2 1 y5) 0 y6)))]) [0, 1, 2, 3, 4] rfl
              have hD9 := hD.sub (ws' := [(h0, ce_Mo h0_op h0_argument h0_balance h0_inbox h0_real h0_hand h0_payee h0_paid h0_drawn h0_challenger h0_low h0_high h0_agreed h0_disputed h0_posted h0_middle h0_deadline h0_running h0_node h0_side u.1), (h0_op, .inl (c0_op, 16, .inl u.2.1)), (h0_argument, .inl (c0_argument, 16, .inl u.2.2.1)), (h0_inbox, .inl (c0_inbox, 60, .inl u.2.2.2.1)), (h0_hand, .inl (c0_hand, 13, .inl (upd (upd u.2.2.2.2 1 y5) 0 y6)))]) [0, 1, 2, 3, 4] (by decide) rfl
              have hK9 := hK.sub (tys' := [(c0_op, .int), (c0_argument, .int), (c0_inbox, .int), (c0_hand, .int)]) [0, 1, 2, 3] rfl
              exact W.vret hx hb hr (fun t ht hW => ⟨⟨(u.1, u.2.1, u.2.2.1, u.2.2.2.1, (upd (upd u.2.2.2.2 1 y5) 0 y6)), rfl, hw, by rw [ht]; exact hP9, va_K.moved hW.alike hK9, hD9⟩, hS.F ht⟩) hS.2.2 dMo_step_379
            · first | exact absurd cc107 (by decide) | exact (cc107 (by decide)).elim
      · have hw := hw.1 cc14
        refine lv_aload_n hx hb dMo_step_81 rfl (lv_at hl 7 rfl) ?_
        refine va_get (D := (dC, dI)) (ci := 8) (v := .ref h0_hand) (C := "StepCourtModel") (T := TMo) (N := 35) hx hb hq inMo hown hK hP 0 rfl rfl 11 (by decide) (hq _ wt_745) (fun _ h9 => h9) rfl dMo_step_82 ?_
        refine lv_iconst (v := 4) hx hb dMo_step_85 (by decide) ?_
        refine va_iald hx hb hK hP 4 3 rfl rfl (show ¬ ((4 : Int32) < 0 ∨ 13 ≤ (4 : Int32).toNatClampNeg) by decide) dMo_step_86 ?_
        refine W.eq (g2 := F0 m 87 ls [.int (u.2.2.2.2 4)]) rfl ?_
        refine lv_bipush (v := 30) hx hb dMo_step_87 (by decide) ?_
        refine lv_icmp_ne (tgt := 96) hx hb dMo_step_89 (by decide) (fun cc108 => ?_) (fun cc108 => ?_)
        · have hw := hw.2 cc108
          refine lv_iconst (v := 0) hx hb dMo_step_96 (by decide) ?_
          refine lv_istore (lv' := [(9, .int 0), (8, .int y9), (7, .int y8), (6, .int y7), (5, .int y6), (4, .int y5), (3, .int y3), (2, .int y1), (0, .ref h0), (1, .int k1)]) hx hb dMo_step_97 hl (by decide) rfl (fun ls hl => ?_)
          refine lv_iload hx hb dMo_step_99 (lv_at hl 0 rfl) ?_
          refine lv_if_ne (tgt := 362) hx hb dMo_step_101 (by decide) (fun cc109 => ?_) (fun cc109 => ?_)
          · first | exact absurd cc109 (by decide) | exact (cc109 (by decide)).elim
          · have hw := hw
            refine lv_iload_n hx hb dMo_step_104 rfl (lv_at hl 6 rfl) ?_
            refine lv_iconst (v := 1) hx hb dMo_step_105 (by decide) ?_
            refine lv_icmp_ne (tgt := 120) hx hb dMo_step_106 (by decide) (fun cc110 => ?_) (fun cc110 => ?_)
            · have hw := hw.2 cc110
              refine lv_iload_n hx hb dMo_step_120 rfl (lv_at hl 6 rfl) ?_
              refine lv_iconst (v := 2) hx hb dMo_step_121 (by decide) ?_
              refine lv_icmp_ne (tgt := 136) hx hb dMo_step_122 (by decide) (fun cc111 => ?_) (fun cc111 => ?_)
              · have hw := hw.2 cc111
                refine lv_iload_n hx hb dMo_step_136 rfl (lv_at hl 6 rfl) ?_
                refine lv_iconst (v := 3) hx hb dMo_step_137 (by decide) ?_
                refine lv_icmp_ne (tgt := 160) hx hb dMo_step_138 (by decide) (fun cc112 => ?_) (fun cc112 => ?_)
                · have hw := hw.2 cc112
                  refine lv_iload_n hx hb dMo_step_160 rfl (lv_at hl 6 rfl) ?_
                  refine lv_iconst (v := 4) hx hb dMo_step_161 (by decide) ?_
                  refine lv_icmp_lt (tgt := 211) hx hb dMo_step_162 (by decide) (fun cc113 => ?_) (fun cc113 => ?_)
                  · have hw := hw.1 cc113
                    refine lv_iload_n hx hb dMo_step_211 rfl (lv_at hl 6 rfl) ?_
                    refine lv_bipush (v := 7) hx hb dMo_step_212 (by decide) ?_
                    refine lv_icmp_ne (tgt := 233) hx hb dMo_step_214 (by decide) (fun cc114 => ?_) (fun cc114 => ?_)
                    · have hw := hw.2 cc114
                      refine lv_iload_n hx hb dMo_step_233 rfl (lv_at hl 6 rfl) ?_
                      refine lv_bipush (v := 8) hx hb dMo_step_234 (by decide) ?_
                      refine lv_icmp_ne (tgt := 251) hx hb dMo_step_236 (by decide) (fun cc115 => ?_) (fun cc115 => ?_)
                      · have hw := hw.2 cc115
                        refine lv_iload_n hx hb dMo_step_251 rfl (lv_at hl 6 rfl) ?_
                        refine lv_bipush (v := 9) hx hb dMo_step_252 (by decide) ?_
                        refine lv_icmp_ne (tgt := 286) hx hb dMo_step_254 (by decide) (fun cc116 => ?_) (fun cc116 => ?_)
                        · have hw := hw.2 cc116
                          refine lv_iload_n hx hb dMo_step_286 rfl (lv_at hl 6 rfl) ?_
                          refine lv_bipush (v := 13) hx hb dMo_step_287 (by decide) ?_
                          refine lv_icmp_ne (tgt := 327) hx hb dMo_step_289 (by decide) (fun cc117 => ?_) (fun cc117 => ?_)
                          · have hw := hw.2 cc117
                            refine lv_iload_n hx hb dMo_step_327 rfl (lv_at hl 6 rfl) ?_
                            refine lv_bipush (v := 10) hx hb dMo_step_328 (by decide) ?_
                            refine lv_icmp_eq (tgt := 355) hx hb dMo_step_330 (by decide) (fun cc118 => ?_) (fun cc118 => ?_)
                            · have hw := hw.1 cc118
                              refine lv_iload hx hb dMo_step_355 (lv_at hl 5 rfl) ?_
                              refine lv_bipush (v := 15) hx hb dMo_step_357 (by decide) ?_
                              refine lv_iand hx hb dMo_step_359 ?_
                              refine lv_topi (fun y119 ey119 => ?_)
                              have hw := hw y119 ey119
                              refine lv_istore (lv' := [(5, .int y119), (9, .int 0), (8, .int y9), (7, .int y8), (6, .int y7), (4, .int y5), (3, .int y3), (2, .int y1), (0, .ref h0), (1, .int k1)]) hx hb dMo_step_360 hl (by decide) rfl (fun ls hl => ?_)
                              refine lv_aload_n hx hb dMo_step_362 rfl (lv_at hl 8 rfl) ?_
                              refine va_get (D := (dC, dI)) (ci := 8) (v := .ref h0_hand) (C := "StepCourtModel") (T := TMo) (N := 35) hx hb hq inMo hown hK hP 0 rfl rfl 11 (by decide) (hq _ wt_745) (fun _ h9 => h9) rfl dMo_step_363 ?_
                              refine lv_iconst (v := 0) hx hb dMo_step_366 (by decide) ?_
                              refine lv_iload hx hb dMo_step_367 (lv_at hl 1 rfl) ?_
                              refine lv_if_eq (tgt := 376) hx hb dMo_step_369 (by decide) (fun cc120 => ?_) (fun cc120 => ?_)
                              · have hw := hw
                                refine lv_iload hx hb dMo_step_376 (lv_at hl 0 rfl) ?_
                                refine va_iast hx hb hK hP hD hS 4 3 rfl rfl (show ¬ ((0 : Int32) < 0 ∨ 13 ≤ (0 : Int32).toNatClampNeg) by decide) dMo_step_378 (fun H locs hP hD hS => ?_)
                                have hP : va_P (dC, dI) vwCl [(h0, ce_Mo h0_op h0_argument h0_balance h0_inbox h0_real h0_hand h0_payee h0_paid h0_drawn h0_challenger h0_low h0_high h0_agreed h0_disputed h0_posted h0_middle h0_deadline h0_running h0_node h0_side u.1), (h0_op, .inl (c0_op, 16, .inl u.2.1)), (h0_argument, .inl (c0_argument, 16, .inl u.2.2.1)), (h0_inbox, .inl (c0_inbox, 60, .inl u.2.2.2.1)), (h0_hand, .inl (c0_hand, 13, .inl (upd u.2.2.2.2 0 y119)))] H := hP
                                have hD : va_D A [(h0, ce_Mo h0_op h0_argument h0_balance h0_inbox h0_real h0_hand h0_payee h0_paid h0_drawn h0_challenger h0_low h0_high h0_agreed h0_disputed h0_posted h0_middle h0_deadline h0_running h0_node h0_side u.1), (h0_op, .inl (c0_op, 16, .inl u.2.1)), (h0_argument, .inl (c0_argument, 16, .inl u.2.2.1)), (h0_inbox, .inl (c0_inbox, 60, .inl u.2.2.2.1)), (h0_hand, .inl (c0_hand, 13, .inl (upd u.2.2.2.2 0 y119)))] := hD
                                have hP9 := hP.sub (ws' := [(h0, ce_Mo h0_op h0_argument h0_balance h0_inbox h0_real h0_hand h0_payee h0_paid h0_drawn h0_challenger h0_low h0_high h0_agreed h0_disputed h0_posted h0_middle h0_deadline h0_running h0_node h0_side u.1), (h0_op, .inl (c0_op, 16, .inl u.2.1)), (h0_argument, .inl (c0_argument, 16, .inl u.2.2.1)), (h0_inbox, .inl (c0_inbox, 60, .inl u.2.2.2.1)), (h0_hand, .inl (c0_hand, 13, .inl (upd u.2.2.2.2 0 y119)))]) [0, 1, 2, 3, 4] rfl
                                have hD9 := hD.sub (ws' := [(h0, ce_Mo h0_op h0_argument h0_balance h0_inbox h0_real h0_hand h0_payee h0_paid h0_drawn h0_challenger h0_low h0_high h0_agreed h0_disputed h0_posted h0_middle h0_deadline h0_running h0_node h0_side u.1), (h0_op, .inl (c0_op, 16, .inl u.2.1)), (h0_argument, .inl (c0_argument, 16, .inl u.2.2.1)), (h0_inbox, .inl (c0_inbox, 60, .inl u.2.2.2.1)), (h0_hand, .inl (c0_hand, 13, .inl (upd u.2.2.2.2 0 y119)))]) [0, 1, 2, 3, 4] (by decide) rfl
                                have hK9 := hK.sub (tys' := [(c0_op, .int), (c0_argument, .int), (c0_inbox, .int), (c0_hand, .int)]) [0, 1, 2, 3] rfl
                                exact W.vret hx hb hr (fun t ht hW => ⟨⟨(u.1, u.2.1, u.2.2.1, u.2.2.2.1, (upd u.2.2.2.2 0 y119)), rfl, hw, by rw [ht]; exact hP9, va_K.moved hW.alike hK9, hD9⟩, hS.F ht⟩) hS.2.2 dMo_step_379
                              · first | exact absurd cc120 (by decide) | exact (cc120 (by decide)).elim
                            · have hw := hw.2 cc118
                              refine lv_iload_n hx hb dMo_step_333 rfl (lv_at hl 6 rfl) ?_
                              refine lv_bipush (v := 11) hx hb dMo_step_334 (by decide) ?_
                              refine lv_icmp_ne (tgt := 344) hx hb dMo_step_336 (by decide) (fun cc121 => ?_) (fun cc121 => ?_)
                              · have hw := hw.2 cc121
                                refine lv_iload_n hx hb dMo_step_344 rfl (lv_at hl 6 rfl) ?_
                                refine lv_bipush (v := 12) hx hb dMo_step_345 (by decide) ?_
                                refine lv_icmp_ne (tgt := 362) hx hb dMo_step_347 (by decide) (fun cc122 => ?_) (fun cc122 => ?_)
                                · have hw := hw.2 cc122
                                  refine lv_aload_n hx hb dMo_step_362 rfl (lv_at hl 8 rfl) ?_
                                  refine va_get (D := (dC, dI)) (ci := 8) (v := .ref h0_hand) (C := "StepCourtModel") (T := TMo) (N := 35) hx hb hq inMo hown hK hP 0 rfl rfl 11 (by decide) (hq _ wt_745) (fun _ h9 => h9) rfl dMo_step_363 ?_
                                  refine lv_iconst (v := 0) hx hb dMo_step_366 (by decide) ?_
                                  refine lv_iload hx hb dMo_step_367 (lv_at hl 0 rfl) ?_
                                  refine lv_if_eq (tgt := 376) hx hb dMo_step_369 (by decide) (fun cc123 => ?_) (fun cc123 => ?_)
                                  · have hw := hw
                                    refine lv_iload hx hb dMo_step_376 (lv_at hl 4 rfl) ?_
                                    refine va_iast hx hb hK hP hD hS 4 3 rfl rfl (show ¬ ((0 : Int32) < 0 ∨ 13 ≤ (0 : Int32).toNatClampNeg) by decide) dMo_step_378 (fun H locs hP hD hS => ?_)
                                    have hP : va_P (dC, dI) vwCl [(h0, ce_Mo h0_op h0_argument h0_balance h0_inbox h0_real h0_hand h0_payee h0_paid h0_drawn h0_challenger h0_low h0_high h0_agreed h0_disputed h0_posted h0_middle h0_deadline h0_running h0_node h0_side u.1), (h0_op, .inl (c0_op, 16, .inl u.2.1)), (h0_argument, .inl (c0_argument, 16, .inl u.2.2.1)), (h0_inbox, .inl (c0_inbox, 60, .inl u.2.2.2.1)), (h0_hand, .inl (c0_hand, 13, .inl (upd u.2.2.2.2 0 y6)))] H := hP
                                    have hD : va_D A [(h0, ce_Mo h0_op h0_argument h0_balance h0_inbox h0_real h0_hand h0_payee h0_paid h0_drawn h0_challenger h0_low h0_high h0_agreed h0_disputed h0_posted h0_middle h0_deadline h0_running h0_node h0_side u.1), (h0_op, .inl (c0_op, 16, .inl u.2.1)), (h0_argument, .inl (c0_argument, 16, .inl u.2.2.1)), (h0_inbox, .inl (c0_inbox, 60, .inl u.2.2.2.1)), (h0_hand, .inl (c0_hand, 13, .inl (upd u.2.2.2.2 0 y6)))] := hD
                                    have hP9 := hP.sub (ws' := [(h0, ce_Mo h0_op h0_argument h0_balance h0_inbox h0_real h0_hand h0_payee h0_paid h0_drawn h0_challenger h0_low h0_high h0_agreed h0_disputed h0_posted h0_middle h0_deadline h0_running h0_node h0_side u.1), (h0_op, .inl (c0_op, 16, .inl u.2.1)), (h0_argument, .inl (c0_argument, 16, .inl u.2.2.1)), (h0_inbox, .inl (c0_inbox, 60, .inl u.2.2.2.1)), (h0_hand, .inl (c0_hand, 13, .inl (upd u.2.2.2.2 0 y6)))]) [0, 1, 2, 3, 4] rfl
                                    have hD9 := hD.sub (ws' := [(h0, ce_Mo h0_op h0_argument h0_balance h0_inbox h0_real h0_hand h0_payee h0_paid h0_drawn h0_challenger h0_low h0_high h0_agreed h0_disputed h0_posted h0_middle h0_deadline h0_running h0_node h0_side u.1), (h0_op, .inl (c0_op, 16, .inl u.2.1)), (h0_argument, .inl (c0_argument, 16, .inl u.2.2.1)), (h0_inbox, .inl (c0_inbox, 60, .inl u.2.2.2.1)), (h0_hand, .inl (c0_hand, 13, .inl (upd u.2.2.2.2 0 y6)))]) [0, 1, 2, 3, 4] (by decide) rfl
                                    have hK9 := hK.sub (tys' := [(c0_op, .int), (c0_argument, .int), (c0_inbox, .int), (c0_hand, .int)]) [0, 1, 2, 3] rfl
                                    exact W.vret hx hb hr (fun t ht hW => ⟨⟨(u.1, u.2.1, u.2.2.1, u.2.2.2.1, (upd u.2.2.2.2 0 y6)), rfl, hw, by rw [ht]; exact hP9, va_K.moved hW.alike hK9, hD9⟩, hS.F ht⟩) hS.2.2 dMo_step_379
                                  · first | exact absurd cc123 (by decide) | exact (cc123 (by decide)).elim
                                · have hw := hw.1 cc122
                                  refine lv_iload hx hb dMo_step_350 (lv_at hl 3 rfl) ?_
                                  refine lv_if_ge (tgt := 362) hx hb dMo_step_352 (by decide) (fun cc124 => ?_) (fun cc124 => ?_)
                                  · have hw := hw.1 cc124
                                    refine lv_aload_n hx hb dMo_step_362 rfl (lv_at hl 8 rfl) ?_
                                    refine va_get (D := (dC, dI)) (ci := 8) (v := .ref h0_hand) (C := "StepCourtModel") (T := TMo) (N := 35) hx hb hq inMo hown hK hP 0 rfl rfl 11 (by decide) (hq _ wt_745) (fun _ h9 => h9) rfl dMo_step_363 ?_
                                    refine lv_iconst (v := 0) hx hb dMo_step_366 (by decide) ?_
                                    refine lv_iload hx hb dMo_step_367 (lv_at hl 0 rfl) ?_
                                    refine lv_if_eq (tgt := 376) hx hb dMo_step_369 (by decide) (fun cc125 => ?_) (fun cc125 => ?_)
                                    · have hw := hw
                                      refine lv_iload hx hb dMo_step_376 (lv_at hl 4 rfl) ?_
                                      refine va_iast hx hb hK hP hD hS 4 3 rfl rfl (show ¬ ((0 : Int32) < 0 ∨ 13 ≤ (0 : Int32).toNatClampNeg) by decide) dMo_step_378 (fun H locs hP hD hS => ?_)
                                      have hP : va_P (dC, dI) vwCl [(h0, ce_Mo h0_op h0_argument h0_balance h0_inbox h0_real h0_hand h0_payee h0_paid h0_drawn h0_challenger h0_low h0_high h0_agreed h0_disputed h0_posted h0_middle h0_deadline h0_running h0_node h0_side u.1), (h0_op, .inl (c0_op, 16, .inl u.2.1)), (h0_argument, .inl (c0_argument, 16, .inl u.2.2.1)), (h0_inbox, .inl (c0_inbox, 60, .inl u.2.2.2.1)), (h0_hand, .inl (c0_hand, 13, .inl (upd u.2.2.2.2 0 y6)))] H := hP
                                      have hD : va_D A [(h0, ce_Mo h0_op h0_argument h0_balance h0_inbox h0_real h0_hand h0_payee h0_paid h0_drawn h0_challenger h0_low h0_high h0_agreed h0_disputed h0_posted h0_middle h0_deadline h0_running h0_node h0_side u.1), (h0_op, .inl (c0_op, 16, .inl u.2.1)), (h0_argument, .inl (c0_argument, 16, .inl u.2.2.1)), (h0_inbox, .inl (c0_inbox, 60, .inl u.2.2.2.1)), (h0_hand, .inl (c0_hand, 13, .inl (upd u.2.2.2.2 0 y6)))] := hD
                                      have hP9 := hP.sub (ws' := [(h0, ce_Mo h0_op h0_argument h0_balance h0_inbox h0_real h0_hand h0_payee h0_paid h0_drawn h0_challenger h0_low h0_high h0_agreed h0_disputed h0_posted h0_middle h0_deadline h0_running h0_node h0_side u.1), (h0_op, .inl (c0_op, 16, .inl u.2.1)), (h0_argument, .inl (c0_argument, 16, .inl u.2.2.1)), (h0_inbox, .inl (c0_inbox, 60, .inl u.2.2.2.1)), (h0_hand, .inl (c0_hand, 13, .inl (upd u.2.2.2.2 0 y6)))]) [0, 1, 2, 3, 4] rfl
                                      have hD9 := hD.sub (ws' := [(h0, ce_Mo h0_op h0_argument h0_balance h0_inbox h0_real h0_hand h0_payee h0_paid h0_drawn h0_challenger h0_low h0_high h0_agreed h0_disputed h0_posted h0_middle h0_deadline h0_running h0_node h0_side u.1), (h0_op, .inl (c0_op, 16, .inl u.2.1)), (h0_argument, .inl (c0_argument, 16, .inl u.2.2.1)), (h0_inbox, .inl (c0_inbox, 60, .inl u.2.2.2.1)), (h0_hand, .inl (c0_hand, 13, .inl (upd u.2.2.2.2 0 y6)))]) [0, 1, 2, 3, 4] (by decide) rfl
                                      have hK9 := hK.sub (tys' := [(c0_op, .int), (c0_argument, .int), (c0_inbox, .int), (c0_hand, .int)]) [0, 1, 2, 3] rfl
                                      exact W.vret hx hb hr (fun t ht hW => ⟨⟨(u.1, u.2.1, u.2.2.1, u.2.2.2.1, (upd u.2.2.2.2 0 y6)), rfl, hw, by rw [ht]; exact hP9, va_K.moved hW.alike hK9, hD9⟩, hS.F ht⟩) hS.2.2 dMo_step_379
                                    · first | exact absurd cc125 (by decide) | exact (cc125 (by decide)).elim
                                  · have hw := hw.2 cc124
                                    refine lv_iload hx hb dMo_step_355 (lv_at hl 5 rfl) ?_
                                    refine lv_bipush (v := 15) hx hb dMo_step_357 (by decide) ?_
                                    refine lv_iand hx hb dMo_step_359 ?_
                                    refine lv_topi (fun y126 ey126 => ?_)
                                    have hw := hw y126 ey126
                                    refine lv_istore (lv' := [(5, .int y126), (9, .int 0), (8, .int y9), (7, .int y8), (6, .int y7), (4, .int y5), (3, .int y3), (2, .int y1), (0, .ref h0), (1, .int k1)]) hx hb dMo_step_360 hl (by decide) rfl (fun ls hl => ?_)
                                    refine lv_aload_n hx hb dMo_step_362 rfl (lv_at hl 8 rfl) ?_
                                    refine va_get (D := (dC, dI)) (ci := 8) (v := .ref h0_hand) (C := "StepCourtModel") (T := TMo) (N := 35) hx hb hq inMo hown hK hP 0 rfl rfl 11 (by decide) (hq _ wt_745) (fun _ h9 => h9) rfl dMo_step_363 ?_
                                    refine lv_iconst (v := 0) hx hb dMo_step_366 (by decide) ?_
                                    refine lv_iload hx hb dMo_step_367 (lv_at hl 1 rfl) ?_
                                    refine lv_if_eq (tgt := 376) hx hb dMo_step_369 (by decide) (fun cc127 => ?_) (fun cc127 => ?_)
                                    · have hw := hw
                                      refine lv_iload hx hb dMo_step_376 (lv_at hl 0 rfl) ?_
                                      refine va_iast hx hb hK hP hD hS 4 3 rfl rfl (show ¬ ((0 : Int32) < 0 ∨ 13 ≤ (0 : Int32).toNatClampNeg) by decide) dMo_step_378 (fun H locs hP hD hS => ?_)
                                      have hP : va_P (dC, dI) vwCl [(h0, ce_Mo h0_op h0_argument h0_balance h0_inbox h0_real h0_hand h0_payee h0_paid h0_drawn h0_challenger h0_low h0_high h0_agreed h0_disputed h0_posted h0_middle h0_deadline h0_running h0_node h0_side u.1), (h0_op, .inl (c0_op, 16, .inl u.2.1)), (h0_argument, .inl (c0_argument, 16, .inl u.2.2.1)), (h0_inbox, .inl (c0_inbox, 60, .inl u.2.2.2.1)), (h0_hand, .inl (c0_hand, 13, .inl (upd u.2.2.2.2 0 y126)))] H := hP
                                      have hD : va_D A [(h0, ce_Mo h0_op h0_argument h0_balance h0_inbox h0_real h0_hand h0_payee h0_paid h0_drawn h0_challenger h0_low h0_high h0_agreed h0_disputed h0_posted h0_middle h0_deadline h0_running h0_node h0_side u.1), (h0_op, .inl (c0_op, 16, .inl u.2.1)), (h0_argument, .inl (c0_argument, 16, .inl u.2.2.1)), (h0_inbox, .inl (c0_inbox, 60, .inl u.2.2.2.1)), (h0_hand, .inl (c0_hand, 13, .inl (upd u.2.2.2.2 0 y126)))] := hD
                                      have hP9 := hP.sub (ws' := [(h0, ce_Mo h0_op h0_argument h0_balance h0_inbox h0_real h0_hand h0_payee h0_paid h0_drawn h0_challenger h0_low h0_high h0_agreed h0_disputed h0_posted h0_middle h0_deadline h0_running h0_node h0_side u.1), (h0_op, .inl (c0_op, 16, .inl u.2.1)), (h0_argument, .inl (c0_argument, 16, .inl u.2.2.1)), (h0_inbox, .inl (c0_inbox, 60, .inl u.2.2.2.1)), (h0_hand, .inl (c0_hand, 13, .inl (upd u.2.2.2.2 0 y126)))]) [0, 1, 2, 3, 4] rfl
                                      have hD9 := hD.sub (ws' := [(h0, ce_Mo h0_op h0_argument h0_balance h0_inbox h0_real h0_hand h0_payee h0_paid h0_drawn h0_challenger h0_low h0_high h0_agreed h0_disputed h0_posted h0_middle h0_deadline h0_running h0_node h0_side u.1), (h0_op, .inl (c0_op, 16, .inl u.2.1)), (h0_argument, .inl (c0_argument, 16, .inl u.2.2.1)), (h0_inbox, .inl (c0_inbox, 60, .inl u.2.2.2.1)), (h0_hand, .inl (c0_hand, 13, .inl (upd u.2.2.2.2 0 y126)))]) [0, 1, 2, 3, 4] (by decide) rfl
                                      have hK9 := hK.sub (tys' := [(c0_op, .int), (c0_argument, .int), (c0_inbox, .int), (c0_hand, .int)]) [0, 1, 2, 3] rfl
                                      exact W.vret hx hb hr (fun t ht hW => ⟨⟨(u.1, u.2.1, u.2.2.1, u.2.2.2.1, (upd u.2.2.2.2 0 y126)), rfl, hw, by rw [ht]; exact hP9, va_K.moved hW.alike hK9, hD9⟩, hS.F ht⟩) hS.2.2 dMo_step_379
                                    · first | exact absurd cc127 (by decide) | exact (cc127 (by decide)).elim
                              · have hw := hw.1 cc121
                                refine lv_iload hx hb dMo_step_339 (lv_at hl 3 rfl) ?_
                                refine lv_if_eq (tgt := 355) hx hb dMo_step_341 (by decide) (fun cc128 => ?_) (fun cc128 => ?_)
                                · have hw := hw.1 cc128
                                  refine lv_iload hx hb dMo_step_355 (lv_at hl 5 rfl) ?_
                                  refine lv_bipush (v := 15) hx hb dMo_step_357 (by decide) ?_
                                  refine lv_iand hx hb dMo_step_359 ?_
                                  refine lv_topi (fun y129 ey129 => ?_)
                                  have hw := hw y129 ey129
                                  refine lv_istore (lv' := [(5, .int y129), (9, .int 0), (8, .int y9), (7, .int y8), (6, .int y7), (4, .int y5), (3, .int y3), (2, .int y1), (0, .ref h0), (1, .int k1)]) hx hb dMo_step_360 hl (by decide) rfl (fun ls hl => ?_)
                                  refine lv_aload_n hx hb dMo_step_362 rfl (lv_at hl 8 rfl) ?_
                                  refine va_get (D := (dC, dI)) (ci := 8) (v := .ref h0_hand) (C := "StepCourtModel") (T := TMo) (N := 35) hx hb hq inMo hown hK hP 0 rfl rfl 11 (by decide) (hq _ wt_745) (fun _ h9 => h9) rfl dMo_step_363 ?_
                                  refine lv_iconst (v := 0) hx hb dMo_step_366 (by decide) ?_
                                  refine lv_iload hx hb dMo_step_367 (lv_at hl 1 rfl) ?_
                                  refine lv_if_eq (tgt := 376) hx hb dMo_step_369 (by decide) (fun cc130 => ?_) (fun cc130 => ?_)
                                  · have hw := hw
                                    refine lv_iload hx hb dMo_step_376 (lv_at hl 0 rfl) ?_
                                    refine va_iast hx hb hK hP hD hS 4 3 rfl rfl (show ¬ ((0 : Int32) < 0 ∨ 13 ≤ (0 : Int32).toNatClampNeg) by decide) dMo_step_378 (fun H locs hP hD hS => ?_)
                                    have hP : va_P (dC, dI) vwCl [(h0, ce_Mo h0_op h0_argument h0_balance h0_inbox h0_real h0_hand h0_payee h0_paid h0_drawn h0_challenger h0_low h0_high h0_agreed h0_disputed h0_posted h0_middle h0_deadline h0_running h0_node h0_side u.1), (h0_op, .inl (c0_op, 16, .inl u.2.1)), (h0_argument, .inl (c0_argument, 16, .inl u.2.2.1)), (h0_inbox, .inl (c0_inbox, 60, .inl u.2.2.2.1)), (h0_hand, .inl (c0_hand, 13, .inl (upd u.2.2.2.2 0 y129)))] H := hP
                                    have hD : va_D A [(h0, ce_Mo h0_op h0_argument h0_balance h0_inbox h0_real h0_hand h0_payee h0_paid h0_drawn h0_challenger h0_low h0_high h0_agreed h0_disputed h0_posted h0_middle h0_deadline h0_running h0_node h0_side u.1), (h0_op, .inl (c0_op, 16, .inl u.2.1)), (h0_argument, .inl (c0_argument, 16, .inl u.2.2.1)), (h0_inbox, .inl (c0_inbox, 60, .inl u.2.2.2.1)), (h0_hand, .inl (c0_hand, 13, .inl (upd u.2.2.2.2 0 y129)))] := hD
                                    have hP9 := hP.sub (ws' := [(h0, ce_Mo h0_op h0_argument h0_balance h0_inbox h0_real h0_hand h0_payee h0_paid h0_drawn h0_challenger h0_low h0_high h0_agreed h0_disputed h0_posted h0_middle h0_deadline h0_running h0_node h0_side u.1), (h0_op, .inl (c0_op, 16, .inl u.2.1)), (h0_argument, .inl (c0_argument, 16, .inl u.2.2.1)), (h0_inbox, .inl (c0_inbox, 60, .inl u.2.2.2.1)), (h0_hand, .inl (c0_hand, 13, .inl (upd u.2.2.2.2 0 y129)))]) [0, 1, 2, 3, 4] rfl
                                    have hD9 := hD.sub (ws' := [(h0, ce_Mo h0_op h0_argument h0_balance h0_inbox h0_real h0_hand h0_payee h0_paid h0_drawn h0_challenger h0_low h0_high h0_agreed h0_disputed h0_posted h0_middle h0_deadline h0_running h0_node h0_side u.1), (h0_op, .inl (c0_op, 16, .inl u.2.1)), (h0_argument, .inl (c0_argument, 16, .inl u.2.2.1)), (h0_inbox, .inl (c0_inbox, 60, .inl u.2.2.2.1)), (h0_hand, .inl (c0_hand, 13, .inl (upd u.2.2.2.2 0 y129)))]) [0, 1, 2, 3, 4] (by decide) rfl
                                    have hK9 := hK.sub (tys' := [(c0_op, .int), (c0_argument, .int), (c0_inbox, .int), (c0_hand, .int)]) [0, 1, 2, 3] rfl
                                    exact W.vret hx hb hr (fun t ht hW => ⟨⟨(u.1, u.2.1, u.2.2.1, u.2.2.2.1, (upd u.2.2.2.2 0 y129)), rfl, hw, by rw [ht]; exact hP9, va_K.moved hW.alike hK9, hD9⟩, hS.F ht⟩) hS.2.2 dMo_step_379
                                  · first | exact absurd cc130 (by decide) | exact (cc130 (by decide)).elim
                                · have hw := hw.2 cc128
                                  refine lv_iload_n hx hb dMo_step_344 rfl (lv_at hl 6 rfl) ?_
                                  refine lv_bipush (v := 12) hx hb dMo_step_345 (by decide) ?_
                                  refine lv_icmp_ne (tgt := 362) hx hb dMo_step_347 (by decide) (fun cc131 => ?_) (fun cc131 => ?_)
                                  · have hw := hw.2 cc131
                                    refine lv_aload_n hx hb dMo_step_362 rfl (lv_at hl 8 rfl) ?_
                                    refine va_get (D := (dC, dI)) (ci := 8) (v := .ref h0_hand) (C := "StepCourtModel") (T := TMo) (N := 35) hx hb hq inMo hown hK hP 0 rfl rfl 11 (by decide) (hq _ wt_745) (fun _ h9 => h9) rfl dMo_step_363 ?_
                                    refine lv_iconst (v := 0) hx hb dMo_step_366 (by decide) ?_
                                    refine lv_iload hx hb dMo_step_367 (lv_at hl 0 rfl) ?_
                                    refine lv_if_eq (tgt := 376) hx hb dMo_step_369 (by decide) (fun cc132 => ?_) (fun cc132 => ?_)
                                    · have hw := hw
                                      refine lv_iload hx hb dMo_step_376 (lv_at hl 4 rfl) ?_
                                      refine va_iast hx hb hK hP hD hS 4 3 rfl rfl (show ¬ ((0 : Int32) < 0 ∨ 13 ≤ (0 : Int32).toNatClampNeg) by decide) dMo_step_378 (fun H locs hP hD hS => ?_)
                                      have hP : va_P (dC, dI) vwCl [(h0, ce_Mo h0_op h0_argument h0_balance h0_inbox h0_real h0_hand h0_payee h0_paid h0_drawn h0_challenger h0_low h0_high h0_agreed h0_disputed h0_posted h0_middle h0_deadline h0_running h0_node h0_side u.1), (h0_op, .inl (c0_op, 16, .inl u.2.1)), (h0_argument, .inl (c0_argument, 16, .inl u.2.2.1)), (h0_inbox, .inl (c0_inbox, 60, .inl u.2.2.2.1)), (h0_hand, .inl (c0_hand, 13, .inl (upd u.2.2.2.2 0 y6)))] H := hP
                                      have hD : va_D A [(h0, ce_Mo h0_op h0_argument h0_balance h0_inbox h0_real h0_hand h0_payee h0_paid h0_drawn h0_challenger h0_low h0_high h0_agreed h0_disputed h0_posted h0_middle h0_deadline h0_running h0_node h0_side u.1), (h0_op, .inl (c0_op, 16, .inl u.2.1)), (h0_argument, .inl (c0_argument, 16, .inl u.2.2.1)), (h0_inbox, .inl (c0_inbox, 60, .inl u.2.2.2.1)), (h0_hand, .inl (c0_hand, 13, .inl (upd u.2.2.2.2 0 y6)))] := hD
                                      have hP9 := hP.sub (ws' := [(h0, ce_Mo h0_op h0_argument h0_balance h0_inbox h0_real h0_hand h0_payee h0_paid h0_drawn h0_challenger h0_low h0_high h0_agreed h0_disputed h0_posted h0_middle h0_deadline h0_running h0_node h0_side u.1), (h0_op, .inl (c0_op, 16, .inl u.2.1)), (h0_argument, .inl (c0_argument, 16, .inl u.2.2.1)), (h0_inbox, .inl (c0_inbox, 60, .inl u.2.2.2.1)), (h0_hand, .inl (c0_hand, 13, .inl (upd u.2.2.2.2 0 y6)))]) [0, 1, 2, 3, 4] rfl
                                      have hD9 := hD.sub (ws' := [(h0, ce_Mo h0_op h0_argument h0_balance h0_inbox h0_real h0_hand h0_payee h0_paid h0_drawn h0_challenger h0_low h0_high h0_agreed h0_disputed h0_posted h0_middle h0_deadline h0_running h0_node h0_side u.1), (h0_op, .inl (c0_op, 16, .inl u.2.1)), (h0_argument, .inl (c0_argument, 16, .inl u.2.2.1)), (h0_inbox, .inl (c0_inbox, 60, .inl u.2.2.2.1)), (h0_hand, .inl (c0_hand, 13, .inl (upd u.2.2.2.2 0 y6)))]) [0, 1, 2, 3, 4] (by decide) rfl
                                      have hK9 := hK.sub (tys' := [(c0_op, .int), (c0_argument, .int), (c0_inbox, .int), (c0_hand, .int)]) [0, 1, 2, 3] rfl
                                      exact W.vret hx hb hr (fun t ht hW => ⟨⟨(u.1, u.2.1, u.2.2.1, u.2.2.2.1, (upd u.2.2.2.2 0 y6)), rfl, hw, by rw [ht]; exact hP9, va_K.moved hW.alike hK9, hD9⟩, hS.F ht⟩) hS.2.2 dMo_step_379
                                    · first | exact absurd cc132 (by decide) | exact (cc132 (by decide)).elim
                                  · have hw := hw.1 cc131
                                    refine lv_iload hx hb dMo_step_350 (lv_at hl 3 rfl) ?_
                                    refine lv_if_ge (tgt := 362) hx hb dMo_step_352 (by decide) (fun cc133 => ?_) (fun cc133 => ?_)
                                    · have hw := hw.1 cc133
                                      refine lv_aload_n hx hb dMo_step_362 rfl (lv_at hl 8 rfl) ?_
                                      refine va_get (D := (dC, dI)) (ci := 8) (v := .ref h0_hand) (C := "StepCourtModel") (T := TMo) (N := 35) hx hb hq inMo hown hK hP 0 rfl rfl 11 (by decide) (hq _ wt_745) (fun _ h9 => h9) rfl dMo_step_363 ?_
                                      refine lv_iconst (v := 0) hx hb dMo_step_366 (by decide) ?_
                                      refine lv_iload hx hb dMo_step_367 (lv_at hl 0 rfl) ?_
                                      refine lv_if_eq (tgt := 376) hx hb dMo_step_369 (by decide) (fun cc134 => ?_) (fun cc134 => ?_)
                                      · have hw := hw
                                        refine lv_iload hx hb dMo_step_376 (lv_at hl 4 rfl) ?_
                                        refine va_iast hx hb hK hP hD hS 4 3 rfl rfl (show ¬ ((0 : Int32) < 0 ∨ 13 ≤ (0 : Int32).toNatClampNeg) by decide) dMo_step_378 (fun H locs hP hD hS => ?_)
                                        have hP : va_P (dC, dI) vwCl [(h0, ce_Mo h0_op h0_argument h0_balance h0_inbox h0_real h0_hand h0_payee h0_paid h0_drawn h0_challenger h0_low h0_high h0_agreed h0_disputed h0_posted h0_middle h0_deadline h0_running h0_node h0_side u.1), (h0_op, .inl (c0_op, 16, .inl u.2.1)), (h0_argument, .inl (c0_argument, 16, .inl u.2.2.1)), (h0_inbox, .inl (c0_inbox, 60, .inl u.2.2.2.1)), (h0_hand, .inl (c0_hand, 13, .inl (upd u.2.2.2.2 0 y6)))] H := hP
                                        have hD : va_D A [(h0, ce_Mo h0_op h0_argument h0_balance h0_inbox h0_real h0_hand h0_payee h0_paid h0_drawn h0_challenger h0_low h0_high h0_agreed h0_disputed h0_posted h0_middle h0_deadline h0_running h0_node h0_side u.1), (h0_op, .inl (c0_op, 16, .inl u.2.1)), (h0_argument, .inl (c0_argument, 16, .inl u.2.2.1)), (h0_inbox, .inl (c0_inbox, 60, .inl u.2.2.2.1)), (h0_hand, .inl (c0_hand, 13, .inl (upd u.2.2.2.2 0 y6)))] := hD
                                        have hP9 := hP.sub (ws' := [(h0, ce_Mo h0_op h0_argument h0_balance h0_inbox h0_real h0_hand h0_payee h0_paid h0_drawn h0_challenger h0_low h0_high h0_agreed h0_disputed h0_posted h0_middle h0_deadline h0_running h0_node h0_side u.1), (h0_op, .inl (c0_op, 16, .inl u.2.1)), (h0_argument, .inl (c0_argument, 16, .inl u.2.2.1)), (h0_inbox, .inl (c0_inbox, 60, .inl u.2.2.2.1)), (h0_hand, .inl (c0_hand, 13, .inl (upd u.2.2.2.2 0 y6)))]) [0, 1, 2, 3, 4] rfl
                                        have hD9 := hD.sub (ws' := [(h0, ce_Mo h0_op h0_argument h0_balance h0_inbox h0_real h0_hand h0_payee h0_paid h0_drawn h0_challenger h0_low h0_high h0_agreed h0_disputed h0_posted h0_middle h0_deadline h0_running h0_node h0_side u.1), (h0_op, .inl (c0_op, 16, .inl u.2.1)), (h0_argument, .inl (c0_argument, 16, .inl u.2.2.1)), (h0_inbox, .inl (c0_inbox, 60, .inl u.2.2.2.1)), (h0_hand, .inl (c0_hand, 13, .inl (upd u.2.2.2.2 0 y6)))]) [0, 1, 2, 3, 4] (by decide) rfl
                                        have hK9 := hK.sub (tys' := [(c0_op, .int), (c0_argument, .int), (c0_inbox, .int), (c0_hand, .int)]) [0, 1, 2, 3] rfl
                                        exact W.vret hx hb hr (fun t ht hW => ⟨⟨(u.1, u.2.1, u.2.2.1, u.2.2.2.1, (upd u.2.2.2.2 0 y6)), rfl, hw, by rw [ht]; exact hP9, va_K.moved hW.alike hK9, hD9⟩, hS.F ht⟩) hS.2.2 dMo_step_379
                                      · first | exact absurd cc134 (by decide) | exact (cc134 (by decide)).elim
                                    · have hw := hw.2 cc133
                                      refine lv_iload hx hb dMo_step_355 (lv_at hl 5 rfl) ?_
                                      refine lv_bipush (v := 15) hx hb dMo_step_357 (by decide) ?_
                                      refine lv_iand hx hb dMo_step_359 ?_
                                      refine lv_topi (fun y135 ey135 => ?_)
                                      have hw := hw y135 ey135
                                      refine lv_istore (lv' := [(5, .int y135), (9, .int 0), (8, .int y9), (7, .int y8), (6, .int y7), (4, .int y5), (3, .int y3), (2, .int y1), (0, .ref h0), (1, .int k1)]) hx hb dMo_step_360 hl (by decide) rfl (fun ls hl => ?_)
                                      refine lv_aload_n hx hb dMo_step_362 rfl (lv_at hl 8 rfl) ?_
                                      refine va_get (D := (dC, dI)) (ci := 8) (v := .ref h0_hand) (C := "StepCourtModel") (T := TMo) (N := 35) hx hb hq inMo hown hK hP 0 rfl rfl 11 (by decide) (hq _ wt_745) (fun _ h9 => h9) rfl dMo_step_363 ?_
                                      refine lv_iconst (v := 0) hx hb dMo_step_366 (by decide) ?_
                                      refine lv_iload hx hb dMo_step_367 (lv_at hl 1 rfl) ?_
                                      refine lv_if_eq (tgt := 376) hx hb dMo_step_369 (by decide) (fun cc136 => ?_) (fun cc136 => ?_)
                                      · have hw := hw
                                        refine lv_iload hx hb dMo_step_376 (lv_at hl 0 rfl) ?_
                                        refine va_iast hx hb hK hP hD hS 4 3 rfl rfl (show ¬ ((0 : Int32) < 0 ∨ 13 ≤ (0 : Int32).toNatClampNeg) by decide) dMo_step_378 (fun H locs hP hD hS => ?_)
                                        have hP : va_P (dC, dI) vwCl [(h0, ce_Mo h0_op h0_argument h0_balance h0_inbox h0_real h0_hand h0_payee h0_paid h0_drawn h0_challenger h0_low h0_high h0_agreed h0_disputed h0_posted h0_middle h0_deadline h0_running h0_node h0_side u.1), (h0_op, .inl (c0_op, 16, .inl u.2.1)), (h0_argument, .inl (c0_argument, 16, .inl u.2.2.1)), (h0_inbox, .inl (c0_inbox, 60, .inl u.2.2.2.1)), (h0_hand, .inl (c0_hand, 13, .inl (upd u.2.2.2.2 0 y135)))] H := hP
                                        have hD : va_D A [(h0, ce_Mo h0_op h0_argument h0_balance h0_inbox h0_real h0_hand h0_payee h0_paid h0_drawn h0_challenger h0_low h0_high h0_agreed h0_disputed h0_posted h0_middle h0_deadline h0_running h0_node h0_side u.1), (h0_op, .inl (c0_op, 16, .inl u.2.1)), (h0_argument, .inl (c0_argument, 16, .inl u.2.2.1)), (h0_inbox, .inl (c0_inbox, 60, .inl u.2.2.2.1)), (h0_hand, .inl (c0_hand, 13, .inl (upd u.2.2.2.2 0 y135)))] := hD
                                        have hP9 := hP.sub (ws' := [(h0, ce_Mo h0_op h0_argument h0_balance h0_inbox h0_real h0_hand h0_payee h0_paid h0_drawn h0_challenger h0_low h0_high h0_agreed h0_disputed h0_posted h0_middle h0_deadline h0_running h0_node h0_side u.1), (h0_op, .inl (c0_op, 16, .inl u.2.1)), (h0_argument, .inl (c0_argument, 16, .inl u.2.2.1)), (h0_inbox, .inl (c0_inbox, 60, .inl u.2.2.2.1)), (h0_hand, .inl (c0_hand, 13, .inl (upd u.2.2.2.2 0 y135)))]) [0, 1, 2, 3, 4] rfl
                                        have hD9 := hD.sub (ws' := [(h0, ce_Mo h0_op h0_argument h0_balance h0_inbox h0_real h0_hand h0_payee h0_paid h0_drawn h0_challenger h0_low h0_high h0_agreed h0_disputed h0_posted h0_middle h0_deadline h0_running h0_node h0_side u.1), (h0_op, .inl (c0_op, 16, .inl u.2.1)), (h0_argument, .inl (c0_argument, 16, .inl u.2.2.1)), (h0_inbox, .inl (c0_inbox, 60, .inl u.2.2.2.1)), (h0_hand, .inl (c0_hand, 13, .inl (upd u.2.2.2.2 0 y135)))]) [0, 1, 2, 3, 4] (by decide) rfl
                                        have hK9 := hK.sub (tys' := [(c0_op, .int), (c0_argument, .int), (c0_inbox, .int), (c0_hand, .int)]) [0, 1, 2, 3] rfl
                                        exact W.vret hx hb hr (fun t ht hW => ⟨⟨(u.1, u.2.1, u.2.2.1, u.2.2.2.1, (upd u.2.2.2.2 0 y135)), rfl, hw, by rw [ht]; exact hP9, va_K.moved hW.alike hK9, hD9⟩, hS.F ht⟩) hS.2.2 dMo_step_379
                                      · first | exact absurd cc136 (by decide) | exact (cc136 (by decide)).elim
                          · have hw := hw.1 cc117
                            refine lv_aload_n hx hb dMo_step_292 rfl (lv_at hl 8 rfl) ?_
                            refine lv_aload_n hx hb dMo_step_293 rfl (lv_at hl 8 rfl) ?_
                            refine va_get (D := (dC, dI)) (ci := 8) (v := .long u.1.2.2.2.2.2.2.1) (C := "StepCourtModel") (T := TMo) (N := 35) hx hb hq inMo hown hK hP 0 rfl rfl 12 (by decide) (hq _ wt_746) (fun _ h9 => h9) rfl dMo_step_294 ?_
                            refine lv_iload hx hb dMo_step_297 (lv_at hl 2 rfl) ?_
                            refine lv_iconst (v := 3) hx hb dMo_step_299 (by decide) ?_
                            refine lv_iand hx hb dMo_step_300 ?_
                            refine lv_i2l (v := (y8 &&& 3).toInt64) hx hb dMo_step_301 rfl ?_
                            have hPc := hP.sub (ws' := []) [] rfl
                            have hDc := hD.sub (ws' := []) [] (by decide) rfl
                            have hKc := hK.sub (tys' := []) [] rfl
                            have hFc := va_free (wc := []) hD hS hA [] rfl
                            refine va_calll (va_runS (As := [.long u.1.2.2.2.2.2.2.1, .long ((y8 &&& 3).toInt64)]) (rest := [.ref h0]) ⟨hx, hb, hml, hown, hq⟩ (mt_Mo_mix l dC dI s.heap.size _ () u.1.2.2.2.2.2.2.1 ((y8 &&& 3).toInt64) hw) ⟨cq_B 2 hq wt_723 wt_721 wt_10 rfl rfl hd_Mo_mix ⟨Nat.le_of_ble_eq_true rfl, Nat.le_of_ble_eq_true rfl⟩, (hq _ wt_722)⟩ ⟨kp_bl, kp_at hPc hKc hDc hZ⟩ rfl rfl hl.1 rfl (lv_room (Nat.le_of_ble_eq_true rfl)) dMo_step_302 ⟨(by decide), (by decide)⟩) hS (fun q _ h => hFc q h) hFc (fun r137 u138 t H1 locs ht hvm hw hB hz1 hk1 hS => ?_)
                            obtain ⟨hP1, hK1, hD1⟩ := hB
                            rw [ht] at hP1
                            have hK1 := va_K.moved hvm.symm hK1
                            obtain ⟨hP, hD⟩ := va_join (wr := [(h0, ce_Mo h0_op h0_argument h0_balance h0_inbox h0_real h0_hand h0_payee h0_paid h0_drawn h0_challenger h0_low h0_high h0_agreed h0_disputed h0_posted h0_middle h0_deadline h0_running h0_node h0_side u.1), (h0_op, .inl (c0_op, 16, .inl u.2.1)), (h0_argument, .inl (c0_argument, 16, .inl u.2.2.1)), (h0_inbox, .inl (c0_inbox, 60, .inl u.2.2.2.1)), (h0_hand, .inl (c0_hand, 13, .inl u.2.2.2.2))]) (w1 := []) hP hD [] [0, 1, 2, 3, 4] rfl rfl (by decide) (by decide) hk1 hFc hP1 hD1
                            have hK := (hK.sub (tys' := [(c0_op, .int), (c0_argument, .int), (c0_inbox, .int), (c0_hand, .int)]) [0, 1, 2, 3] rfl).app hK1
                            generalize H1 = H at hP hS ⊢
                            have hP : va_P (dC, dI) vwCl [(h0, ce_Mo h0_op h0_argument h0_balance h0_inbox h0_real h0_hand h0_payee h0_paid h0_drawn h0_challenger h0_low h0_high h0_agreed h0_disputed h0_posted h0_middle h0_deadline h0_running h0_node h0_side u.1), (h0_op, .inl (c0_op, 16, .inl u.2.1)), (h0_argument, .inl (c0_argument, 16, .inl u.2.2.1)), (h0_inbox, .inl (c0_inbox, 60, .inl u.2.2.2.1)), (h0_hand, .inl (c0_hand, 13, .inl u.2.2.2.2))] H := hP
                            have hD : va_D A [(h0, ce_Mo h0_op h0_argument h0_balance h0_inbox h0_real h0_hand h0_payee h0_paid h0_drawn h0_challenger h0_low h0_high h0_agreed h0_disputed h0_posted h0_middle h0_deadline h0_running h0_node h0_side u.1), (h0_op, .inl (c0_op, 16, .inl u.2.1)), (h0_argument, .inl (c0_argument, 16, .inl u.2.2.1)), (h0_inbox, .inl (c0_inbox, 60, .inl u.2.2.2.1)), (h0_hand, .inl (c0_hand, 13, .inl u.2.2.2.2))] := hD
                            have hK : va_K (dC, dI) vwCl [(c0_op, .int), (c0_argument, .int), (c0_inbox, .int), (c0_hand, .int)] s := hK
                            refine lv_iload hx hb dMo_step_305 (lv_at hl 3 rfl) ?_
                            refine lv_i2l (v := y7.toInt64) hx hb dMo_step_307 rfl ?_
                            have hPc := hP.sub (ws' := []) [] rfl
                            have hDc := hD.sub (ws' := []) [] (by decide) rfl
                            have hKc := hK.sub (tys' := []) [] rfl
                            have hFc := va_free (wc := []) hD hS hA [] rfl
                            refine va_calll (va_runS (As := [.long r137, .long (y7.toInt64)]) (rest := [.ref h0]) ⟨hx, hb, hml, hown, hq⟩ (mt_Mo_mix l dC dI H.size _ () r137 (y7.toInt64) hw) ⟨cq_B 2 hq wt_723 wt_721 wt_10 rfl rfl hd_Mo_mix ⟨Nat.le_of_ble_eq_true rfl, Nat.le_of_ble_eq_true rfl⟩, (hq _ wt_722)⟩ ⟨kp_bl, kp_at hPc hKc hDc hZ⟩ rfl rfl hl.1 rfl (lv_room (Nat.le_of_ble_eq_true rfl)) dMo_step_308 ⟨(by decide), (by decide)⟩) hS (fun q _ h => hFc q h) hFc (fun r139 u140 t H1 locs ht hvm hw hB hz1 hk1 hS => ?_)
                            obtain ⟨hP1, hK1, hD1⟩ := hB
                            rw [ht] at hP1
                            have hK1 := va_K.moved hvm.symm hK1
                            obtain ⟨hP, hD⟩ := va_join (wr := [(h0, ce_Mo h0_op h0_argument h0_balance h0_inbox h0_real h0_hand h0_payee h0_paid h0_drawn h0_challenger h0_low h0_high h0_agreed h0_disputed h0_posted h0_middle h0_deadline h0_running h0_node h0_side u.1), (h0_op, .inl (c0_op, 16, .inl u.2.1)), (h0_argument, .inl (c0_argument, 16, .inl u.2.2.1)), (h0_inbox, .inl (c0_inbox, 60, .inl u.2.2.2.1)), (h0_hand, .inl (c0_hand, 13, .inl u.2.2.2.2))]) (w1 := []) hP hD [] [0, 1, 2, 3, 4] rfl rfl (by decide) (by decide) hk1 hFc hP1 hD1
                            have hK := (hK.sub (tys' := [(c0_op, .int), (c0_argument, .int), (c0_inbox, .int), (c0_hand, .int)]) [0, 1, 2, 3] rfl).app hK1
                            generalize H1 = H at hP hS ⊢
                            have hP : va_P (dC, dI) vwCl [(h0, ce_Mo h0_op h0_argument h0_balance h0_inbox h0_real h0_hand h0_payee h0_paid h0_drawn h0_challenger h0_low h0_high h0_agreed h0_disputed h0_posted h0_middle h0_deadline h0_running h0_node h0_side u.1), (h0_op, .inl (c0_op, 16, .inl u.2.1)), (h0_argument, .inl (c0_argument, 16, .inl u.2.2.1)), (h0_inbox, .inl (c0_inbox, 60, .inl u.2.2.2.1)), (h0_hand, .inl (c0_hand, 13, .inl u.2.2.2.2))] H := hP
                            have hD : va_D A [(h0, ce_Mo h0_op h0_argument h0_balance h0_inbox h0_real h0_hand h0_payee h0_paid h0_drawn h0_challenger h0_low h0_high h0_agreed h0_disputed h0_posted h0_middle h0_deadline h0_running h0_node h0_side u.1), (h0_op, .inl (c0_op, 16, .inl u.2.1)), (h0_argument, .inl (c0_argument, 16, .inl u.2.2.1)), (h0_inbox, .inl (c0_inbox, 60, .inl u.2.2.2.1)), (h0_hand, .inl (c0_hand, 13, .inl u.2.2.2.2))] := hD
                            have hK : va_K (dC, dI) vwCl [(c0_op, .int), (c0_argument, .int), (c0_inbox, .int), (c0_hand, .int)] s := hK
                            refine va_put (D := (dC, dI)) (ci := 8) (v := .long r139) (ty := .long) (C := "StepCourtModel") (T := TMo) (N := 35) hx hb hq inMo tyMo tyMo_ok nmMo hown hK hP hD hS 0 rfl rfl 12 (by decide) (hq _ wt_746) (fun _ h9 => h9) rfl (by decide +kernel) rfl rfl (Nat.le_of_ble_eq_true rfl) dMo_step_311 (fun H locs hP hD hS => ?_)
                            have hP : va_P (dC, dI) vwCl [(h0, ce_Mo h0_op h0_argument h0_balance h0_inbox h0_real h0_hand h0_payee h0_paid h0_drawn h0_challenger h0_low h0_high h0_agreed h0_disputed h0_posted h0_middle h0_deadline h0_running h0_node h0_side (u.1.1, u.1.2.1, u.1.2.2.1, u.1.2.2.2.1, u.1.2.2.2.2.1, u.1.2.2.2.2.2.1, r139, u.1.2.2.2.2.2.2.2.1, u.1.2.2.2.2.2.2.2.2.1, u.1.2.2.2.2.2.2.2.2.2.1, u.1.2.2.2.2.2.2.2.2.2.2.1, u.1.2.2.2.2.2.2.2.2.2.2.2.1, u.1.2.2.2.2.2.2.2.2.2.2.2.2.1, u.1.2.2.2.2.2.2.2.2.2.2.2.2.2.1, u.1.2.2.2.2.2.2.2.2.2.2.2.2.2.2)), (h0_op, .inl (c0_op, 16, .inl u.2.1)), (h0_argument, .inl (c0_argument, 16, .inl u.2.2.1)), (h0_inbox, .inl (c0_inbox, 60, .inl u.2.2.2.1)), (h0_hand, .inl (c0_hand, 13, .inl u.2.2.2.2))] H := hP
                            have hD : va_D A [(h0, ce_Mo h0_op h0_argument h0_balance h0_inbox h0_real h0_hand h0_payee h0_paid h0_drawn h0_challenger h0_low h0_high h0_agreed h0_disputed h0_posted h0_middle h0_deadline h0_running h0_node h0_side (u.1.1, u.1.2.1, u.1.2.2.1, u.1.2.2.2.1, u.1.2.2.2.2.1, u.1.2.2.2.2.2.1, r139, u.1.2.2.2.2.2.2.2.1, u.1.2.2.2.2.2.2.2.2.1, u.1.2.2.2.2.2.2.2.2.2.1, u.1.2.2.2.2.2.2.2.2.2.2.1, u.1.2.2.2.2.2.2.2.2.2.2.2.1, u.1.2.2.2.2.2.2.2.2.2.2.2.2.1, u.1.2.2.2.2.2.2.2.2.2.2.2.2.2.1, u.1.2.2.2.2.2.2.2.2.2.2.2.2.2.2)), (h0_op, .inl (c0_op, 16, .inl u.2.1)), (h0_argument, .inl (c0_argument, 16, .inl u.2.2.1)), (h0_inbox, .inl (c0_inbox, 60, .inl u.2.2.2.1)), (h0_hand, .inl (c0_hand, 13, .inl u.2.2.2.2))] := hD
                            refine lv_aload_n hx hb dMo_step_314 rfl (lv_at hl 8 rfl) ?_
                            refine va_get (D := (dC, dI)) (ci := 8) (v := .ref h0_hand) (C := "StepCourtModel") (T := TMo) (N := 35) hx hb hq inMo hown hK hP 0 rfl rfl 11 (by decide) (hq _ wt_745) (fun _ h9 => h9) rfl dMo_step_315 ?_
                            refine lv_iconst (v := 4) hx hb dMo_step_318 (by decide) ?_
                            refine lv_dup2_11 hx hb dMo_step_319 rfl rfl ?_
                            refine va_iald hx hb hK hP 4 3 rfl rfl (show ¬ ((4 : Int32) < 0 ∨ 13 ≤ (4 : Int32).toNatClampNeg) by decide) dMo_step_320 ?_
                            refine W.eq (g2 := F0 m 321 ls [.int (u.2.2.2.2 4), .int 4, .ref h0_hand]) rfl ?_
                            refine lv_iconst (v := 1) hx hb dMo_step_321 (by decide) ?_
                            refine lv_iadd hx hb dMo_step_322 ?_
                            refine lv_topi (fun f141 ef141 => ?_)
                            have hw := hw f141 ef141
                            refine va_iast hx hb hK hP hD hS 4 3 rfl rfl (show ¬ ((4 : Int32) < 0 ∨ 13 ≤ (4 : Int32).toNatClampNeg) by decide) dMo_step_323 (fun H locs hP hD hS => ?_)
                            have hP : va_P (dC, dI) vwCl [(h0, ce_Mo h0_op h0_argument h0_balance h0_inbox h0_real h0_hand h0_payee h0_paid h0_drawn h0_challenger h0_low h0_high h0_agreed h0_disputed h0_posted h0_middle h0_deadline h0_running h0_node h0_side (u.1.1, u.1.2.1, u.1.2.2.1, u.1.2.2.2.1, u.1.2.2.2.2.1, u.1.2.2.2.2.2.1, r139, u.1.2.2.2.2.2.2.2.1, u.1.2.2.2.2.2.2.2.2.1, u.1.2.2.2.2.2.2.2.2.2.1, u.1.2.2.2.2.2.2.2.2.2.2.1, u.1.2.2.2.2.2.2.2.2.2.2.2.1, u.1.2.2.2.2.2.2.2.2.2.2.2.2.1, u.1.2.2.2.2.2.2.2.2.2.2.2.2.2.1, u.1.2.2.2.2.2.2.2.2.2.2.2.2.2.2)), (h0_op, .inl (c0_op, 16, .inl u.2.1)), (h0_argument, .inl (c0_argument, 16, .inl u.2.2.1)), (h0_inbox, .inl (c0_inbox, 60, .inl u.2.2.2.1)), (h0_hand, .inl (c0_hand, 13, .inl (upd u.2.2.2.2 4 f141)))] H := hP
                            have hD : va_D A [(h0, ce_Mo h0_op h0_argument h0_balance h0_inbox h0_real h0_hand h0_payee h0_paid h0_drawn h0_challenger h0_low h0_high h0_agreed h0_disputed h0_posted h0_middle h0_deadline h0_running h0_node h0_side (u.1.1, u.1.2.1, u.1.2.2.1, u.1.2.2.2.1, u.1.2.2.2.2.1, u.1.2.2.2.2.2.1, r139, u.1.2.2.2.2.2.2.2.1, u.1.2.2.2.2.2.2.2.2.1, u.1.2.2.2.2.2.2.2.2.2.1, u.1.2.2.2.2.2.2.2.2.2.2.1, u.1.2.2.2.2.2.2.2.2.2.2.2.1, u.1.2.2.2.2.2.2.2.2.2.2.2.2.1, u.1.2.2.2.2.2.2.2.2.2.2.2.2.2.1, u.1.2.2.2.2.2.2.2.2.2.2.2.2.2.2)), (h0_op, .inl (c0_op, 16, .inl u.2.1)), (h0_argument, .inl (c0_argument, 16, .inl u.2.2.1)), (h0_inbox, .inl (c0_inbox, 60, .inl u.2.2.2.1)), (h0_hand, .inl (c0_hand, 13, .inl (upd u.2.2.2.2 4 f141)))] := hD
                            refine lv_goto (tgt := 362) hx hb dMo_step_324 (by decide) ?_
                            refine lv_aload_n hx hb dMo_step_362 rfl (lv_at hl 8 rfl) ?_
                            refine va_get (D := (dC, dI)) (ci := 8) (v := .ref h0_hand) (C := "StepCourtModel") (T := TMo) (N := 35) hx hb hq inMo hown hK hP 0 rfl rfl 11 (by decide) (hq _ wt_745) (fun _ h9 => h9) rfl dMo_step_363 ?_
                            refine lv_iconst (v := 0) hx hb dMo_step_366 (by decide) ?_
                            refine lv_iload hx hb dMo_step_367 (lv_at hl 0 rfl) ?_
                            refine lv_if_eq (tgt := 376) hx hb dMo_step_369 (by decide) (fun cc142 => ?_) (fun cc142 => ?_)
                            · have hw := hw
                              refine lv_iload hx hb dMo_step_376 (lv_at hl 4 rfl) ?_
                              refine va_iast hx hb hK hP hD hS 4 3 rfl rfl (show ¬ ((0 : Int32) < 0 ∨ 13 ≤ (0 : Int32).toNatClampNeg) by decide) dMo_step_378 (fun H locs hP hD hS => ?_)
                              have hP : va_P (dC, dI) vwCl [(h0, ce_Mo h0_op h0_argument h0_balance h0_inbox h0_real h0_hand h0_payee h0_paid h0_drawn h0_challenger h0_low h0_high h0_agreed h0_disputed h0_posted h0_middle h0_deadline h0_running h0_node h0_side (u.1.1, u.1.2.1, u.1.2.2.1, u.1.2.2.2.1, u.1.2.2.2.2.1, u.1.2.2.2.2.2.1, r139, u.1.2.2.2.2.2.2.2.1, u.1.2.2.2.2.2.2.2.2.1, u.1.2.2.2.2.2.2.2.2.2.1, u.1.2.2.2.2.2.2.2.2.2.2.1, u.1.2.2.2.2.2.2.2.2.2.2.2.1, u.1.2.2.2.2.2.2.2.2.2.2.2.2.1, u.1.2.2.2.2.2.2.2.2.2.2.2.2.2.1, u.1.2.2.2.2.2.2.2.2.2.2.2.2.2.2)), (h0_op, .inl (c0_op, 16, .inl u.2.1)), (h0_argument, .inl (c0_argument, 16, .inl u.2.2.1)), (h0_inbox, .inl (c0_inbox, 60, .inl u.2.2.2.1)), (h0_hand, .inl (c0_hand, 13, .inl (upd (upd u.2.2.2.2 4 f141) 0 y6)))] H := hP
                              have hD : va_D A [(h0, ce_Mo h0_op h0_argument h0_balance h0_inbox h0_real h0_hand h0_payee h0_paid h0_drawn h0_challenger h0_low h0_high h0_agreed h0_disputed h0_posted h0_middle h0_deadline h0_running h0_node h0_side (u.1.1, u.1.2.1, u.1.2.2.1, u.1.2.2.2.1, u.1.2.2.2.2.1, u.1.2.2.2.2.2.1, r139, u.1.2.2.2.2.2.2.2.1, u.1.2.2.2.2.2.2.2.2.1, u.1.2.2.2.2.2.2.2.2.2.1, u.1.2.2.2.2.2.2.2.2.2.2.1, u.1.2.2.2.2.2.2.2.2.2.2.2.1, u.1.2.2.2.2.2.2.2.2.2.2.2.2.1, u.1.2.2.2.2.2.2.2.2.2.2.2.2.2.1, u.1.2.2.2.2.2.2.2.2.2.2.2.2.2.2)), (h0_op, .inl (c0_op, 16, .inl u.2.1)), (h0_argument, .inl (c0_argument, 16, .inl u.2.2.1)), (h0_inbox, .inl (c0_inbox, 60, .inl u.2.2.2.1)), (h0_hand, .inl (c0_hand, 13, .inl (upd (upd u.2.2.2.2 4 f141) 0 y6)))] := hD
                              have hP9 := hP.sub (ws' := [(h0, ce_Mo h0_op h0_argument h0_balance h0_inbox h0_real h0_hand h0_payee h0_paid h0_drawn h0_challenger h0_low h0_high h0_agreed h0_disputed h0_posted h0_middle h0_deadline h0_running h0_node h0_side (u.1.1, u.1.2.1, u.1.2.2.1, u.1.2.2.2.1, u.1.2.2.2.2.1, u.1.2.2.2.2.2.1, r139, u.1.2.2.2.2.2.2.2.1, u.1.2.2.2.2.2.2.2.2.1, u.1.2.2.2.2.2.2.2.2.2.1, u.1.2.2.2.2.2.2.2.2.2.2.1, u.1.2.2.2.2.2.2.2.2.2.2.2.1, u.1.2.2.2.2.2.2.2.2.2.2.2.2.1, u.1.2.2.2.2.2.2.2.2.2.2.2.2.2.1, u.1.2.2.2.2.2.2.2.2.2.2.2.2.2.2)), (h0_op, .inl (c0_op, 16, .inl u.2.1)), (h0_argument, .inl (c0_argument, 16, .inl u.2.2.1)), (h0_inbox, .inl (c0_inbox, 60, .inl u.2.2.2.1)), (h0_hand, .inl (c0_hand, 13, .inl (upd (upd u.2.2.2.2 4 f141) 0 y6)))]) [0, 1, 2, 3, 4] rfl
                              have hD9 := hD.sub (ws' := [(h0, ce_Mo h0_op h0_argument h0_balance h0_inbox h0_real h0_hand h0_payee h0_paid h0_drawn h0_challenger h0_low h0_high h0_agreed h0_disputed h0_posted h0_middle h0_deadline h0_running h0_node h0_side (u.1.1, u.1.2.1, u.1.2.2.1, u.1.2.2.2.1, u.1.2.2.2.2.1, u.1.2.2.2.2.2.1, r139, u.1.2.2.2.2.2.2.2.1, u.1.2.2.2.2.2.2.2.2.1, u.1.2.2.2.2.2.2.2.2.2.1, u.1.2.2.2.2.2.2.2.2.2.2.1, u.1.2.2.2.2.2.2.2.2.2.2.2.1, u.1.2.2.2.2.2.2.2.2.2.2.2.2.1, u.1.2.2.2.2.2.2.2.2.2.2.2.2.2.1, u.1.2.2.2.2.2.2.2.2.2.2.2.2.2.2)), (h0_op, .inl (c0_op, 16, .inl u.2.1)), (h0_argument, .inl (c0_argument, 16, .inl u.2.2.1)), (h0_inbox, .inl (c0_inbox, 60, .inl u.2.2.2.1)), (h0_hand, .inl (c0_hand, 13, .inl (upd (upd u.2.2.2.2 4 f141) 0 y6)))]) [0, 1, 2, 3, 4] (by decide) rfl
                              have hK9 := hK.sub (tys' := [(c0_op, .int), (c0_argument, .int), (c0_inbox, .int), (c0_hand, .int)]) [0, 1, 2, 3] rfl
                              exact W.vret hx hb hr (fun t ht hW => ⟨⟨((u.1.1, u.1.2.1, u.1.2.2.1, u.1.2.2.2.1, u.1.2.2.2.2.1, u.1.2.2.2.2.2.1, r139, u.1.2.2.2.2.2.2.2.1, u.1.2.2.2.2.2.2.2.2.1, u.1.2.2.2.2.2.2.2.2.2.1, u.1.2.2.2.2.2.2.2.2.2.2.1, u.1.2.2.2.2.2.2.2.2.2.2.2.1, u.1.2.2.2.2.2.2.2.2.2.2.2.2.1, u.1.2.2.2.2.2.2.2.2.2.2.2.2.2.1, u.1.2.2.2.2.2.2.2.2.2.2.2.2.2.2), u.2.1, u.2.2.1, u.2.2.2.1, (upd (upd u.2.2.2.2 4 f141) 0 y6)), rfl, hw, by rw [ht]; exact hP9, va_K.moved hW.alike hK9, hD9⟩, hS.F ht⟩) hS.2.2 dMo_step_379
                            · first | exact absurd cc142 (by decide) | exact (cc142 (by decide)).elim
                        · have hw := hw.1 cc116
                          refine lv_aload_n hx hb dMo_step_257 rfl (lv_at hl 8 rfl) ?_
                          refine va_get (D := (dC, dI)) (ci := 8) (v := .ref h0_hand) (C := "StepCourtModel") (T := TMo) (N := 35) hx hb hq inMo hown hK hP 0 rfl rfl 11 (by decide) (hq _ wt_745) (fun _ h9 => h9) rfl dMo_step_258 ?_
                          refine lv_iconst (v := 1) hx hb dMo_step_261 (by decide) ?_
                          refine lv_aload_n hx hb dMo_step_262 rfl (lv_at hl 8 rfl) ?_
                          refine lv_aload_n hx hb dMo_step_263 rfl (lv_at hl 8 rfl) ?_
                          refine va_get (D := (dC, dI)) (ci := 8) (v := .ref h0_hand) (C := "StepCourtModel") (T := TMo) (N := 35) hx hb hq inMo hown hK hP 0 rfl rfl 11 (by decide) (hq _ wt_745) (fun _ h9 => h9) rfl dMo_step_264 ?_
                          refine lv_iconst (v := 3) hx hb dMo_step_267 (by decide) ?_
                          refine va_iald hx hb hK hP 4 3 rfl rfl (show ¬ ((3 : Int32) < 0 ∨ 13 ≤ (3 : Int32).toNatClampNeg) by decide) dMo_step_268 ?_
                          refine W.eq (g2 := F0 m 269 ls [.int (u.2.2.2.2 3), .ref h0, .int 1, .ref h0_hand]) rfl ?_
                          have hPc := hP.sub (ws' := [(h0, ce_Mo h0_op h0_argument h0_balance h0_inbox h0_real h0_hand h0_payee h0_paid h0_drawn h0_challenger h0_low h0_high h0_agreed h0_disputed h0_posted h0_middle h0_deadline h0_running h0_node h0_side u.1), (h0_inbox, .inl (c0_inbox, 60, .inl u.2.2.2.1))]) [0, 3] rfl
                          have hDc := hD.sub (ws' := [(h0, ce_Mo h0_op h0_argument h0_balance h0_inbox h0_real h0_hand h0_payee h0_paid h0_drawn h0_challenger h0_low h0_high h0_agreed h0_disputed h0_posted h0_middle h0_deadline h0_running h0_node h0_side u.1), (h0_inbox, .inl (c0_inbox, 60, .inl u.2.2.2.1))]) [0, 3] (by decide) rfl
                          have hKc := hK.sub (tys' := [(c0_inbox, .int)]) [2] rfl
                          have hFc := va_free (wc := [(h0, ce_Mo h0_op h0_argument h0_balance h0_inbox h0_real h0_hand h0_payee h0_paid h0_drawn h0_challenger h0_low h0_high h0_agreed h0_disputed h0_posted h0_middle h0_deadline h0_running h0_node h0_side u.1), (h0_inbox, .inl (c0_inbox, 60, .inl u.2.2.2.1))]) hD hS hA [0, 3] rfl
                          refine va_calli (va_runV (As := [.int (u.2.2.2.2 3)]) (rest := [.int 1, .ref h0_hand]) ⟨hx, hb, hml, hown, hq⟩ (mt_Mo_wordAt l dC dI h0 h0_inbox h0_op h0_argument h0_balance h0_real h0_hand h0_payee h0_paid h0_drawn h0_challenger h0_low h0_high h0_agreed h0_disputed h0_posted h0_middle h0_deadline h0_running h0_node h0_side c0_inbox s.heap.size _ (u.1, u.2.2.2.1) (u.2.2.2.2 3) hw) ⟨cq_B 1 hq wt_882 wt_879 wt_10 rfl rfl hd_Mo_wordAt ⟨Nat.le_of_ble_eq_true rfl, Nat.le_of_ble_eq_true rfl⟩, (hq _ wt_881), (hq _ wv_29)⟩ ⟨kp_bl, va_recv hKc hPc (ci := 8) (q0 := 0) rfl rfl, kp_at hPc hKc hDc hZ⟩ rfl rfl hl.1 rfl (lv_room (Nat.le_of_ble_eq_true rfl)) dMo_step_269 ⟨(by decide), (by decide)⟩) hS (fun q _ h => hFc q h) hFc (fun r143 u144 t H1 locs ht hvm hw hB hz1 hk1 hS => ?_)
                          obtain ⟨hP1, hK1, hD1⟩ := hB
                          rw [ht] at hP1
                          have hK1 := va_K.moved hvm.symm hK1
                          obtain ⟨hP, hD⟩ := va_join (wr := [(h0_op, .inl (c0_op, 16, .inl u.2.1)), (h0_argument, .inl (c0_argument, 16, .inl u.2.2.1)), (h0_hand, .inl (c0_hand, 13, .inl u.2.2.2.2))]) (w1 := [(h0, ce_Mo h0_op h0_argument h0_balance h0_inbox h0_real h0_hand h0_payee h0_paid h0_drawn h0_challenger h0_low h0_high h0_agreed h0_disputed h0_posted h0_middle h0_deadline h0_running h0_node h0_side u144.1), (h0_inbox, .inl (c0_inbox, 60, .inl u144.2))]) hP hD [0, 3] [1, 2, 4] rfl rfl (by decide) (by decide) hk1 hFc hP1 hD1
                          have hK := (hK.sub (tys' := [(c0_op, .int), (c0_argument, .int), (c0_hand, .int)]) [0, 1, 3] rfl).app hK1
                          generalize H1 = H at hP hS ⊢
                          have hP : va_P (dC, dI) vwCl [(h0_op, .inl (c0_op, 16, .inl u.2.1)), (h0_argument, .inl (c0_argument, 16, .inl u.2.2.1)), (h0_hand, .inl (c0_hand, 13, .inl u.2.2.2.2)), (h0, ce_Mo h0_op h0_argument h0_balance h0_inbox h0_real h0_hand h0_payee h0_paid h0_drawn h0_challenger h0_low h0_high h0_agreed h0_disputed h0_posted h0_middle h0_deadline h0_running h0_node h0_side u144.1), (h0_inbox, .inl (c0_inbox, 60, .inl u144.2))] H := hP
                          have hD : va_D A [(h0_op, .inl (c0_op, 16, .inl u.2.1)), (h0_argument, .inl (c0_argument, 16, .inl u.2.2.1)), (h0_hand, .inl (c0_hand, 13, .inl u.2.2.2.2)), (h0, ce_Mo h0_op h0_argument h0_balance h0_inbox h0_real h0_hand h0_payee h0_paid h0_drawn h0_challenger h0_low h0_high h0_agreed h0_disputed h0_posted h0_middle h0_deadline h0_running h0_node h0_side u144.1), (h0_inbox, .inl (c0_inbox, 60, .inl u144.2))] := hD
                          have hK : va_K (dC, dI) vwCl [(c0_op, .int), (c0_argument, .int), (c0_hand, .int), (c0_inbox, .int)] s := hK
                          refine va_iast hx hb hK hP hD hS 2 2 rfl rfl (show ¬ ((1 : Int32) < 0 ∨ 13 ≤ (1 : Int32).toNatClampNeg) by decide) dMo_step_272 (fun H locs hP hD hS => ?_)
                          have hP : va_P (dC, dI) vwCl [(h0_op, .inl (c0_op, 16, .inl u.2.1)), (h0_argument, .inl (c0_argument, 16, .inl u.2.2.1)), (h0_hand, .inl (c0_hand, 13, .inl (upd u.2.2.2.2 1 r143))), (h0, ce_Mo h0_op h0_argument h0_balance h0_inbox h0_real h0_hand h0_payee h0_paid h0_drawn h0_challenger h0_low h0_high h0_agreed h0_disputed h0_posted h0_middle h0_deadline h0_running h0_node h0_side u144.1), (h0_inbox, .inl (c0_inbox, 60, .inl u144.2))] H := hP
                          have hD : va_D A [(h0_op, .inl (c0_op, 16, .inl u.2.1)), (h0_argument, .inl (c0_argument, 16, .inl u.2.2.1)), (h0_hand, .inl (c0_hand, 13, .inl (upd u.2.2.2.2 1 r143))), (h0, ce_Mo h0_op h0_argument h0_balance h0_inbox h0_real h0_hand h0_payee h0_paid h0_drawn h0_challenger h0_low h0_high h0_agreed h0_disputed h0_posted h0_middle h0_deadline h0_running h0_node h0_side u144.1), (h0_inbox, .inl (c0_inbox, 60, .inl u144.2))] := hD
                          refine lv_aload_n hx hb dMo_step_273 rfl (lv_at hl 8 rfl) ?_
                          refine va_get (D := (dC, dI)) (ci := 8) (v := .ref h0_hand) (C := "StepCourtModel") (T := TMo) (N := 35) hx hb hq inMo hown hK hP 3 rfl rfl 11 (by decide) (hq _ wt_745) (fun _ h9 => h9) rfl dMo_step_274 ?_
                          refine lv_iconst (v := 3) hx hb dMo_step_277 (by decide) ?_
                          refine lv_dup2_11 hx hb dMo_step_278 rfl rfl ?_
                          refine va_iald hx hb hK hP 2 2 rfl rfl (show ¬ ((3 : Int32) < 0 ∨ 13 ≤ (3 : Int32).toNatClampNeg) by decide) dMo_step_279 ?_
                          refine W.eq (g2 := F0 m 280 ls [.int ((upd u.2.2.2.2 1 r143) 3), .int 3, .ref h0_hand]) rfl ?_
                          refine lv_iconst (v := 1) hx hb dMo_step_280 (by decide) ?_
                          refine lv_iadd hx hb dMo_step_281 ?_
                          refine lv_topi (fun f145 ef145 => ?_)
                          have hw := hw f145 ef145
                          refine va_iast hx hb hK hP hD hS 2 2 rfl rfl (show ¬ ((3 : Int32) < 0 ∨ 13 ≤ (3 : Int32).toNatClampNeg) by decide) dMo_step_282 (fun H locs hP hD hS => ?_)
                          have hP : va_P (dC, dI) vwCl [(h0_op, .inl (c0_op, 16, .inl u.2.1)), (h0_argument, .inl (c0_argument, 16, .inl u.2.2.1)), (h0_hand, .inl (c0_hand, 13, .inl (upd (upd u.2.2.2.2 1 r143) 3 f145))), (h0, ce_Mo h0_op h0_argument h0_balance h0_inbox h0_real h0_hand h0_payee h0_paid h0_drawn h0_challenger h0_low h0_high h0_agreed h0_disputed h0_posted h0_middle h0_deadline h0_running h0_node h0_side u144.1), (h0_inbox, .inl (c0_inbox, 60, .inl u144.2))] H := hP
                          have hD : va_D A [(h0_op, .inl (c0_op, 16, .inl u.2.1)), (h0_argument, .inl (c0_argument, 16, .inl u.2.2.1)), (h0_hand, .inl (c0_hand, 13, .inl (upd (upd u.2.2.2.2 1 r143) 3 f145))), (h0, ce_Mo h0_op h0_argument h0_balance h0_inbox h0_real h0_hand h0_payee h0_paid h0_drawn h0_challenger h0_low h0_high h0_agreed h0_disputed h0_posted h0_middle h0_deadline h0_running h0_node h0_side u144.1), (h0_inbox, .inl (c0_inbox, 60, .inl u144.2))] := hD
                          refine lv_goto (tgt := 362) hx hb dMo_step_283 (by decide) ?_
                          refine lv_aload_n hx hb dMo_step_362 rfl (lv_at hl 8 rfl) ?_
                          refine va_get (D := (dC, dI)) (ci := 8) (v := .ref h0_hand) (C := "StepCourtModel") (T := TMo) (N := 35) hx hb hq inMo hown hK hP 3 rfl rfl 11 (by decide) (hq _ wt_745) (fun _ h9 => h9) rfl dMo_step_363 ?_
                          refine lv_iconst (v := 0) hx hb dMo_step_366 (by decide) ?_
                          refine lv_iload hx hb dMo_step_367 (lv_at hl 0 rfl) ?_
                          refine lv_if_eq (tgt := 376) hx hb dMo_step_369 (by decide) (fun cc146 => ?_) (fun cc146 => ?_)
                          · have hw := hw
                            refine lv_iload hx hb dMo_step_376 (lv_at hl 4 rfl) ?_
                            refine va_iast hx hb hK hP hD hS 2 2 rfl rfl (show ¬ ((0 : Int32) < 0 ∨ 13 ≤ (0 : Int32).toNatClampNeg) by decide) dMo_step_378 (fun H locs hP hD hS => ?_)
                            have hP : va_P (dC, dI) vwCl [(h0_op, .inl (c0_op, 16, .inl u.2.1)), (h0_argument, .inl (c0_argument, 16, .inl u.2.2.1)), (h0_hand, .inl (c0_hand, 13, .inl (upd (upd (upd u.2.2.2.2 1 r143) 3 f145) 0 y6))), (h0, ce_Mo h0_op h0_argument h0_balance h0_inbox h0_real h0_hand h0_payee h0_paid h0_drawn h0_challenger h0_low h0_high h0_agreed h0_disputed h0_posted h0_middle h0_deadline h0_running h0_node h0_side u144.1), (h0_inbox, .inl (c0_inbox, 60, .inl u144.2))] H := hP
                            have hD : va_D A [(h0_op, .inl (c0_op, 16, .inl u.2.1)), (h0_argument, .inl (c0_argument, 16, .inl u.2.2.1)), (h0_hand, .inl (c0_hand, 13, .inl (upd (upd (upd u.2.2.2.2 1 r143) 3 f145) 0 y6))), (h0, ce_Mo h0_op h0_argument h0_balance h0_inbox h0_real h0_hand h0_payee h0_paid h0_drawn h0_challenger h0_low h0_high h0_agreed h0_disputed h0_posted h0_middle h0_deadline h0_running h0_node h0_side u144.1), (h0_inbox, .inl (c0_inbox, 60, .inl u144.2))] := hD
                            have hP9 := hP.sub (ws' := [(h0, ce_Mo h0_op h0_argument h0_balance h0_inbox h0_real h0_hand h0_payee h0_paid h0_drawn h0_challenger h0_low h0_high h0_agreed h0_disputed h0_posted h0_middle h0_deadline h0_running h0_node h0_side u144.1), (h0_op, .inl (c0_op, 16, .inl u.2.1)), (h0_argument, .inl (c0_argument, 16, .inl u.2.2.1)), (h0_inbox, .inl (c0_inbox, 60, .inl u144.2)), (h0_hand, .inl (c0_hand, 13, .inl (upd (upd (upd u.2.2.2.2 1 r143) 3 f145) 0 y6)))]) [3, 0, 1, 4, 2] rfl
                            have hD9 := hD.sub (ws' := [(h0, ce_Mo h0_op h0_argument h0_balance h0_inbox h0_real h0_hand h0_payee h0_paid h0_drawn h0_challenger h0_low h0_high h0_agreed h0_disputed h0_posted h0_middle h0_deadline h0_running h0_node h0_side u144.1), (h0_op, .inl (c0_op, 16, .inl u.2.1)), (h0_argument, .inl (c0_argument, 16, .inl u.2.2.1)), (h0_inbox, .inl (c0_inbox, 60, .inl u144.2)), (h0_hand, .inl (c0_hand, 13, .inl (upd (upd (upd u.2.2.2.2 1 r143) 3 f145) 0 y6)))]) [3, 0, 1, 4, 2] (by decide) rfl
                            have hK9 := hK.sub (tys' := [(c0_op, .int), (c0_argument, .int), (c0_inbox, .int), (c0_hand, .int)]) [0, 1, 3, 2] rfl
                            exact W.vret hx hb hr (fun t ht hW => ⟨⟨(u144.1, u.2.1, u.2.2.1, u144.2, (upd (upd (upd u.2.2.2.2 1 r143) 3 f145) 0 y6)), rfl, hw, by rw [ht]; exact hP9, va_K.moved hW.alike hK9, hD9⟩, hS.F ht⟩) hS.2.2 dMo_step_379
                          · first | exact absurd cc146 (by decide) | exact (cc146 (by decide)).elim
                      · have hw := hw.1 cc115
                        refine lv_aload_n hx hb dMo_step_239 rfl (lv_at hl 8 rfl) ?_
                        refine va_get (D := (dC, dI)) (ci := 8) (v := .ref h0_hand) (C := "StepCourtModel") (T := TMo) (N := 35) hx hb hq inMo hown hK hP 0 rfl rfl 11 (by decide) (hq _ wt_745) (fun _ h9 => h9) rfl dMo_step_240 ?_
                        refine lv_iload hx hb dMo_step_243 (lv_at hl 1 rfl) ?_
                        refine lv_iload hx hb dMo_step_245 (lv_at hl 3 rfl) ?_
                        obtain ⟨hh147, hw⟩ := hw
                        refine va_iast hx hb hK hP hD hS 4 3 rfl rfl hh147 dMo_step_247 (fun H locs hP hD hS => ?_)
                        have hP : va_P (dC, dI) vwCl [(h0, ce_Mo h0_op h0_argument h0_balance h0_inbox h0_real h0_hand h0_payee h0_paid h0_drawn h0_challenger h0_low h0_high h0_agreed h0_disputed h0_posted h0_middle h0_deadline h0_running h0_node h0_side u.1), (h0_op, .inl (c0_op, 16, .inl u.2.1)), (h0_argument, .inl (c0_argument, 16, .inl u.2.2.1)), (h0_inbox, .inl (c0_inbox, 60, .inl u.2.2.2.1)), (h0_hand, .inl (c0_hand, 13, .inl (upd u.2.2.2.2 y9.toNatClampNeg y7)))] H := hP
                        have hD : va_D A [(h0, ce_Mo h0_op h0_argument h0_balance h0_inbox h0_real h0_hand h0_payee h0_paid h0_drawn h0_challenger h0_low h0_high h0_agreed h0_disputed h0_posted h0_middle h0_deadline h0_running h0_node h0_side u.1), (h0_op, .inl (c0_op, 16, .inl u.2.1)), (h0_argument, .inl (c0_argument, 16, .inl u.2.2.1)), (h0_inbox, .inl (c0_inbox, 60, .inl u.2.2.2.1)), (h0_hand, .inl (c0_hand, 13, .inl (upd u.2.2.2.2 y9.toNatClampNeg y7)))] := hD
                        refine lv_goto (tgt := 362) hx hb dMo_step_248 (by decide) ?_
                        refine lv_aload_n hx hb dMo_step_362 rfl (lv_at hl 8 rfl) ?_
                        refine va_get (D := (dC, dI)) (ci := 8) (v := .ref h0_hand) (C := "StepCourtModel") (T := TMo) (N := 35) hx hb hq inMo hown hK hP 0 rfl rfl 11 (by decide) (hq _ wt_745) (fun _ h9 => h9) rfl dMo_step_363 ?_
                        refine lv_iconst (v := 0) hx hb dMo_step_366 (by decide) ?_
                        refine lv_iload hx hb dMo_step_367 (lv_at hl 0 rfl) ?_
                        refine lv_if_eq (tgt := 376) hx hb dMo_step_369 (by decide) (fun cc148 => ?_) (fun cc148 => ?_)
                        · have hw := hw
                          refine lv_iload hx hb dMo_step_376 (lv_at hl 4 rfl) ?_
                          refine va_iast hx hb hK hP hD hS 4 3 rfl rfl (show ¬ ((0 : Int32) < 0 ∨ 13 ≤ (0 : Int32).toNatClampNeg) by decide) dMo_step_378 (fun H locs hP hD hS => ?_)
                          have hP : va_P (dC, dI) vwCl [(h0, ce_Mo h0_op h0_argument h0_balance h0_inbox h0_real h0_hand h0_payee h0_paid h0_drawn h0_challenger h0_low h0_high h0_agreed h0_disputed h0_posted h0_middle h0_deadline h0_running h0_node h0_side u.1), (h0_op, .inl (c0_op, 16, .inl u.2.1)), (h0_argument, .inl (c0_argument, 16, .inl u.2.2.1)), (h0_inbox, .inl (c0_inbox, 60, .inl u.2.2.2.1)), (h0_hand, .inl (c0_hand, 13, .inl (upd (upd u.2.2.2.2 y9.toNatClampNeg y7) 0 y6)))] H := hP
                          have hD : va_D A [(h0, ce_Mo h0_op h0_argument h0_balance h0_inbox h0_real h0_hand h0_payee h0_paid h0_drawn h0_challenger h0_low h0_high h0_agreed h0_disputed h0_posted h0_middle h0_deadline h0_running h0_node h0_side u.1), (h0_op, .inl (c0_op, 16, .inl u.2.1)), (h0_argument, .inl (c0_argument, 16, .inl u.2.2.1)), (h0_inbox, .inl (c0_inbox, 60, .inl u.2.2.2.1)), (h0_hand, .inl (c0_hand, 13, .inl (upd (upd u.2.2.2.2 y9.toNatClampNeg y7) 0 y6)))] := hD
                          have hP9 := hP.sub (ws' := [(h0, ce_Mo h0_op h0_argument h0_balance h0_inbox h0_real h0_hand h0_payee h0_paid h0_drawn h0_challenger h0_low h0_high h0_agreed h0_disputed h0_posted h0_middle h0_deadline h0_running h0_node h0_side u.1), (h0_op, .inl (c0_op, 16, .inl u.2.1)), (h0_argument, .inl (c0_argument, 16, .inl u.2.2.1)), (h0_inbox, .inl (c0_inbox, 60, .inl u.2.2.2.1)), (h0_hand, .inl (c0_hand, 13, .inl (upd (upd u.2.2.2.2 y9.toNatClampNeg y7) 0 y6)))]) [0, 1, 2, 3, 4] rfl
                          have hD9 := hD.sub (ws' := [(h0, ce_Mo h0_op h0_argument h0_balance h0_inbox h0_real h0_hand h0_payee h0_paid h0_drawn h0_challenger h0_low h0_high h0_agreed h0_disputed h0_posted h0_middle h0_deadline h0_running h0_node h0_side u.1), (h0_op, .inl (c0_op, 16, .inl u.2.1)), (h0_argument, .inl (c0_argument, 16, .inl u.2.2.1)), (h0_inbox, .inl (c0_inbox, 60, .inl u.2.2.2.1)), (h0_hand, .inl (c0_hand, 13, .inl (upd (upd u.2.2.2.2 y9.toNatClampNeg y7) 0 y6)))]) [0, 1, 2, 3, 4] (by decide) rfl
                          have hK9 := hK.sub (tys' := [(c0_op, .int), (c0_argument, .int), (c0_inbox, .int), (c0_hand, .int)]) [0, 1, 2, 3] rfl
                          exact W.vret hx hb hr (fun t ht hW => ⟨⟨(u.1, u.2.1, u.2.2.1, u.2.2.2.1, (upd (upd u.2.2.2.2 y9.toNatClampNeg y7) 0 y6)), rfl, hw, by rw [ht]; exact hP9, va_K.moved hW.alike hK9, hD9⟩, hS.F ht⟩) hS.2.2 dMo_step_379
                        · first | exact absurd cc148 (by decide) | exact (cc148 (by decide)).elim
                    · have hw := hw.1 cc114
                      refine lv_aload_n hx hb dMo_step_217 rfl (lv_at hl 8 rfl) ?_
                      refine va_get (D := (dC, dI)) (ci := 8) (v := .ref h0_hand) (C := "StepCourtModel") (T := TMo) (N := 35) hx hb hq inMo hown hK hP 0 rfl rfl 11 (by decide) (hq _ wt_745) (fun _ h9 => h9) rfl dMo_step_218 ?_
                      refine lv_iconst (v := 1) hx hb dMo_step_221 (by decide) ?_
                      refine lv_aload_n hx hb dMo_step_222 rfl (lv_at hl 8 rfl) ?_
                      refine va_get (D := (dC, dI)) (ci := 8) (v := .ref h0_hand) (C := "StepCourtModel") (T := TMo) (N := 35) hx hb hq inMo hown hK hP 0 rfl rfl 11 (by decide) (hq _ wt_745) (fun _ h9 => h9) rfl dMo_step_223 ?_
                      refine lv_iload hx hb dMo_step_226 (lv_at hl 1 rfl) ?_
                      obtain ⟨hh149, hw⟩ := hw
                      refine va_iald hx hb hK hP 4 3 rfl rfl hh149 dMo_step_228 ?_
                      refine lv_topi (fun f150 ef150 => ?_)
                      have hw := hw f150 ef150
                      refine va_iast hx hb hK hP hD hS 4 3 rfl rfl (show ¬ ((1 : Int32) < 0 ∨ 13 ≤ (1 : Int32).toNatClampNeg) by decide) dMo_step_229 (fun H locs hP hD hS => ?_)
                      have hP : va_P (dC, dI) vwCl [(h0, ce_Mo h0_op h0_argument h0_balance h0_inbox h0_real h0_hand h0_payee h0_paid h0_drawn h0_challenger h0_low h0_high h0_agreed h0_disputed h0_posted h0_middle h0_deadline h0_running h0_node h0_side u.1), (h0_op, .inl (c0_op, 16, .inl u.2.1)), (h0_argument, .inl (c0_argument, 16, .inl u.2.2.1)), (h0_inbox, .inl (c0_inbox, 60, .inl u.2.2.2.1)), (h0_hand, .inl (c0_hand, 13, .inl (upd u.2.2.2.2 1 f150)))] H := hP
                      have hD : va_D A [(h0, ce_Mo h0_op h0_argument h0_balance h0_inbox h0_real h0_hand h0_payee h0_paid h0_drawn h0_challenger h0_low h0_high h0_agreed h0_disputed h0_posted h0_middle h0_deadline h0_running h0_node h0_side u.1), (h0_op, .inl (c0_op, 16, .inl u.2.1)), (h0_argument, .inl (c0_argument, 16, .inl u.2.2.1)), (h0_inbox, .inl (c0_inbox, 60, .inl u.2.2.2.1)), (h0_hand, .inl (c0_hand, 13, .inl (upd u.2.2.2.2 1 f150)))] := hD
                      refine lv_goto (tgt := 362) hx hb dMo_step_230 (by decide) ?_
                      refine lv_aload_n hx hb dMo_step_362 rfl (lv_at hl 8 rfl) ?_
                      refine va_get (D := (dC, dI)) (ci := 8) (v := .ref h0_hand) (C := "StepCourtModel") (T := TMo) (N := 35) hx hb hq inMo hown hK hP 0 rfl rfl 11 (by decide) (hq _ wt_745) (fun _ h9 => h9) rfl dMo_step_363 ?_
                      refine lv_iconst (v := 0) hx hb dMo_step_366 (by decide) ?_
                      refine lv_iload hx hb dMo_step_367 (lv_at hl 0 rfl) ?_
                      refine lv_if_eq (tgt := 376) hx hb dMo_step_369 (by decide) (fun cc151 => ?_) (fun cc151 => ?_)
                      · have hw := hw
                        refine lv_iload hx hb dMo_step_376 (lv_at hl 4 rfl) ?_
                        refine va_iast hx hb hK hP hD hS 4 3 rfl rfl (show ¬ ((0 : Int32) < 0 ∨ 13 ≤ (0 : Int32).toNatClampNeg) by decide) dMo_step_378 (fun H locs hP hD hS => ?_)
                        have hP : va_P (dC, dI) vwCl [(h0, ce_Mo h0_op h0_argument h0_balance h0_inbox h0_real h0_hand h0_payee h0_paid h0_drawn h0_challenger h0_low h0_high h0_agreed h0_disputed h0_posted h0_middle h0_deadline h0_running h0_node h0_side u.1), (h0_op, .inl (c0_op, 16, .inl u.2.1)), (h0_argument, .inl (c0_argument, 16, .inl u.2.2.1)), (h0_inbox, .inl (c0_inbox, 60, .inl u.2.2.2.1)), (h0_hand, .inl (c0_hand, 13, .inl (upd (upd u.2.2.2.2 1 f150) 0 y6)))] H := hP
                        have hD : va_D A [(h0, ce_Mo h0_op h0_argument h0_balance h0_inbox h0_real h0_hand h0_payee h0_paid h0_drawn h0_challenger h0_low h0_high h0_agreed h0_disputed h0_posted h0_middle h0_deadline h0_running h0_node h0_side u.1), (h0_op, .inl (c0_op, 16, .inl u.2.1)), (h0_argument, .inl (c0_argument, 16, .inl u.2.2.1)), (h0_inbox, .inl (c0_inbox, 60, .inl u.2.2.2.1)), (h0_hand, .inl (c0_hand, 13, .inl (upd (upd u.2.2.2.2 1 f150) 0 y6)))] := hD
                        have hP9 := hP.sub (ws' := [(h0, ce_Mo h0_op h0_argument h0_balance h0_inbox h0_real h0_hand h0_payee h0_paid h0_drawn h0_challenger h0_low h0_high h0_agreed h0_disputed h0_posted h0_middle h0_deadline h0_running h0_node h0_side u.1), (h0_op, .inl (c0_op, 16, .inl u.2.1)), (h0_argument, .inl (c0_argument, 16, .inl u.2.2.1)), (h0_inbox, .inl (c0_inbox, 60, .inl u.2.2.2.1)), (h0_hand, .inl (c0_hand, 13, .inl (upd (upd u.2.2.2.2 1 f150) 0 y6)))]) [0, 1, 2, 3, 4] rfl
                        have hD9 := hD.sub (ws' := [(h0, ce_Mo h0_op h0_argument h0_balance h0_inbox h0_real h0_hand h0_payee h0_paid h0_drawn h0_challenger h0_low h0_high h0_agreed h0_disputed h0_posted h0_middle h0_deadline h0_running h0_node h0_side u.1), (h0_op, .inl (c0_op, 16, .inl u.2.1)), (h0_argument, .inl (c0_argument, 16, .inl u.2.2.1)), (h0_inbox, .inl (c0_inbox, 60, .inl u.2.2.2.1)), (h0_hand, .inl (c0_hand, 13, .inl (upd (upd u.2.2.2.2 1 f150) 0 y6)))]) [0, 1, 2, 3, 4] (by decide) rfl
                        have hK9 := hK.sub (tys' := [(c0_op, .int), (c0_argument, .int), (c0_inbox, .int), (c0_hand, .int)]) [0, 1, 2, 3] rfl
                        exact W.vret hx hb hr (fun t ht hW => ⟨⟨(u.1, u.2.1, u.2.2.1, u.2.2.2.1, (upd (upd u.2.2.2.2 1 f150) 0 y6)), rfl, hw, by rw [ht]; exact hP9, va_K.moved hW.alike hK9, hD9⟩, hS.F ht⟩) hS.2.2 dMo_step_379
                      · first | exact absurd cc151 (by decide) | exact (cc151 (by decide)).elim
                  · have hw := hw.2 cc113
                    refine lv_iload_n hx hb dMo_step_165 rfl (lv_at hl 6 rfl) ?_
                    refine lv_bipush (v := 6) hx hb dMo_step_166 (by decide) ?_
                    refine lv_icmp_gt (tgt := 211) hx hb dMo_step_168 (by decide) (fun cc152 => ?_) (fun cc152 => ?_)
                    · have hw := hw.1 cc152
                      refine lv_iload_n hx hb dMo_step_211 rfl (lv_at hl 6 rfl) ?_
                      refine lv_bipush (v := 7) hx hb dMo_step_212 (by decide) ?_
                      refine lv_icmp_ne (tgt := 233) hx hb dMo_step_214 (by decide) (fun cc153 => ?_) (fun cc153 => ?_)
                      · have hw := hw.2 cc153
                        refine lv_iload_n hx hb dMo_step_233 rfl (lv_at hl 6 rfl) ?_
                        refine lv_bipush (v := 8) hx hb dMo_step_234 (by decide) ?_
                        refine lv_icmp_ne (tgt := 251) hx hb dMo_step_236 (by decide) (fun cc154 => ?_) (fun cc154 => ?_)
                        · have hw := hw.2 cc154
                          refine lv_iload_n hx hb dMo_step_251 rfl (lv_at hl 6 rfl) ?_
                          refine lv_bipush (v := 9) hx hb dMo_step_252 (by decide) ?_
                          refine lv_icmp_ne (tgt := 286) hx hb dMo_step_254 (by decide) (fun cc155 => ?_) (fun cc155 => ?_)
                          · have hw := hw.2 cc155
                            refine lv_iload_n hx hb dMo_step_286 rfl (lv_at hl 6 rfl) ?_
                            refine lv_bipush (v := 13) hx hb dMo_step_287 (by decide) ?_
                            refine lv_icmp_ne (tgt := 327) hx hb dMo_step_289 (by decide) (fun cc156 => ?_) (fun cc156 => ?_)
                            · have hw := hw.2 cc156
                              refine lv_iload_n hx hb dMo_step_327 rfl (lv_at hl 6 rfl) ?_
                              refine lv_bipush (v := 10) hx hb dMo_step_328 (by decide) ?_
                              refine lv_icmp_eq (tgt := 355) hx hb dMo_step_330 (by decide) (fun cc157 => ?_) (fun cc157 => ?_)
                              · have hw := hw.1 cc157
                                refine lv_iload hx hb dMo_step_355 (lv_at hl 5 rfl) ?_
                                refine lv_bipush (v := 15) hx hb dMo_step_357 (by decide) ?_
                                refine lv_iand hx hb dMo_step_359 ?_
                                refine lv_topi (fun y158 ey158 => ?_)
                                have hw := hw y158 ey158
                                refine lv_istore (lv' := [(5, .int y158), (9, .int 0), (8, .int y9), (7, .int y8), (6, .int y7), (4, .int y5), (3, .int y3), (2, .int y1), (0, .ref h0), (1, .int k1)]) hx hb dMo_step_360 hl (by decide) rfl (fun ls hl => ?_)
                                refine lv_aload_n hx hb dMo_step_362 rfl (lv_at hl 8 rfl) ?_
                                refine va_get (D := (dC, dI)) (ci := 8) (v := .ref h0_hand) (C := "StepCourtModel") (T := TMo) (N := 35) hx hb hq inMo hown hK hP 0 rfl rfl 11 (by decide) (hq _ wt_745) (fun _ h9 => h9) rfl dMo_step_363 ?_
                                refine lv_iconst (v := 0) hx hb dMo_step_366 (by decide) ?_
                                refine lv_iload hx hb dMo_step_367 (lv_at hl 1 rfl) ?_
                                refine lv_if_eq (tgt := 376) hx hb dMo_step_369 (by decide) (fun cc159 => ?_) (fun cc159 => ?_)
                                · have hw := hw
                                  refine lv_iload hx hb dMo_step_376 (lv_at hl 0 rfl) ?_
                                  refine va_iast hx hb hK hP hD hS 4 3 rfl rfl (show ¬ ((0 : Int32) < 0 ∨ 13 ≤ (0 : Int32).toNatClampNeg) by decide) dMo_step_378 (fun H locs hP hD hS => ?_)
                                  have hP : va_P (dC, dI) vwCl [(h0, ce_Mo h0_op h0_argument h0_balance h0_inbox h0_real h0_hand h0_payee h0_paid h0_drawn h0_challenger h0_low h0_high h0_agreed h0_disputed h0_posted h0_middle h0_deadline h0_running h0_node h0_side u.1), (h0_op, .inl (c0_op, 16, .inl u.2.1)), (h0_argument, .inl (c0_argument, 16, .inl u.2.2.1)), (h0_inbox, .inl (c0_inbox, 60, .inl u.2.2.2.1)), (h0_hand, .inl (c0_hand, 13, .inl (upd u.2.2.2.2 0 y158)))] H := hP
                                  have hD : va_D A [(h0, ce_Mo h0_op h0_argument h0_balance h0_inbox h0_real h0_hand h0_payee h0_paid h0_drawn h0_challenger h0_low h0_high h0_agreed h0_disputed h0_posted h0_middle h0_deadline h0_running h0_node h0_side u.1), (h0_op, .inl (c0_op, 16, .inl u.2.1)), (h0_argument, .inl (c0_argument, 16, .inl u.2.2.1)), (h0_inbox, .inl (c0_inbox, 60, .inl u.2.2.2.1)), (h0_hand, .inl (c0_hand, 13, .inl (upd u.2.2.2.2 0 y158)))] := hD
                                  have hP9 := hP.sub (ws' := [(h0, ce_Mo h0_op h0_argument h0_balance h0_inbox h0_real h0_hand h0_payee h0_paid h0_drawn h0_challenger h0_low h0_high h0_agreed h0_disputed h0_posted h0_middle h0_deadline h0_running h0_node h0_side u.1), (h0_op, .inl (c0_op, 16, .inl u.2.1)), (h0_argument, .inl (c0_argument, 16, .inl u.2.2.1)), (h0_inbox, .inl (c0_inbox, 60, .inl u.2.2.2.1)), (h0_hand, .inl (c0_hand, 13, .inl (upd u.2.2.2.2 0 y158)))]) [0, 1, 2, 3, 4] rfl
                                  have hD9 := hD.sub (ws' := [(h0, ce_Mo h0_op h0_argument h0_balance h0_inbox h0_real h0_hand h0_payee h0_paid h0_drawn h0_challenger h0_low h0_high h0_agreed h0_disputed h0_posted h0_middle h0_deadline h0_running h0_node h0_side u.1), (h0_op, .inl (c0_op, 16, .inl u.2.1)), (h0_argument, .inl (c0_argument, 16, .inl u.2.2.1)), (h0_inbox, .inl (c0_inbox, 60, .inl u.2.2.2.1)), (h0_hand, .inl (c0_hand, 13, .inl (upd u.2.2.2.2 0 y158)))]) [0, 1, 2, 3, 4] (by decide) rfl
                                  have hK9 := hK.sub (tys' := [(c0_op, .int), (c0_argument, .int), (c0_inbox, .int), (c0_hand, .int)]) [0, 1, 2, 3] rfl
                                  exact W.vret hx hb hr (fun t ht hW => ⟨⟨(u.1, u.2.1, u.2.2.1, u.2.2.2.1, (upd u.2.2.2.2 0 y158)), rfl, hw, by rw [ht]; exact hP9, va_K.moved hW.alike hK9, hD9⟩, hS.F ht⟩) hS.2.2 dMo_step_379
                                · first | exact absurd cc159 (by decide) | exact (cc159 (by decide)).elim
                              · have hw := hw.2 cc157
                                refine lv_iload_n hx hb dMo_step_333 rfl (lv_at hl 6 rfl) ?_
                                refine lv_bipush (v := 11) hx hb dMo_step_334 (by decide) ?_
                                refine lv_icmp_ne (tgt := 344) hx hb dMo_step_336 (by decide) (fun cc160 => ?_) (fun cc160 => ?_)
                                · have hw := hw.2 cc160
                                  refine lv_iload_n hx hb dMo_step_344 rfl (lv_at hl 6 rfl) ?_
                                  refine lv_bipush (v := 12) hx hb dMo_step_345 (by decide) ?_
                                  refine lv_icmp_ne (tgt := 362) hx hb dMo_step_347 (by decide) (fun cc161 => ?_) (fun cc161 => ?_)
                                  · have hw := hw.2 cc161
                                    refine lv_aload_n hx hb dMo_step_362 rfl (lv_at hl 8 rfl) ?_
                                    refine va_get (D := (dC, dI)) (ci := 8) (v := .ref h0_hand) (C := "StepCourtModel") (T := TMo) (N := 35) hx hb hq inMo hown hK hP 0 rfl rfl 11 (by decide) (hq _ wt_745) (fun _ h9 => h9) rfl dMo_step_363 ?_
                                    refine lv_iconst (v := 0) hx hb dMo_step_366 (by decide) ?_
                                    refine lv_iload hx hb dMo_step_367 (lv_at hl 0 rfl) ?_
                                    refine lv_if_eq (tgt := 376) hx hb dMo_step_369 (by decide) (fun cc162 => ?_) (fun cc162 => ?_)
                                    · have hw := hw
                                      refine lv_iload hx hb dMo_step_376 (lv_at hl 4 rfl) ?_
                                      refine va_iast hx hb hK hP hD hS 4 3 rfl rfl (show ¬ ((0 : Int32) < 0 ∨ 13 ≤ (0 : Int32).toNatClampNeg) by decide) dMo_step_378 (fun H locs hP hD hS => ?_)
                                      have hP : va_P (dC, dI) vwCl [(h0, ce_Mo h0_op h0_argument h0_balance h0_inbox h0_real h0_hand h0_payee h0_paid h0_drawn h0_challenger h0_low h0_high h0_agreed h0_disputed h0_posted h0_middle h0_deadline h0_running h0_node h0_side u.1), (h0_op, .inl (c0_op, 16, .inl u.2.1)), (h0_argument, .inl (c0_argument, 16, .inl u.2.2.1)), (h0_inbox, .inl (c0_inbox, 60, .inl u.2.2.2.1)), (h0_hand, .inl (c0_hand, 13, .inl (upd u.2.2.2.2 0 y6)))] H := hP
                                      have hD : va_D A [(h0, ce_Mo h0_op h0_argument h0_balance h0_inbox h0_real h0_hand h0_payee h0_paid h0_drawn h0_challenger h0_low h0_high h0_agreed h0_disputed h0_posted h0_middle h0_deadline h0_running h0_node h0_side u.1), (h0_op, .inl (c0_op, 16, .inl u.2.1)), (h0_argument, .inl (c0_argument, 16, .inl u.2.2.1)), (h0_inbox, .inl (c0_inbox, 60, .inl u.2.2.2.1)), (h0_hand, .inl (c0_hand, 13, .inl (upd u.2.2.2.2 0 y6)))] := hD
                                      have hP9 := hP.sub (ws' := [(h0, ce_Mo h0_op h0_argument h0_balance h0_inbox h0_real h0_hand h0_payee h0_paid h0_drawn h0_challenger h0_low h0_high h0_agreed h0_disputed h0_posted h0_middle h0_deadline h0_running h0_node h0_side u.1), (h0_op, .inl (c0_op, 16, .inl u.2.1)), (h0_argument, .inl (c0_argument, 16, .inl u.2.2.1)), (h0_inbox, .inl (c0_inbox, 60, .inl u.2.2.2.1)), (h0_hand, .inl (c0_hand, 13, .inl (upd u.2.2.2.2 0 y6)))]) [0, 1, 2, 3, 4] rfl
                                      have hD9 := hD.sub (ws' := [(h0, ce_Mo h0_op h0_argument h0_balance h0_inbox h0_real h0_hand h0_payee h0_paid h0_drawn h0_challenger h0_low h0_high h0_agreed h0_disputed h0_posted h0_middle h0_deadline h0_running h0_node h0_side u.1), (h0_op, .inl (c0_op, 16, .inl u.2.1)), (h0_argument, .inl (c0_argument, 16, .inl u.2.2.1)), (h0_inbox, .inl (c0_inbox, 60, .inl u.2.2.2.1)), (h0_hand, .inl (c0_hand, 13, .inl (upd u.2.2.2.2 0 y6)))]) [0, 1, 2, 3, 4] (by decide) rfl
                                      have hK9 := hK.sub (tys' := [(c0_op, .int), (c0_argument, .int), (c0_inbox, .int), (c0_hand, .int)]) [0, 1, 2, 3] rfl
                                      exact W.vret hx hb hr (fun t ht hW => ⟨⟨(u.1, u.2.1, u.2.2.1, u.2.2.2.1, (upd u.2.2.2.2 0 y6)), rfl, hw, by rw [ht]; exact hP9, va_K.moved hW.alike hK9, hD9⟩, hS.F ht⟩) hS.2.2 dMo_step_379
                                    · first | exact absurd cc162 (by decide) | exact (cc162 (by decide)).elim
                                  · have hw := hw.1 cc161
                                    refine lv_iload hx hb dMo_step_350 (lv_at hl 3 rfl) ?_
                                    refine lv_if_ge (tgt := 362) hx hb dMo_step_352 (by decide) (fun cc163 => ?_) (fun cc163 => ?_)
                                    · have hw := hw.1 cc163
                                      refine lv_aload_n hx hb dMo_step_362 rfl (lv_at hl 8 rfl) ?_
                                      refine va_get (D := (dC, dI)) (ci := 8) (v := .ref h0_hand) (C := "StepCourtModel") (T := TMo) (N := 35) hx hb hq inMo hown hK hP 0 rfl rfl 11 (by decide) (hq _ wt_745) (fun _ h9 => h9) rfl dMo_step_363 ?_
                                      refine lv_iconst (v := 0) hx hb dMo_step_366 (by decide) ?_
                                      refine lv_iload hx hb dMo_step_367 (lv_at hl 0 rfl) ?_
                                      refine lv_if_eq (tgt := 376) hx hb dMo_step_369 (by decide) (fun cc164 => ?_) (fun cc164 => ?_)
                                      · have hw := hw
                                        refine lv_iload hx hb dMo_step_376 (lv_at hl 4 rfl) ?_
                                        refine va_iast hx hb hK hP hD hS 4 3 rfl rfl (show ¬ ((0 : Int32) < 0 ∨ 13 ≤ (0 : Int32).toNatClampNeg) by decide) dMo_step_378 (fun H locs hP hD hS => ?_)
                                        have hP : va_P (dC, dI) vwCl [(h0, ce_Mo h0_op h0_argument h0_balance h0_inbox h0_real h0_hand h0_payee h0_paid h0_drawn h0_challenger h0_low h0_high h0_agreed h0_disputed h0_posted h0_middle h0_deadline h0_running h0_node h0_side u.1), (h0_op, .inl (c0_op, 16, .inl u.2.1)), (h0_argument, .inl (c0_argument, 16, .inl u.2.2.1)), (h0_inbox, .inl (c0_inbox, 60, .inl u.2.2.2.1)), (h0_hand, .inl (c0_hand, 13, .inl (upd u.2.2.2.2 0 y6)))] H := hP
                                        have hD : va_D A [(h0, ce_Mo h0_op h0_argument h0_balance h0_inbox h0_real h0_hand h0_payee h0_paid h0_drawn h0_challenger h0_low h0_high h0_agreed h0_disputed h0_posted h0_middle h0_deadline h0_running h0_node h0_side u.1), (h0_op, .inl (c0_op, 16, .inl u.2.1)), (h0_argument, .inl (c0_argument, 16, .inl u.2.2.1)), (h0_inbox, .inl (c0_inbox, 60, .inl u.2.2.2.1)), (h0_hand, .inl (c0_hand, 13, .inl (upd u.2.2.2.2 0 y6)))] := hD
                                        have hP9 := hP.sub (ws' := [(h0, ce_Mo h0_op h0_argument h0_balance h0_inbox h0_real h0_hand h0_payee h0_paid h0_drawn h0_challenger h0_low h0_high h0_agreed h0_disputed h0_posted h0_middle h0_deadline h0_running h0_node h0_side u.1), (h0_op, .inl (c0_op, 16, .inl u.2.1)), (h0_argument, .inl (c0_argument, 16, .inl u.2.2.1)), (h0_inbox, .inl (c0_inbox, 60, .inl u.2.2.2.1)), (h0_hand, .inl (c0_hand, 13, .inl (upd u.2.2.2.2 0 y6)))]) [0, 1, 2, 3, 4] rfl
                                        have hD9 := hD.sub (ws' := [(h0, ce_Mo h0_op h0_argument h0_balance h0_inbox h0_real h0_hand h0_payee h0_paid h0_drawn h0_challenger h0_low h0_high h0_agreed h0_disputed h0_posted h0_middle h0_deadline h0_running h0_node h0_side u.1), (h0_op, .inl (c0_op, 16, .inl u.2.1)), (h0_argument, .inl (c0_argument, 16, .inl u.2.2.1)), (h0_inbox, .inl (c0_inbox, 60, .inl u.2.2.2.1)), (h0_hand, .inl (c0_hand, 13, .inl (upd u.2.2.2.2 0 y6)))]) [0, 1, 2, 3, 4] (by decide) rfl
                                        have hK9 := hK.sub (tys' := [(c0_op, .int), (c0_argument, .int), (c0_inbox, .int), (c0_hand, .int)]) [0, 1, 2, 3] rfl
                                        exact W.vret hx hb hr (fun t ht hW => ⟨⟨(u.1, u.2.1, u.2.2.1, u.2.2.2.1, (upd u.2.2.2.2 0 y6)), rfl, hw, by rw [ht]; exact hP9, va_K.moved hW.alike hK9, hD9⟩, hS.F ht⟩) hS.2.2 dMo_step_379
                                      · first | exact absurd cc164 (by decide) | exact (cc164 (by decide)).elim
                                    · have hw := hw.2 cc163
                                      refine lv_iload hx hb dMo_step_355 (lv_at hl 5 rfl) ?_
                                      refine lv_bipush (v := 15) hx hb dMo_step_357 (by decide) ?_
                                      refine lv_iand hx hb dMo_step_359 ?_
                                      refine lv_topi (fun y165 ey165 => ?_)
                                      have hw := hw y165 ey165
                                      refine lv_istore (lv' := [(5, .int y165), (9, .int 0), (8, .int y9), (7, .int y8), (6, .int y7), (4, .int y5), (3, .int y3), (2, .int y1), (0, .ref h0), (1, .int k1)]) hx hb dMo_step_360 hl (by decide) rfl (fun ls hl => ?_)
                                      refine lv_aload_n hx hb dMo_step_362 rfl (lv_at hl 8 rfl) ?_
                                      refine va_get (D := (dC, dI)) (ci := 8) (v := .ref h0_hand) (C := "StepCourtModel") (T := TMo) (N := 35) hx hb hq inMo hown hK hP 0 rfl rfl 11 (by decide) (hq _ wt_745) (fun _ h9 => h9) rfl dMo_step_363 ?_
                                      refine lv_iconst (v := 0) hx hb dMo_step_366 (by decide) ?_
                                      refine lv_iload hx hb dMo_step_367 (lv_at hl 1 rfl) ?_
                                      refine lv_if_eq (tgt := 376) hx hb dMo_step_369 (by decide) (fun cc166 => ?_) (fun cc166 => ?_)
                                      · have hw := hw
                                        refine lv_iload hx hb dMo_step_376 (lv_at hl 0 rfl) ?_
                                        refine va_iast hx hb hK hP hD hS 4 3 rfl rfl (show ¬ ((0 : Int32) < 0 ∨ 13 ≤ (0 : Int32).toNatClampNeg) by decide) dMo_step_378 (fun H locs hP hD hS => ?_)
                                        have hP : va_P (dC, dI) vwCl [(h0, ce_Mo h0_op h0_argument h0_balance h0_inbox h0_real h0_hand h0_payee h0_paid h0_drawn h0_challenger h0_low h0_high h0_agreed h0_disputed h0_posted h0_middle h0_deadline h0_running h0_node h0_side u.1), (h0_op, .inl (c0_op, 16, .inl u.2.1)), (h0_argument, .inl (c0_argument, 16, .inl u.2.2.1)), (h0_inbox, .inl (c0_inbox, 60, .inl u.2.2.2.1)), (h0_hand, .inl (c0_hand, 13, .inl (upd u.2.2.2.2 0 y165)))] H := hP
                                        have hD : va_D A [(h0, ce_Mo h0_op h0_argument h0_balance h0_inbox h0_real h0_hand h0_payee h0_paid h0_drawn h0_challenger h0_low h0_high h0_agreed h0_disputed h0_posted h0_middle h0_deadline h0_running h0_node h0_side u.1), (h0_op, .inl (c0_op, 16, .inl u.2.1)), (h0_argument, .inl (c0_argument, 16, .inl u.2.2.1)), (h0_inbox, .inl (c0_inbox, 60, .inl u.2.2.2.1)), (h0_hand, .inl (c0_hand, 13, .inl (upd u.2.2.2.2 0 y165)))] := hD
                                        have hP9 := hP.sub (ws' := [(h0, ce_Mo h0_op h0_argument h0_balance h0_inbox h0_real h0_hand h0_payee h0_paid h0_drawn h0_challenger h0_low h0_high h0_agreed h0_disputed h0_posted h0_middle h0_deadline h0_running h0_node h0_side u.1), (h0_op, .inl (c0_op, 16, .inl u.2.1)), (h0_argument, .inl (c0_argument, 16, .inl u.2.2.1)), (h0_inbox, .inl (c0_inbox, 60, .inl u.2.2.2.1)), (h0_hand, .inl (c0_hand, 13, .inl (upd u.2.2.2.2 0 y165)))]) [0, 1, 2, 3, 4] rfl
                                        have hD9 := hD.sub (ws' := [(h0, ce_Mo h0_op h0_argument h0_balance h0_inbox h0_real h0_hand h0_payee h0_paid h0_drawn h0_challenger h0_low h0_high h0_agreed h0_disputed h0_posted h0_middle h0_deadline h0_running h0_node h0_side u.1), (h0_op, .inl (c0_op, 16, .inl u.2.1)), (h0_argument, .inl (c0_argument, 16, .inl u.2.2.1)), (h0_inbox, .inl (c0_inbox, 60, .inl u.2.2.2.1)), (h0_hand, .inl (c0_hand, 13, .inl (upd u.2.2.2.2 0 y165)))]) [0, 1, 2, 3, 4] (by decide) rfl
                                        have hK9 := hK.sub (tys' := [(c0_op, .int), (c0_argument, .int), (c0_inbox, .int), (c0_hand, .int)]) [0, 1, 2, 3] rfl
                                        exact W.vret hx hb hr (fun t ht hW => ⟨⟨(u.1, u.2.1, u.2.2.1, u.2.2.2.1, (upd u.2.2.2.2 0 y165)), rfl, hw, by rw [ht]; exact hP9, va_K.moved hW.alike hK9, hD9⟩, hS.F ht⟩) hS.2.2 dMo_step_379
                                      · first | exact absurd cc166 (by decide) | exact (cc166 (by decide)).elim
                                · have hw := hw.1 cc160
                                  refine lv_iload hx hb dMo_step_339 (lv_at hl 3 rfl) ?_
                                  refine lv_if_eq (tgt := 355) hx hb dMo_step_341 (by decide) (fun cc167 => ?_) (fun cc167 => ?_)
                                  · have hw := hw.1 cc167
                                    refine lv_iload hx hb dMo_step_355 (lv_at hl 5 rfl) ?_
                                    refine lv_bipush (v := 15) hx hb dMo_step_357 (by decide) ?_
                                    refine lv_iand hx hb dMo_step_359 ?_
                                    refine lv_topi (fun y168 ey168 => ?_)
                                    have hw := hw y168 ey168
                                    refine lv_istore (lv' := [(5, .int y168), (9, .int 0), (8, .int y9), (7, .int y8), (6, .int y7), (4, .int y5), (3, .int y3), (2, .int y1), (0, .ref h0), (1, .int k1)]) hx hb dMo_step_360 hl (by decide) rfl (fun ls hl => ?_)
                                    refine lv_aload_n hx hb dMo_step_362 rfl (lv_at hl 8 rfl) ?_
                                    refine va_get (D := (dC, dI)) (ci := 8) (v := .ref h0_hand) (C := "StepCourtModel") (T := TMo) (N := 35) hx hb hq inMo hown hK hP 0 rfl rfl 11 (by decide) (hq _ wt_745) (fun _ h9 => h9) rfl dMo_step_363 ?_
                                    refine lv_iconst (v := 0) hx hb dMo_step_366 (by decide) ?_
                                    refine lv_iload hx hb dMo_step_367 (lv_at hl 1 rfl) ?_
                                    refine lv_if_eq (tgt := 376) hx hb dMo_step_369 (by decide) (fun cc169 => ?_) (fun cc169 => ?_)
                                    · have hw := hw
                                      refine lv_iload hx hb dMo_step_376 (lv_at hl 0 rfl) ?_
                                      refine va_iast hx hb hK hP hD hS 4 3 rfl rfl (show ¬ ((0 : Int32) < 0 ∨ 13 ≤ (0 : Int32).toNatClampNeg) by decide) dMo_step_378 (fun H locs hP hD hS => ?_)
                                      have hP : va_P (dC, dI) vwCl [(h0, ce_Mo h0_op h0_argument h0_balance h0_inbox h0_real h0_hand h0_payee h0_paid h0_drawn h0_challenger h0_low h0_high h0_agreed h0_disputed h0_posted h0_middle h0_deadline h0_running h0_node h0_side u.1), (h0_op, .inl (c0_op, 16, .inl u.2.1)), (h0_argument, .inl (c0_argument, 16, .inl u.2.2.1)), (h0_inbox, .inl (c0_inbox, 60, .inl u.2.2.2.1)), (h0_hand, .inl (c0_hand, 13, .inl (upd u.2.2.2.2 0 y168)))] H := hP
                                      have hD : va_D A [(h0, ce_Mo h0_op h0_argument h0_balance h0_inbox h0_real h0_hand h0_payee h0_paid h0_drawn h0_challenger h0_low h0_high h0_agreed h0_disputed h0_posted h0_middle h0_deadline h0_running h0_node h0_side u.1), (h0_op, .inl (c0_op, 16, .inl u.2.1)), (h0_argument, .inl (c0_argument, 16, .inl u.2.2.1)), (h0_inbox, .inl (c0_inbox, 60, .inl u.2.2.2.1)), (h0_hand, .inl (c0_hand, 13, .inl (upd u.2.2.2.2 0 y168)))] := hD
                                      have hP9 := hP.sub (ws' := [(h0, ce_Mo h0_op h0_argument h0_balance h0_inbox h0_real h0_hand h0_payee h0_paid h0_drawn h0_challenger h0_low h0_high h0_agreed h0_disputed h0_posted h0_middle h0_deadline h0_running h0_node h0_side u.1), (h0_op, .inl (c0_op, 16, .inl u.2.1)), (h0_argument, .inl (c0_argument, 16, .inl u.2.2.1)), (h0_inbox, .inl (c0_inbox, 60, .inl u.2.2.2.1)), (h0_hand, .inl (c0_hand, 13, .inl (upd u.2.2.2.2 0 y168)))]) [0, 1, 2, 3, 4] rfl
                                      have hD9 := hD.sub (ws' := [(h0, ce_Mo h0_op h0_argument h0_balance h0_inbox h0_real h0_hand h0_payee h0_paid h0_drawn h0_challenger h0_low h0_high h0_agreed h0_disputed h0_posted h0_middle h0_deadline h0_running h0_node h0_side u.1), (h0_op, .inl (c0_op, 16, .inl u.2.1)), (h0_argument, .inl (c0_argument, 16, .inl u.2.2.1)), (h0_inbox, .inl (c0_inbox, 60, .inl u.2.2.2.1)), (h0_hand, .inl (c0_hand, 13, .inl (upd u.2.2.2.2 0 y168)))]) [0, 1, 2, 3, 4] (by decide) rfl
                                      have hK9 := hK.sub (tys' := [(c0_op, .int), (c0_argument, .int), (c0_inbox, .int), (c0_hand, .int)]) [0, 1, 2, 3] rfl
                                      exact W.vret hx hb hr (fun t ht hW => ⟨⟨(u.1, u.2.1, u.2.2.1, u.2.2.2.1, (upd u.2.2.2.2 0 y168)), rfl, hw, by rw [ht]; exact hP9, va_K.moved hW.alike hK9, hD9⟩, hS.F ht⟩) hS.2.2 dMo_step_379
                                    · first | exact absurd cc169 (by decide) | exact (cc169 (by decide)).elim
                                  · have hw := hw.2 cc167
                                    refine lv_iload_n hx hb dMo_step_344 rfl (lv_at hl 6 rfl) ?_
                                    refine lv_bipush (v := 12) hx hb dMo_step_345 (by decide) ?_
                                    refine lv_icmp_ne (tgt := 362) hx hb dMo_step_347 (by decide) (fun cc170 => ?_) (fun cc170 => ?_)
                                    · have hw := hw.2 cc170
                                      refine lv_aload_n hx hb dMo_step_362 rfl (lv_at hl 8 rfl) ?_
                                      refine va_get (D := (dC, dI)) (ci := 8) (v := .ref h0_hand) (C := "StepCourtModel") (T := TMo) (N := 35) hx hb hq inMo hown hK hP 0 rfl rfl 11 (by decide) (hq _ wt_745) (fun _ h9 => h9) rfl dMo_step_363 ?_
                                      refine lv_iconst (v := 0) hx hb dMo_step_366 (by decide) ?_
                                      refine lv_iload hx hb dMo_step_367 (lv_at hl 0 rfl) ?_
                                      refine lv_if_eq (tgt := 376) hx hb dMo_step_369 (by decide) (fun cc171 => ?_) (fun cc171 => ?_)
                                      · have hw := hw
                                        refine lv_iload hx hb dMo_step_376 (lv_at hl 4 rfl) ?_
                                        refine va_iast hx hb hK hP hD hS 4 3 rfl rfl (show ¬ ((0 : Int32) < 0 ∨ 13 ≤ (0 : Int32).toNatClampNeg) by decide) dMo_step_378 (fun H locs hP hD hS => ?_)
                                        have hP : va_P (dC, dI) vwCl [(h0, ce_Mo h0_op h0_argument h0_balance h0_inbox h0_real h0_hand h0_payee h0_paid h0_drawn h0_challenger h0_low h0_high h0_agreed h0_disputed h0_posted h0_middle h0_deadline h0_running h0_node h0_side u.1), (h0_op, .inl (c0_op, 16, .inl u.2.1)), (h0_argument, .inl (c0_argument, 16, .inl u.2.2.1)), (h0_inbox, .inl (c0_inbox, 60, .inl u.2.2.2.1)), (h0_hand, .inl (c0_hand, 13, .inl (upd u.2.2.2.2 0 y6)))] H := hP
                                        have hD : va_D A [(h0, ce_Mo h0_op h0_argument h0_balance h0_inbox h0_real h0_hand h0_payee h0_paid h0_drawn h0_challenger h0_low h0_high h0_agreed h0_disputed h0_posted h0_middle h0_deadline h0_running h0_node h0_side u.1), (h0_op, .inl (c0_op, 16, .inl u.2.1)), (h0_argument, .inl (c0_argument, 16, .inl u.2.2.1)), (h0_inbox, .inl (c0_inbox, 60, .inl u.2.2.2.1)), (h0_hand, .inl (c0_hand, 13, .inl (upd u.2.2.2.2 0 y6)))] := hD
                                        have hP9 := hP.sub (ws' := [(h0, ce_Mo h0_op h0_argument h0_balance h0_inbox h0_real h0_hand h0_payee h0_paid h0_drawn h0_challenger h0_low h0_high h0_agreed h0_disputed h0_posted h0_middle h0_deadline h0_running h0_node h0_side u.1), (h0_op, .inl (c0_op, 16, .inl u.2.1)), (h0_argument, .inl (c0_argument, 16, .inl u.2.2.1)), (h0_inbox, .inl (c0_inbox, 60, .inl u.2.2.2.1)), (h0_hand, .inl (c0_hand, 13, .inl (upd u.2.2.2.2 0 y6)))]) [0, 1, 2, 3, 4] rfl
                                        have hD9 := hD.sub (ws' := [(h0, ce_Mo h0_op h0_argument h0_balance h0_inbox h0_real h0_hand h0_payee h0_paid h0_drawn h0_challenger h0_low h0_high h0_agreed h0_disputed h0_posted h0_middle h0_deadline h0_running h0_node h0_side u.1), (h0_op, .inl (c0_op, 16, .inl u.2.1)), (h0_argument, .inl (c0_argument, 16, .inl u.2.2.1)), (h0_inbox, .inl (c0_inbox, 60, .inl u.2.2.2.1)), (h0_hand, .inl (c0_hand, 13, .inl (upd u.2.2.2.2 0 y6)))]) [0, 1, 2, 3, 4] (by decide) rfl
                                        have hK9 := hK.sub (tys' := [(c0_op, .int), (c0_argument, .int), (c0_inbox, .int), (c0_hand, .int)]) [0, 1, 2, 3] rfl
                                        exact W.vret hx hb hr (fun t ht hW => ⟨⟨(u.1, u.2.1, u.2.2.1, u.2.2.2.1, (upd u.2.2.2.2 0 y6)), rfl, hw, by rw [ht]; exact hP9, va_K.moved hW.alike hK9, hD9⟩, hS.F ht⟩) hS.2.2 dMo_step_379
                                      · first | exact absurd cc171 (by decide) | exact (cc171 (by decide)).elim
                                    · have hw := hw.1 cc170
                                      refine lv_iload hx hb dMo_step_350 (lv_at hl 3 rfl) ?_
                                      refine lv_if_ge (tgt := 362) hx hb dMo_step_352 (by decide) (fun cc172 => ?_) (fun cc172 => ?_)
                                      · have hw := hw.1 cc172
                                        refine lv_aload_n hx hb dMo_step_362 rfl (lv_at hl 8 rfl) ?_
                                        refine va_get (D := (dC, dI)) (ci := 8) (v := .ref h0_hand) (C := "StepCourtModel") (T := TMo) (N := 35) hx hb hq inMo hown hK hP 0 rfl rfl 11 (by decide) (hq _ wt_745) (fun _ h9 => h9) rfl dMo_step_363 ?_
                                        refine lv_iconst (v := 0) hx hb dMo_step_366 (by decide) ?_
                                        refine lv_iload hx hb dMo_step_367 (lv_at hl 0 rfl) ?_
                                        refine lv_if_eq (tgt := 376) hx hb dMo_step_369 (by decide) (fun cc173 => ?_) (fun cc173 => ?_)
                                        · have hw := hw
                                          refine lv_iload hx hb dMo_step_376 (lv_at hl 4 rfl) ?_
                                          refine va_iast hx hb hK hP hD hS 4 3 rfl rfl (show ¬ ((0 : Int32) < 0 ∨ 13 ≤ (0 : Int32).toNatClampNeg) by decide) dMo_step_378 (fun H locs hP hD hS => ?_)
                                          have hP : va_P (dC, dI) vwCl [(h0, ce_Mo h0_op h0_argument h0_balance h0_inbox h0_real h0_hand h0_payee h0_paid h0_drawn h0_challenger h0_low h0_high h0_agreed h0_disputed h0_posted h0_middle h0_deadline h0_running h0_node h0_side u.1), (h0_op, .inl (c0_op, 16, .inl u.2.1)), (h0_argument, .inl (c0_argument, 16, .inl u.2.2.1)), (h0_inbox, .inl (c0_inbox, 60, .inl u.2.2.2.1)), (h0_hand, .inl (c0_hand, 13, .inl (upd u.2.2.2.2 0 y6)))] H := hP
                                          have hD : va_D A [(h0, ce_Mo h0_op h0_argument h0_balance h0_inbox h0_real h0_hand h0_payee h0_paid h0_drawn h0_challenger h0_low h0_high h0_agreed h0_disputed h0_posted h0_middle h0_deadline h0_running h0_node h0_side u.1), (h0_op, .inl (c0_op, 16, .inl u.2.1)), (h0_argument, .inl (c0_argument, 16, .inl u.2.2.1)), (h0_inbox, .inl (c0_inbox, 60, .inl u.2.2.2.1)), (h0_hand, .inl (c0_hand, 13, .inl (upd u.2.2.2.2 0 y6)))] := hD
                                          have hP9 := hP.sub (ws' := [(h0, ce_Mo h0_op h0_argument h0_balance h0_inbox h0_real h0_hand h0_payee h0_paid h0_drawn h0_challenger h0_low h0_high h0_agreed h0_disputed h0_posted h0_middle h0_deadline h0_running h0_node h0_side u.1), (h0_op, .inl (c0_op, 16, .inl u.2.1)), (h0_argument, .inl (c0_argument, 16, .inl u.2.2.1)), (h0_inbox, .inl (c0_inbox, 60, .inl u.2.2.2.1)), (h0_hand, .inl (c0_hand, 13, .inl (upd u.2.2.2.2 0 y6)))]) [0, 1, 2, 3, 4] rfl
                                          have hD9 := hD.sub (ws' := [(h0, ce_Mo h0_op h0_argument h0_balance h0_inbox h0_real h0_hand h0_payee h0_paid h0_drawn h0_challenger h0_low h0_high h0_agreed h0_disputed h0_posted h0_middle h0_deadline h0_running h0_node h0_side u.1), (h0_op, .inl (c0_op, 16, .inl u.2.1)), (h0_argument, .inl (c0_argument, 16, .inl u.2.2.1)), (h0_inbox, .inl (c0_inbox, 60, .inl u.2.2.2.1)), (h0_hand, .inl (c0_hand, 13, .inl (upd u.2.2.2.2 0 y6)))]) [0, 1, 2, 3, 4] (by decide) rfl
                                          have hK9 := hK.sub (tys' := [(c0_op, .int), (c0_argument, .int), (c0_inbox, .int), (c0_hand, .int)]) [0, 1, 2, 3] rfl
                                          exact W.vret hx hb hr (fun t ht hW => ⟨⟨(u.1, u.2.1, u.2.2.1, u.2.2.2.1, (upd u.2.2.2.2 0 y6)), rfl, hw, by rw [ht]; exact hP9, va_K.moved hW.alike hK9, hD9⟩, hS.F ht⟩) hS.2.2 dMo_step_379
                                        · first | exact absurd cc173 (by decide) | exact (cc173 (by decide)).elim
                                      · have hw := hw.2 cc172
                                        refine lv_iload hx hb dMo_step_355 (lv_at hl 5 rfl) ?_
                                        refine lv_bipush (v := 15) hx hb dMo_step_357 (by decide) ?_
                                        refine lv_iand hx hb dMo_step_359 ?_
                                        refine lv_topi (fun y174 ey174 => ?_)
                                        have hw := hw y174 ey174
                                        refine lv_istore (lv' := [(5, .int y174), (9, .int 0), (8, .int y9), (7, .int y8), (6, .int y7), (4, .int y5), (3, .int y3), (2, .int y1), (0, .ref h0), (1, .int k1)]) hx hb dMo_step_360 hl (by decide) rfl (fun ls hl => ?_)
                                        refine lv_aload_n hx hb dMo_step_362 rfl (lv_at hl 8 rfl) ?_
                                        refine va_get (D := (dC, dI)) (ci := 8) (v := .ref h0_hand) (C := "StepCourtModel") (T := TMo) (N := 35) hx hb hq inMo hown hK hP 0 rfl rfl 11 (by decide) (hq _ wt_745) (fun _ h9 => h9) rfl dMo_step_363 ?_
                                        refine lv_iconst (v := 0) hx hb dMo_step_366 (by decide) ?_
                                        refine lv_iload hx hb dMo_step_367 (lv_at hl 1 rfl) ?_
                                        refine lv_if_eq (tgt := 376) hx hb dMo_step_369 (by decide) (fun cc175 => ?_) (fun cc175 => ?_)
                                        · have hw := hw
                                          refine lv_iload hx hb dMo_step_376 (lv_at hl 0 rfl) ?_
                                          refine va_iast hx hb hK hP hD hS 4 3 rfl rfl (show ¬ ((0 : Int32) < 0 ∨ 13 ≤ (0 : Int32).toNatClampNeg) by decide) dMo_step_378 (fun H locs hP hD hS => ?_)
                                          have hP : va_P (dC, dI) vwCl [(h0, ce_Mo h0_op h0_argument h0_balance h0_inbox h0_real h0_hand h0_payee h0_paid h0_drawn h0_challenger h0_low h0_high h0_agreed h0_disputed h0_posted h0_middle h0_deadline h0_running h0_node h0_side u.1), (h0_op, .inl (c0_op, 16, .inl u.2.1)), (h0_argument, .inl (c0_argument, 16, .inl u.2.2.1)), (h0_inbox, .inl (c0_inbox, 60, .inl u.2.2.2.1)), (h0_hand, .inl (c0_hand, 13, .inl (upd u.2.2.2.2 0 y174)))] H := hP
                                          have hD : va_D A [(h0, ce_Mo h0_op h0_argument h0_balance h0_inbox h0_real h0_hand h0_payee h0_paid h0_drawn h0_challenger h0_low h0_high h0_agreed h0_disputed h0_posted h0_middle h0_deadline h0_running h0_node h0_side u.1), (h0_op, .inl (c0_op, 16, .inl u.2.1)), (h0_argument, .inl (c0_argument, 16, .inl u.2.2.1)), (h0_inbox, .inl (c0_inbox, 60, .inl u.2.2.2.1)), (h0_hand, .inl (c0_hand, 13, .inl (upd u.2.2.2.2 0 y174)))] := hD
                                          have hP9 := hP.sub (ws' := [(h0, ce_Mo h0_op h0_argument h0_balance h0_inbox h0_real h0_hand h0_payee h0_paid h0_drawn h0_challenger h0_low h0_high h0_agreed h0_disputed h0_posted h0_middle h0_deadline h0_running h0_node h0_side u.1), (h0_op, .inl (c0_op, 16, .inl u.2.1)), (h0_argument, .inl (c0_argument, 16, .inl u.2.2.1)), (h0_inbox, .inl (c0_inbox, 60, .inl u.2.2.2.1)), (h0_hand, .inl (c0_hand, 13, .inl (upd u.2.2.2.2 0 y174)))]) [0, 1, 2, 3, 4] rfl
                                          have hD9 := hD.sub (ws' := [(h0, ce_Mo h0_op h0_argument h0_balance h0_inbox h0_real h0_hand h0_payee h0_paid h0_drawn h0_challenger h0_low h0_high h0_agreed h0_disputed h0_posted h0_middle h0_deadline h0_running h0_node h0_side u.1), (h0_op, .inl (c0_op, 16, .inl u.2.1)), (h0_argument, .inl (c0_argument, 16, .inl u.2.2.1)), (h0_inbox, .inl (c0_inbox, 60, .inl u.2.2.2.1)), (h0_hand, .inl (c0_hand, 13, .inl (upd u.2.2.2.2 0 y174)))]) [0, 1, 2, 3, 4] (by decide) rfl
                                          have hK9 := hK.sub (tys' := [(c0_op, .int), (c0_argument, .int), (c0_inbox, .int), (c0_hand, .int)]) [0, 1, 2, 3] rfl
                                          exact W.vret hx hb hr (fun t ht hW => ⟨⟨(u.1, u.2.1, u.2.2.1, u.2.2.2.1, (upd u.2.2.2.2 0 y174)), rfl, hw, by rw [ht]; exact hP9, va_K.moved hW.alike hK9, hD9⟩, hS.F ht⟩) hS.2.2 dMo_step_379
                                        · first | exact absurd cc175 (by decide) | exact (cc175 (by decide)).elim
                            · have hw := hw.1 cc156
                              refine lv_aload_n hx hb dMo_step_292 rfl (lv_at hl 8 rfl) ?_
                              refine lv_aload_n hx hb dMo_step_293 rfl (lv_at hl 8 rfl) ?_
                              refine va_get (D := (dC, dI)) (ci := 8) (v := .long u.1.2.2.2.2.2.2.1) (C := "StepCourtModel") (T := TMo) (N := 35) hx hb hq inMo hown hK hP 0 rfl rfl 12 (by decide) (hq _ wt_746) (fun _ h9 => h9) rfl dMo_step_294 ?_
                              refine lv_iload hx hb dMo_step_297 (lv_at hl 2 rfl) ?_
                              refine lv_iconst (v := 3) hx hb dMo_step_299 (by decide) ?_
                              refine lv_iand hx hb dMo_step_300 ?_
                              refine lv_i2l (v := (y8 &&& 3).toInt64) hx hb dMo_step_301 rfl ?_
                              have hPc := hP.sub (ws' := []) [] rfl
                              have hDc := hD.sub (ws' := []) [] (by decide) rfl
                              have hKc := hK.sub (tys' := []) [] rfl
                              have hFc := va_free (wc := []) hD hS hA [] rfl
                              refine va_calll (va_runS (As := [.long u.1.2.2.2.2.2.2.1, .long ((y8 &&& 3).toInt64)]) (rest := [.ref h0]) ⟨hx, hb, hml, hown, hq⟩ (mt_Mo_mix l dC dI s.heap.size _ () u.1.2.2.2.2.2.2.1 ((y8 &&& 3).toInt64) hw) ⟨cq_B 2 hq wt_723 wt_721 wt_10 rfl rfl hd_Mo_mix ⟨Nat.le_of_ble_eq_true rfl, Nat.le_of_ble_eq_true rfl⟩, (hq _ wt_722)⟩ ⟨kp_bl, kp_at hPc hKc hDc hZ⟩ rfl rfl hl.1 rfl (lv_room (Nat.le_of_ble_eq_true rfl)) dMo_step_302 ⟨(by decide), (by decide)⟩) hS (fun q _ h => hFc q h) hFc (fun r176 u177 t H1 locs ht hvm hw hB hz1 hk1 hS => ?_)
                              obtain ⟨hP1, hK1, hD1⟩ := hB
                              rw [ht] at hP1
                              have hK1 := va_K.moved hvm.symm hK1
                              obtain ⟨hP, hD⟩ := va_join (wr := [(h0, ce_Mo h0_op h0_argument h0_balance h0_inbox h0_real h0_hand h0_payee h0_paid h0_drawn h0_challenger h0_low h0_high h0_agreed h0_disputed h0_posted h0_middle h0_deadline h0_running h0_node h0_side u.1), (h0_op, .inl (c0_op, 16, .inl u.2.1)), (h0_argument, .inl (c0_argument, 16, .inl u.2.2.1)), (h0_inbox, .inl (c0_inbox, 60, .inl u.2.2.2.1)), (h0_hand, .inl (c0_hand, 13, .inl u.2.2.2.2))]) (w1 := []) hP hD [] [0, 1, 2, 3, 4] rfl rfl (by decide) (by decide) hk1 hFc hP1 hD1
                              have hK := (hK.sub (tys' := [(c0_op, .int), (c0_argument, .int), (c0_inbox, .int), (c0_hand, .int)]) [0, 1, 2, 3] rfl).app hK1
                              generalize H1 = H at hP hS ⊢
                              have hP : va_P (dC, dI) vwCl [(h0, ce_Mo h0_op h0_argument h0_balance h0_inbox h0_real h0_hand h0_payee h0_paid h0_drawn h0_challenger h0_low h0_high h0_agreed h0_disputed h0_posted h0_middle h0_deadline h0_running h0_node h0_side u.1), (h0_op, .inl (c0_op, 16, .inl u.2.1)), (h0_argument, .inl (c0_argument, 16, .inl u.2.2.1)), (h0_inbox, .inl (c0_inbox, 60, .inl u.2.2.2.1)), (h0_hand, .inl (c0_hand, 13, .inl u.2.2.2.2))] H := hP
                              have hD : va_D A [(h0, ce_Mo h0_op h0_argument h0_balance h0_inbox h0_real h0_hand h0_payee h0_paid h0_drawn h0_challenger h0_low h0_high h0_agreed h0_disputed h0_posted h0_middle h0_deadline h0_running h0_node h0_side u.1), (h0_op, .inl (c0_op, 16, .inl u.2.1)), (h0_argument, .inl (c0_argument, 16, .inl u.2.2.1)), (h0_inbox, .inl (c0_inbox, 60, .inl u.2.2.2.1)), (h0_hand, .inl (c0_hand, 13, .inl u.2.2.2.2))] := hD
                              have hK : va_K (dC, dI) vwCl [(c0_op, .int), (c0_argument, .int), (c0_inbox, .int), (c0_hand, .int)] s := hK
                              refine lv_iload hx hb dMo_step_305 (lv_at hl 3 rfl) ?_
                              refine lv_i2l (v := y7.toInt64) hx hb dMo_step_307 rfl ?_
                              have hPc := hP.sub (ws' := []) [] rfl
                              have hDc := hD.sub (ws' := []) [] (by decide) rfl
                              have hKc := hK.sub (tys' := []) [] rfl
                              have hFc := va_free (wc := []) hD hS hA [] rfl
                              refine va_calll (va_runS (As := [.long r176, .long (y7.toInt64)]) (rest := [.ref h0]) ⟨hx, hb, hml, hown, hq⟩ (mt_Mo_mix l dC dI H.size _ () r176 (y7.toInt64) hw) ⟨cq_B 2 hq wt_723 wt_721 wt_10 rfl rfl hd_Mo_mix ⟨Nat.le_of_ble_eq_true rfl, Nat.le_of_ble_eq_true rfl⟩, (hq _ wt_722)⟩ ⟨kp_bl, kp_at hPc hKc hDc hZ⟩ rfl rfl hl.1 rfl (lv_room (Nat.le_of_ble_eq_true rfl)) dMo_step_308 ⟨(by decide), (by decide)⟩) hS (fun q _ h => hFc q h) hFc (fun r178 u179 t H1 locs ht hvm hw hB hz1 hk1 hS => ?_)
                              obtain ⟨hP1, hK1, hD1⟩ := hB
                              rw [ht] at hP1
                              have hK1 := va_K.moved hvm.symm hK1
                              obtain ⟨hP, hD⟩ := va_join (wr := [(h0, ce_Mo h0_op h0_argument h0_balance h0_inbox h0_real h0_hand h0_payee h0_paid h0_drawn h0_challenger h0_low h0_high h0_agreed h0_disputed h0_posted h0_middle h0_deadline h0_running h0_node h0_side u.1), (h0_op, .inl (c0_op, 16, .inl u.2.1)), (h0_argument, .inl (c0_argument, 16, .inl u.2.2.1)), (h0_inbox, .inl (c0_inbox, 60, .inl u.2.2.2.1)), (h0_hand, .inl (c0_hand, 13, .inl u.2.2.2.2))]) (w1 := []) hP hD [] [0, 1, 2, 3, 4] rfl rfl (by decide) (by decide) hk1 hFc hP1 hD1
                              have hK := (hK.sub (tys' := [(c0_op, .int), (c0_argument, .int), (c0_inbox, .int), (c0_hand, .int)]) [0, 1, 2, 3] rfl).app hK1
                              generalize H1 = H at hP hS ⊢
                              have hP : va_P (dC, dI) vwCl [(h0, ce_Mo h0_op h0_argument h0_balance h0_inbox h0_real h0_hand h0_payee h0_paid h0_drawn h0_challenger h0_low h0_high h0_agreed h0_disputed h0_posted h0_middle h0_deadline h0_running h0_node h0_side u.1), (h0_op, .inl (c0_op, 16, .inl u.2.1)), (h0_argument, .inl (c0_argument, 16, .inl u.2.2.1)), (h0_inbox, .inl (c0_inbox, 60, .inl u.2.2.2.1)), (h0_hand, .inl (c0_hand, 13, .inl u.2.2.2.2))] H := hP
                              have hD : va_D A [(h0, ce_Mo h0_op h0_argument h0_balance h0_inbox h0_real h0_hand h0_payee h0_paid h0_drawn h0_challenger h0_low h0_high h0_agreed h0_disputed h0_posted h0_middle h0_deadline h0_running h0_node h0_side u.1), (h0_op, .inl (c0_op, 16, .inl u.2.1)), (h0_argument, .inl (c0_argument, 16, .inl u.2.2.1)), (h0_inbox, .inl (c0_inbox, 60, .inl u.2.2.2.1)), (h0_hand, .inl (c0_hand, 13, .inl u.2.2.2.2))] := hD
                              have hK : va_K (dC, dI) vwCl [(c0_op, .int), (c0_argument, .int), (c0_inbox, .int), (c0_hand, .int)] s := hK
                              refine va_put (D := (dC, dI)) (ci := 8) (v := .long r178) (ty := .long) (C := "StepCourtModel") (T := TMo) (N := 35) hx hb hq inMo tyMo tyMo_ok nmMo hown hK hP hD hS 0 rfl rfl 12 (by decide) (hq _ wt_746) (fun _ h9 => h9) rfl (by decide +kernel) rfl rfl (Nat.le_of_ble_eq_true rfl) dMo_step_311 (fun H locs hP hD hS => ?_)
                              have hP : va_P (dC, dI) vwCl [(h0, ce_Mo h0_op h0_argument h0_balance h0_inbox h0_real h0_hand h0_payee h0_paid h0_drawn h0_challenger h0_low h0_high h0_agreed h0_disputed h0_posted h0_middle h0_deadline h0_running h0_node h0_side (u.1.1, u.1.2.1, u.1.2.2.1, u.1.2.2.2.1, u.1.2.2.2.2.1, u.1.2.2.2.2.2.1, r178, u.1.2.2.2.2.2.2.2.1, u.1.2.2.2.2.2.2.2.2.1, u.1.2.2.2.2.2.2.2.2.2.1, u.1.2.2.2.2.2.2.2.2.2.2.1, u.1.2.2.2.2.2.2.2.2.2.2.2.1, u.1.2.2.2.2.2.2.2.2.2.2.2.2.1, u.1.2.2.2.2.2.2.2.2.2.2.2.2.2.1, u.1.2.2.2.2.2.2.2.2.2.2.2.2.2.2)), (h0_op, .inl (c0_op, 16, .inl u.2.1)), (h0_argument, .inl (c0_argument, 16, .inl u.2.2.1)), (h0_inbox, .inl (c0_inbox, 60, .inl u.2.2.2.1)), (h0_hand, .inl (c0_hand, 13, .inl u.2.2.2.2))] H := hP
                              have hD : va_D A [(h0, ce_Mo h0_op h0_argument h0_balance h0_inbox h0_real h0_hand h0_payee h0_paid h0_drawn h0_challenger h0_low h0_high h0_agreed h0_disputed h0_posted h0_middle h0_deadline h0_running h0_node h0_side (u.1.1, u.1.2.1, u.1.2.2.1, u.1.2.2.2.1, u.1.2.2.2.2.1, u.1.2.2.2.2.2.1, r178, u.1.2.2.2.2.2.2.2.1, u.1.2.2.2.2.2.2.2.2.1, u.1.2.2.2.2.2.2.2.2.2.1, u.1.2.2.2.2.2.2.2.2.2.2.1, u.1.2.2.2.2.2.2.2.2.2.2.2.1, u.1.2.2.2.2.2.2.2.2.2.2.2.2.1, u.1.2.2.2.2.2.2.2.2.2.2.2.2.2.1, u.1.2.2.2.2.2.2.2.2.2.2.2.2.2.2)), (h0_op, .inl (c0_op, 16, .inl u.2.1)), (h0_argument, .inl (c0_argument, 16, .inl u.2.2.1)), (h0_inbox, .inl (c0_inbox, 60, .inl u.2.2.2.1)), (h0_hand, .inl (c0_hand, 13, .inl u.2.2.2.2))] := hD
                              refine lv_aload_n hx hb dMo_step_314 rfl (lv_at hl 8 rfl) ?_
                              refine va_get (D := (dC, dI)) (ci := 8) (v := .ref h0_hand) (C := "StepCourtModel") (T := TMo) (N := 35) hx hb hq inMo hown hK hP 0 rfl rfl 11 (by decide) (hq _ wt_745) (fun _ h9 => h9) rfl dMo_step_315 ?_
                              refine lv_iconst (v := 4) hx hb dMo_step_318 (by decide) ?_
                              refine lv_dup2_11 hx hb dMo_step_319 rfl rfl ?_
                              refine va_iald hx hb hK hP 4 3 rfl rfl (show ¬ ((4 : Int32) < 0 ∨ 13 ≤ (4 : Int32).toNatClampNeg) by decide) dMo_step_320 ?_
                              refine W.eq (g2 := F0 m 321 ls [.int (u.2.2.2.2 4), .int 4, .ref h0_hand]) rfl ?_
                              refine lv_iconst (v := 1) hx hb dMo_step_321 (by decide) ?_
                              refine lv_iadd hx hb dMo_step_322 ?_
                              refine lv_topi (fun f180 ef180 => ?_)
                              have hw := hw f180 ef180
                              refine va_iast hx hb hK hP hD hS 4 3 rfl rfl (show ¬ ((4 : Int32) < 0 ∨ 13 ≤ (4 : Int32).toNatClampNeg) by decide) dMo_step_323 (fun H locs hP hD hS => ?_)
                              have hP : va_P (dC, dI) vwCl [(h0, ce_Mo h0_op h0_argument h0_balance h0_inbox h0_real h0_hand h0_payee h0_paid h0_drawn h0_challenger h0_low h0_high h0_agreed h0_disputed h0_posted h0_middle h0_deadline h0_running h0_node h0_side (u.1.1, u.1.2.1, u.1.2.2.1, u.1.2.2.2.1, u.1.2.2.2.2.1, u.1.2.2.2.2.2.1, r178, u.1.2.2.2.2.2.2.2.1, u.1.2.2.2.2.2.2.2.2.1, u.1.2.2.2.2.2.2.2.2.2.1, u.1.2.2.2.2.2.2.2.2.2.2.1, u.1.2.2.2.2.2.2.2.2.2.2.2.1, u.1.2.2.2.2.2.2.2.2.2.2.2.2.1, u.1.2.2.2.2.2.2.2.2.2.2.2.2.2.1, u.1.2.2.2.2.2.2.2.2.2.2.2.2.2.2)), (h0_op, .inl (c0_op, 16, .inl u.2.1)), (h0_argument, .inl (c0_argument, 16, .inl u.2.2.1)), (h0_inbox, .inl (c0_inbox, 60, .inl u.2.2.2.1)), (h0_hand, .inl (c0_hand, 13, .inl (upd u.2.2.2.2 4 f180)))] H := hP
                              have hD : va_D A [(h0, ce_Mo h0_op h0_argument h0_balance h0_inbox h0_real h0_hand h0_payee h0_paid h0_drawn h0_challenger h0_low h0_high h0_agreed h0_disputed h0_posted h0_middle h0_deadline h0_running h0_node h0_side (u.1.1, u.1.2.1, u.1.2.2.1, u.1.2.2.2.1, u.1.2.2.2.2.1, u.1.2.2.2.2.2.1, r178, u.1.2.2.2.2.2.2.2.1, u.1.2.2.2.2.2.2.2.2.1, u.1.2.2.2.2.2.2.2.2.2.1, u.1.2.2.2.2.2.2.2.2.2.2.1, u.1.2.2.2.2.2.2.2.2.2.2.2.1, u.1.2.2.2.2.2.2.2.2.2.2.2.2.1, u.1.2.2.2.2.2.2.2.2.2.2.2.2.2.1, u.1.2.2.2.2.2.2.2.2.2.2.2.2.2.2)), (h0_op, .inl (c0_op, 16, .inl u.2.1)), (h0_argument, .inl (c0_argument, 16, .inl u.2.2.1)), (h0_inbox, .inl (c0_inbox, 60, .inl u.2.2.2.1)), (h0_hand, .inl (c0_hand, 13, .inl (upd u.2.2.2.2 4 f180)))] := hD
                              refine lv_goto (tgt := 362) hx hb dMo_step_324 (by decide) ?_
                              refine lv_aload_n hx hb dMo_step_362 rfl (lv_at hl 8 rfl) ?_
                              refine va_get (D := (dC, dI)) (ci := 8) (v := .ref h0_hand) (C := "StepCourtModel") (T := TMo) (N := 35) hx hb hq inMo hown hK hP 0 rfl rfl 11 (by decide) (hq _ wt_745) (fun _ h9 => h9) rfl dMo_step_363 ?_
                              refine lv_iconst (v := 0) hx hb dMo_step_366 (by decide) ?_
                              refine lv_iload hx hb dMo_step_367 (lv_at hl 0 rfl) ?_
                              refine lv_if_eq (tgt := 376) hx hb dMo_step_369 (by decide) (fun cc181 => ?_) (fun cc181 => ?_)
                              · have hw := hw
                                refine lv_iload hx hb dMo_step_376 (lv_at hl 4 rfl) ?_
                                refine va_iast hx hb hK hP hD hS 4 3 rfl rfl (show ¬ ((0 : Int32) < 0 ∨ 13 ≤ (0 : Int32).toNatClampNeg) by decide) dMo_step_378 (fun H locs hP hD hS => ?_)
                                have hP : va_P (dC, dI) vwCl [(h0, ce_Mo h0_op h0_argument h0_balance h0_inbox h0_real h0_hand h0_payee h0_paid h0_drawn h0_challenger h0_low h0_high h0_agreed h0_disputed h0_posted h0_middle h0_deadline h0_running h0_node h0_side (u.1.1, u.1.2.1, u.1.2.2.1, u.1.2.2.2.1, u.1.2.2.2.2.1, u.1.2.2.2.2.2.1, r178, u.1.2.2.2.2.2.2.2.1, u.1.2.2.2.2.2.2.2.2.1, u.1.2.2.2.2.2.2.2.2.2.1, u.1.2.2.2.2.2.2.2.2.2.2.1, u.1.2.2.2.2.2.2.2.2.2.2.2.1, u.1.2.2.2.2.2.2.2.2.2.2.2.2.1, u.1.2.2.2.2.2.2.2.2.2.2.2.2.2.1, u.1.2.2.2.2.2.2.2.2.2.2.2.2.2.2)), (h0_op, .inl (c0_op, 16, .inl u.2.1)), (h0_argument, .inl (c0_argument, 16, .inl u.2.2.1)), (h0_inbox, .inl (c0_inbox, 60, .inl u.2.2.2.1)), (h0_hand, .inl (c0_hand, 13, .inl (upd (upd u.2.2.2.2 4 f180) 0 y6)))] H := hP
                                have hD : va_D A [(h0, ce_Mo h0_op h0_argument h0_balance h0_inbox h0_real h0_hand h0_payee h0_paid h0_drawn h0_challenger h0_low h0_high h0_agreed h0_disputed h0_posted h0_middle h0_deadline h0_running h0_node h0_side (u.1.1, u.1.2.1, u.1.2.2.1, u.1.2.2.2.1, u.1.2.2.2.2.1, u.1.2.2.2.2.2.1, r178, u.1.2.2.2.2.2.2.2.1, u.1.2.2.2.2.2.2.2.2.1, u.1.2.2.2.2.2.2.2.2.2.1, u.1.2.2.2.2.2.2.2.2.2.2.1, u.1.2.2.2.2.2.2.2.2.2.2.2.1, u.1.2.2.2.2.2.2.2.2.2.2.2.2.1, u.1.2.2.2.2.2.2.2.2.2.2.2.2.2.1, u.1.2.2.2.2.2.2.2.2.2.2.2.2.2.2)), (h0_op, .inl (c0_op, 16, .inl u.2.1)), (h0_argument, .inl (c0_argument, 16, .inl u.2.2.1)), (h0_inbox, .inl (c0_inbox, 60, .inl u.2.2.2.1)), (h0_hand, .inl (c0_hand, 13, .inl (upd (upd u.2.2.2.2 4 f180) 0 y6)))] := hD
                                have hP9 := hP.sub (ws' := [(h0, ce_Mo h0_op h0_argument h0_balance h0_inbox h0_real h0_hand h0_payee h0_paid h0_drawn h0_challenger h0_low h0_high h0_agreed h0_disputed h0_posted h0_middle h0_deadline h0_running h0_node h0_side (u.1.1, u.1.2.1, u.1.2.2.1, u.1.2.2.2.1, u.1.2.2.2.2.1, u.1.2.2.2.2.2.1, r178, u.1.2.2.2.2.2.2.2.1, u.1.2.2.2.2.2.2.2.2.1, u.1.2.2.2.2.2.2.2.2.2.1, u.1.2.2.2.2.2.2.2.2.2.2.1, u.1.2.2.2.2.2.2.2.2.2.2.2.1, u.1.2.2.2.2.2.2.2.2.2.2.2.2.1, u.1.2.2.2.2.2.2.2.2.2.2.2.2.2.1, u.1.2.2.2.2.2.2.2.2.2.2.2.2.2.2)), (h0_op, .inl (c0_op, 16, .inl u.2.1)), (h0_argument, .inl (c0_argument, 16, .inl u.2.2.1)), (h0_inbox, .inl (c0_inbox, 60, .inl u.2.2.2.1)), (h0_hand, .inl (c0_hand, 13, .inl (upd (upd u.2.2.2.2 4 f180) 0 y6)))]) [0, 1, 2, 3, 4] rfl
                                have hD9 := hD.sub (ws' := [(h0, ce_Mo h0_op h0_argument h0_balance h0_inbox h0_real h0_hand h0_payee h0_paid h0_drawn h0_challenger h0_low h0_high h0_agreed h0_disputed h0_posted h0_middle h0_deadline h0_running h0_node h0_side (u.1.1, u.1.2.1, u.1.2.2.1, u.1.2.2.2.1, u.1.2.2.2.2.1, u.1.2.2.2.2.2.1, r178, u.1.2.2.2.2.2.2.2.1, u.1.2.2.2.2.2.2.2.2.1, u.1.2.2.2.2.2.2.2.2.2.1, u.1.2.2.2.2.2.2.2.2.2.2.1, u.1.2.2.2.2.2.2.2.2.2.2.2.1, u.1.2.2.2.2.2.2.2.2.2.2.2.2.1, u.1.2.2.2.2.2.2.2.2.2.2.2.2.2.1, u.1.2.2.2.2.2.2.2.2.2.2.2.2.2.2)), (h0_op, .inl (c0_op, 16, .inl u.2.1)), (h0_argument, .inl (c0_argument, 16, .inl u.2.2.1)), (h0_inbox, .inl (c0_inbox, 60, .inl u.2.2.2.1)), (h0_hand, .inl (c0_hand, 13, .inl (upd (upd u.2.2.2.2 4 f180) 0 y6)))]) [0, 1, 2, 3, 4] (by decide) rfl
                                have hK9 := hK.sub (tys' := [(c0_op, .int), (c0_argument, .int), (c0_inbox, .int), (c0_hand, .int)]) [0, 1, 2, 3] rfl
                                exact W.vret hx hb hr (fun t ht hW => ⟨⟨((u.1.1, u.1.2.1, u.1.2.2.1, u.1.2.2.2.1, u.1.2.2.2.2.1, u.1.2.2.2.2.2.1, r178, u.1.2.2.2.2.2.2.2.1, u.1.2.2.2.2.2.2.2.2.1, u.1.2.2.2.2.2.2.2.2.2.1, u.1.2.2.2.2.2.2.2.2.2.2.1, u.1.2.2.2.2.2.2.2.2.2.2.2.1, u.1.2.2.2.2.2.2.2.2.2.2.2.2.1, u.1.2.2.2.2.2.2.2.2.2.2.2.2.2.1, u.1.2.2.2.2.2.2.2.2.2.2.2.2.2.2), u.2.1, u.2.2.1, u.2.2.2.1, (upd (upd u.2.2.2.2 4 f180) 0 y6)), rfl, hw, by rw [ht]; exact hP9, va_K.moved hW.alike hK9, hD9⟩, hS.F ht⟩) hS.2.2 dMo_step_379
                              · first | exact absurd cc181 (by decide) | exact (cc181 (by decide)).elim
                          · have hw := hw.1 cc155
                            refine lv_aload_n hx hb dMo_step_257 rfl (lv_at hl 8 rfl) ?_
                            refine va_get (D := (dC, dI)) (ci := 8) (v := .ref h0_hand) (C := "StepCourtModel") (T := TMo) (N := 35) hx hb hq inMo hown hK hP 0 rfl rfl 11 (by decide) (hq _ wt_745) (fun _ h9 => h9) rfl dMo_step_258 ?_
                            refine lv_iconst (v := 1) hx hb dMo_step_261 (by decide) ?_
                            refine lv_aload_n hx hb dMo_step_262 rfl (lv_at hl 8 rfl) ?_
                            refine lv_aload_n hx hb dMo_step_263 rfl (lv_at hl 8 rfl) ?_
                            refine va_get (D := (dC, dI)) (ci := 8) (v := .ref h0_hand) (C := "StepCourtModel") (T := TMo) (N := 35) hx hb hq inMo hown hK hP 0 rfl rfl 11 (by decide) (hq _ wt_745) (fun _ h9 => h9) rfl dMo_step_264 ?_
                            refine lv_iconst (v := 3) hx hb dMo_step_267 (by decide) ?_
                            refine va_iald hx hb hK hP 4 3 rfl rfl (show ¬ ((3 : Int32) < 0 ∨ 13 ≤ (3 : Int32).toNatClampNeg) by decide) dMo_step_268 ?_
                            refine W.eq (g2 := F0 m 269 ls [.int (u.2.2.2.2 3), .ref h0, .int 1, .ref h0_hand]) rfl ?_
                            have hPc := hP.sub (ws' := [(h0, ce_Mo h0_op h0_argument h0_balance h0_inbox h0_real h0_hand h0_payee h0_paid h0_drawn h0_challenger h0_low h0_high h0_agreed h0_disputed h0_posted h0_middle h0_deadline h0_running h0_node h0_side u.1), (h0_inbox, .inl (c0_inbox, 60, .inl u.2.2.2.1))]) [0, 3] rfl
                            have hDc := hD.sub (ws' := [(h0, ce_Mo h0_op h0_argument h0_balance h0_inbox h0_real h0_hand h0_payee h0_paid h0_drawn h0_challenger h0_low h0_high h0_agreed h0_disputed h0_posted h0_middle h0_deadline h0_running h0_node h0_side u.1), (h0_inbox, .inl (c0_inbox, 60, .inl u.2.2.2.1))]) [0, 3] (by decide) rfl
                            have hKc := hK.sub (tys' := [(c0_inbox, .int)]) [2] rfl
                            have hFc := va_free (wc := [(h0, ce_Mo h0_op h0_argument h0_balance h0_inbox h0_real h0_hand h0_payee h0_paid h0_drawn h0_challenger h0_low h0_high h0_agreed h0_disputed h0_posted h0_middle h0_deadline h0_running h0_node h0_side u.1), (h0_inbox, .inl (c0_inbox, 60, .inl u.2.2.2.1))]) hD hS hA [0, 3] rfl
                            refine va_calli (va_runV (As := [.int (u.2.2.2.2 3)]) (rest := [.int 1, .ref h0_hand]) ⟨hx, hb, hml, hown, hq⟩ (mt_Mo_wordAt l dC dI h0 h0_inbox h0_op h0_argument h0_balance h0_real h0_hand h0_payee h0_paid h0_drawn h0_challenger h0_low h0_high h0_agreed h0_disputed h0_posted h0_middle h0_deadline h0_running h0_node h0_side c0_inbox s.heap.size _ (u.1, u.2.2.2.1) (u.2.2.2.2 3) hw) ⟨cq_B 1 hq wt_882 wt_879 wt_10 rfl rfl hd_Mo_wordAt ⟨Nat.le_of_ble_eq_true rfl, Nat.le_of_ble_eq_true rfl⟩, (hq _ wt_881), (hq _ wv_29)⟩ ⟨kp_bl, va_recv hKc hPc (ci := 8) (q0 := 0) rfl rfl, kp_at hPc hKc hDc hZ⟩ rfl rfl hl.1 rfl (lv_room (Nat.le_of_ble_eq_true rfl)) dMo_step_269 ⟨(by decide), (by decide)⟩) hS (fun q _ h => hFc q h) hFc (fun r182 u183 t H1 locs ht hvm hw hB hz1 hk1 hS => ?_)
                            obtain ⟨hP1, hK1, hD1⟩ := hB
                            rw [ht] at hP1
                            have hK1 := va_K.moved hvm.symm hK1
                            obtain ⟨hP, hD⟩ := va_join (wr := [(h0_op, .inl (c0_op, 16, .inl u.2.1)), (h0_argument, .inl (c0_argument, 16, .inl u.2.2.1)), (h0_hand, .inl (c0_hand, 13, .inl u.2.2.2.2))]) (w1 := [(h0, ce_Mo h0_op h0_argument h0_balance h0_inbox h0_real h0_hand h0_payee h0_paid h0_drawn h0_challenger h0_low h0_high h0_agreed h0_disputed h0_posted h0_middle h0_deadline h0_running h0_node h0_side u183.1), (h0_inbox, .inl (c0_inbox, 60, .inl u183.2))]) hP hD [0, 3] [1, 2, 4] rfl rfl (by decide) (by decide) hk1 hFc hP1 hD1
                            have hK := (hK.sub (tys' := [(c0_op, .int), (c0_argument, .int), (c0_hand, .int)]) [0, 1, 3] rfl).app hK1
                            generalize H1 = H at hP hS ⊢
                            have hP : va_P (dC, dI) vwCl [(h0_op, .inl (c0_op, 16, .inl u.2.1)), (h0_argument, .inl (c0_argument, 16, .inl u.2.2.1)), (h0_hand, .inl (c0_hand, 13, .inl u.2.2.2.2)), (h0, ce_Mo h0_op h0_argument h0_balance h0_inbox h0_real h0_hand h0_payee h0_paid h0_drawn h0_challenger h0_low h0_high h0_agreed h0_disputed h0_posted h0_middle h0_deadline h0_running h0_node h0_side u183.1), (h0_inbox, .inl (c0_inbox, 60, .inl u183.2))] H := hP
                            have hD : va_D A [(h0_op, .inl (c0_op, 16, .inl u.2.1)), (h0_argument, .inl (c0_argument, 16, .inl u.2.2.1)), (h0_hand, .inl (c0_hand, 13, .inl u.2.2.2.2)), (h0, ce_Mo h0_op h0_argument h0_balance h0_inbox h0_real h0_hand h0_payee h0_paid h0_drawn h0_challenger h0_low h0_high h0_agreed h0_disputed h0_posted h0_middle h0_deadline h0_running h0_node h0_side u183.1), (h0_inbox, .inl (c0_inbox, 60, .inl u183.2))] := hD
                            have hK : va_K (dC, dI) vwCl [(c0_op, .int), (c0_argument, .int), (c0_hand, .int), (c0_inbox, .int)] s := hK
                            refine va_iast hx hb hK hP hD hS 2 2 rfl rfl (show ¬ ((1 : Int32) < 0 ∨ 13 ≤ (1 : Int32).toNatClampNeg) by decide) dMo_step_272 (fun H locs hP hD hS => ?_)
                            have hP : va_P (dC, dI) vwCl [(h0_op, .inl (c0_op, 16, .inl u.2.1)), (h0_argument, .inl (c0_argument, 16, .inl u.2.2.1)), (h0_hand, .inl (c0_hand, 13, .inl (upd u.2.2.2.2 1 r182))), (h0, ce_Mo h0_op h0_argument h0_balance h0_inbox h0_real h0_hand h0_payee h0_paid h0_drawn h0_challenger h0_low h0_high h0_agreed h0_disputed h0_posted h0_middle h0_deadline h0_running h0_node h0_side u183.1), (h0_inbox, .inl (c0_inbox, 60, .inl u183.2))] H := hP
                            have hD : va_D A [(h0_op, .inl (c0_op, 16, .inl u.2.1)), (h0_argument, .inl (c0_argument, 16, .inl u.2.2.1)), (h0_hand, .inl (c0_hand, 13, .inl (upd u.2.2.2.2 1 r182))), (h0, ce_Mo h0_op h0_argument h0_balance h0_inbox h0_real h0_hand h0_payee h0_paid h0_drawn h0_challenger h0_low h0_high h0_agreed h0_disputed h0_posted h0_middle h0_deadline h0_running h0_node h0_side u183.1), (h0_inbox, .inl (c0_inbox, 60, .inl u183.2))] := hD
                            refine lv_aload_n hx hb dMo_step_273 rfl (lv_at hl 8 rfl) ?_
                            refine va_get (D := (dC, dI)) (ci := 8) (v := .ref h0_hand) (C := "StepCourtModel") (T := TMo) (N := 35) hx hb hq inMo hown hK hP 3 rfl rfl 11 (by decide) (hq _ wt_745) (fun _ h9 => h9) rfl dMo_step_274 ?_
                            refine lv_iconst (v := 3) hx hb dMo_step_277 (by decide) ?_
                            refine lv_dup2_11 hx hb dMo_step_278 rfl rfl ?_
                            refine va_iald hx hb hK hP 2 2 rfl rfl (show ¬ ((3 : Int32) < 0 ∨ 13 ≤ (3 : Int32).toNatClampNeg) by decide) dMo_step_279 ?_
                            refine W.eq (g2 := F0 m 280 ls [.int ((upd u.2.2.2.2 1 r182) 3), .int 3, .ref h0_hand]) rfl ?_
                            refine lv_iconst (v := 1) hx hb dMo_step_280 (by decide) ?_
                            refine lv_iadd hx hb dMo_step_281 ?_
                            refine lv_topi (fun f184 ef184 => ?_)
                            have hw := hw f184 ef184
                            refine va_iast hx hb hK hP hD hS 2 2 rfl rfl (show ¬ ((3 : Int32) < 0 ∨ 13 ≤ (3 : Int32).toNatClampNeg) by decide) dMo_step_282 (fun H locs hP hD hS => ?_)
                            have hP : va_P (dC, dI) vwCl [(h0_op, .inl (c0_op, 16, .inl u.2.1)), (h0_argument, .inl (c0_argument, 16, .inl u.2.2.1)), (h0_hand, .inl (c0_hand, 13, .inl (upd (upd u.2.2.2.2 1 r182) 3 f184))), (h0, ce_Mo h0_op h0_argument h0_balance h0_inbox h0_real h0_hand h0_payee h0_paid h0_drawn h0_challenger h0_low h0_high h0_agreed h0_disputed h0_posted h0_middle h0_deadline h0_running h0_node h0_side u183.1), (h0_inbox, .inl (c0_inbox, 60, .inl u183.2))] H := hP
                            have hD : va_D A [(h0_op, .inl (c0_op, 16, .inl u.2.1)), (h0_argument, .inl (c0_argument, 16, .inl u.2.2.1)), (h0_hand, .inl (c0_hand, 13, .inl (upd (upd u.2.2.2.2 1 r182) 3 f184))), (h0, ce_Mo h0_op h0_argument h0_balance h0_inbox h0_real h0_hand h0_payee h0_paid h0_drawn h0_challenger h0_low h0_high h0_agreed h0_disputed h0_posted h0_middle h0_deadline h0_running h0_node h0_side u183.1), (h0_inbox, .inl (c0_inbox, 60, .inl u183.2))] := hD
                            refine lv_goto (tgt := 362) hx hb dMo_step_283 (by decide) ?_
                            refine lv_aload_n hx hb dMo_step_362 rfl (lv_at hl 8 rfl) ?_
                            refine va_get (D := (dC, dI)) (ci := 8) (v := .ref h0_hand) (C := "StepCourtModel") (T := TMo) (N := 35) hx hb hq inMo hown hK hP 3 rfl rfl 11 (by decide) (hq _ wt_745) (fun _ h9 => h9) rfl dMo_step_363 ?_
                            refine lv_iconst (v := 0) hx hb dMo_step_366 (by decide) ?_
                            refine lv_iload hx hb dMo_step_367 (lv_at hl 0 rfl) ?_
                            refine lv_if_eq (tgt := 376) hx hb dMo_step_369 (by decide) (fun cc185 => ?_) (fun cc185 => ?_)
                            · have hw := hw
                              refine lv_iload hx hb dMo_step_376 (lv_at hl 4 rfl) ?_
                              refine va_iast hx hb hK hP hD hS 2 2 rfl rfl (show ¬ ((0 : Int32) < 0 ∨ 13 ≤ (0 : Int32).toNatClampNeg) by decide) dMo_step_378 (fun H locs hP hD hS => ?_)
                              have hP : va_P (dC, dI) vwCl [(h0_op, .inl (c0_op, 16, .inl u.2.1)), (h0_argument, .inl (c0_argument, 16, .inl u.2.2.1)), (h0_hand, .inl (c0_hand, 13, .inl (upd (upd (upd u.2.2.2.2 1 r182) 3 f184) 0 y6))), (h0, ce_Mo h0_op h0_argument h0_balance h0_inbox h0_real h0_hand h0_payee h0_paid h0_drawn h0_challenger h0_low h0_high h0_agreed h0_disputed h0_posted h0_middle h0_deadline h0_running h0_node h0_side u183.1), (h0_inbox, .inl (c0_inbox, 60, .inl u183.2))] H := hP
                              have hD : va_D A [(h0_op, .inl (c0_op, 16, .inl u.2.1)), (h0_argument, .inl (c0_argument, 16, .inl u.2.2.1)), (h0_hand, .inl (c0_hand, 13, .inl (upd (upd (upd u.2.2.2.2 1 r182) 3 f184) 0 y6))), (h0, ce_Mo h0_op h0_argument h0_balance h0_inbox h0_real h0_hand h0_payee h0_paid h0_drawn h0_challenger h0_low h0_high h0_agreed h0_disputed h0_posted h0_middle h0_deadline h0_running h0_node h0_side u183.1), (h0_inbox, .inl (c0_inbox, 60, .inl u183.2))] := hD
                              have hP9 := hP.sub (ws' := [(h0, ce_Mo h0_op h0_argument h0_balance h0_inbox h0_real h0_hand h0_payee h0_paid h0_drawn h0_challenger h0_low h0_high h0_agreed h0_disputed h0_posted h0_middle h0_deadline h0_running h0_node h0_side u183.1), (h0_op, .inl (c0_op, 16, .inl u.2.1)), (h0_argument, .inl (c0_argument, 16, .inl u.2.2.1)), (h0_inbox, .inl (c0_inbox, 60, .inl u183.2)), (h0_hand, .inl (c0_hand, 13, .inl (upd (upd (upd u.2.2.2.2 1 r182) 3 f184) 0 y6)))]) [3, 0, 1, 4, 2] rfl
                              have hD9 := hD.sub (ws' := [(h0, ce_Mo h0_op h0_argument h0_balance h0_inbox h0_real h0_hand h0_payee h0_paid h0_drawn h0_challenger h0_low h0_high h0_agreed h0_disputed h0_posted h0_middle h0_deadline h0_running h0_node h0_side u183.1), (h0_op, .inl (c0_op, 16, .inl u.2.1)), (h0_argument, .inl (c0_argument, 16, .inl u.2.2.1)), (h0_inbox, .inl (c0_inbox, 60, .inl u183.2)), (h0_hand, .inl (c0_hand, 13, .inl (upd (upd (upd u.2.2.2.2 1 r182) 3 f184) 0 y6)))]) [3, 0, 1, 4, 2] (by decide) rfl
                              have hK9 := hK.sub (tys' := [(c0_op, .int), (c0_argument, .int), (c0_inbox, .int), (c0_hand, .int)]) [0, 1, 3, 2] rfl
                              exact W.vret hx hb hr (fun t ht hW => ⟨⟨(u183.1, u.2.1, u.2.2.1, u183.2, (upd (upd (upd u.2.2.2.2 1 r182) 3 f184) 0 y6)), rfl, hw, by rw [ht]; exact hP9, va_K.moved hW.alike hK9, hD9⟩, hS.F ht⟩) hS.2.2 dMo_step_379
                            · first | exact absurd cc185 (by decide) | exact (cc185 (by decide)).elim
                        · have hw := hw.1 cc154
                          refine lv_aload_n hx hb dMo_step_239 rfl (lv_at hl 8 rfl) ?_
                          refine va_get (D := (dC, dI)) (ci := 8) (v := .ref h0_hand) (C := "StepCourtModel") (T := TMo) (N := 35) hx hb hq inMo hown hK hP 0 rfl rfl 11 (by decide) (hq _ wt_745) (fun _ h9 => h9) rfl dMo_step_240 ?_
                          refine lv_iload hx hb dMo_step_243 (lv_at hl 1 rfl) ?_
                          refine lv_iload hx hb dMo_step_245 (lv_at hl 3 rfl) ?_
                          obtain ⟨hh186, hw⟩ := hw
                          refine va_iast hx hb hK hP hD hS 4 3 rfl rfl hh186 dMo_step_247 (fun H locs hP hD hS => ?_)
                          have hP : va_P (dC, dI) vwCl [(h0, ce_Mo h0_op h0_argument h0_balance h0_inbox h0_real h0_hand h0_payee h0_paid h0_drawn h0_challenger h0_low h0_high h0_agreed h0_disputed h0_posted h0_middle h0_deadline h0_running h0_node h0_side u.1), (h0_op, .inl (c0_op, 16, .inl u.2.1)), (h0_argument, .inl (c0_argument, 16, .inl u.2.2.1)), (h0_inbox, .inl (c0_inbox, 60, .inl u.2.2.2.1)), (h0_hand, .inl (c0_hand, 13, .inl (upd u.2.2.2.2 y9.toNatClampNeg y7)))] H := hP
                          have hD : va_D A [(h0, ce_Mo h0_op h0_argument h0_balance h0_inbox h0_real h0_hand h0_payee h0_paid h0_drawn h0_challenger h0_low h0_high h0_agreed h0_disputed h0_posted h0_middle h0_deadline h0_running h0_node h0_side u.1), (h0_op, .inl (c0_op, 16, .inl u.2.1)), (h0_argument, .inl (c0_argument, 16, .inl u.2.2.1)), (h0_inbox, .inl (c0_inbox, 60, .inl u.2.2.2.1)), (h0_hand, .inl (c0_hand, 13, .inl (upd u.2.2.2.2 y9.toNatClampNeg y7)))] := hD
                          refine lv_goto (tgt := 362) hx hb dMo_step_248 (by decide) ?_
                          refine lv_aload_n hx hb dMo_step_362 rfl (lv_at hl 8 rfl) ?_
                          refine va_get (D := (dC, dI)) (ci := 8) (v := .ref h0_hand) (C := "StepCourtModel") (T := TMo) (N := 35) hx hb hq inMo hown hK hP 0 rfl rfl 11 (by decide) (hq _ wt_745) (fun _ h9 => h9) rfl dMo_step_363 ?_
                          refine lv_iconst (v := 0) hx hb dMo_step_366 (by decide) ?_
                          refine lv_iload hx hb dMo_step_367 (lv_at hl 0 rfl) ?_
                          refine lv_if_eq (tgt := 376) hx hb dMo_step_369 (by decide) (fun cc187 => ?_) (fun cc187 => ?_)
                          · have hw := hw
                            refine lv_iload hx hb dMo_step_376 (lv_at hl 4 rfl) ?_
                            refine va_iast hx hb hK hP hD hS 4 3 rfl rfl (show ¬ ((0 : Int32) < 0 ∨ 13 ≤ (0 : Int32).toNatClampNeg) by decide) dMo_step_378 (fun H locs hP hD hS => ?_)
                            have hP : va_P (dC, dI) vwCl [(h0, ce_Mo h0_op h0_argument h0_balance h0_inbox h0_real h0_hand h0_payee h0_paid h0_drawn h0_challenger h0_low h0_high h0_agreed h0_disputed h0_posted h0_middle h0_deadline h0_running h0_node h0_side u.1), (h0_op, .inl (c0_op, 16, .inl u.2.1)), (h0_argument, .inl (c0_argument, 16, .inl u.2.2.1)), (h0_inbox, .inl (c0_inbox, 60, .inl u.2.2.2.1)), (h0_hand, .inl (c0_hand, 13, .inl (upd (upd u.2.2.2.2 y9.toNatClampNeg y7) 0 y6)))] H := hP
                            have hD : va_D A [(h0, ce_Mo h0_op h0_argument h0_balance h0_inbox h0_real h0_hand h0_payee h0_paid h0_drawn h0_challenger h0_low h0_high h0_agreed h0_disputed h0_posted h0_middle h0_deadline h0_running h0_node h0_side u.1), (h0_op, .inl (c0_op, 16, .inl u.2.1)), (h0_argument, .inl (c0_argument, 16, .inl u.2.2.1)), (h0_inbox, .inl (c0_inbox, 60, .inl u.2.2.2.1)), (h0_hand, .inl (c0_hand, 13, .inl (upd (upd u.2.2.2.2 y9.toNatClampNeg y7) 0 y6)))] := hD
                            have hP9 := hP.sub (ws' := [(h0, ce_Mo h0_op h0_argument h0_balance h0_inbox h0_real h0_hand h0_payee h0_paid h0_drawn h0_challenger h0_low h0_high h0_agreed h0_disputed h0_posted h0_middle h0_deadline h0_running h0_node h0_side u.1), (h0_op, .inl (c0_op, 16, .inl u.2.1)), (h0_argument, .inl (c0_argument, 16, .inl u.2.2.1)), (h0_inbox, .inl (c0_inbox, 60, .inl u.2.2.2.1)), (h0_hand, .inl (c0_hand, 13, .inl (upd (upd u.2.2.2.2 y9.toNatClampNeg y7) 0 y6)))]) [0, 1, 2, 3, 4] rfl
                            have hD9 := hD.sub (ws' := [(h0, ce_Mo h0_op h0_argument h0_balance h0_inbox h0_real h0_hand h0_payee h0_paid h0_drawn h0_challenger h0_low h0_high h0_agreed h0_disputed h0_posted h0_middle h0_deadline h0_running h0_node h0_side u.1), (h0_op, .inl (c0_op, 16, .inl u.2.1)), (h0_argument, .inl (c0_argument, 16, .inl u.2.2.1)), (h0_inbox, .inl (c0_inbox, 60, .inl u.2.2.2.1)), (h0_hand, .inl (c0_hand, 13, .inl (upd (upd u.2.2.2.2 y9.toNatClampNeg y7) 0 y6)))]) [0, 1, 2, 3, 4] (by decide) rfl
                            have hK9 := hK.sub (tys' := [(c0_op, .int), (c0_argument, .int), (c0_inbox, .int), (c0_hand, .int)]) [0, 1, 2, 3] rfl
                            exact W.vret hx hb hr (fun t ht hW => ⟨⟨(u.1, u.2.1, u.2.2.1, u.2.2.2.1, (upd (upd u.2.2.2.2 y9.toNatClampNeg y7) 0 y6)), rfl, hw, by rw [ht]; exact hP9, va_K.moved hW.alike hK9, hD9⟩, hS.F ht⟩) hS.2.2 dMo_step_379
                          · first | exact absurd cc187 (by decide) | exact (cc187 (by decide)).elim
                      · have hw := hw.1 cc153
                        refine lv_aload_n hx hb dMo_step_217 rfl (lv_at hl 8 rfl) ?_
                        refine va_get (D := (dC, dI)) (ci := 8) (v := .ref h0_hand) (C := "StepCourtModel") (T := TMo) (N := 35) hx hb hq inMo hown hK hP 0 rfl rfl 11 (by decide) (hq _ wt_745) (fun _ h9 => h9) rfl dMo_step_218 ?_
                        refine lv_iconst (v := 1) hx hb dMo_step_221 (by decide) ?_
                        refine lv_aload_n hx hb dMo_step_222 rfl (lv_at hl 8 rfl) ?_
                        refine va_get (D := (dC, dI)) (ci := 8) (v := .ref h0_hand) (C := "StepCourtModel") (T := TMo) (N := 35) hx hb hq inMo hown hK hP 0 rfl rfl 11 (by decide) (hq _ wt_745) (fun _ h9 => h9) rfl dMo_step_223 ?_
                        refine lv_iload hx hb dMo_step_226 (lv_at hl 1 rfl) ?_
                        obtain ⟨hh188, hw⟩ := hw
                        refine va_iald hx hb hK hP 4 3 rfl rfl hh188 dMo_step_228 ?_
                        refine lv_topi (fun f189 ef189 => ?_)
                        have hw := hw f189 ef189
                        refine va_iast hx hb hK hP hD hS 4 3 rfl rfl (show ¬ ((1 : Int32) < 0 ∨ 13 ≤ (1 : Int32).toNatClampNeg) by decide) dMo_step_229 (fun H locs hP hD hS => ?_)
                        have hP : va_P (dC, dI) vwCl [(h0, ce_Mo h0_op h0_argument h0_balance h0_inbox h0_real h0_hand h0_payee h0_paid h0_drawn h0_challenger h0_low h0_high h0_agreed h0_disputed h0_posted h0_middle h0_deadline h0_running h0_node h0_side u.1), (h0_op, .inl (c0_op, 16, .inl u.2.1)), (h0_argument, .inl (c0_argument, 16, .inl u.2.2.1)), (h0_inbox, .inl (c0_inbox, 60, .inl u.2.2.2.1)), (h0_hand, .inl (c0_hand, 13, .inl (upd u.2.2.2.2 1 f189)))] H := hP
                        have hD : va_D A [(h0, ce_Mo h0_op h0_argument h0_balance h0_inbox h0_real h0_hand h0_payee h0_paid h0_drawn h0_challenger h0_low h0_high h0_agreed h0_disputed h0_posted h0_middle h0_deadline h0_running h0_node h0_side u.1), (h0_op, .inl (c0_op, 16, .inl u.2.1)), (h0_argument, .inl (c0_argument, 16, .inl u.2.2.1)), (h0_inbox, .inl (c0_inbox, 60, .inl u.2.2.2.1)), (h0_hand, .inl (c0_hand, 13, .inl (upd u.2.2.2.2 1 f189)))] := hD
                        refine lv_goto (tgt := 362) hx hb dMo_step_230 (by decide) ?_
                        refine lv_aload_n hx hb dMo_step_362 rfl (lv_at hl 8 rfl) ?_
                        refine va_get (D := (dC, dI)) (ci := 8) (v := .ref h0_hand) (C := "StepCourtModel") (T := TMo) (N := 35) hx hb hq inMo hown hK hP 0 rfl rfl 11 (by decide) (hq _ wt_745) (fun _ h9 => h9) rfl dMo_step_363 ?_
                        refine lv_iconst (v := 0) hx hb dMo_step_366 (by decide) ?_
                        refine lv_iload hx hb dMo_step_367 (lv_at hl 0 rfl) ?_
                        refine lv_if_eq (tgt := 376) hx hb dMo_step_369 (by decide) (fun cc190 => ?_) (fun cc190 => ?_)
                        · have hw := hw
                          refine lv_iload hx hb dMo_step_376 (lv_at hl 4 rfl) ?_
                          refine va_iast hx hb hK hP hD hS 4 3 rfl rfl (show ¬ ((0 : Int32) < 0 ∨ 13 ≤ (0 : Int32).toNatClampNeg) by decide) dMo_step_378 (fun H locs hP hD hS => ?_)
                          have hP : va_P (dC, dI) vwCl [(h0, ce_Mo h0_op h0_argument h0_balance h0_inbox h0_real h0_hand h0_payee h0_paid h0_drawn h0_challenger h0_low h0_high h0_agreed h0_disputed h0_posted h0_middle h0_deadline h0_running h0_node h0_side u.1), (h0_op, .inl (c0_op, 16, .inl u.2.1)), (h0_argument, .inl (c0_argument, 16, .inl u.2.2.1)), (h0_inbox, .inl (c0_inbox, 60, .inl u.2.2.2.1)), (h0_hand, .inl (c0_hand, 13, .inl (upd (upd u.2.2.2.2 1 f189) 0 y6)))] H := hP
                          have hD : va_D A [(h0, ce_Mo h0_op h0_argument h0_balance h0_inbox h0_real h0_hand h0_payee h0_paid h0_drawn h0_challenger h0_low h0_high h0_agreed h0_disputed h0_posted h0_middle h0_deadline h0_running h0_node h0_side u.1), (h0_op, .inl (c0_op, 16, .inl u.2.1)), (h0_argument, .inl (c0_argument, 16, .inl u.2.2.1)), (h0_inbox, .inl (c0_inbox, 60, .inl u.2.2.2.1)), (h0_hand, .inl (c0_hand, 13, .inl (upd (upd u.2.2.2.2 1 f189) 0 y6)))] := hD
                          have hP9 := hP.sub (ws' := [(h0, ce_Mo h0_op h0_argument h0_balance h0_inbox h0_real h0_hand h0_payee h0_paid h0_drawn h0_challenger h0_low h0_high h0_agreed h0_disputed h0_posted h0_middle h0_deadline h0_running h0_node h0_side u.1), (h0_op, .inl (c0_op, 16, .inl u.2.1)), (h0_argument, .inl (c0_argument, 16, .inl u.2.2.1)), (h0_inbox, .inl (c0_inbox, 60, .inl u.2.2.2.1)), (h0_hand, .inl (c0_hand, 13, .inl (upd (upd u.2.2.2.2 1 f189) 0 y6)))]) [0, 1, 2, 3, 4] rfl
                          have hD9 := hD.sub (ws' := [(h0, ce_Mo h0_op h0_argument h0_balance h0_inbox h0_real h0_hand h0_payee h0_paid h0_drawn h0_challenger h0_low h0_high h0_agreed h0_disputed h0_posted h0_middle h0_deadline h0_running h0_node h0_side u.1), (h0_op, .inl (c0_op, 16, .inl u.2.1)), (h0_argument, .inl (c0_argument, 16, .inl u.2.2.1)), (h0_inbox, .inl (c0_inbox, 60, .inl u.2.2.2.1)), (h0_hand, .inl (c0_hand, 13, .inl (upd (upd u.2.2.2.2 1 f189) 0 y6)))]) [0, 1, 2, 3, 4] (by decide) rfl
                          have hK9 := hK.sub (tys' := [(c0_op, .int), (c0_argument, .int), (c0_inbox, .int), (c0_hand, .int)]) [0, 1, 2, 3] rfl
                          exact W.vret hx hb hr (fun t ht hW => ⟨⟨(u.1, u.2.1, u.2.2.1, u.2.2.2.1, (upd (upd u.2.2.2.2 1 f189) 0 y6)), rfl, hw, by rw [ht]; exact hP9, va_K.moved hW.alike hK9, hD9⟩, hS.F ht⟩) hS.2.2 dMo_step_379
                        · first | exact absurd cc190 (by decide) | exact (cc190 (by decide)).elim
                    · have hw := hw.2 cc152
                      refine lv_aload_n hx hb dMo_step_171 rfl (lv_at hl 8 rfl) ?_
                      refine va_get (D := (dC, dI)) (ci := 8) (v := .ref h0_hand) (C := "StepCourtModel") (T := TMo) (N := 35) hx hb hq inMo hown hK hP 0 rfl rfl 11 (by decide) (hq _ wt_745) (fun _ h9 => h9) rfl dMo_step_172 ?_
                      refine lv_iconst (v := 1) hx hb dMo_step_175 (by decide) ?_
                      refine lv_iload_n hx hb dMo_step_176 rfl (lv_at hl 6 rfl) ?_
                      refine lv_iconst (v := 4) hx hb dMo_step_177 (by decide) ?_
                      refine lv_icmp_ne (tgt := 189) hx hb dMo_step_178 (by decide) (fun cc191 => ?_) (fun cc191 => ?_)
                      · have hw := hw.2 cc191
                        refine lv_iload_n hx hb dMo_step_189 rfl (lv_at hl 6 rfl) ?_
                        refine lv_iconst (v := 5) hx hb dMo_step_190 (by decide) ?_
                        refine lv_icmp_ne (tgt := 202) hx hb dMo_step_191 (by decide) (fun cc192 => ?_) (fun cc192 => ?_)
                        · have hw := hw.2 cc192
                          refine lv_iload hx hb dMo_step_202 (lv_at hl 3 rfl) ?_
                          refine lv_iload hx hb dMo_step_204 (lv_at hl 2 rfl) ?_
                          refine lv_imul hx hb dMo_step_206 ?_
                          refine lv_topi (fun f193 ef193 => ?_)
                          have hw := hw f193 ef193
                          refine va_iast hx hb hK hP hD hS 4 3 rfl rfl (show ¬ ((1 : Int32) < 0 ∨ 13 ≤ (1 : Int32).toNatClampNeg) by decide) dMo_step_207 (fun H locs hP hD hS => ?_)
                          have hP : va_P (dC, dI) vwCl [(h0, ce_Mo h0_op h0_argument h0_balance h0_inbox h0_real h0_hand h0_payee h0_paid h0_drawn h0_challenger h0_low h0_high h0_agreed h0_disputed h0_posted h0_middle h0_deadline h0_running h0_node h0_side u.1), (h0_op, .inl (c0_op, 16, .inl u.2.1)), (h0_argument, .inl (c0_argument, 16, .inl u.2.2.1)), (h0_inbox, .inl (c0_inbox, 60, .inl u.2.2.2.1)), (h0_hand, .inl (c0_hand, 13, .inl (upd u.2.2.2.2 1 f193)))] H := hP
                          have hD : va_D A [(h0, ce_Mo h0_op h0_argument h0_balance h0_inbox h0_real h0_hand h0_payee h0_paid h0_drawn h0_challenger h0_low h0_high h0_agreed h0_disputed h0_posted h0_middle h0_deadline h0_running h0_node h0_side u.1), (h0_op, .inl (c0_op, 16, .inl u.2.1)), (h0_argument, .inl (c0_argument, 16, .inl u.2.2.1)), (h0_inbox, .inl (c0_inbox, 60, .inl u.2.2.2.1)), (h0_hand, .inl (c0_hand, 13, .inl (upd u.2.2.2.2 1 f193)))] := hD
                          refine lv_goto (tgt := 362) hx hb dMo_step_208 (by decide) ?_
                          refine lv_aload_n hx hb dMo_step_362 rfl (lv_at hl 8 rfl) ?_
                          refine va_get (D := (dC, dI)) (ci := 8) (v := .ref h0_hand) (C := "StepCourtModel") (T := TMo) (N := 35) hx hb hq inMo hown hK hP 0 rfl rfl 11 (by decide) (hq _ wt_745) (fun _ h9 => h9) rfl dMo_step_363 ?_
                          refine lv_iconst (v := 0) hx hb dMo_step_366 (by decide) ?_
                          refine lv_iload hx hb dMo_step_367 (lv_at hl 0 rfl) ?_
                          refine lv_if_eq (tgt := 376) hx hb dMo_step_369 (by decide) (fun cc194 => ?_) (fun cc194 => ?_)
                          · have hw := hw
                            refine lv_iload hx hb dMo_step_376 (lv_at hl 4 rfl) ?_
                            refine va_iast hx hb hK hP hD hS 4 3 rfl rfl (show ¬ ((0 : Int32) < 0 ∨ 13 ≤ (0 : Int32).toNatClampNeg) by decide) dMo_step_378 (fun H locs hP hD hS => ?_)
                            have hP : va_P (dC, dI) vwCl [(h0, ce_Mo h0_op h0_argument h0_balance h0_inbox h0_real h0_hand h0_payee h0_paid h0_drawn h0_challenger h0_low h0_high h0_agreed h0_disputed h0_posted h0_middle h0_deadline h0_running h0_node h0_side u.1), (h0_op, .inl (c0_op, 16, .inl u.2.1)), (h0_argument, .inl (c0_argument, 16, .inl u.2.2.1)), (h0_inbox, .inl (c0_inbox, 60, .inl u.2.2.2.1)), (h0_hand, .inl (c0_hand, 13, .inl (upd (upd u.2.2.2.2 1 f193) 0 y6)))] H := hP
                            have hD : va_D A [(h0, ce_Mo h0_op h0_argument h0_balance h0_inbox h0_real h0_hand h0_payee h0_paid h0_drawn h0_challenger h0_low h0_high h0_agreed h0_disputed h0_posted h0_middle h0_deadline h0_running h0_node h0_side u.1), (h0_op, .inl (c0_op, 16, .inl u.2.1)), (h0_argument, .inl (c0_argument, 16, .inl u.2.2.1)), (h0_inbox, .inl (c0_inbox, 60, .inl u.2.2.2.1)), (h0_hand, .inl (c0_hand, 13, .inl (upd (upd u.2.2.2.2 1 f193) 0 y6)))] := hD
                            have hP9 := hP.sub (ws' := [(h0, ce_Mo h0_op h0_argument h0_balance h0_inbox h0_real h0_hand h0_payee h0_paid h0_drawn h0_challenger h0_low h0_high h0_agreed h0_disputed h0_posted h0_middle h0_deadline h0_running h0_node h0_side u.1), (h0_op, .inl (c0_op, 16, .inl u.2.1)), (h0_argument, .inl (c0_argument, 16, .inl u.2.2.1)), (h0_inbox, .inl (c0_inbox, 60, .inl u.2.2.2.1)), (h0_hand, .inl (c0_hand, 13, .inl (upd (upd u.2.2.2.2 1 f193) 0 y6)))]) [0, 1, 2, 3, 4] rfl
                            have hD9 := hD.sub (ws' := [(h0, ce_Mo h0_op h0_argument h0_balance h0_inbox h0_real h0_hand h0_payee h0_paid h0_drawn h0_challenger h0_low h0_high h0_agreed h0_disputed h0_posted h0_middle h0_deadline h0_running h0_node h0_side u.1), (h0_op, .inl (c0_op, 16, .inl u.2.1)), (h0_argument, .inl (c0_argument, 16, .inl u.2.2.1)), (h0_inbox, .inl (c0_inbox, 60, .inl u.2.2.2.1)), (h0_hand, .inl (c0_hand, 13, .inl (upd (upd u.2.2.2.2 1 f193) 0 y6)))]) [0, 1, 2, 3, 4] (by decide) rfl
                            have hK9 := hK.sub (tys' := [(c0_op, .int), (c0_argument, .int), (c0_inbox, .int), (c0_hand, .int)]) [0, 1, 2, 3] rfl
                            exact W.vret hx hb hr (fun t ht hW => ⟨⟨(u.1, u.2.1, u.2.2.1, u.2.2.2.1, (upd (upd u.2.2.2.2 1 f193) 0 y6)), rfl, hw, by rw [ht]; exact hP9, va_K.moved hW.alike hK9, hD9⟩, hS.F ht⟩) hS.2.2 dMo_step_379
                          · first | exact absurd cc194 (by decide) | exact (cc194 (by decide)).elim
                        · have hw := hw.1 cc192
                          refine lv_iload hx hb dMo_step_194 (lv_at hl 3 rfl) ?_
                          refine lv_iload hx hb dMo_step_196 (lv_at hl 2 rfl) ?_
                          refine lv_isub hx hb dMo_step_198 ?_
                          refine lv_goto (tgt := 207) hx hb dMo_step_199 (by decide) ?_
                          refine lv_topi (fun f195 ef195 => ?_)
                          have hw := hw f195 ef195
                          refine va_iast hx hb hK hP hD hS 4 3 rfl rfl (show ¬ ((1 : Int32) < 0 ∨ 13 ≤ (1 : Int32).toNatClampNeg) by decide) dMo_step_207 (fun H locs hP hD hS => ?_)
                          have hP : va_P (dC, dI) vwCl [(h0, ce_Mo h0_op h0_argument h0_balance h0_inbox h0_real h0_hand h0_payee h0_paid h0_drawn h0_challenger h0_low h0_high h0_agreed h0_disputed h0_posted h0_middle h0_deadline h0_running h0_node h0_side u.1), (h0_op, .inl (c0_op, 16, .inl u.2.1)), (h0_argument, .inl (c0_argument, 16, .inl u.2.2.1)), (h0_inbox, .inl (c0_inbox, 60, .inl u.2.2.2.1)), (h0_hand, .inl (c0_hand, 13, .inl (upd u.2.2.2.2 1 f195)))] H := hP
                          have hD : va_D A [(h0, ce_Mo h0_op h0_argument h0_balance h0_inbox h0_real h0_hand h0_payee h0_paid h0_drawn h0_challenger h0_low h0_high h0_agreed h0_disputed h0_posted h0_middle h0_deadline h0_running h0_node h0_side u.1), (h0_op, .inl (c0_op, 16, .inl u.2.1)), (h0_argument, .inl (c0_argument, 16, .inl u.2.2.1)), (h0_inbox, .inl (c0_inbox, 60, .inl u.2.2.2.1)), (h0_hand, .inl (c0_hand, 13, .inl (upd u.2.2.2.2 1 f195)))] := hD
                          refine lv_goto (tgt := 362) hx hb dMo_step_208 (by decide) ?_
                          refine lv_aload_n hx hb dMo_step_362 rfl (lv_at hl 8 rfl) ?_
                          refine va_get (D := (dC, dI)) (ci := 8) (v := .ref h0_hand) (C := "StepCourtModel") (T := TMo) (N := 35) hx hb hq inMo hown hK hP 0 rfl rfl 11 (by decide) (hq _ wt_745) (fun _ h9 => h9) rfl dMo_step_363 ?_
                          refine lv_iconst (v := 0) hx hb dMo_step_366 (by decide) ?_
                          refine lv_iload hx hb dMo_step_367 (lv_at hl 0 rfl) ?_
                          refine lv_if_eq (tgt := 376) hx hb dMo_step_369 (by decide) (fun cc196 => ?_) (fun cc196 => ?_)
                          · have hw := hw
                            refine lv_iload hx hb dMo_step_376 (lv_at hl 4 rfl) ?_
                            refine va_iast hx hb hK hP hD hS 4 3 rfl rfl (show ¬ ((0 : Int32) < 0 ∨ 13 ≤ (0 : Int32).toNatClampNeg) by decide) dMo_step_378 (fun H locs hP hD hS => ?_)
                            have hP : va_P (dC, dI) vwCl [(h0, ce_Mo h0_op h0_argument h0_balance h0_inbox h0_real h0_hand h0_payee h0_paid h0_drawn h0_challenger h0_low h0_high h0_agreed h0_disputed h0_posted h0_middle h0_deadline h0_running h0_node h0_side u.1), (h0_op, .inl (c0_op, 16, .inl u.2.1)), (h0_argument, .inl (c0_argument, 16, .inl u.2.2.1)), (h0_inbox, .inl (c0_inbox, 60, .inl u.2.2.2.1)), (h0_hand, .inl (c0_hand, 13, .inl (upd (upd u.2.2.2.2 1 f195) 0 y6)))] H := hP
                            have hD : va_D A [(h0, ce_Mo h0_op h0_argument h0_balance h0_inbox h0_real h0_hand h0_payee h0_paid h0_drawn h0_challenger h0_low h0_high h0_agreed h0_disputed h0_posted h0_middle h0_deadline h0_running h0_node h0_side u.1), (h0_op, .inl (c0_op, 16, .inl u.2.1)), (h0_argument, .inl (c0_argument, 16, .inl u.2.2.1)), (h0_inbox, .inl (c0_inbox, 60, .inl u.2.2.2.1)), (h0_hand, .inl (c0_hand, 13, .inl (upd (upd u.2.2.2.2 1 f195) 0 y6)))] := hD
                            have hP9 := hP.sub (ws' := [(h0, ce_Mo h0_op h0_argument h0_balance h0_inbox h0_real h0_hand h0_payee h0_paid h0_drawn h0_challenger h0_low h0_high h0_agreed h0_disputed h0_posted h0_middle h0_deadline h0_running h0_node h0_side u.1), (h0_op, .inl (c0_op, 16, .inl u.2.1)), (h0_argument, .inl (c0_argument, 16, .inl u.2.2.1)), (h0_inbox, .inl (c0_inbox, 60, .inl u.2.2.2.1)), (h0_hand, .inl (c0_hand, 13, .inl (upd (upd u.2.2.2.2 1 f195) 0 y6)))]) [0, 1, 2, 3, 4] rfl
                            have hD9 := hD.sub (ws' := [(h0, ce_Mo h0_op h0_argument h0_balance h0_inbox h0_real h0_hand h0_payee h0_paid h0_drawn h0_challenger h0_low h0_high h0_agreed h0_disputed h0_posted h0_middle h0_deadline h0_running h0_node h0_side u.1), (h0_op, .inl (c0_op, 16, .inl u.2.1)), (h0_argument, .inl (c0_argument, 16, .inl u.2.2.1)), (h0_inbox, .inl (c0_inbox, 60, .inl u.2.2.2.1)), (h0_hand, .inl (c0_hand, 13, .inl (upd (upd u.2.2.2.2 1 f195) 0 y6)))]) [0, 1, 2, 3, 4] (by decide) rfl
                            have hK9 := hK.sub (tys' := [(c0_op, .int), (c0_argument, .int), (c0_inbox, .int), (c0_hand, .int)]) [0, 1, 2, 3] rfl
                            exact W.vret hx hb hr (fun t ht hW => ⟨⟨(u.1, u.2.1, u.2.2.1, u.2.2.2.1, (upd (upd u.2.2.2.2 1 f195) 0 y6)), rfl, hw, by rw [ht]; exact hP9, va_K.moved hW.alike hK9, hD9⟩, hS.F ht⟩) hS.2.2 dMo_step_379
                          · first | exact absurd cc196 (by decide) | exact (cc196 (by decide)).elim
                      · have hw := hw.1 cc191
                        refine lv_iload hx hb dMo_step_181 (lv_at hl 3 rfl) ?_
                        refine lv_iload hx hb dMo_step_183 (lv_at hl 2 rfl) ?_
                        refine lv_iadd hx hb dMo_step_185 ?_
                        refine lv_goto (tgt := 207) hx hb dMo_step_186 (by decide) ?_
                        refine lv_topi (fun f197 ef197 => ?_)
                        have hw := hw f197 ef197
                        refine va_iast hx hb hK hP hD hS 4 3 rfl rfl (show ¬ ((1 : Int32) < 0 ∨ 13 ≤ (1 : Int32).toNatClampNeg) by decide) dMo_step_207 (fun H locs hP hD hS => ?_)
                        have hP : va_P (dC, dI) vwCl [(h0, ce_Mo h0_op h0_argument h0_balance h0_inbox h0_real h0_hand h0_payee h0_paid h0_drawn h0_challenger h0_low h0_high h0_agreed h0_disputed h0_posted h0_middle h0_deadline h0_running h0_node h0_side u.1), (h0_op, .inl (c0_op, 16, .inl u.2.1)), (h0_argument, .inl (c0_argument, 16, .inl u.2.2.1)), (h0_inbox, .inl (c0_inbox, 60, .inl u.2.2.2.1)), (h0_hand, .inl (c0_hand, 13, .inl (upd u.2.2.2.2 1 f197)))] H := hP
                        have hD : va_D A [(h0, ce_Mo h0_op h0_argument h0_balance h0_inbox h0_real h0_hand h0_payee h0_paid h0_drawn h0_challenger h0_low h0_high h0_agreed h0_disputed h0_posted h0_middle h0_deadline h0_running h0_node h0_side u.1), (h0_op, .inl (c0_op, 16, .inl u.2.1)), (h0_argument, .inl (c0_argument, 16, .inl u.2.2.1)), (h0_inbox, .inl (c0_inbox, 60, .inl u.2.2.2.1)), (h0_hand, .inl (c0_hand, 13, .inl (upd u.2.2.2.2 1 f197)))] := hD
                        refine lv_goto (tgt := 362) hx hb dMo_step_208 (by decide) ?_
                        refine lv_aload_n hx hb dMo_step_362 rfl (lv_at hl 8 rfl) ?_
                        refine va_get (D := (dC, dI)) (ci := 8) (v := .ref h0_hand) (C := "StepCourtModel") (T := TMo) (N := 35) hx hb hq inMo hown hK hP 0 rfl rfl 11 (by decide) (hq _ wt_745) (fun _ h9 => h9) rfl dMo_step_363 ?_
                        refine lv_iconst (v := 0) hx hb dMo_step_366 (by decide) ?_
                        refine lv_iload hx hb dMo_step_367 (lv_at hl 0 rfl) ?_
                        refine lv_if_eq (tgt := 376) hx hb dMo_step_369 (by decide) (fun cc198 => ?_) (fun cc198 => ?_)
                        · have hw := hw
                          refine lv_iload hx hb dMo_step_376 (lv_at hl 4 rfl) ?_
                          refine va_iast hx hb hK hP hD hS 4 3 rfl rfl (show ¬ ((0 : Int32) < 0 ∨ 13 ≤ (0 : Int32).toNatClampNeg) by decide) dMo_step_378 (fun H locs hP hD hS => ?_)
                          have hP : va_P (dC, dI) vwCl [(h0, ce_Mo h0_op h0_argument h0_balance h0_inbox h0_real h0_hand h0_payee h0_paid h0_drawn h0_challenger h0_low h0_high h0_agreed h0_disputed h0_posted h0_middle h0_deadline h0_running h0_node h0_side u.1), (h0_op, .inl (c0_op, 16, .inl u.2.1)), (h0_argument, .inl (c0_argument, 16, .inl u.2.2.1)), (h0_inbox, .inl (c0_inbox, 60, .inl u.2.2.2.1)), (h0_hand, .inl (c0_hand, 13, .inl (upd (upd u.2.2.2.2 1 f197) 0 y6)))] H := hP
                          have hD : va_D A [(h0, ce_Mo h0_op h0_argument h0_balance h0_inbox h0_real h0_hand h0_payee h0_paid h0_drawn h0_challenger h0_low h0_high h0_agreed h0_disputed h0_posted h0_middle h0_deadline h0_running h0_node h0_side u.1), (h0_op, .inl (c0_op, 16, .inl u.2.1)), (h0_argument, .inl (c0_argument, 16, .inl u.2.2.1)), (h0_inbox, .inl (c0_inbox, 60, .inl u.2.2.2.1)), (h0_hand, .inl (c0_hand, 13, .inl (upd (upd u.2.2.2.2 1 f197) 0 y6)))] := hD
                          have hP9 := hP.sub (ws' := [(h0, ce_Mo h0_op h0_argument h0_balance h0_inbox h0_real h0_hand h0_payee h0_paid h0_drawn h0_challenger h0_low h0_high h0_agreed h0_disputed h0_posted h0_middle h0_deadline h0_running h0_node h0_side u.1), (h0_op, .inl (c0_op, 16, .inl u.2.1)), (h0_argument, .inl (c0_argument, 16, .inl u.2.2.1)), (h0_inbox, .inl (c0_inbox, 60, .inl u.2.2.2.1)), (h0_hand, .inl (c0_hand, 13, .inl (upd (upd u.2.2.2.2 1 f197) 0 y6)))]) [0, 1, 2, 3, 4] rfl
                          have hD9 := hD.sub (ws' := [(h0, ce_Mo h0_op h0_argument h0_balance h0_inbox h0_real h0_hand h0_payee h0_paid h0_drawn h0_challenger h0_low h0_high h0_agreed h0_disputed h0_posted h0_middle h0_deadline h0_running h0_node h0_side u.1), (h0_op, .inl (c0_op, 16, .inl u.2.1)), (h0_argument, .inl (c0_argument, 16, .inl u.2.2.1)), (h0_inbox, .inl (c0_inbox, 60, .inl u.2.2.2.1)), (h0_hand, .inl (c0_hand, 13, .inl (upd (upd u.2.2.2.2 1 f197) 0 y6)))]) [0, 1, 2, 3, 4] (by decide) rfl
                          have hK9 := hK.sub (tys' := [(c0_op, .int), (c0_argument, .int), (c0_inbox, .int), (c0_hand, .int)]) [0, 1, 2, 3] rfl
                          exact W.vret hx hb hr (fun t ht hW => ⟨⟨(u.1, u.2.1, u.2.2.1, u.2.2.2.1, (upd (upd u.2.2.2.2 1 f197) 0 y6)), rfl, hw, by rw [ht]; exact hP9, va_K.moved hW.alike hK9, hD9⟩, hS.F ht⟩) hS.2.2 dMo_step_379
                        · first | exact absurd cc198 (by decide) | exact (cc198 (by decide)).elim
                · have hw := hw.1 cc112
                  refine lv_aload_n hx hb dMo_step_141 rfl (lv_at hl 8 rfl) ?_
                  refine va_get (D := (dC, dI)) (ci := 8) (v := .ref h0_hand) (C := "StepCourtModel") (T := TMo) (N := 35) hx hb hq inMo hown hK hP 0 rfl rfl 11 (by decide) (hq _ wt_745) (fun _ h9 => h9) rfl dMo_step_142 ?_
                  refine lv_iconst (v := 1) hx hb dMo_step_145 (by decide) ?_
                  refine lv_iload hx hb dMo_step_146 (lv_at hl 2 rfl) ?_
                  refine va_iast hx hb hK hP hD hS 4 3 rfl rfl (show ¬ ((1 : Int32) < 0 ∨ 13 ≤ (1 : Int32).toNatClampNeg) by decide) dMo_step_148 (fun H locs hP hD hS => ?_)
                  have hP : va_P (dC, dI) vwCl [(h0, ce_Mo h0_op h0_argument h0_balance h0_inbox h0_real h0_hand h0_payee h0_paid h0_drawn h0_challenger h0_low h0_high h0_agreed h0_disputed h0_posted h0_middle h0_deadline h0_running h0_node h0_side u.1), (h0_op, .inl (c0_op, 16, .inl u.2.1)), (h0_argument, .inl (c0_argument, 16, .inl u.2.2.1)), (h0_inbox, .inl (c0_inbox, 60, .inl u.2.2.2.1)), (h0_hand, .inl (c0_hand, 13, .inl (upd u.2.2.2.2 1 y8)))] H := hP
                  have hD : va_D A [(h0, ce_Mo h0_op h0_argument h0_balance h0_inbox h0_real h0_hand h0_payee h0_paid h0_drawn h0_challenger h0_low h0_high h0_agreed h0_disputed h0_posted h0_middle h0_deadline h0_running h0_node h0_side u.1), (h0_op, .inl (c0_op, 16, .inl u.2.1)), (h0_argument, .inl (c0_argument, 16, .inl u.2.2.1)), (h0_inbox, .inl (c0_inbox, 60, .inl u.2.2.2.1)), (h0_hand, .inl (c0_hand, 13, .inl (upd u.2.2.2.2 1 y8)))] := hD
                  refine lv_aload_n hx hb dMo_step_149 rfl (lv_at hl 8 rfl) ?_
                  refine va_get (D := (dC, dI)) (ci := 8) (v := .ref h0_hand) (C := "StepCourtModel") (T := TMo) (N := 35) hx hb hq inMo hown hK hP 0 rfl rfl 11 (by decide) (hq _ wt_745) (fun _ h9 => h9) rfl dMo_step_150 ?_
                  refine lv_iconst (v := 2) hx hb dMo_step_153 (by decide) ?_
                  refine lv_iload hx hb dMo_step_154 (lv_at hl 3 rfl) ?_
                  refine va_iast hx hb hK hP hD hS 4 3 rfl rfl (show ¬ ((2 : Int32) < 0 ∨ 13 ≤ (2 : Int32).toNatClampNeg) by decide) dMo_step_156 (fun H locs hP hD hS => ?_)
                  have hP : va_P (dC, dI) vwCl [(h0, ce_Mo h0_op h0_argument h0_balance h0_inbox h0_real h0_hand h0_payee h0_paid h0_drawn h0_challenger h0_low h0_high h0_agreed h0_disputed h0_posted h0_middle h0_deadline h0_running h0_node h0_side u.1), (h0_op, .inl (c0_op, 16, .inl u.2.1)), (h0_argument, .inl (c0_argument, 16, .inl u.2.2.1)), (h0_inbox, .inl (c0_inbox, 60, .inl u.2.2.2.1)), (h0_hand, .inl (c0_hand, 13, .inl (upd (upd u.2.2.2.2 1 y8) 2 y7)))] H := hP
                  have hD : va_D A [(h0, ce_Mo h0_op h0_argument h0_balance h0_inbox h0_real h0_hand h0_payee h0_paid h0_drawn h0_challenger h0_low h0_high h0_agreed h0_disputed h0_posted h0_middle h0_deadline h0_running h0_node h0_side u.1), (h0_op, .inl (c0_op, 16, .inl u.2.1)), (h0_argument, .inl (c0_argument, 16, .inl u.2.2.1)), (h0_inbox, .inl (c0_inbox, 60, .inl u.2.2.2.1)), (h0_hand, .inl (c0_hand, 13, .inl (upd (upd u.2.2.2.2 1 y8) 2 y7)))] := hD
                  refine lv_goto (tgt := 362) hx hb dMo_step_157 (by decide) ?_
                  refine lv_aload_n hx hb dMo_step_362 rfl (lv_at hl 8 rfl) ?_
                  refine va_get (D := (dC, dI)) (ci := 8) (v := .ref h0_hand) (C := "StepCourtModel") (T := TMo) (N := 35) hx hb hq inMo hown hK hP 0 rfl rfl 11 (by decide) (hq _ wt_745) (fun _ h9 => h9) rfl dMo_step_363 ?_
                  refine lv_iconst (v := 0) hx hb dMo_step_366 (by decide) ?_
                  refine lv_iload hx hb dMo_step_367 (lv_at hl 0 rfl) ?_
                  refine lv_if_eq (tgt := 376) hx hb dMo_step_369 (by decide) (fun cc199 => ?_) (fun cc199 => ?_)
                  · have hw := hw
                    refine lv_iload hx hb dMo_step_376 (lv_at hl 4 rfl) ?_
                    refine va_iast hx hb hK hP hD hS 4 3 rfl rfl (show ¬ ((0 : Int32) < 0 ∨ 13 ≤ (0 : Int32).toNatClampNeg) by decide) dMo_step_378 (fun H locs hP hD hS => ?_)
                    have hP : va_P (dC, dI) vwCl [(h0, ce_Mo h0_op h0_argument h0_balance h0_inbox h0_real h0_hand h0_payee h0_paid h0_drawn h0_challenger h0_low h0_high h0_agreed h0_disputed h0_posted h0_middle h0_deadline h0_running h0_node h0_side u.1), (h0_op, .inl (c0_op, 16, .inl u.2.1)), (h0_argument, .inl (c0_argument, 16, .inl u.2.2.1)), (h0_inbox, .inl (c0_inbox, 60, .inl u.2.2.2.1)), (h0_hand, .inl (c0_hand, 13, .inl (upd (upd (upd u.2.2.2.2 1 y8) 2 y7) 0 y6)))] H := hP
                    have hD : va_D A [(h0, ce_Mo h0_op h0_argument h0_balance h0_inbox h0_real h0_hand h0_payee h0_paid h0_drawn h0_challenger h0_low h0_high h0_agreed h0_disputed h0_posted h0_middle h0_deadline h0_running h0_node h0_side u.1), (h0_op, .inl (c0_op, 16, .inl u.2.1)), (h0_argument, .inl (c0_argument, 16, .inl u.2.2.1)), (h0_inbox, .inl (c0_inbox, 60, .inl u.2.2.2.1)), (h0_hand, .inl (c0_hand, 13, .inl (upd (upd (upd u.2.2.2.2 1 y8) 2 y7) 0 y6)))] := hD
                    have hP9 := hP.sub (ws' := [(h0, ce_Mo h0_op h0_argument h0_balance h0_inbox h0_real h0_hand h0_payee h0_paid h0_drawn h0_challenger h0_low h0_high h0_agreed h0_disputed h0_posted h0_middle h0_deadline h0_running h0_node h0_side u.1), (h0_op, .inl (c0_op, 16, .inl u.2.1)), (h0_argument, .inl (c0_argument, 16, .inl u.2.2.1)), (h0_inbox, .inl (c0_inbox, 60, .inl u.2.2.2.1)), (h0_hand, .inl (c0_hand, 13, .inl (upd (upd (upd u.2.2.2.2 1 y8) 2 y7) 0 y6)))]) [0, 1, 2, 3, 4] rfl
                    have hD9 := hD.sub (ws' := [(h0, ce_Mo h0_op h0_argument h0_balance h0_inbox h0_real h0_hand h0_payee h0_paid h0_drawn h0_challenger h0_low h0_high h0_agreed h0_disputed h0_posted h0_middle h0_deadline h0_running h0_node h0_side u.1), (h0_op, .inl (c0_op, 16, .inl u.2.1)), (h0_argument, .inl (c0_argument, 16, .inl u.2.2.1)), (h0_inbox, .inl (c0_inbox, 60, .inl u.2.2.2.1)), (h0_hand, .inl (c0_hand, 13, .inl (upd (upd (upd u.2.2.2.2 1 y8) 2 y7) 0 y6)))]) [0, 1, 2, 3, 4] (by decide) rfl
                    have hK9 := hK.sub (tys' := [(c0_op, .int), (c0_argument, .int), (c0_inbox, .int), (c0_hand, .int)]) [0, 1, 2, 3] rfl
                    exact W.vret hx hb hr (fun t ht hW => ⟨⟨(u.1, u.2.1, u.2.2.1, u.2.2.2.1, (upd (upd (upd u.2.2.2.2 1 y8) 2 y7) 0 y6)), rfl, hw, by rw [ht]; exact hP9, va_K.moved hW.alike hK9, hD9⟩, hS.F ht⟩) hS.2.2 dMo_step_379
                  · first | exact absurd cc199 (by decide) | exact (cc199 (by decide)).elim
              · have hw := hw.1 cc111
                refine lv_aload_n hx hb dMo_step_125 rfl (lv_at hl 8 rfl) ?_
                refine va_get (D := (dC, dI)) (ci := 8) (v := .ref h0_hand) (C := "StepCourtModel") (T := TMo) (N := 35) hx hb hq inMo hown hK hP 0 rfl rfl 11 (by decide) (hq _ wt_745) (fun _ h9 => h9) rfl dMo_step_126 ?_
                refine lv_iconst (v := 2) hx hb dMo_step_129 (by decide) ?_
                refine lv_iload hx hb dMo_step_130 (lv_at hl 5 rfl) ?_
                refine va_iast hx hb hK hP hD hS 4 3 rfl rfl (show ¬ ((2 : Int32) < 0 ∨ 13 ≤ (2 : Int32).toNatClampNeg) by decide) dMo_step_132 (fun H locs hP hD hS => ?_)
                have hP : va_P (dC, dI) vwCl [(h0, ce_Mo h0_op h0_argument h0_balance h0_inbox h0_real h0_hand h0_payee h0_paid h0_drawn h0_challenger h0_low h0_high h0_agreed h0_disputed h0_posted h0_middle h0_deadline h0_running h0_node h0_side u.1), (h0_op, .inl (c0_op, 16, .inl u.2.1)), (h0_argument, .inl (c0_argument, 16, .inl u.2.2.1)), (h0_inbox, .inl (c0_inbox, 60, .inl u.2.2.2.1)), (h0_hand, .inl (c0_hand, 13, .inl (upd u.2.2.2.2 2 y5)))] H := hP
                have hD : va_D A [(h0, ce_Mo h0_op h0_argument h0_balance h0_inbox h0_real h0_hand h0_payee h0_paid h0_drawn h0_challenger h0_low h0_high h0_agreed h0_disputed h0_posted h0_middle h0_deadline h0_running h0_node h0_side u.1), (h0_op, .inl (c0_op, 16, .inl u.2.1)), (h0_argument, .inl (c0_argument, 16, .inl u.2.2.1)), (h0_inbox, .inl (c0_inbox, 60, .inl u.2.2.2.1)), (h0_hand, .inl (c0_hand, 13, .inl (upd u.2.2.2.2 2 y5)))] := hD
                refine lv_goto (tgt := 362) hx hb dMo_step_133 (by decide) ?_
                refine lv_aload_n hx hb dMo_step_362 rfl (lv_at hl 8 rfl) ?_
                refine va_get (D := (dC, dI)) (ci := 8) (v := .ref h0_hand) (C := "StepCourtModel") (T := TMo) (N := 35) hx hb hq inMo hown hK hP 0 rfl rfl 11 (by decide) (hq _ wt_745) (fun _ h9 => h9) rfl dMo_step_363 ?_
                refine lv_iconst (v := 0) hx hb dMo_step_366 (by decide) ?_
                refine lv_iload hx hb dMo_step_367 (lv_at hl 0 rfl) ?_
                refine lv_if_eq (tgt := 376) hx hb dMo_step_369 (by decide) (fun cc200 => ?_) (fun cc200 => ?_)
                · have hw := hw
                  refine lv_iload hx hb dMo_step_376 (lv_at hl 4 rfl) ?_
                  refine va_iast hx hb hK hP hD hS 4 3 rfl rfl (show ¬ ((0 : Int32) < 0 ∨ 13 ≤ (0 : Int32).toNatClampNeg) by decide) dMo_step_378 (fun H locs hP hD hS => ?_)
                  have hP : va_P (dC, dI) vwCl [(h0, ce_Mo h0_op h0_argument h0_balance h0_inbox h0_real h0_hand h0_payee h0_paid h0_drawn h0_challenger h0_low h0_high h0_agreed h0_disputed h0_posted h0_middle h0_deadline h0_running h0_node h0_side u.1), (h0_op, .inl (c0_op, 16, .inl u.2.1)), (h0_argument, .inl (c0_argument, 16, .inl u.2.2.1)), (h0_inbox, .inl (c0_inbox, 60, .inl u.2.2.2.1)), (h0_hand, .inl (c0_hand, 13, .inl (upd (upd u.2.2.2.2 2 y5) 0 y6)))] H := hP
                  have hD : va_D A [(h0, ce_Mo h0_op h0_argument h0_balance h0_inbox h0_real h0_hand h0_payee h0_paid h0_drawn h0_challenger h0_low h0_high h0_agreed h0_disputed h0_posted h0_middle h0_deadline h0_running h0_node h0_side u.1), (h0_op, .inl (c0_op, 16, .inl u.2.1)), (h0_argument, .inl (c0_argument, 16, .inl u.2.2.1)), (h0_inbox, .inl (c0_inbox, 60, .inl u.2.2.2.1)), (h0_hand, .inl (c0_hand, 13, .inl (upd (upd u.2.2.2.2 2 y5) 0 y6)))] := hD
                  have hP9 := hP.sub (ws' := [(h0, ce_Mo h0_op h0_argument h0_balance h0_inbox h0_real h0_hand h0_payee h0_paid h0_drawn h0_challenger h0_low h0_high h0_agreed h0_disputed h0_posted h0_middle h0_deadline h0_running h0_node h0_side u.1), (h0_op, .inl (c0_op, 16, .inl u.2.1)), (h0_argument, .inl (c0_argument, 16, .inl u.2.2.1)), (h0_inbox, .inl (c0_inbox, 60, .inl u.2.2.2.1)), (h0_hand, .inl (c0_hand, 13, .inl (upd (upd u.2.2.2.2 2 y5) 0 y6)))]) [0, 1, 2, 3, 4] rfl
                  have hD9 := hD.sub (ws' := [(h0, ce_Mo h0_op h0_argument h0_balance h0_inbox h0_real h0_hand h0_payee h0_paid h0_drawn h0_challenger h0_low h0_high h0_agreed h0_disputed h0_posted h0_middle h0_deadline h0_running h0_node h0_side u.1), (h0_op, .inl (c0_op, 16, .inl u.2.1)), (h0_argument, .inl (c0_argument, 16, .inl u.2.2.1)), (h0_inbox, .inl (c0_inbox, 60, .inl u.2.2.2.1)), (h0_hand, .inl (c0_hand, 13, .inl (upd (upd u.2.2.2.2 2 y5) 0 y6)))]) [0, 1, 2, 3, 4] (by decide) rfl
                  have hK9 := hK.sub (tys' := [(c0_op, .int), (c0_argument, .int), (c0_inbox, .int), (c0_hand, .int)]) [0, 1, 2, 3] rfl
                  exact W.vret hx hb hr (fun t ht hW => ⟨⟨(u.1, u.2.1, u.2.2.1, u.2.2.2.1, (upd (upd u.2.2.2.2 2 y5) 0 y6)), rfl, hw, by rw [ht]; exact hP9, va_K.moved hW.alike hK9, hD9⟩, hS.F ht⟩) hS.2.2 dMo_step_379
                · first | exact absurd cc200 (by decide) | exact (cc200 (by decide)).elim
            · have hw := hw.1 cc110
              refine lv_aload_n hx hb dMo_step_109 rfl (lv_at hl 8 rfl) ?_
              refine va_get (D := (dC, dI)) (ci := 8) (v := .ref h0_hand) (C := "StepCourtModel") (T := TMo) (N := 35) hx hb hq inMo hown hK hP 0 rfl rfl 11 (by decide) (hq _ wt_745) (fun _ h9 => h9) rfl dMo_step_110 ?_
              refine lv_iconst (v := 1) hx hb dMo_step_113 (by decide) ?_
              refine lv_iload hx hb dMo_step_114 (lv_at hl 5 rfl) ?_
              refine va_iast hx hb hK hP hD hS 4 3 rfl rfl (show ¬ ((1 : Int32) < 0 ∨ 13 ≤ (1 : Int32).toNatClampNeg) by decide) dMo_step_116 (fun H locs hP hD hS => ?_)
              have hP : va_P (dC, dI) vwCl [(h0, ce_Mo h0_op h0_argument h0_balance h0_inbox h0_real h0_hand h0_payee h0_paid h0_drawn h0_challenger h0_low h0_high h0_agreed h0_disputed h0_posted h0_middle h0_deadline h0_running h0_node h0_side u.1), (h0_op, .inl (c0_op, 16, .inl u.2.1)), (h0_argument, .inl (c0_argument, 16, .inl u.2.2.1)), (h0_inbox, .inl (c0_inbox, 60, .inl u.2.2.2.1)), (h0_hand, .inl (c0_hand, 13, .inl (upd u.2.2.2.2 1 y5)))] H := hP
              have hD : va_D A [(h0, ce_Mo h0_op h0_argument h0_balance h0_inbox h0_real h0_hand h0_payee h0_paid h0_drawn h0_challenger h0_low h0_high h0_agreed h0_disputed h0_posted h0_middle h0_deadline h0_running h0_node h0_side u.1), (h0_op, .inl (c0_op, 16, .inl u.2.1)), (h0_argument, .inl (c0_argument, 16, .inl u.2.2.1)), (h0_inbox, .inl (c0_inbox, 60, .inl u.2.2.2.1)), (h0_hand, .inl (c0_hand, 13, .inl (upd u.2.2.2.2 1 y5)))] := hD
              refine lv_goto (tgt := 362) hx hb dMo_step_117 (by decide) ?_
              refine lv_aload_n hx hb dMo_step_362 rfl (lv_at hl 8 rfl) ?_
              refine va_get (D := (dC, dI)) (ci := 8) (v := .ref h0_hand) (C := "StepCourtModel") (T := TMo) (N := 35) hx hb hq inMo hown hK hP 0 rfl rfl 11 (by decide) (hq _ wt_745) (fun _ h9 => h9) rfl dMo_step_363 ?_
              refine lv_iconst (v := 0) hx hb dMo_step_366 (by decide) ?_
              refine lv_iload hx hb dMo_step_367 (lv_at hl 0 rfl) ?_
              refine lv_if_eq (tgt := 376) hx hb dMo_step_369 (by decide) (fun cc201 => ?_) (fun cc201 => ?_)
              · have hw := hw
                refine lv_iload hx hb dMo_step_376 (lv_at hl 4 rfl) ?_
                refine va_iast hx hb hK hP hD hS 4 3 rfl rfl (show ¬ ((0 : Int32) < 0 ∨ 13 ≤ (0 : Int32).toNatClampNeg) by decide) dMo_step_378 (fun H locs hP hD hS => ?_)
                have hP : va_P (dC, dI) vwCl [(h0, ce_Mo h0_op h0_argument h0_balance h0_inbox h0_real h0_hand h0_payee h0_paid h0_drawn h0_challenger h0_low h0_high h0_agreed h0_disputed h0_posted h0_middle h0_deadline h0_running h0_node h0_side u.1), (h0_op, .inl (c0_op, 16, .inl u.2.1)), (h0_argument, .inl (c0_argument, 16, .inl u.2.2.1)), (h0_inbox, .inl (c0_inbox, 60, .inl u.2.2.2.1)), (h0_hand, .inl (c0_hand, 13, .inl (upd (upd u.2.2.2.2 1 y5) 0 y6)))] H := hP
                have hD : va_D A [(h0, ce_Mo h0_op h0_argument h0_balance h0_inbox h0_real h0_hand h0_payee h0_paid h0_drawn h0_challenger h0_low h0_high h0_agreed h0_disputed h0_posted h0_middle h0_deadline h0_running h0_node h0_side u.1), (h0_op, .inl (c0_op, 16, .inl u.2.1)), (h0_argument, .inl (c0_argument, 16, .inl u.2.2.1)), (h0_inbox, .inl (c0_inbox, 60, .inl u.2.2.2.1)), (h0_hand, .inl (c0_hand, 13, .inl (upd (upd u.2.2.2.2 1 y5) 0 y6)))] := hD
                have hP9 := hP.sub (ws' := [(h0, ce_Mo h0_op h0_argument h0_balance h0_inbox h0_real h0_hand h0_payee h0_paid h0_drawn h0_challenger h0_low h0_high h0_agreed h0_disputed h0_posted h0_middle h0_deadline h0_running h0_node h0_side u.1), (h0_op, .inl (c0_op, 16, .inl u.2.1)), (h0_argument, .inl (c0_argument, 16, .inl u.2.2.1)), (h0_inbox, .inl (c0_inbox, 60, .inl u.2.2.2.1)), (h0_hand, .inl (c0_hand, 13, .inl (upd (upd u.2.2.2.2 1 y5) 0 y6)))]) [0, 1, 2, 3, 4] rfl
                have hD9 := hD.sub (ws' := [(h0, ce_Mo h0_op h0_argument h0_balance h0_inbox h0_real h0_hand h0_payee h0_paid h0_drawn h0_challenger h0_low h0_high h0_agreed h0_disputed h0_posted h0_middle h0_deadline h0_running h0_node h0_side u.1), (h0_op, .inl (c0_op, 16, .inl u.2.1)), (h0_argument, .inl (c0_argument, 16, .inl u.2.2.1)), (h0_inbox, .inl (c0_inbox, 60, .inl u.2.2.2.1)), (h0_hand, .inl (c0_hand, 13, .inl (upd (upd u.2.2.2.2 1 y5) 0 y6)))]) [0, 1, 2, 3, 4] (by decide) rfl
                have hK9 := hK.sub (tys' := [(c0_op, .int), (c0_argument, .int), (c0_inbox, .int), (c0_hand, .int)]) [0, 1, 2, 3] rfl
                exact W.vret hx hb hr (fun t ht hW => ⟨⟨(u.1, u.2.1, u.2.2.1, u.2.2.2.1, (upd (upd u.2.2.2.2 1 y5) 0 y6)), rfl, hw, by rw [ht]; exact hP9, va_K.moved hW.alike hK9, hD9⟩, hS.F ht⟩) hS.2.2 dMo_step_379
              · first | exact absurd cc201 (by decide) | exact (cc201 (by decide)).elim
        · have hw := hw.1 cc108
          refine lv_iconst (v := 1) hx hb dMo_step_92 (by decide) ?_
          refine lv_goto (tgt := 97) hx hb dMo_step_93 (by decide) ?_
          refine lv_istore (lv' := [(9, .int 1), (8, .int y9), (7, .int y8), (6, .int y7), (5, .int y6), (4, .int y5), (3, .int y3), (2, .int y1), (0, .ref h0), (1, .int k1)]) hx hb dMo_step_97 hl (by decide) rfl (fun ls hl => ?_)
          refine lv_iload hx hb dMo_step_99 (lv_at hl 0 rfl) ?_
          refine lv_if_ne (tgt := 362) hx hb dMo_step_101 (by decide) (fun cc202 => ?_) (fun cc202 => ?_)
          · have hw := hw
            refine lv_aload_n hx hb dMo_step_362 rfl (lv_at hl 8 rfl) ?_
            refine va_get (D := (dC, dI)) (ci := 8) (v := .ref h0_hand) (C := "StepCourtModel") (T := TMo) (N := 35) hx hb hq inMo hown hK hP 0 rfl rfl 11 (by decide) (hq _ wt_745) (fun _ h9 => h9) rfl dMo_step_363 ?_
            refine lv_iconst (v := 0) hx hb dMo_step_366 (by decide) ?_
            refine lv_iload hx hb dMo_step_367 (lv_at hl 0 rfl) ?_
            refine lv_if_eq (tgt := 376) hx hb dMo_step_369 (by decide) (fun cc203 => ?_) (fun cc203 => ?_)
            · first | exact absurd cc203 (by decide) | exact (cc203 (by decide)).elim
            · have hw := hw
              refine lv_iload_n hx hb dMo_step_372 rfl (lv_at hl 7 rfl) ?_
              refine lv_goto (tgt := 378) hx hb dMo_step_373 (by decide) ?_
              refine va_iast hx hb hK hP hD hS 4 3 rfl rfl (show ¬ ((0 : Int32) < 0 ∨ 13 ≤ (0 : Int32).toNatClampNeg) by decide) dMo_step_378 (fun H locs hP hD hS => ?_)
              have hP : va_P (dC, dI) vwCl [(h0, ce_Mo h0_op h0_argument h0_balance h0_inbox h0_real h0_hand h0_payee h0_paid h0_drawn h0_challenger h0_low h0_high h0_agreed h0_disputed h0_posted h0_middle h0_deadline h0_running h0_node h0_side u.1), (h0_op, .inl (c0_op, 16, .inl u.2.1)), (h0_argument, .inl (c0_argument, 16, .inl u.2.2.1)), (h0_inbox, .inl (c0_inbox, 60, .inl u.2.2.2.1)), (h0_hand, .inl (c0_hand, 13, .inl (upd u.2.2.2.2 0 y1)))] H := hP
              have hD : va_D A [(h0, ce_Mo h0_op h0_argument h0_balance h0_inbox h0_real h0_hand h0_payee h0_paid h0_drawn h0_challenger h0_low h0_high h0_agreed h0_disputed h0_posted h0_middle h0_deadline h0_running h0_node h0_side u.1), (h0_op, .inl (c0_op, 16, .inl u.2.1)), (h0_argument, .inl (c0_argument, 16, .inl u.2.2.1)), (h0_inbox, .inl (c0_inbox, 60, .inl u.2.2.2.1)), (h0_hand, .inl (c0_hand, 13, .inl (upd u.2.2.2.2 0 y1)))] := hD
              have hP9 := hP.sub (ws' := [(h0, ce_Mo h0_op h0_argument h0_balance h0_inbox h0_real h0_hand h0_payee h0_paid h0_drawn h0_challenger h0_low h0_high h0_agreed h0_disputed h0_posted h0_middle h0_deadline h0_running h0_node h0_side u.1), (h0_op, .inl (c0_op, 16, .inl u.2.1)), (h0_argument, .inl (c0_argument, 16, .inl u.2.2.1)), (h0_inbox, .inl (c0_inbox, 60, .inl u.2.2.2.1)), (h0_hand, .inl (c0_hand, 13, .inl (upd u.2.2.2.2 0 y1)))]) [0, 1, 2, 3, 4] rfl
              have hD9 := hD.sub (ws' := [(h0, ce_Mo h0_op h0_argument h0_balance h0_inbox h0_real h0_hand h0_payee h0_paid h0_drawn h0_challenger h0_low h0_high h0_agreed h0_disputed h0_posted h0_middle h0_deadline h0_running h0_node h0_side u.1), (h0_op, .inl (c0_op, 16, .inl u.2.1)), (h0_argument, .inl (c0_argument, 16, .inl u.2.2.1)), (h0_inbox, .inl (c0_inbox, 60, .inl u.2.2.2.1)), (h0_hand, .inl (c0_hand, 13, .inl (upd u.2.2.2.2 0 y1)))]) [0, 1, 2, 3, 4] (by decide) rfl
              have hK9 := hK.sub (tys' := [(c0_op, .int), (c0_argument, .int), (c0_inbox, .int), (c0_hand, .int)]) [0, 1, 2, 3] rfl
              exact W.vret hx hb hr (fun t ht hW => ⟨⟨(u.1, u.2.1, u.2.2.1, u.2.2.2.1, (upd u.2.2.2.2 0 y1)), rfl, hw, by rw [ht]; exact hP9, va_K.moved hW.alike hK9, hD9⟩, hS.F ht⟩) hS.2.2 dMo_step_379
          · first | exact absurd cc202 (by decide) | exact (cc202 (by decide)).elim
    · have hw := hw.1 cc13
      refine lv_aload_n hx hb dMo_step_65 rfl (lv_at hl 7 rfl) ?_
      refine va_get (D := (dC, dI)) (ci := 8) (v := .ref h0_hand) (C := "StepCourtModel") (T := TMo) (N := 35) hx hb hq inMo hown hK hP 0 rfl rfl 11 (by decide) (hq _ wt_745) (fun _ h9 => h9) rfl dMo_step_66 ?_
      refine lv_iconst (v := 3) hx hb dMo_step_69 (by decide) ?_
      refine va_iald hx hb hK hP 4 3 rfl rfl (show ¬ ((3 : Int32) < 0 ∨ 13 ≤ (3 : Int32).toNatClampNeg) by decide) dMo_step_70 ?_
      refine W.eq (g2 := F0 m 71 ls [.int (u.2.2.2.2 3)]) rfl ?_
      refine lv_iload_n hx hb dMo_step_71 rfl (lv_at hl 8 rfl) ?_
      refine lv_icmp_ge (tgt := 92) hx hb dMo_step_72 (by decide) (fun cc204 => ?_) (fun cc204 => ?_)
      · have hw := hw.1 cc204
        refine lv_iconst (v := 1) hx hb dMo_step_92 (by decide) ?_
        refine lv_goto (tgt := 97) hx hb dMo_step_93 (by decide) ?_
        refine lv_istore (lv' := [(9, .int 1), (8, .int y9), (7, .int y8), (6, .int y7), (5, .int y6), (4, .int y5), (3, .int y3), (2, .int y1), (0, .ref h0), (1, .int k1)]) hx hb dMo_step_97 hl (by decide) rfl (fun ls hl => ?_)
        refine lv_iload hx hb dMo_step_99 (lv_at hl 0 rfl) ?_
        refine lv_if_ne (tgt := 362) hx hb dMo_step_101 (by decide) (fun cc205 => ?_) (fun cc205 => ?_)
        · have hw := hw
          refine lv_aload_n hx hb dMo_step_362 rfl (lv_at hl 8 rfl) ?_
          refine va_get (D := (dC, dI)) (ci := 8) (v := .ref h0_hand) (C := "StepCourtModel") (T := TMo) (N := 35) hx hb hq inMo hown hK hP 0 rfl rfl 11 (by decide) (hq _ wt_745) (fun _ h9 => h9) rfl dMo_step_363 ?_
          refine lv_iconst (v := 0) hx hb dMo_step_366 (by decide) ?_
          refine lv_iload hx hb dMo_step_367 (lv_at hl 0 rfl) ?_
          refine lv_if_eq (tgt := 376) hx hb dMo_step_369 (by decide) (fun cc206 => ?_) (fun cc206 => ?_)
          · first | exact absurd cc206 (by decide) | exact (cc206 (by decide)).elim
          · have hw := hw
            refine lv_iload_n hx hb dMo_step_372 rfl (lv_at hl 7 rfl) ?_
            refine lv_goto (tgt := 378) hx hb dMo_step_373 (by decide) ?_
            refine va_iast hx hb hK hP hD hS 4 3 rfl rfl (show ¬ ((0 : Int32) < 0 ∨ 13 ≤ (0 : Int32).toNatClampNeg) by decide) dMo_step_378 (fun H locs hP hD hS => ?_)
            have hP : va_P (dC, dI) vwCl [(h0, ce_Mo h0_op h0_argument h0_balance h0_inbox h0_real h0_hand h0_payee h0_paid h0_drawn h0_challenger h0_low h0_high h0_agreed h0_disputed h0_posted h0_middle h0_deadline h0_running h0_node h0_side u.1), (h0_op, .inl (c0_op, 16, .inl u.2.1)), (h0_argument, .inl (c0_argument, 16, .inl u.2.2.1)), (h0_inbox, .inl (c0_inbox, 60, .inl u.2.2.2.1)), (h0_hand, .inl (c0_hand, 13, .inl (upd u.2.2.2.2 0 y1)))] H := hP
            have hD : va_D A [(h0, ce_Mo h0_op h0_argument h0_balance h0_inbox h0_real h0_hand h0_payee h0_paid h0_drawn h0_challenger h0_low h0_high h0_agreed h0_disputed h0_posted h0_middle h0_deadline h0_running h0_node h0_side u.1), (h0_op, .inl (c0_op, 16, .inl u.2.1)), (h0_argument, .inl (c0_argument, 16, .inl u.2.2.1)), (h0_inbox, .inl (c0_inbox, 60, .inl u.2.2.2.1)), (h0_hand, .inl (c0_hand, 13, .inl (upd u.2.2.2.2 0 y1)))] := hD
            have hP9 := hP.sub (ws' := [(h0, ce_Mo h0_op h0_argument h0_balance h0_inbox h0_real h0_hand h0_payee h0_paid h0_drawn h0_challenger h0_low h0_high h0_agreed h0_disputed h0_posted h0_middle h0_deadline h0_running h0_node h0_side u.1), (h0_op, .inl (c0_op, 16, .inl u.2.1)), (h0_argument, .inl (c0_argument, 16, .inl u.2.2.1)), (h0_inbox, .inl (c0_inbox, 60, .inl u.2.2.2.1)), (h0_hand, .inl (c0_hand, 13, .inl (upd u.2.2.2.2 0 y1)))]) [0, 1, 2, 3, 4] rfl
            have hD9 := hD.sub (ws' := [(h0, ce_Mo h0_op h0_argument h0_balance h0_inbox h0_real h0_hand h0_payee h0_paid h0_drawn h0_challenger h0_low h0_high h0_agreed h0_disputed h0_posted h0_middle h0_deadline h0_running h0_node h0_side u.1), (h0_op, .inl (c0_op, 16, .inl u.2.1)), (h0_argument, .inl (c0_argument, 16, .inl u.2.2.1)), (h0_inbox, .inl (c0_inbox, 60, .inl u.2.2.2.1)), (h0_hand, .inl (c0_hand, 13, .inl (upd u.2.2.2.2 0 y1)))]) [0, 1, 2, 3, 4] (by decide) rfl
            have hK9 := hK.sub (tys' := [(c0_op, .int), (c0_argument, .int), (c0_inbox, .int), (c0_hand, .int)]) [0, 1, 2, 3] rfl
            exact W.vret hx hb hr (fun t ht hW => ⟨⟨(u.1, u.2.1, u.2.2.1, u.2.2.2.1, (upd u.2.2.2.2 0 y1)), rfl, hw, by rw [ht]; exact hP9, va_K.moved hW.alike hK9, hD9⟩, hS.F ht⟩) hS.2.2 dMo_step_379
        · first | exact absurd cc205 (by decide) | exact (cc205 (by decide)).elim
      · have hw := hw.2 cc204
        refine lv_iload_n hx hb dMo_step_75 rfl (lv_at hl 5 rfl) ?_
        refine lv_bipush (v := 13) hx hb dMo_step_76 (by decide) ?_
        refine lv_icmp_ne (tgt := 96) hx hb dMo_step_78 (by decide) (fun cc207 => ?_) (fun cc207 => ?_)
        · have hw := hw.2 cc207
          refine lv_iconst (v := 0) hx hb dMo_step_96 (by decide) ?_
          refine lv_istore (lv' := [(9, .int 0), (8, .int y9), (7, .int y8), (6, .int y7), (5, .int y6), (4, .int y5), (3, .int y3), (2, .int y1), (0, .ref h0), (1, .int k1)]) hx hb dMo_step_97 hl (by decide) rfl (fun ls hl => ?_)
          refine lv_iload hx hb dMo_step_99 (lv_at hl 0 rfl) ?_
          refine lv_if_ne (tgt := 362) hx hb dMo_step_101 (by decide) (fun cc208 => ?_) (fun cc208 => ?_)
          · first | exact absurd cc208 (by decide) | exact (cc208 (by decide)).elim
          · have hw := hw
            refine lv_iload_n hx hb dMo_step_104 rfl (lv_at hl 6 rfl) ?_
            refine lv_iconst (v := 1) hx hb dMo_step_105 (by decide) ?_
            refine lv_icmp_ne (tgt := 120) hx hb dMo_step_106 (by decide) (fun cc209 => ?_) (fun cc209 => ?_)
            · have hw := hw.2 cc209
              refine lv_iload_n hx hb dMo_step_120 rfl (lv_at hl 6 rfl) ?_
              refine lv_iconst (v := 2) hx hb dMo_step_121 (by decide) ?_
              refine lv_icmp_ne (tgt := 136) hx hb dMo_step_122 (by decide) (fun cc210 => ?_) (fun cc210 => ?_)
              · have hw := hw.2 cc210
                refine lv_iload_n hx hb dMo_step_136 rfl (lv_at hl 6 rfl) ?_
                refine lv_iconst (v := 3) hx hb dMo_step_137 (by decide) ?_
                refine lv_icmp_ne (tgt := 160) hx hb dMo_step_138 (by decide) (fun cc211 => ?_) (fun cc211 => ?_)
                · have hw := hw.2 cc211
                  refine lv_iload_n hx hb dMo_step_160 rfl (lv_at hl 6 rfl) ?_
                  refine lv_iconst (v := 4) hx hb dMo_step_161 (by decide) ?_
                  refine lv_icmp_lt (tgt := 211) hx hb dMo_step_162 (by decide) (fun cc212 => ?_) (fun cc212 => ?_)
                  · have hw := hw.1 cc212
                    refine lv_iload_n hx hb dMo_step_211 rfl (lv_at hl 6 rfl) ?_
                    refine lv_bipush (v := 7) hx hb dMo_step_212 (by decide) ?_
                    refine lv_icmp_ne (tgt := 233) hx hb dMo_step_214 (by decide) (fun cc213 => ?_) (fun cc213 => ?_)
                    · have hw := hw.2 cc213
                      refine lv_iload_n hx hb dMo_step_233 rfl (lv_at hl 6 rfl) ?_
                      refine lv_bipush (v := 8) hx hb dMo_step_234 (by decide) ?_
                      refine lv_icmp_ne (tgt := 251) hx hb dMo_step_236 (by decide) (fun cc214 => ?_) (fun cc214 => ?_)
                      · have hw := hw.2 cc214
                        refine lv_iload_n hx hb dMo_step_251 rfl (lv_at hl 6 rfl) ?_
                        refine lv_bipush (v := 9) hx hb dMo_step_252 (by decide) ?_
                        refine lv_icmp_ne (tgt := 286) hx hb dMo_step_254 (by decide) (fun cc215 => ?_) (fun cc215 => ?_)
                        · have hw := hw.2 cc215
                          refine lv_iload_n hx hb dMo_step_286 rfl (lv_at hl 6 rfl) ?_
                          refine lv_bipush (v := 13) hx hb dMo_step_287 (by decide) ?_
                          refine lv_icmp_ne (tgt := 327) hx hb dMo_step_289 (by decide) (fun cc216 => ?_) (fun cc216 => ?_)
                          · have hw := hw.2 cc216
                            refine lv_iload_n hx hb dMo_step_327 rfl (lv_at hl 6 rfl) ?_
                            refine lv_bipush (v := 10) hx hb dMo_step_328 (by decide) ?_
                            refine lv_icmp_eq (tgt := 355) hx hb dMo_step_330 (by decide) (fun cc217 => ?_) (fun cc217 => ?_)
                            · have hw := hw.1 cc217
                              refine lv_iload hx hb dMo_step_355 (lv_at hl 5 rfl) ?_
                              refine lv_bipush (v := 15) hx hb dMo_step_357 (by decide) ?_
                              refine lv_iand hx hb dMo_step_359 ?_
                              refine lv_topi (fun y218 ey218 => ?_)
                              have hw := hw y218 ey218
                              refine lv_istore (lv' := [(5, .int y218), (9, .int 0), (8, .int y9), (7, .int y8), (6, .int y7), (4, .int y5), (3, .int y3), (2, .int y1), (0, .ref h0), (1, .int k1)]) hx hb dMo_step_360 hl (by decide) rfl (fun ls hl => ?_)
                              refine lv_aload_n hx hb dMo_step_362 rfl (lv_at hl 8 rfl) ?_
                              refine va_get (D := (dC, dI)) (ci := 8) (v := .ref h0_hand) (C := "StepCourtModel") (T := TMo) (N := 35) hx hb hq inMo hown hK hP 0 rfl rfl 11 (by decide) (hq _ wt_745) (fun _ h9 => h9) rfl dMo_step_363 ?_
                              refine lv_iconst (v := 0) hx hb dMo_step_366 (by decide) ?_
                              refine lv_iload hx hb dMo_step_367 (lv_at hl 1 rfl) ?_
                              refine lv_if_eq (tgt := 376) hx hb dMo_step_369 (by decide) (fun cc219 => ?_) (fun cc219 => ?_)
                              · have hw := hw
                                refine lv_iload hx hb dMo_step_376 (lv_at hl 0 rfl) ?_
                                refine va_iast hx hb hK hP hD hS 4 3 rfl rfl (show ¬ ((0 : Int32) < 0 ∨ 13 ≤ (0 : Int32).toNatClampNeg) by decide) dMo_step_378 (fun H locs hP hD hS => ?_)
                                have hP : va_P (dC, dI) vwCl [(h0, ce_Mo h0_op h0_argument h0_balance h0_inbox h0_real h0_hand h0_payee h0_paid h0_drawn h0_challenger h0_low h0_high h0_agreed h0_disputed h0_posted h0_middle h0_deadline h0_running h0_node h0_side u.1), (h0_op, .inl (c0_op, 16, .inl u.2.1)), (h0_argument, .inl (c0_argument, 16, .inl u.2.2.1)), (h0_inbox, .inl (c0_inbox, 60, .inl u.2.2.2.1)), (h0_hand, .inl (c0_hand, 13, .inl (upd u.2.2.2.2 0 y218)))] H := hP
                                have hD : va_D A [(h0, ce_Mo h0_op h0_argument h0_balance h0_inbox h0_real h0_hand h0_payee h0_paid h0_drawn h0_challenger h0_low h0_high h0_agreed h0_disputed h0_posted h0_middle h0_deadline h0_running h0_node h0_side u.1), (h0_op, .inl (c0_op, 16, .inl u.2.1)), (h0_argument, .inl (c0_argument, 16, .inl u.2.2.1)), (h0_inbox, .inl (c0_inbox, 60, .inl u.2.2.2.1)), (h0_hand, .inl (c0_hand, 13, .inl (upd u.2.2.2.2 0 y218)))] := hD
                                have hP9 := hP.sub (ws' := [(h0, ce_Mo h0_op h0_argument h0_balance h0_inbox h0_real h0_hand h0_payee h0_paid h0_drawn h0_challenger h0_low h0_high h0_agreed h0_disputed h0_posted h0_middle h0_deadline h0_running h0_node h0_side u.1), (h0_op, .inl (c0_op, 16, .inl u.2.1)), (h0_argument, .inl (c0_argument, 16, .inl u.2.2.1)), (h0_inbox, .inl (c0_inbox, 60, .inl u.2.2.2.1)), (h0_hand, .inl (c0_hand, 13, .inl (upd u.2.2.2.2 0 y218)))]) [0, 1, 2, 3, 4] rfl
                                have hD9 := hD.sub (ws' := [(h0, ce_Mo h0_op h0_argument h0_balance h0_inbox h0_real h0_hand h0_payee h0_paid h0_drawn h0_challenger h0_low h0_high h0_agreed h0_disputed h0_posted h0_middle h0_deadline h0_running h0_node h0_side u.1), (h0_op, .inl (c0_op, 16, .inl u.2.1)), (h0_argument, .inl (c0_argument, 16, .inl u.2.2.1)), (h0_inbox, .inl (c0_inbox, 60, .inl u.2.2.2.1)), (h0_hand, .inl (c0_hand, 13, .inl (upd u.2.2.2.2 0 y218)))]) [0, 1, 2, 3, 4] (by decide) rfl
                                have hK9 := hK.sub (tys' := [(c0_op, .int), (c0_argument, .int), (c0_inbox, .int), (c0_hand, .int)]) [0, 1, 2, 3] rfl
                                exact W.vret hx hb hr (fun t ht hW => ⟨⟨(u.1, u.2.1, u.2.2.1, u.2.2.2.1, (upd u.2.2.2.2 0 y218)), rfl, hw, by rw [ht]; exact hP9, va_K.moved hW.alike hK9, hD9⟩, hS.F ht⟩) hS.2.2 dMo_step_379
                              · first | exact absurd cc219 (by decide) | exact (cc219 (by decide)).elim
                            · have hw := hw.2 cc217
                              refine lv_iload_n hx hb dMo_step_333 rfl (lv_at hl 6 rfl) ?_
                              refine lv_bipush (v := 11) hx hb dMo_step_334 (by decide) ?_
                              refine lv_icmp_ne (tgt := 344) hx hb dMo_step_336 (by decide) (fun cc220 => ?_) (fun cc220 => ?_)
                              · have hw := hw.2 cc220
                                refine lv_iload_n hx hb dMo_step_344 rfl (lv_at hl 6 rfl) ?_
                                refine lv_bipush (v := 12) hx hb dMo_step_345 (by decide) ?_
                                refine lv_icmp_ne (tgt := 362) hx hb dMo_step_347 (by decide) (fun cc221 => ?_) (fun cc221 => ?_)
                                · have hw := hw.2 cc221
                                  refine lv_aload_n hx hb dMo_step_362 rfl (lv_at hl 8 rfl) ?_
                                  refine va_get (D := (dC, dI)) (ci := 8) (v := .ref h0_hand) (C := "StepCourtModel") (T := TMo) (N := 35) hx hb hq inMo hown hK hP 0 rfl rfl 11 (by decide) (hq _ wt_745) (fun _ h9 => h9) rfl dMo_step_363 ?_
                                  refine lv_iconst (v := 0) hx hb dMo_step_366 (by decide) ?_
                                  refine lv_iload hx hb dMo_step_367 (lv_at hl 0 rfl) ?_
                                  refine lv_if_eq (tgt := 376) hx hb dMo_step_369 (by decide) (fun cc222 => ?_) (fun cc222 => ?_)
                                  · have hw := hw
                                    refine lv_iload hx hb dMo_step_376 (lv_at hl 4 rfl) ?_
                                    refine va_iast hx hb hK hP hD hS 4 3 rfl rfl (show ¬ ((0 : Int32) < 0 ∨ 13 ≤ (0 : Int32).toNatClampNeg) by decide) dMo_step_378 (fun H locs hP hD hS => ?_)
                                    have hP : va_P (dC, dI) vwCl [(h0, ce_Mo h0_op h0_argument h0_balance h0_inbox h0_real h0_hand h0_payee h0_paid h0_drawn h0_challenger h0_low h0_high h0_agreed h0_disputed h0_posted h0_middle h0_deadline h0_running h0_node h0_side u.1), (h0_op, .inl (c0_op, 16, .inl u.2.1)), (h0_argument, .inl (c0_argument, 16, .inl u.2.2.1)), (h0_inbox, .inl (c0_inbox, 60, .inl u.2.2.2.1)), (h0_hand, .inl (c0_hand, 13, .inl (upd u.2.2.2.2 0 y6)))] H := hP
                                    have hD : va_D A [(h0, ce_Mo h0_op h0_argument h0_balance h0_inbox h0_real h0_hand h0_payee h0_paid h0_drawn h0_challenger h0_low h0_high h0_agreed h0_disputed h0_posted h0_middle h0_deadline h0_running h0_node h0_side u.1), (h0_op, .inl (c0_op, 16, .inl u.2.1)), (h0_argument, .inl (c0_argument, 16, .inl u.2.2.1)), (h0_inbox, .inl (c0_inbox, 60, .inl u.2.2.2.1)), (h0_hand, .inl (c0_hand, 13, .inl (upd u.2.2.2.2 0 y6)))] := hD
                                    have hP9 := hP.sub (ws' := [(h0, ce_Mo h0_op h0_argument h0_balance h0_inbox h0_real h0_hand h0_payee h0_paid h0_drawn h0_challenger h0_low h0_high h0_agreed h0_disputed h0_posted h0_middle h0_deadline h0_running h0_node h0_side u.1), (h0_op, .inl (c0_op, 16, .inl u.2.1)), (h0_argument, .inl (c0_argument, 16, .inl u.2.2.1)), (h0_inbox, .inl (c0_inbox, 60, .inl u.2.2.2.1)), (h0_hand, .inl (c0_hand, 13, .inl (upd u.2.2.2.2 0 y6)))]) [0, 1, 2, 3, 4] rfl
                                    have hD9 := hD.sub (ws' := [(h0, ce_Mo h0_op h0_argument h0_balance h0_inbox h0_real h0_hand h0_payee h0_paid h0_drawn h0_challenger h0_low h0_high h0_agreed h0_disputed h0_posted h0_middle h0_deadline h0_running h0_node h0_side u.1), (h0_op, .inl (c0_op, 16, .inl u.2.1)), (h0_argument, .inl (c0_argument, 16, .inl u.2.2.1)), (h0_inbox, .inl (c0_inbox, 60, .inl u.2.2.2.1)), (h0_hand, .inl (c0_hand, 13, .inl (upd u.2.2.2.2 0 y6)))]) [0, 1, 2, 3, 4] (by decide) rfl
                                    have hK9 := hK.sub (tys' := [(c0_op, .int), (c0_argument, .int), (c0_inbox, .int), (c0_hand, .int)]) [0, 1, 2, 3] rfl
                                    exact W.vret hx hb hr (fun t ht hW => ⟨⟨(u.1, u.2.1, u.2.2.1, u.2.2.2.1, (upd u.2.2.2.2 0 y6)), rfl, hw, by rw [ht]; exact hP9, va_K.moved hW.alike hK9, hD9⟩, hS.F ht⟩) hS.2.2 dMo_step_379
                                  · first | exact absurd cc222 (by decide) | exact (cc222 (by decide)).elim
                                · have hw := hw.1 cc221
                                  refine lv_iload hx hb dMo_step_350 (lv_at hl 3 rfl) ?_
                                  refine lv_if_ge (tgt := 362) hx hb dMo_step_352 (by decide) (fun cc223 => ?_) (fun cc223 => ?_)
                                  · have hw := hw.1 cc223
                                    refine lv_aload_n hx hb dMo_step_362 rfl (lv_at hl 8 rfl) ?_
                                    refine va_get (D := (dC, dI)) (ci := 8) (v := .ref h0_hand) (C := "StepCourtModel") (T := TMo) (N := 35) hx hb hq inMo hown hK hP 0 rfl rfl 11 (by decide) (hq _ wt_745) (fun _ h9 => h9) rfl dMo_step_363 ?_
                                    refine lv_iconst (v := 0) hx hb dMo_step_366 (by decide) ?_
                                    refine lv_iload hx hb dMo_step_367 (lv_at hl 0 rfl) ?_
                                    refine lv_if_eq (tgt := 376) hx hb dMo_step_369 (by decide) (fun cc224 => ?_) (fun cc224 => ?_)
                                    · have hw := hw
                                      refine lv_iload hx hb dMo_step_376 (lv_at hl 4 rfl) ?_
                                      refine va_iast hx hb hK hP hD hS 4 3 rfl rfl (show ¬ ((0 : Int32) < 0 ∨ 13 ≤ (0 : Int32).toNatClampNeg) by decide) dMo_step_378 (fun H locs hP hD hS => ?_)
                                      have hP : va_P (dC, dI) vwCl [(h0, ce_Mo h0_op h0_argument h0_balance h0_inbox h0_real h0_hand h0_payee h0_paid h0_drawn h0_challenger h0_low h0_high h0_agreed h0_disputed h0_posted h0_middle h0_deadline h0_running h0_node h0_side u.1), (h0_op, .inl (c0_op, 16, .inl u.2.1)), (h0_argument, .inl (c0_argument, 16, .inl u.2.2.1)), (h0_inbox, .inl (c0_inbox, 60, .inl u.2.2.2.1)), (h0_hand, .inl (c0_hand, 13, .inl (upd u.2.2.2.2 0 y6)))] H := hP
                                      have hD : va_D A [(h0, ce_Mo h0_op h0_argument h0_balance h0_inbox h0_real h0_hand h0_payee h0_paid h0_drawn h0_challenger h0_low h0_high h0_agreed h0_disputed h0_posted h0_middle h0_deadline h0_running h0_node h0_side u.1), (h0_op, .inl (c0_op, 16, .inl u.2.1)), (h0_argument, .inl (c0_argument, 16, .inl u.2.2.1)), (h0_inbox, .inl (c0_inbox, 60, .inl u.2.2.2.1)), (h0_hand, .inl (c0_hand, 13, .inl (upd u.2.2.2.2 0 y6)))] := hD
                                      have hP9 := hP.sub (ws' := [(h0, ce_Mo h0_op h0_argument h0_balance h0_inbox h0_real h0_hand h0_payee h0_paid h0_drawn h0_challenger h0_low h0_high h0_agreed h0_disputed h0_posted h0_middle h0_deadline h0_running h0_node h0_side u.1), (h0_op, .inl (c0_op, 16, .inl u.2.1)), (h0_argument, .inl (c0_argument, 16, .inl u.2.2.1)), (h0_inbox, .inl (c0_inbox, 60, .inl u.2.2.2.1)), (h0_hand, .inl (c0_hand, 13, .inl (upd u.2.2.2.2 0 y6)))]) [0, 1, 2, 3, 4] rfl
                                      have hD9 := hD.sub (ws' := [(h0, ce_Mo h0_op h0_argument h0_balance h0_inbox h0_real h0_hand h0_payee h0_paid h0_drawn h0_challenger h0_low h0_high h0_agreed h0_disputed h0_posted h0_middle h0_deadline h0_running h0_node h0_side u.1), (h0_op, .inl (c0_op, 16, .inl u.2.1)), (h0_argument, .inl (c0_argument, 16, .inl u.2.2.1)), (h0_inbox, .inl (c0_inbox, 60, .inl u.2.2.2.1)), (h0_hand, .inl (c0_hand, 13, .inl (upd u.2.2.2.2 0 y6)))]) [0, 1, 2, 3, 4] (by decide) rfl
                                      have hK9 := hK.sub (tys' := [(c0_op, .int), (c0_argument, .int), (c0_inbox, .int), (c0_hand, .int)]) [0, 1, 2, 3] rfl
                                      exact W.vret hx hb hr (fun t ht hW => ⟨⟨(u.1, u.2.1, u.2.2.1, u.2.2.2.1, (upd u.2.2.2.2 0 y6)), rfl, hw, by rw [ht]; exact hP9, va_K.moved hW.alike hK9, hD9⟩, hS.F ht⟩) hS.2.2 dMo_step_379
                                    · first | exact absurd cc224 (by decide) | exact (cc224 (by decide)).elim
                                  · have hw := hw.2 cc223
                                    refine lv_iload hx hb dMo_step_355 (lv_at hl 5 rfl) ?_
                                    refine lv_bipush (v := 15) hx hb dMo_step_357 (by decide) ?_
                                    refine lv_iand hx hb dMo_step_359 ?_
                                    refine lv_topi (fun y225 ey225 => ?_)
                                    have hw := hw y225 ey225
                                    refine lv_istore (lv' := [(5, .int y225), (9, .int 0), (8, .int y9), (7, .int y8), (6, .int y7), (4, .int y5), (3, .int y3), (2, .int y1), (0, .ref h0), (1, .int k1)]) hx hb dMo_step_360 hl (by decide) rfl (fun ls hl => ?_)
                                    refine lv_aload_n hx hb dMo_step_362 rfl (lv_at hl 8 rfl) ?_
                                    refine va_get (D := (dC, dI)) (ci := 8) (v := .ref h0_hand) (C := "StepCourtModel") (T := TMo) (N := 35) hx hb hq inMo hown hK hP 0 rfl rfl 11 (by decide) (hq _ wt_745) (fun _ h9 => h9) rfl dMo_step_363 ?_
                                    refine lv_iconst (v := 0) hx hb dMo_step_366 (by decide) ?_
                                    refine lv_iload hx hb dMo_step_367 (lv_at hl 1 rfl) ?_
                                    refine lv_if_eq (tgt := 376) hx hb dMo_step_369 (by decide) (fun cc226 => ?_) (fun cc226 => ?_)
                                    · have hw := hw
                                      refine lv_iload hx hb dMo_step_376 (lv_at hl 0 rfl) ?_
                                      refine va_iast hx hb hK hP hD hS 4 3 rfl rfl (show ¬ ((0 : Int32) < 0 ∨ 13 ≤ (0 : Int32).toNatClampNeg) by decide) dMo_step_378 (fun H locs hP hD hS => ?_)
                                      have hP : va_P (dC, dI) vwCl [(h0, ce_Mo h0_op h0_argument h0_balance h0_inbox h0_real h0_hand h0_payee h0_paid h0_drawn h0_challenger h0_low h0_high h0_agreed h0_disputed h0_posted h0_middle h0_deadline h0_running h0_node h0_side u.1), (h0_op, .inl (c0_op, 16, .inl u.2.1)), (h0_argument, .inl (c0_argument, 16, .inl u.2.2.1)), (h0_inbox, .inl (c0_inbox, 60, .inl u.2.2.2.1)), (h0_hand, .inl (c0_hand, 13, .inl (upd u.2.2.2.2 0 y225)))] H := hP
                                      have hD : va_D A [(h0, ce_Mo h0_op h0_argument h0_balance h0_inbox h0_real h0_hand h0_payee h0_paid h0_drawn h0_challenger h0_low h0_high h0_agreed h0_disputed h0_posted h0_middle h0_deadline h0_running h0_node h0_side u.1), (h0_op, .inl (c0_op, 16, .inl u.2.1)), (h0_argument, .inl (c0_argument, 16, .inl u.2.2.1)), (h0_inbox, .inl (c0_inbox, 60, .inl u.2.2.2.1)), (h0_hand, .inl (c0_hand, 13, .inl (upd u.2.2.2.2 0 y225)))] := hD
                                      have hP9 := hP.sub (ws' := [(h0, ce_Mo h0_op h0_argument h0_balance h0_inbox h0_real h0_hand h0_payee h0_paid h0_drawn h0_challenger h0_low h0_high h0_agreed h0_disputed h0_posted h0_middle h0_deadline h0_running h0_node h0_side u.1), (h0_op, .inl (c0_op, 16, .inl u.2.1)), (h0_argument, .inl (c0_argument, 16, .inl u.2.2.1)), (h0_inbox, .inl (c0_inbox, 60, .inl u.2.2.2.1)), (h0_hand, .inl (c0_hand, 13, .inl (upd u.2.2.2.2 0 y225)))]) [0, 1, 2, 3, 4] rfl
                                      have hD9 := hD.sub (ws' := [(h0, ce_Mo h0_op h0_argument h0_balance h0_inbox h0_real h0_hand h0_payee h0_paid h0_drawn h0_challenger h0_low h0_high h0_agreed h0_disputed h0_posted h0_middle h0_deadline h0_running h0_node h0_side u.1), (h0_op, .inl (c0_op, 16, .inl u.2.1)), (h0_argument, .inl (c0_argument, 16, .inl u.2.2.1)), (h0_inbox, .inl (c0_inbox, 60, .inl u.2.2.2.1)), (h0_hand, .inl (c0_hand, 13, .inl (upd u.2.2.2.2 0 y225)))]) [0, 1, 2, 3, 4] (by decide) rfl
                                      have hK9 := hK.sub (tys' := [(c0_op, .int), (c0_argument, .int), (c0_inbox, .int), (c0_hand, .int)]) [0, 1, 2, 3] rfl
                                      exact W.vret hx hb hr (fun t ht hW => ⟨⟨(u.1, u.2.1, u.2.2.1, u.2.2.2.1, (upd u.2.2.2.2 0 y225)), rfl, hw, by rw [ht]; exact hP9, va_K.moved hW.alike hK9, hD9⟩, hS.F ht⟩) hS.2.2 dMo_step_379
                                    · first | exact absurd cc226 (by decide) | exact (cc226 (by decide)).elim
                              · have hw := hw.1 cc220
                                refine lv_iload hx hb dMo_step_339 (lv_at hl 3 rfl) ?_
                                refine lv_if_eq (tgt := 355) hx hb dMo_step_341 (by decide) (fun cc227 => ?_) (fun cc227 => ?_)
                                · have hw := hw.1 cc227
                                  refine lv_iload hx hb dMo_step_355 (lv_at hl 5 rfl) ?_
                                  refine lv_bipush (v := 15) hx hb dMo_step_357 (by decide) ?_
                                  refine lv_iand hx hb dMo_step_359 ?_
                                  refine lv_topi (fun y228 ey228 => ?_)
                                  have hw := hw y228 ey228
                                  refine lv_istore (lv' := [(5, .int y228), (9, .int 0), (8, .int y9), (7, .int y8), (6, .int y7), (4, .int y5), (3, .int y3), (2, .int y1), (0, .ref h0), (1, .int k1)]) hx hb dMo_step_360 hl (by decide) rfl (fun ls hl => ?_)
                                  refine lv_aload_n hx hb dMo_step_362 rfl (lv_at hl 8 rfl) ?_
                                  refine va_get (D := (dC, dI)) (ci := 8) (v := .ref h0_hand) (C := "StepCourtModel") (T := TMo) (N := 35) hx hb hq inMo hown hK hP 0 rfl rfl 11 (by decide) (hq _ wt_745) (fun _ h9 => h9) rfl dMo_step_363 ?_
                                  refine lv_iconst (v := 0) hx hb dMo_step_366 (by decide) ?_
                                  refine lv_iload hx hb dMo_step_367 (lv_at hl 1 rfl) ?_
                                  refine lv_if_eq (tgt := 376) hx hb dMo_step_369 (by decide) (fun cc229 => ?_) (fun cc229 => ?_)
                                  · have hw := hw
                                    refine lv_iload hx hb dMo_step_376 (lv_at hl 0 rfl) ?_
                                    refine va_iast hx hb hK hP hD hS 4 3 rfl rfl (show ¬ ((0 : Int32) < 0 ∨ 13 ≤ (0 : Int32).toNatClampNeg) by decide) dMo_step_378 (fun H locs hP hD hS => ?_)
                                    have hP : va_P (dC, dI) vwCl [(h0, ce_Mo h0_op h0_argument h0_balance h0_inbox h0_real h0_hand h0_payee h0_paid h0_drawn h0_challenger h0_low h0_high h0_agreed h0_disputed h0_posted h0_middle h0_deadline h0_running h0_node h0_side u.1), (h0_op, .inl (c0_op, 16, .inl u.2.1)), (h0_argument, .inl (c0_argument, 16, .inl u.2.2.1)), (h0_inbox, .inl (c0_inbox, 60, .inl u.2.2.2.1)), (h0_hand, .inl (c0_hand, 13, .inl (upd u.2.2.2.2 0 y228)))] H := hP
                                    have hD : va_D A [(h0, ce_Mo h0_op h0_argument h0_balance h0_inbox h0_real h0_hand h0_payee h0_paid h0_drawn h0_challenger h0_low h0_high h0_agreed h0_disputed h0_posted h0_middle h0_deadline h0_running h0_node h0_side u.1), (h0_op, .inl (c0_op, 16, .inl u.2.1)), (h0_argument, .inl (c0_argument, 16, .inl u.2.2.1)), (h0_inbox, .inl (c0_inbox, 60, .inl u.2.2.2.1)), (h0_hand, .inl (c0_hand, 13, .inl (upd u.2.2.2.2 0 y228)))] := hD
                                    have hP9 := hP.sub (ws' := [(h0, ce_Mo h0_op h0_argument h0_balance h0_inbox h0_real h0_hand h0_payee h0_paid h0_drawn h0_challenger h0_low h0_high h0_agreed h0_disputed h0_posted h0_middle h0_deadline h0_running h0_node h0_side u.1), (h0_op, .inl (c0_op, 16, .inl u.2.1)), (h0_argument, .inl (c0_argument, 16, .inl u.2.2.1)), (h0_inbox, .inl (c0_inbox, 60, .inl u.2.2.2.1)), (h0_hand, .inl (c0_hand, 13, .inl (upd u.2.2.2.2 0 y228)))]) [0, 1, 2, 3, 4] rfl
                                    have hD9 := hD.sub (ws' := [(h0, ce_Mo h0_op h0_argument h0_balance h0_inbox h0_real h0_hand h0_payee h0_paid h0_drawn h0_challenger h0_low h0_high h0_agreed h0_disputed h0_posted h0_middle h0_deadline h0_running h0_node h0_side u.1), (h0_op, .inl (c0_op, 16, .inl u.2.1)), (h0_argument, .inl (c0_argument, 16, .inl u.2.2.1)), (h0_inbox, .inl (c0_inbox, 60, .inl u.2.2.2.1)), (h0_hand, .inl (c0_hand, 13, .inl (upd u.2.2.2.2 0 y228)))]) [0, 1, 2, 3, 4] (by decide) rfl
                                    have hK9 := hK.sub (tys' := [(c0_op, .int), (c0_argument, .int), (c0_inbox, .int), (c0_hand, .int)]) [0, 1, 2, 3] rfl
                                    exact W.vret hx hb hr (fun t ht hW => ⟨⟨(u.1, u.2.1, u.2.2.1, u.2.2.2.1, (upd u.2.2.2.2 0 y228)), rfl, hw, by rw [ht]; exact hP9, va_K.moved hW.alike hK9, hD9⟩, hS.F ht⟩) hS.2.2 dMo_step_379
                                  · first | exact absurd cc229 (by decide) | exact (cc229 (by decide)).elim
                                · have hw := hw.2 cc227
                                  refine lv_iload_n hx hb dMo_step_344 rfl (lv_at hl 6 rfl) ?_
                                  refine lv_bipush (v := 12) hx hb dMo_step_345 (by decide) ?_
                                  refine lv_icmp_ne (tgt := 362) hx hb dMo_step_347 (by decide) (fun cc230 => ?_) (fun cc230 => ?_)
                                  · have hw := hw.2 cc230
                                    refine lv_aload_n hx hb dMo_step_362 rfl (lv_at hl 8 rfl) ?_
                                    refine va_get (D := (dC, dI)) (ci := 8) (v := .ref h0_hand) (C := "StepCourtModel") (T := TMo) (N := 35) hx hb hq inMo hown hK hP 0 rfl rfl 11 (by decide) (hq _ wt_745) (fun _ h9 => h9) rfl dMo_step_363 ?_
                                    refine lv_iconst (v := 0) hx hb dMo_step_366 (by decide) ?_
                                    refine lv_iload hx hb dMo_step_367 (lv_at hl 0 rfl) ?_
                                    refine lv_if_eq (tgt := 376) hx hb dMo_step_369 (by decide) (fun cc231 => ?_) (fun cc231 => ?_)
                                    · have hw := hw
                                      refine lv_iload hx hb dMo_step_376 (lv_at hl 4 rfl) ?_
                                      refine va_iast hx hb hK hP hD hS 4 3 rfl rfl (show ¬ ((0 : Int32) < 0 ∨ 13 ≤ (0 : Int32).toNatClampNeg) by decide) dMo_step_378 (fun H locs hP hD hS => ?_)
                                      have hP : va_P (dC, dI) vwCl [(h0, ce_Mo h0_op h0_argument h0_balance h0_inbox h0_real h0_hand h0_payee h0_paid h0_drawn h0_challenger h0_low h0_high h0_agreed h0_disputed h0_posted h0_middle h0_deadline h0_running h0_node h0_side u.1), (h0_op, .inl (c0_op, 16, .inl u.2.1)), (h0_argument, .inl (c0_argument, 16, .inl u.2.2.1)), (h0_inbox, .inl (c0_inbox, 60, .inl u.2.2.2.1)), (h0_hand, .inl (c0_hand, 13, .inl (upd u.2.2.2.2 0 y6)))] H := hP
                                      have hD : va_D A [(h0, ce_Mo h0_op h0_argument h0_balance h0_inbox h0_real h0_hand h0_payee h0_paid h0_drawn h0_challenger h0_low h0_high h0_agreed h0_disputed h0_posted h0_middle h0_deadline h0_running h0_node h0_side u.1), (h0_op, .inl (c0_op, 16, .inl u.2.1)), (h0_argument, .inl (c0_argument, 16, .inl u.2.2.1)), (h0_inbox, .inl (c0_inbox, 60, .inl u.2.2.2.1)), (h0_hand, .inl (c0_hand, 13, .inl (upd u.2.2.2.2 0 y6)))] := hD
                                      have hP9 := hP.sub (ws' := [(h0, ce_Mo h0_op h0_argument h0_balance h0_inbox h0_real h0_hand h0_payee h0_paid h0_drawn h0_challenger h0_low h0_high h0_agreed h0_disputed h0_posted h0_middle h0_deadline h0_running h0_node h0_side u.1), (h0_op, .inl (c0_op, 16, .inl u.2.1)), (h0_argument, .inl (c0_argument, 16, .inl u.2.2.1)), (h0_inbox, .inl (c0_inbox, 60, .inl u.2.2.2.1)), (h0_hand, .inl (c0_hand, 13, .inl (upd u.2.2.2.2 0 y6)))]) [0, 1, 2, 3, 4] rfl
                                      have hD9 := hD.sub (ws' := [(h0, ce_Mo h0_op h0_argument h0_balance h0_inbox h0_real h0_hand h0_payee h0_paid h0_drawn h0_challenger h0_low h0_high h0_agreed h0_disputed h0_posted h0_middle h0_deadline h0_running h0_node h0_side u.1), (h0_op, .inl (c0_op, 16, .inl u.2.1)), (h0_argument, .inl (c0_argument, 16, .inl u.2.2.1)), (h0_inbox, .inl (c0_inbox, 60, .inl u.2.2.2.1)), (h0_hand, .inl (c0_hand, 13, .inl (upd u.2.2.2.2 0 y6)))]) [0, 1, 2, 3, 4] (by decide) rfl
                                      have hK9 := hK.sub (tys' := [(c0_op, .int), (c0_argument, .int), (c0_inbox, .int), (c0_hand, .int)]) [0, 1, 2, 3] rfl
                                      exact W.vret hx hb hr (fun t ht hW => ⟨⟨(u.1, u.2.1, u.2.2.1, u.2.2.2.1, (upd u.2.2.2.2 0 y6)), rfl, hw, by rw [ht]; exact hP9, va_K.moved hW.alike hK9, hD9⟩, hS.F ht⟩) hS.2.2 dMo_step_379
                                    · first | exact absurd cc231 (by decide) | exact (cc231 (by decide)).elim
                                  · have hw := hw.1 cc230
                                    refine lv_iload hx hb dMo_step_350 (lv_at hl 3 rfl) ?_
                                    refine lv_if_ge (tgt := 362) hx hb dMo_step_352 (by decide) (fun cc232 => ?_) (fun cc232 => ?_)
                                    · have hw := hw.1 cc232
                                      refine lv_aload_n hx hb dMo_step_362 rfl (lv_at hl 8 rfl) ?_
                                      refine va_get (D := (dC, dI)) (ci := 8) (v := .ref h0_hand) (C := "StepCourtModel") (T := TMo) (N := 35) hx hb hq inMo hown hK hP 0 rfl rfl 11 (by decide) (hq _ wt_745) (fun _ h9 => h9) rfl dMo_step_363 ?_
                                      refine lv_iconst (v := 0) hx hb dMo_step_366 (by decide) ?_
                                      refine lv_iload hx hb dMo_step_367 (lv_at hl 0 rfl) ?_
                                      refine lv_if_eq (tgt := 376) hx hb dMo_step_369 (by decide) (fun cc233 => ?_) (fun cc233 => ?_)
                                      · have hw := hw
                                        refine lv_iload hx hb dMo_step_376 (lv_at hl 4 rfl) ?_
                                        refine va_iast hx hb hK hP hD hS 4 3 rfl rfl (show ¬ ((0 : Int32) < 0 ∨ 13 ≤ (0 : Int32).toNatClampNeg) by decide) dMo_step_378 (fun H locs hP hD hS => ?_)
                                        have hP : va_P (dC, dI) vwCl [(h0, ce_Mo h0_op h0_argument h0_balance h0_inbox h0_real h0_hand h0_payee h0_paid h0_drawn h0_challenger h0_low h0_high h0_agreed h0_disputed h0_posted h0_middle h0_deadline h0_running h0_node h0_side u.1), (h0_op, .inl (c0_op, 16, .inl u.2.1)), (h0_argument, .inl (c0_argument, 16, .inl u.2.2.1)), (h0_inbox, .inl (c0_inbox, 60, .inl u.2.2.2.1)), (h0_hand, .inl (c0_hand, 13, .inl (upd u.2.2.2.2 0 y6)))] H := hP
                                        have hD : va_D A [(h0, ce_Mo h0_op h0_argument h0_balance h0_inbox h0_real h0_hand h0_payee h0_paid h0_drawn h0_challenger h0_low h0_high h0_agreed h0_disputed h0_posted h0_middle h0_deadline h0_running h0_node h0_side u.1), (h0_op, .inl (c0_op, 16, .inl u.2.1)), (h0_argument, .inl (c0_argument, 16, .inl u.2.2.1)), (h0_inbox, .inl (c0_inbox, 60, .inl u.2.2.2.1)), (h0_hand, .inl (c0_hand, 13, .inl (upd u.2.2.2.2 0 y6)))] := hD
                                        have hP9 := hP.sub (ws' := [(h0, ce_Mo h0_op h0_argument h0_balance h0_inbox h0_real h0_hand h0_payee h0_paid h0_drawn h0_challenger h0_low h0_high h0_agreed h0_disputed h0_posted h0_middle h0_deadline h0_running h0_node h0_side u.1), (h0_op, .inl (c0_op, 16, .inl u.2.1)), (h0_argument, .inl (c0_argument, 16, .inl u.2.2.1)), (h0_inbox, .inl (c0_inbox, 60, .inl u.2.2.2.1)), (h0_hand, .inl (c0_hand, 13, .inl (upd u.2.2.2.2 0 y6)))]) [0, 1, 2, 3, 4] rfl
                                        have hD9 := hD.sub (ws' := [(h0, ce_Mo h0_op h0_argument h0_balance h0_inbox h0_real h0_hand h0_payee h0_paid h0_drawn h0_challenger h0_low h0_high h0_agreed h0_disputed h0_posted h0_middle h0_deadline h0_running h0_node h0_side u.1), (h0_op, .inl (c0_op, 16, .inl u.2.1)), (h0_argument, .inl (c0_argument, 16, .inl u.2.2.1)), (h0_inbox, .inl (c0_inbox, 60, .inl u.2.2.2.1)), (h0_hand, .inl (c0_hand, 13, .inl (upd u.2.2.2.2 0 y6)))]) [0, 1, 2, 3, 4] (by decide) rfl
                                        have hK9 := hK.sub (tys' := [(c0_op, .int), (c0_argument, .int), (c0_inbox, .int), (c0_hand, .int)]) [0, 1, 2, 3] rfl
                                        exact W.vret hx hb hr (fun t ht hW => ⟨⟨(u.1, u.2.1, u.2.2.1, u.2.2.2.1, (upd u.2.2.2.2 0 y6)), rfl, hw, by rw [ht]; exact hP9, va_K.moved hW.alike hK9, hD9⟩, hS.F ht⟩) hS.2.2 dMo_step_379
                                      · first | exact absurd cc233 (by decide) | exact (cc233 (by decide)).elim
                                    · have hw := hw.2 cc232
                                      refine lv_iload hx hb dMo_step_355 (lv_at hl 5 rfl) ?_
                                      refine lv_bipush (v := 15) hx hb dMo_step_357 (by decide) ?_
                                      refine lv_iand hx hb dMo_step_359 ?_
                                      refine lv_topi (fun y234 ey234 => ?_)
                                      have hw := hw y234 ey234
                                      refine lv_istore (lv' := [(5, .int y234), (9, .int 0), (8, .int y9), (7, .int y8), (6, .int y7), (4, .int y5), (3, .int y3), (2, .int y1), (0, .ref h0), (1, .int k1)]) hx hb dMo_step_360 hl (by decide) rfl (fun ls hl => ?_)
                                      refine lv_aload_n hx hb dMo_step_362 rfl (lv_at hl 8 rfl) ?_
                                      refine va_get (D := (dC, dI)) (ci := 8) (v := .ref h0_hand) (C := "StepCourtModel") (T := TMo) (N := 35) hx hb hq inMo hown hK hP 0 rfl rfl 11 (by decide) (hq _ wt_745) (fun _ h9 => h9) rfl dMo_step_363 ?_
                                      refine lv_iconst (v := 0) hx hb dMo_step_366 (by decide) ?_
                                      refine lv_iload hx hb dMo_step_367 (lv_at hl 1 rfl) ?_
                                      refine lv_if_eq (tgt := 376) hx hb dMo_step_369 (by decide) (fun cc235 => ?_) (fun cc235 => ?_)
                                      · have hw := hw
                                        refine lv_iload hx hb dMo_step_376 (lv_at hl 0 rfl) ?_
                                        refine va_iast hx hb hK hP hD hS 4 3 rfl rfl (show ¬ ((0 : Int32) < 0 ∨ 13 ≤ (0 : Int32).toNatClampNeg) by decide) dMo_step_378 (fun H locs hP hD hS => ?_)
                                        have hP : va_P (dC, dI) vwCl [(h0, ce_Mo h0_op h0_argument h0_balance h0_inbox h0_real h0_hand h0_payee h0_paid h0_drawn h0_challenger h0_low h0_high h0_agreed h0_disputed h0_posted h0_middle h0_deadline h0_running h0_node h0_side u.1), (h0_op, .inl (c0_op, 16, .inl u.2.1)), (h0_argument, .inl (c0_argument, 16, .inl u.2.2.1)), (h0_inbox, .inl (c0_inbox, 60, .inl u.2.2.2.1)), (h0_hand, .inl (c0_hand, 13, .inl (upd u.2.2.2.2 0 y234)))] H := hP
                                        have hD : va_D A [(h0, ce_Mo h0_op h0_argument h0_balance h0_inbox h0_real h0_hand h0_payee h0_paid h0_drawn h0_challenger h0_low h0_high h0_agreed h0_disputed h0_posted h0_middle h0_deadline h0_running h0_node h0_side u.1), (h0_op, .inl (c0_op, 16, .inl u.2.1)), (h0_argument, .inl (c0_argument, 16, .inl u.2.2.1)), (h0_inbox, .inl (c0_inbox, 60, .inl u.2.2.2.1)), (h0_hand, .inl (c0_hand, 13, .inl (upd u.2.2.2.2 0 y234)))] := hD
                                        have hP9 := hP.sub (ws' := [(h0, ce_Mo h0_op h0_argument h0_balance h0_inbox h0_real h0_hand h0_payee h0_paid h0_drawn h0_challenger h0_low h0_high h0_agreed h0_disputed h0_posted h0_middle h0_deadline h0_running h0_node h0_side u.1), (h0_op, .inl (c0_op, 16, .inl u.2.1)), (h0_argument, .inl (c0_argument, 16, .inl u.2.2.1)), (h0_inbox, .inl (c0_inbox, 60, .inl u.2.2.2.1)), (h0_hand, .inl (c0_hand, 13, .inl (upd u.2.2.2.2 0 y234)))]) [0, 1, 2, 3, 4] rfl
                                        have hD9 := hD.sub (ws' := [(h0, ce_Mo h0_op h0_argument h0_balance h0_inbox h0_real h0_hand h0_payee h0_paid h0_drawn h0_challenger h0_low h0_high h0_agreed h0_disputed h0_posted h0_middle h0_deadline h0_running h0_node h0_side u.1), (h0_op, .inl (c0_op, 16, .inl u.2.1)), (h0_argument, .inl (c0_argument, 16, .inl u.2.2.1)), (h0_inbox, .inl (c0_inbox, 60, .inl u.2.2.2.1)), (h0_hand, .inl (c0_hand, 13, .inl (upd u.2.2.2.2 0 y234)))]) [0, 1, 2, 3, 4] (by decide) rfl
                                        have hK9 := hK.sub (tys' := [(c0_op, .int), (c0_argument, .int), (c0_inbox, .int), (c0_hand, .int)]) [0, 1, 2, 3] rfl
                                        exact W.vret hx hb hr (fun t ht hW => ⟨⟨(u.1, u.2.1, u.2.2.1, u.2.2.2.1, (upd u.2.2.2.2 0 y234)), rfl, hw, by rw [ht]; exact hP9, va_K.moved hW.alike hK9, hD9⟩, hS.F ht⟩) hS.2.2 dMo_step_379
                                      · first | exact absurd cc235 (by decide) | exact (cc235 (by decide)).elim
                          · have hw := hw.1 cc216
                            refine lv_aload_n hx hb dMo_step_292 rfl (lv_at hl 8 rfl) ?_
                            refine lv_aload_n hx hb dMo_step_293 rfl (lv_at hl 8 rfl) ?_
                            refine va_get (D := (dC, dI)) (ci := 8) (v := .long u.1.2.2.2.2.2.2.1) (C := "StepCourtModel") (T := TMo) (N := 35) hx hb hq inMo hown hK hP 0 rfl rfl 12 (by decide) (hq _ wt_746) (fun _ h9 => h9) rfl dMo_step_294 ?_
                            refine lv_iload hx hb dMo_step_297 (lv_at hl 2 rfl) ?_
                            refine lv_iconst (v := 3) hx hb dMo_step_299 (by decide) ?_
                            refine lv_iand hx hb dMo_step_300 ?_
                            refine lv_i2l (v := (y8 &&& 3).toInt64) hx hb dMo_step_301 rfl ?_
                            have hPc := hP.sub (ws' := []) [] rfl
                            have hDc := hD.sub (ws' := []) [] (by decide) rfl
                            have hKc := hK.sub (tys' := []) [] rfl
                            have hFc := va_free (wc := []) hD hS hA [] rfl
                            refine va_calll (va_runS (As := [.long u.1.2.2.2.2.2.2.1, .long ((y8 &&& 3).toInt64)]) (rest := [.ref h0]) ⟨hx, hb, hml, hown, hq⟩ (mt_Mo_mix l dC dI s.heap.size _ () u.1.2.2.2.2.2.2.1 ((y8 &&& 3).toInt64) hw) ⟨cq_B 2 hq wt_723 wt_721 wt_10 rfl rfl hd_Mo_mix ⟨Nat.le_of_ble_eq_true rfl, Nat.le_of_ble_eq_true rfl⟩, (hq _ wt_722)⟩ ⟨kp_bl, kp_at hPc hKc hDc hZ⟩ rfl rfl hl.1 rfl (lv_room (Nat.le_of_ble_eq_true rfl)) dMo_step_302 ⟨(by decide), (by decide)⟩) hS (fun q _ h => hFc q h) hFc (fun r236 u237 t H1 locs ht hvm hw hB hz1 hk1 hS => ?_)
                            obtain ⟨hP1, hK1, hD1⟩ := hB
                            rw [ht] at hP1
                            have hK1 := va_K.moved hvm.symm hK1
                            obtain ⟨hP, hD⟩ := va_join (wr := [(h0, ce_Mo h0_op h0_argument h0_balance h0_inbox h0_real h0_hand h0_payee h0_paid h0_drawn h0_challenger h0_low h0_high h0_agreed h0_disputed h0_posted h0_middle h0_deadline h0_running h0_node h0_side u.1), (h0_op, .inl (c0_op, 16, .inl u.2.1)), (h0_argument, .inl (c0_argument, 16, .inl u.2.2.1)), (h0_inbox, .inl (c0_inbox, 60, .inl u.2.2.2.1)), (h0_hand, .inl (c0_hand, 13, .inl u.2.2.2.2))]) (w1 := []) hP hD [] [0, 1, 2, 3, 4] rfl rfl (by decide) (by decide) hk1 hFc hP1 hD1
                            have hK := (hK.sub (tys' := [(c0_op, .int), (c0_argument, .int), (c0_inbox, .int), (c0_hand, .int)]) [0, 1, 2, 3] rfl).app hK1
                            generalize H1 = H at hP hS ⊢
                            have hP : va_P (dC, dI) vwCl [(h0, ce_Mo h0_op h0_argument h0_balance h0_inbox h0_real h0_hand h0_payee h0_paid h0_drawn h0_challenger h0_low h0_high h0_agreed h0_disputed h0_posted h0_middle h0_deadline h0_running h0_node h0_side u.1), (h0_op, .inl (c0_op, 16, .inl u.2.1)), (h0_argument, .inl (c0_argument, 16, .inl u.2.2.1)), (h0_inbox, .inl (c0_inbox, 60, .inl u.2.2.2.1)), (h0_hand, .inl (c0_hand, 13, .inl u.2.2.2.2))] H := hP
                            have hD : va_D A [(h0, ce_Mo h0_op h0_argument h0_balance h0_inbox h0_real h0_hand h0_payee h0_paid h0_drawn h0_challenger h0_low h0_high h0_agreed h0_disputed h0_posted h0_middle h0_deadline h0_running h0_node h0_side u.1), (h0_op, .inl (c0_op, 16, .inl u.2.1)), (h0_argument, .inl (c0_argument, 16, .inl u.2.2.1)), (h0_inbox, .inl (c0_inbox, 60, .inl u.2.2.2.1)), (h0_hand, .inl (c0_hand, 13, .inl u.2.2.2.2))] := hD
                            have hK : va_K (dC, dI) vwCl [(c0_op, .int), (c0_argument, .int), (c0_inbox, .int), (c0_hand, .int)] s := hK
                            refine lv_iload hx hb dMo_step_305 (lv_at hl 3 rfl) ?_
                            refine lv_i2l (v := y7.toInt64) hx hb dMo_step_307 rfl ?_
                            have hPc := hP.sub (ws' := []) [] rfl
                            have hDc := hD.sub (ws' := []) [] (by decide) rfl
                            have hKc := hK.sub (tys' := []) [] rfl
                            have hFc := va_free (wc := []) hD hS hA [] rfl
                            refine va_calll (va_runS (As := [.long r236, .long (y7.toInt64)]) (rest := [.ref h0]) ⟨hx, hb, hml, hown, hq⟩ (mt_Mo_mix l dC dI H.size _ () r236 (y7.toInt64) hw) ⟨cq_B 2 hq wt_723 wt_721 wt_10 rfl rfl hd_Mo_mix ⟨Nat.le_of_ble_eq_true rfl, Nat.le_of_ble_eq_true rfl⟩, (hq _ wt_722)⟩ ⟨kp_bl, kp_at hPc hKc hDc hZ⟩ rfl rfl hl.1 rfl (lv_room (Nat.le_of_ble_eq_true rfl)) dMo_step_308 ⟨(by decide), (by decide)⟩) hS (fun q _ h => hFc q h) hFc (fun r238 u239 t H1 locs ht hvm hw hB hz1 hk1 hS => ?_)
                            obtain ⟨hP1, hK1, hD1⟩ := hB
                            rw [ht] at hP1
                            have hK1 := va_K.moved hvm.symm hK1
                            obtain ⟨hP, hD⟩ := va_join (wr := [(h0, ce_Mo h0_op h0_argument h0_balance h0_inbox h0_real h0_hand h0_payee h0_paid h0_drawn h0_challenger h0_low h0_high h0_agreed h0_disputed h0_posted h0_middle h0_deadline h0_running h0_node h0_side u.1), (h0_op, .inl (c0_op, 16, .inl u.2.1)), (h0_argument, .inl (c0_argument, 16, .inl u.2.2.1)), (h0_inbox, .inl (c0_inbox, 60, .inl u.2.2.2.1)), (h0_hand, .inl (c0_hand, 13, .inl u.2.2.2.2))]) (w1 := []) hP hD [] [0, 1, 2, 3, 4] rfl rfl (by decide) (by decide) hk1 hFc hP1 hD1
                            have hK := (hK.sub (tys' := [(c0_op, .int), (c0_argument, .int), (c0_inbox, .int), (c0_hand, .int)]) [0, 1, 2, 3] rfl).app hK1
                            generalize H1 = H at hP hS ⊢
                            have hP : va_P (dC, dI) vwCl [(h0, ce_Mo h0_op h0_argument h0_balance h0_inbox h0_real h0_hand h0_payee h0_paid h0_drawn h0_challenger h0_low h0_high h0_agreed h0_disputed h0_posted h0_middle h0_deadline h0_running h0_node h0_side u.1), (h0_op, .inl (c0_op, 16, .inl u.2.1)), (h0_argument, .inl (c0_argument, 16, .inl u.2.2.1)), (h0_inbox, .inl (c0_inbox, 60, .inl u.2.2.2.1)), (h0_hand, .inl (c0_hand, 13, .inl u.2.2.2.2))] H := hP
                            have hD : va_D A [(h0, ce_Mo h0_op h0_argument h0_balance h0_inbox h0_real h0_hand h0_payee h0_paid h0_drawn h0_challenger h0_low h0_high h0_agreed h0_disputed h0_posted h0_middle h0_deadline h0_running h0_node h0_side u.1), (h0_op, .inl (c0_op, 16, .inl u.2.1)), (h0_argument, .inl (c0_argument, 16, .inl u.2.2.1)), (h0_inbox, .inl (c0_inbox, 60, .inl u.2.2.2.1)), (h0_hand, .inl (c0_hand, 13, .inl u.2.2.2.2))] := hD
                            have hK : va_K (dC, dI) vwCl [(c0_op, .int), (c0_argument, .int), (c0_inbox, .int), (c0_hand, .int)] s := hK
                            refine va_put (D := (dC, dI)) (ci := 8) (v := .long r238) (ty := .long) (C := "StepCourtModel") (T := TMo) (N := 35) hx hb hq inMo tyMo tyMo_ok nmMo hown hK hP hD hS 0 rfl rfl 12 (by decide) (hq _ wt_746) (fun _ h9 => h9) rfl (by decide +kernel) rfl rfl (Nat.le_of_ble_eq_true rfl) dMo_step_311 (fun H locs hP hD hS => ?_)
                            have hP : va_P (dC, dI) vwCl [(h0, ce_Mo h0_op h0_argument h0_balance h0_inbox h0_real h0_hand h0_payee h0_paid h0_drawn h0_challenger h0_low h0_high h0_agreed h0_disputed h0_posted h0_middle h0_deadline h0_running h0_node h0_side (u.1.1, u.1.2.1, u.1.2.2.1, u.1.2.2.2.1, u.1.2.2.2.2.1, u.1.2.2.2.2.2.1, r238, u.1.2.2.2.2.2.2.2.1, u.1.2.2.2.2.2.2.2.2.1, u.1.2.2.2.2.2.2.2.2.2.1, u.1.2.2.2.2.2.2.2.2.2.2.1, u.1.2.2.2.2.2.2.2.2.2.2.2.1, u.1.2.2.2.2.2.2.2.2.2.2.2.2.1, u.1.2.2.2.2.2.2.2.2.2.2.2.2.2.1, u.1.2.2.2.2.2.2.2.2.2.2.2.2.2.2)), (h0_op, .inl (c0_op, 16, .inl u.2.1)), (h0_argument, .inl (c0_argument, 16, .inl u.2.2.1)), (h0_inbox, .inl (c0_inbox, 60, .inl u.2.2.2.1)), (h0_hand, .inl (c0_hand, 13, .inl u.2.2.2.2))] H := hP
                            have hD : va_D A [(h0, ce_Mo h0_op h0_argument h0_balance h0_inbox h0_real h0_hand h0_payee h0_paid h0_drawn h0_challenger h0_low h0_high h0_agreed h0_disputed h0_posted h0_middle h0_deadline h0_running h0_node h0_side (u.1.1, u.1.2.1, u.1.2.2.1, u.1.2.2.2.1, u.1.2.2.2.2.1, u.1.2.2.2.2.2.1, r238, u.1.2.2.2.2.2.2.2.1, u.1.2.2.2.2.2.2.2.2.1, u.1.2.2.2.2.2.2.2.2.2.1, u.1.2.2.2.2.2.2.2.2.2.2.1, u.1.2.2.2.2.2.2.2.2.2.2.2.1, u.1.2.2.2.2.2.2.2.2.2.2.2.2.1, u.1.2.2.2.2.2.2.2.2.2.2.2.2.2.1, u.1.2.2.2.2.2.2.2.2.2.2.2.2.2.2)), (h0_op, .inl (c0_op, 16, .inl u.2.1)), (h0_argument, .inl (c0_argument, 16, .inl u.2.2.1)), (h0_inbox, .inl (c0_inbox, 60, .inl u.2.2.2.1)), (h0_hand, .inl (c0_hand, 13, .inl u.2.2.2.2))] := hD
                            refine lv_aload_n hx hb dMo_step_314 rfl (lv_at hl 8 rfl) ?_
                            refine va_get (D := (dC, dI)) (ci := 8) (v := .ref h0_hand) (C := "StepCourtModel") (T := TMo) (N := 35) hx hb hq inMo hown hK hP 0 rfl rfl 11 (by decide) (hq _ wt_745) (fun _ h9 => h9) rfl dMo_step_315 ?_
                            refine lv_iconst (v := 4) hx hb dMo_step_318 (by decide) ?_
                            refine lv_dup2_11 hx hb dMo_step_319 rfl rfl ?_
                            refine va_iald hx hb hK hP 4 3 rfl rfl (show ¬ ((4 : Int32) < 0 ∨ 13 ≤ (4 : Int32).toNatClampNeg) by decide) dMo_step_320 ?_
                            refine W.eq (g2 := F0 m 321 ls [.int (u.2.2.2.2 4), .int 4, .ref h0_hand]) rfl ?_
                            refine lv_iconst (v := 1) hx hb dMo_step_321 (by decide) ?_
                            refine lv_iadd hx hb dMo_step_322 ?_
                            refine lv_topi (fun f240 ef240 => ?_)
                            have hw := hw f240 ef240
                            refine va_iast hx hb hK hP hD hS 4 3 rfl rfl (show ¬ ((4 : Int32) < 0 ∨ 13 ≤ (4 : Int32).toNatClampNeg) by decide) dMo_step_323 (fun H locs hP hD hS => ?_)
                            have hP : va_P (dC, dI) vwCl [(h0, ce_Mo h0_op h0_argument h0_balance h0_inbox h0_real h0_hand h0_payee h0_paid h0_drawn h0_challenger h0_low h0_high h0_agreed h0_disputed h0_posted h0_middle h0_deadline h0_running h0_node h0_side (u.1.1, u.1.2.1, u.1.2.2.1, u.1.2.2.2.1, u.1.2.2.2.2.1, u.1.2.2.2.2.2.1, r238, u.1.2.2.2.2.2.2.2.1, u.1.2.2.2.2.2.2.2.2.1, u.1.2.2.2.2.2.2.2.2.2.1, u.1.2.2.2.2.2.2.2.2.2.2.1, u.1.2.2.2.2.2.2.2.2.2.2.2.1, u.1.2.2.2.2.2.2.2.2.2.2.2.2.1, u.1.2.2.2.2.2.2.2.2.2.2.2.2.2.1, u.1.2.2.2.2.2.2.2.2.2.2.2.2.2.2)), (h0_op, .inl (c0_op, 16, .inl u.2.1)), (h0_argument, .inl (c0_argument, 16, .inl u.2.2.1)), (h0_inbox, .inl (c0_inbox, 60, .inl u.2.2.2.1)), (h0_hand, .inl (c0_hand, 13, .inl (upd u.2.2.2.2 4 f240)))] H := hP
                            have hD : va_D A [(h0, ce_Mo h0_op h0_argument h0_balance h0_inbox h0_real h0_hand h0_payee h0_paid h0_drawn h0_challenger h0_low h0_high h0_agreed h0_disputed h0_posted h0_middle h0_deadline h0_running h0_node h0_side (u.1.1, u.1.2.1, u.1.2.2.1, u.1.2.2.2.1, u.1.2.2.2.2.1, u.1.2.2.2.2.2.1, r238, u.1.2.2.2.2.2.2.2.1, u.1.2.2.2.2.2.2.2.2.1, u.1.2.2.2.2.2.2.2.2.2.1, u.1.2.2.2.2.2.2.2.2.2.2.1, u.1.2.2.2.2.2.2.2.2.2.2.2.1, u.1.2.2.2.2.2.2.2.2.2.2.2.2.1, u.1.2.2.2.2.2.2.2.2.2.2.2.2.2.1, u.1.2.2.2.2.2.2.2.2.2.2.2.2.2.2)), (h0_op, .inl (c0_op, 16, .inl u.2.1)), (h0_argument, .inl (c0_argument, 16, .inl u.2.2.1)), (h0_inbox, .inl (c0_inbox, 60, .inl u.2.2.2.1)), (h0_hand, .inl (c0_hand, 13, .inl (upd u.2.2.2.2 4 f240)))] := hD
                            refine lv_goto (tgt := 362) hx hb dMo_step_324 (by decide) ?_
                            refine lv_aload_n hx hb dMo_step_362 rfl (lv_at hl 8 rfl) ?_
                            refine va_get (D := (dC, dI)) (ci := 8) (v := .ref h0_hand) (C := "StepCourtModel") (T := TMo) (N := 35) hx hb hq inMo hown hK hP 0 rfl rfl 11 (by decide) (hq _ wt_745) (fun _ h9 => h9) rfl dMo_step_363 ?_
                            refine lv_iconst (v := 0) hx hb dMo_step_366 (by decide) ?_
                            refine lv_iload hx hb dMo_step_367 (lv_at hl 0 rfl) ?_
                            refine lv_if_eq (tgt := 376) hx hb dMo_step_369 (by decide) (fun cc241 => ?_) (fun cc241 => ?_)
                            · have hw := hw
                              refine lv_iload hx hb dMo_step_376 (lv_at hl 4 rfl) ?_
                              refine va_iast hx hb hK hP hD hS 4 3 rfl rfl (show ¬ ((0 : Int32) < 0 ∨ 13 ≤ (0 : Int32).toNatClampNeg) by decide) dMo_step_378 (fun H locs hP hD hS => ?_)
                              have hP : va_P (dC, dI) vwCl [(h0, ce_Mo h0_op h0_argument h0_balance h0_inbox h0_real h0_hand h0_payee h0_paid h0_drawn h0_challenger h0_low h0_high h0_agreed h0_disputed h0_posted h0_middle h0_deadline h0_running h0_node h0_side (u.1.1, u.1.2.1, u.1.2.2.1, u.1.2.2.2.1, u.1.2.2.2.2.1, u.1.2.2.2.2.2.1, r238, u.1.2.2.2.2.2.2.2.1, u.1.2.2.2.2.2.2.2.2.1, u.1.2.2.2.2.2.2.2.2.2.1, u.1.2.2.2.2.2.2.2.2.2.2.1, u.1.2.2.2.2.2.2.2.2.2.2.2.1, u.1.2.2.2.2.2.2.2.2.2.2.2.2.1, u.1.2.2.2.2.2.2.2.2.2.2.2.2.2.1, u.1.2.2.2.2.2.2.2.2.2.2.2.2.2.2)), (h0_op, .inl (c0_op, 16, .inl u.2.1)), (h0_argument, .inl (c0_argument, 16, .inl u.2.2.1)), (h0_inbox, .inl (c0_inbox, 60, .inl u.2.2.2.1)), (h0_hand, .inl (c0_hand, 13, .inl (upd (upd u.2.2.2.2 4 f240) 0 y6)))] H := hP
                              have hD : va_D A [(h0, ce_Mo h0_op h0_argument h0_balance h0_inbox h0_real h0_hand h0_payee h0_paid h0_drawn h0_challenger h0_low h0_high h0_agreed h0_disputed h0_posted h0_middle h0_deadline h0_running h0_node h0_side (u.1.1, u.1.2.1, u.1.2.2.1, u.1.2.2.2.1, u.1.2.2.2.2.1, u.1.2.2.2.2.2.1, r238, u.1.2.2.2.2.2.2.2.1, u.1.2.2.2.2.2.2.2.2.1, u.1.2.2.2.2.2.2.2.2.2.1, u.1.2.2.2.2.2.2.2.2.2.2.1, u.1.2.2.2.2.2.2.2.2.2.2.2.1, u.1.2.2.2.2.2.2.2.2.2.2.2.2.1, u.1.2.2.2.2.2.2.2.2.2.2.2.2.2.1, u.1.2.2.2.2.2.2.2.2.2.2.2.2.2.2)), (h0_op, .inl (c0_op, 16, .inl u.2.1)), (h0_argument, .inl (c0_argument, 16, .inl u.2.2.1)), (h0_inbox, .inl (c0_inbox, 60, .inl u.2.2.2.1)), (h0_hand, .inl (c0_hand, 13, .inl (upd (upd u.2.2.2.2 4 f240) 0 y6)))] := hD
                              have hP9 := hP.sub (ws' := [(h0, ce_Mo h0_op h0_argument h0_balance h0_inbox h0_real h0_hand h0_payee h0_paid h0_drawn h0_challenger h0_low h0_high h0_agreed h0_disputed h0_posted h0_middle h0_deadline h0_running h0_node h0_side (u.1.1, u.1.2.1, u.1.2.2.1, u.1.2.2.2.1, u.1.2.2.2.2.1, u.1.2.2.2.2.2.1, r238, u.1.2.2.2.2.2.2.2.1, u.1.2.2.2.2.2.2.2.2.1, u.1.2.2.2.2.2.2.2.2.2.1, u.1.2.2.2.2.2.2.2.2.2.2.1, u.1.2.2.2.2.2.2.2.2.2.2.2.1, u.1.2.2.2.2.2.2.2.2.2.2.2.2.1, u.1.2.2.2.2.2.2.2.2.2.2.2.2.2.1, u.1.2.2.2.2.2.2.2.2.2.2.2.2.2.2)), (h0_op, .inl (c0_op, 16, .inl u.2.1)), (h0_argument, .inl (c0_argument, 16, .inl u.2.2.1)), (h0_inbox, .inl (c0_inbox, 60, .inl u.2.2.2.1)), (h0_hand, .inl (c0_hand, 13, .inl (upd (upd u.2.2.2.2 4 f240) 0 y6)))]) [0, 1, 2, 3, 4] rfl
                              have hD9 := hD.sub (ws' := [(h0, ce_Mo h0_op h0_argument h0_balance h0_inbox h0_real h0_hand h0_payee h0_paid h0_drawn h0_challenger h0_low h0_high h0_agreed h0_disputed h0_posted h0_middle h0_deadline h0_running h0_node h0_side (u.1.1, u.1.2.1, u.1.2.2.1, u.1.2.2.2.1, u.1.2.2.2.2.1, u.1.2.2.2.2.2.1, r238, u.1.2.2.2.2.2.2.2.1, u.1.2.2.2.2.2.2.2.2.1, u.1.2.2.2.2.2.2.2.2.2.1, u.1.2.2.2.2.2.2.2.2.2.2.1, u.1.2.2.2.2.2.2.2.2.2.2.2.1, u.1.2.2.2.2.2.2.2.2.2.2.2.2.1, u.1.2.2.2.2.2.2.2.2.2.2.2.2.2.1, u.1.2.2.2.2.2.2.2.2.2.2.2.2.2.2)), (h0_op, .inl (c0_op, 16, .inl u.2.1)), (h0_argument, .inl (c0_argument, 16, .inl u.2.2.1)), (h0_inbox, .inl (c0_inbox, 60, .inl u.2.2.2.1)), (h0_hand, .inl (c0_hand, 13, .inl (upd (upd u.2.2.2.2 4 f240) 0 y6)))]) [0, 1, 2, 3, 4] (by decide) rfl
                              have hK9 := hK.sub (tys' := [(c0_op, .int), (c0_argument, .int), (c0_inbox, .int), (c0_hand, .int)]) [0, 1, 2, 3] rfl
                              exact W.vret hx hb hr (fun t ht hW => ⟨⟨((u.1.1, u.1.2.1, u.1.2.2.1, u.1.2.2.2.1, u.1.2.2.2.2.1, u.1.2.2.2.2.2.1, r238, u.1.2.2.2.2.2.2.2.1, u.1.2.2.2.2.2.2.2.2.1, u.1.2.2.2.2.2.2.2.2.2.1, u.1.2.2.2.2.2.2.2.2.2.2.1, u.1.2.2.2.2.2.2.2.2.2.2.2.1, u.1.2.2.2.2.2.2.2.2.2.2.2.2.1, u.1.2.2.2.2.2.2.2.2.2.2.2.2.2.1, u.1.2.2.2.2.2.2.2.2.2.2.2.2.2.2), u.2.1, u.2.2.1, u.2.2.2.1, (upd (upd u.2.2.2.2 4 f240) 0 y6)), rfl, hw, by rw [ht]; exact hP9, va_K.moved hW.alike hK9, hD9⟩, hS.F ht⟩) hS.2.2 dMo_step_379
                            · first | exact absurd cc241 (by decide) | exact (cc241 (by decide)).elim
                        · have hw := hw.1 cc215
                          refine lv_aload_n hx hb dMo_step_257 rfl (lv_at hl 8 rfl) ?_
                          refine va_get (D := (dC, dI)) (ci := 8) (v := .ref h0_hand) (C := "StepCourtModel") (T := TMo) (N := 35) hx hb hq inMo hown hK hP 0 rfl rfl 11 (by decide) (hq _ wt_745) (fun _ h9 => h9) rfl dMo_step_258 ?_
                          refine lv_iconst (v := 1) hx hb dMo_step_261 (by decide) ?_
                          refine lv_aload_n hx hb dMo_step_262 rfl (lv_at hl 8 rfl) ?_
                          refine lv_aload_n hx hb dMo_step_263 rfl (lv_at hl 8 rfl) ?_
                          refine va_get (D := (dC, dI)) (ci := 8) (v := .ref h0_hand) (C := "StepCourtModel") (T := TMo) (N := 35) hx hb hq inMo hown hK hP 0 rfl rfl 11 (by decide) (hq _ wt_745) (fun _ h9 => h9) rfl dMo_step_264 ?_
                          refine lv_iconst (v := 3) hx hb dMo_step_267 (by decide) ?_
                          refine va_iald hx hb hK hP 4 3 rfl rfl (show ¬ ((3 : Int32) < 0 ∨ 13 ≤ (3 : Int32).toNatClampNeg) by decide) dMo_step_268 ?_
                          refine W.eq (g2 := F0 m 269 ls [.int (u.2.2.2.2 3), .ref h0, .int 1, .ref h0_hand]) rfl ?_
                          have hPc := hP.sub (ws' := [(h0, ce_Mo h0_op h0_argument h0_balance h0_inbox h0_real h0_hand h0_payee h0_paid h0_drawn h0_challenger h0_low h0_high h0_agreed h0_disputed h0_posted h0_middle h0_deadline h0_running h0_node h0_side u.1), (h0_inbox, .inl (c0_inbox, 60, .inl u.2.2.2.1))]) [0, 3] rfl
                          have hDc := hD.sub (ws' := [(h0, ce_Mo h0_op h0_argument h0_balance h0_inbox h0_real h0_hand h0_payee h0_paid h0_drawn h0_challenger h0_low h0_high h0_agreed h0_disputed h0_posted h0_middle h0_deadline h0_running h0_node h0_side u.1), (h0_inbox, .inl (c0_inbox, 60, .inl u.2.2.2.1))]) [0, 3] (by decide) rfl
                          have hKc := hK.sub (tys' := [(c0_inbox, .int)]) [2] rfl
                          have hFc := va_free (wc := [(h0, ce_Mo h0_op h0_argument h0_balance h0_inbox h0_real h0_hand h0_payee h0_paid h0_drawn h0_challenger h0_low h0_high h0_agreed h0_disputed h0_posted h0_middle h0_deadline h0_running h0_node h0_side u.1), (h0_inbox, .inl (c0_inbox, 60, .inl u.2.2.2.1))]) hD hS hA [0, 3] rfl
                          refine va_calli (va_runV (As := [.int (u.2.2.2.2 3)]) (rest := [.int 1, .ref h0_hand]) ⟨hx, hb, hml, hown, hq⟩ (mt_Mo_wordAt l dC dI h0 h0_inbox h0_op h0_argument h0_balance h0_real h0_hand h0_payee h0_paid h0_drawn h0_challenger h0_low h0_high h0_agreed h0_disputed h0_posted h0_middle h0_deadline h0_running h0_node h0_side c0_inbox s.heap.size _ (u.1, u.2.2.2.1) (u.2.2.2.2 3) hw) ⟨cq_B 1 hq wt_882 wt_879 wt_10 rfl rfl hd_Mo_wordAt ⟨Nat.le_of_ble_eq_true rfl, Nat.le_of_ble_eq_true rfl⟩, (hq _ wt_881), (hq _ wv_29)⟩ ⟨kp_bl, va_recv hKc hPc (ci := 8) (q0 := 0) rfl rfl, kp_at hPc hKc hDc hZ⟩ rfl rfl hl.1 rfl (lv_room (Nat.le_of_ble_eq_true rfl)) dMo_step_269 ⟨(by decide), (by decide)⟩) hS (fun q _ h => hFc q h) hFc (fun r242 u243 t H1 locs ht hvm hw hB hz1 hk1 hS => ?_)
                          obtain ⟨hP1, hK1, hD1⟩ := hB
                          rw [ht] at hP1
                          have hK1 := va_K.moved hvm.symm hK1
                          obtain ⟨hP, hD⟩ := va_join (wr := [(h0_op, .inl (c0_op, 16, .inl u.2.1)), (h0_argument, .inl (c0_argument, 16, .inl u.2.2.1)), (h0_hand, .inl (c0_hand, 13, .inl u.2.2.2.2))]) (w1 := [(h0, ce_Mo h0_op h0_argument h0_balance h0_inbox h0_real h0_hand h0_payee h0_paid h0_drawn h0_challenger h0_low h0_high h0_agreed h0_disputed h0_posted h0_middle h0_deadline h0_running h0_node h0_side u243.1), (h0_inbox, .inl (c0_inbox, 60, .inl u243.2))]) hP hD [0, 3] [1, 2, 4] rfl rfl (by decide) (by decide) hk1 hFc hP1 hD1
                          have hK := (hK.sub (tys' := [(c0_op, .int), (c0_argument, .int), (c0_hand, .int)]) [0, 1, 3] rfl).app hK1
                          generalize H1 = H at hP hS ⊢
                          have hP : va_P (dC, dI) vwCl [(h0_op, .inl (c0_op, 16, .inl u.2.1)), (h0_argument, .inl (c0_argument, 16, .inl u.2.2.1)), (h0_hand, .inl (c0_hand, 13, .inl u.2.2.2.2)), (h0, ce_Mo h0_op h0_argument h0_balance h0_inbox h0_real h0_hand h0_payee h0_paid h0_drawn h0_challenger h0_low h0_high h0_agreed h0_disputed h0_posted h0_middle h0_deadline h0_running h0_node h0_side u243.1), (h0_inbox, .inl (c0_inbox, 60, .inl u243.2))] H := hP
                          have hD : va_D A [(h0_op, .inl (c0_op, 16, .inl u.2.1)), (h0_argument, .inl (c0_argument, 16, .inl u.2.2.1)), (h0_hand, .inl (c0_hand, 13, .inl u.2.2.2.2)), (h0, ce_Mo h0_op h0_argument h0_balance h0_inbox h0_real h0_hand h0_payee h0_paid h0_drawn h0_challenger h0_low h0_high h0_agreed h0_disputed h0_posted h0_middle h0_deadline h0_running h0_node h0_side u243.1), (h0_inbox, .inl (c0_inbox, 60, .inl u243.2))] := hD
                          have hK : va_K (dC, dI) vwCl [(c0_op, .int), (c0_argument, .int), (c0_hand, .int), (c0_inbox, .int)] s := hK
                          refine va_iast hx hb hK hP hD hS 2 2 rfl rfl (show ¬ ((1 : Int32) < 0 ∨ 13 ≤ (1 : Int32).toNatClampNeg) by decide) dMo_step_272 (fun H locs hP hD hS => ?_)
                          have hP : va_P (dC, dI) vwCl [(h0_op, .inl (c0_op, 16, .inl u.2.1)), (h0_argument, .inl (c0_argument, 16, .inl u.2.2.1)), (h0_hand, .inl (c0_hand, 13, .inl (upd u.2.2.2.2 1 r242))), (h0, ce_Mo h0_op h0_argument h0_balance h0_inbox h0_real h0_hand h0_payee h0_paid h0_drawn h0_challenger h0_low h0_high h0_agreed h0_disputed h0_posted h0_middle h0_deadline h0_running h0_node h0_side u243.1), (h0_inbox, .inl (c0_inbox, 60, .inl u243.2))] H := hP
                          have hD : va_D A [(h0_op, .inl (c0_op, 16, .inl u.2.1)), (h0_argument, .inl (c0_argument, 16, .inl u.2.2.1)), (h0_hand, .inl (c0_hand, 13, .inl (upd u.2.2.2.2 1 r242))), (h0, ce_Mo h0_op h0_argument h0_balance h0_inbox h0_real h0_hand h0_payee h0_paid h0_drawn h0_challenger h0_low h0_high h0_agreed h0_disputed h0_posted h0_middle h0_deadline h0_running h0_node h0_side u243.1), (h0_inbox, .inl (c0_inbox, 60, .inl u243.2))] := hD
                          refine lv_aload_n hx hb dMo_step_273 rfl (lv_at hl 8 rfl) ?_
                          refine va_get (D := (dC, dI)) (ci := 8) (v := .ref h0_hand) (C := "StepCourtModel") (T := TMo) (N := 35) hx hb hq inMo hown hK hP 3 rfl rfl 11 (by decide) (hq _ wt_745) (fun _ h9 => h9) rfl dMo_step_274 ?_
                          refine lv_iconst (v := 3) hx hb dMo_step_277 (by decide) ?_
                          refine lv_dup2_11 hx hb dMo_step_278 rfl rfl ?_
                          refine va_iald hx hb hK hP 2 2 rfl rfl (show ¬ ((3 : Int32) < 0 ∨ 13 ≤ (3 : Int32).toNatClampNeg) by decide) dMo_step_279 ?_
                          refine W.eq (g2 := F0 m 280 ls [.int ((upd u.2.2.2.2 1 r242) 3), .int 3, .ref h0_hand]) rfl ?_
                          refine lv_iconst (v := 1) hx hb dMo_step_280 (by decide) ?_
                          refine lv_iadd hx hb dMo_step_281 ?_
                          refine lv_topi (fun f244 ef244 => ?_)
                          have hw := hw f244 ef244
                          refine va_iast hx hb hK hP hD hS 2 2 rfl rfl (show ¬ ((3 : Int32) < 0 ∨ 13 ≤ (3 : Int32).toNatClampNeg) by decide) dMo_step_282 (fun H locs hP hD hS => ?_)
                          have hP : va_P (dC, dI) vwCl [(h0_op, .inl (c0_op, 16, .inl u.2.1)), (h0_argument, .inl (c0_argument, 16, .inl u.2.2.1)), (h0_hand, .inl (c0_hand, 13, .inl (upd (upd u.2.2.2.2 1 r242) 3 f244))), (h0, ce_Mo h0_op h0_argument h0_balance h0_inbox h0_real h0_hand h0_payee h0_paid h0_drawn h0_challenger h0_low h0_high h0_agreed h0_disputed h0_posted h0_middle h0_deadline h0_running h0_node h0_side u243.1), (h0_inbox, .inl (c0_inbox, 60, .inl u243.2))] H := hP
                          have hD : va_D A [(h0_op, .inl (c0_op, 16, .inl u.2.1)), (h0_argument, .inl (c0_argument, 16, .inl u.2.2.1)), (h0_hand, .inl (c0_hand, 13, .inl (upd (upd u.2.2.2.2 1 r242) 3 f244))), (h0, ce_Mo h0_op h0_argument h0_balance h0_inbox h0_real h0_hand h0_payee h0_paid h0_drawn h0_challenger h0_low h0_high h0_agreed h0_disputed h0_posted h0_middle h0_deadline h0_running h0_node h0_side u243.1), (h0_inbox, .inl (c0_inbox, 60, .inl u243.2))] := hD
                          refine lv_goto (tgt := 362) hx hb dMo_step_283 (by decide) ?_
                          refine lv_aload_n hx hb dMo_step_362 rfl (lv_at hl 8 rfl) ?_
                          refine va_get (D := (dC, dI)) (ci := 8) (v := .ref h0_hand) (C := "StepCourtModel") (T := TMo) (N := 35) hx hb hq inMo hown hK hP 3 rfl rfl 11 (by decide) (hq _ wt_745) (fun _ h9 => h9) rfl dMo_step_363 ?_
                          refine lv_iconst (v := 0) hx hb dMo_step_366 (by decide) ?_
                          refine lv_iload hx hb dMo_step_367 (lv_at hl 0 rfl) ?_
                          refine lv_if_eq (tgt := 376) hx hb dMo_step_369 (by decide) (fun cc245 => ?_) (fun cc245 => ?_)
                          · have hw := hw
                            refine lv_iload hx hb dMo_step_376 (lv_at hl 4 rfl) ?_
                            refine va_iast hx hb hK hP hD hS 2 2 rfl rfl (show ¬ ((0 : Int32) < 0 ∨ 13 ≤ (0 : Int32).toNatClampNeg) by decide) dMo_step_378 (fun H locs hP hD hS => ?_)
                            have hP : va_P (dC, dI) vwCl [(h0_op, .inl (c0_op, 16, .inl u.2.1)), (h0_argument, .inl (c0_argument, 16, .inl u.2.2.1)), (h0_hand, .inl (c0_hand, 13, .inl (upd (upd (upd u.2.2.2.2 1 r242) 3 f244) 0 y6))), (h0, ce_Mo h0_op h0_argument h0_balance h0_inbox h0_real h0_hand h0_payee h0_paid h0_drawn h0_challenger h0_low h0_high h0_agreed h0_disputed h0_posted h0_middle h0_deadline h0_running h0_node h0_side u243.1), (h0_inbox, .inl (c0_inbox, 60, .inl u243.2))] H := hP
                            have hD : va_D A [(h0_op, .inl (c0_op, 16, .inl u.2.1)), (h0_argument, .inl (c0_argument, 16, .inl u.2.2.1)), (h0_hand, .inl (c0_hand, 13, .inl (upd (upd (upd u.2.2.2.2 1 r242) 3 f244) 0 y6))), (h0, ce_Mo h0_op h0_argument h0_balance h0_inbox h0_real h0_hand h0_payee h0_paid h0_drawn h0_challenger h0_low h0_high h0_agreed h0_disputed h0_posted h0_middle h0_deadline h0_running h0_node h0_side u243.1), (h0_inbox, .inl (c0_inbox, 60, .inl u243.2))] := hD
                            have hP9 := hP.sub (ws' := [(h0, ce_Mo h0_op h0_argument h0_balance h0_inbox h0_real h0_hand h0_payee h0_paid h0_drawn h0_challenger h0_low h0_high h0_agreed h0_disputed h0_posted h0_middle h0_deadline h0_running h0_node h0_side u243.1), (h0_op, .inl (c0_op, 16, .inl u.2.1)), (h0_argument, .inl (c0_argument, 16, .inl u.2.2.1)), (h0_inbox, .inl (c0_inbox, 60, .inl u243.2)), (h0_hand, .inl (c0_hand, 13, .inl (upd (upd (upd u.2.2.2.2 1 r242) 3 f244) 0 y6)))]) [3, 0, 1, 4, 2] rfl
                            have hD9 := hD.sub (ws' := [(h0, ce_Mo h0_op h0_argument h0_balance h0_inbox h0_real h0_hand h0_payee h0_paid h0_drawn h0_challenger h0_low h0_high h0_agreed h0_disputed h0_posted h0_middle h0_deadline h0_running h0_node h0_side u243.1), (h0_op, .inl (c0_op, 16, .inl u.2.1)), (h0_argument, .inl (c0_argument, 16, .inl u.2.2.1)), (h0_inbox, .inl (c0_inbox, 60, .inl u243.2)), (h0_hand, .inl (c0_hand, 13, .inl (upd (upd (upd u.2.2.2.2 1 r242) 3 f244) 0 y6)))]) [3, 0, 1, 4, 2] (by decide) rfl
                            have hK9 := hK.sub (tys' := [(c0_op, .int), (c0_argument, .int), (c0_inbox, .int), (c0_hand, .int)]) [0, 1, 3, 2] rfl
                            exact W.vret hx hb hr (fun t ht hW => ⟨⟨(u243.1, u.2.1, u.2.2.1, u243.2, (upd (upd (upd u.2.2.2.2 1 r242) 3 f244) 0 y6)), rfl, hw, by rw [ht]; exact hP9, va_K.moved hW.alike hK9, hD9⟩, hS.F ht⟩) hS.2.2 dMo_step_379
                          · first | exact absurd cc245 (by decide) | exact (cc245 (by decide)).elim
                      · have hw := hw.1 cc214
                        refine lv_aload_n hx hb dMo_step_239 rfl (lv_at hl 8 rfl) ?_
                        refine va_get (D := (dC, dI)) (ci := 8) (v := .ref h0_hand) (C := "StepCourtModel") (T := TMo) (N := 35) hx hb hq inMo hown hK hP 0 rfl rfl 11 (by decide) (hq _ wt_745) (fun _ h9 => h9) rfl dMo_step_240 ?_
                        refine lv_iload hx hb dMo_step_243 (lv_at hl 1 rfl) ?_
                        refine lv_iload hx hb dMo_step_245 (lv_at hl 3 rfl) ?_
                        obtain ⟨hh246, hw⟩ := hw
                        refine va_iast hx hb hK hP hD hS 4 3 rfl rfl hh246 dMo_step_247 (fun H locs hP hD hS => ?_)
                        have hP : va_P (dC, dI) vwCl [(h0, ce_Mo h0_op h0_argument h0_balance h0_inbox h0_real h0_hand h0_payee h0_paid h0_drawn h0_challenger h0_low h0_high h0_agreed h0_disputed h0_posted h0_middle h0_deadline h0_running h0_node h0_side u.1), (h0_op, .inl (c0_op, 16, .inl u.2.1)), (h0_argument, .inl (c0_argument, 16, .inl u.2.2.1)), (h0_inbox, .inl (c0_inbox, 60, .inl u.2.2.2.1)), (h0_hand, .inl (c0_hand, 13, .inl (upd u.2.2.2.2 y9.toNatClampNeg y7)))] H := hP
                        have hD : va_D A [(h0, ce_Mo h0_op h0_argument h0_balance h0_inbox h0_real h0_hand h0_payee h0_paid h0_drawn h0_challenger h0_low h0_high h0_agreed h0_disputed h0_posted h0_middle h0_deadline h0_running h0_node h0_side u.1), (h0_op, .inl (c0_op, 16, .inl u.2.1)), (h0_argument, .inl (c0_argument, 16, .inl u.2.2.1)), (h0_inbox, .inl (c0_inbox, 60, .inl u.2.2.2.1)), (h0_hand, .inl (c0_hand, 13, .inl (upd u.2.2.2.2 y9.toNatClampNeg y7)))] := hD
                        refine lv_goto (tgt := 362) hx hb dMo_step_248 (by decide) ?_
                        refine lv_aload_n hx hb dMo_step_362 rfl (lv_at hl 8 rfl) ?_
                        refine va_get (D := (dC, dI)) (ci := 8) (v := .ref h0_hand) (C := "StepCourtModel") (T := TMo) (N := 35) hx hb hq inMo hown hK hP 0 rfl rfl 11 (by decide) (hq _ wt_745) (fun _ h9 => h9) rfl dMo_step_363 ?_
                        refine lv_iconst (v := 0) hx hb dMo_step_366 (by decide) ?_
                        refine lv_iload hx hb dMo_step_367 (lv_at hl 0 rfl) ?_
                        refine lv_if_eq (tgt := 376) hx hb dMo_step_369 (by decide) (fun cc247 => ?_) (fun cc247 => ?_)
                        · have hw := hw
                          refine lv_iload hx hb dMo_step_376 (lv_at hl 4 rfl) ?_
                          refine va_iast hx hb hK hP hD hS 4 3 rfl rfl (show ¬ ((0 : Int32) < 0 ∨ 13 ≤ (0 : Int32).toNatClampNeg) by decide) dMo_step_378 (fun H locs hP hD hS => ?_)
                          have hP : va_P (dC, dI) vwCl [(h0, ce_Mo h0_op h0_argument h0_balance h0_inbox h0_real h0_hand h0_payee h0_paid h0_drawn h0_challenger h0_low h0_high h0_agreed h0_disputed h0_posted h0_middle h0_deadline h0_running h0_node h0_side u.1), (h0_op, .inl (c0_op, 16, .inl u.2.1)), (h0_argument, .inl (c0_argument, 16, .inl u.2.2.1)), (h0_inbox, .inl (c0_inbox, 60, .inl u.2.2.2.1)), (h0_hand, .inl (c0_hand, 13, .inl (upd (upd u.2.2.2.2 y9.toNatClampNeg y7) 0 y6)))] H := hP
                          have hD : va_D A [(h0, ce_Mo h0_op h0_argument h0_balance h0_inbox h0_real h0_hand h0_payee h0_paid h0_drawn h0_challenger h0_low h0_high h0_agreed h0_disputed h0_posted h0_middle h0_deadline h0_running h0_node h0_side u.1), (h0_op, .inl (c0_op, 16, .inl u.2.1)), (h0_argument, .inl (c0_argument, 16, .inl u.2.2.1)), (h0_inbox, .inl (c0_inbox, 60, .inl u.2.2.2.1)), (h0_hand, .inl (c0_hand, 13, .inl (upd (upd u.2.2.2.2 y9.toNatClampNeg y7) 0 y6)))] := hD
                          have hP9 := hP.sub (ws' := [(h0, ce_Mo h0_op h0_argument h0_balance h0_inbox h0_real h0_hand h0_payee h0_paid h0_drawn h0_challenger h0_low h0_high h0_agreed h0_disputed h0_posted h0_middle h0_deadline h0_running h0_node h0_side u.1), (h0_op, .inl (c0_op, 16, .inl u.2.1)), (h0_argument, .inl (c0_argument, 16, .inl u.2.2.1)), (h0_inbox, .inl (c0_inbox, 60, .inl u.2.2.2.1)), (h0_hand, .inl (c0_hand, 13, .inl (upd (upd u.2.2.2.2 y9.toNatClampNeg y7) 0 y6)))]) [0, 1, 2, 3, 4] rfl
                          have hD9 := hD.sub (ws' := [(h0, ce_Mo h0_op h0_argument h0_balance h0_inbox h0_real h0_hand h0_payee h0_paid h0_drawn h0_challenger h0_low h0_high h0_agreed h0_disputed h0_posted h0_middle h0_deadline h0_running h0_node h0_side u.1), (h0_op, .inl (c0_op, 16, .inl u.2.1)), (h0_argument, .inl (c0_argument, 16, .inl u.2.2.1)), (h0_inbox, .inl (c0_inbox, 60, .inl u.2.2.2.1)), (h0_hand, .inl (c0_hand, 13, .inl (upd (upd u.2.2.2.2 y9.toNatClampNeg y7) 0 y6)))]) [0, 1, 2, 3, 4] (by decide) rfl
                          have hK9 := hK.sub (tys' := [(c0_op, .int), (c0_argument, .int), (c0_inbox, .int), (c0_hand, .int)]) [0, 1, 2, 3] rfl
                          exact W.vret hx hb hr (fun t ht hW => ⟨⟨(u.1, u.2.1, u.2.2.1, u.2.2.2.1, (upd (upd u.2.2.2.2 y9.toNatClampNeg y7) 0 y6)), rfl, hw, by rw [ht]; exact hP9, va_K.moved hW.alike hK9, hD9⟩, hS.F ht⟩) hS.2.2 dMo_step_379
                        · first | exact absurd cc247 (by decide) | exact (cc247 (by decide)).elim
                    · have hw := hw.1 cc213
                      refine lv_aload_n hx hb dMo_step_217 rfl (lv_at hl 8 rfl) ?_
                      refine va_get (D := (dC, dI)) (ci := 8) (v := .ref h0_hand) (C := "StepCourtModel") (T := TMo) (N := 35) hx hb hq inMo hown hK hP 0 rfl rfl 11 (by decide) (hq _ wt_745) (fun _ h9 => h9) rfl dMo_step_218 ?_
                      refine lv_iconst (v := 1) hx hb dMo_step_221 (by decide) ?_
                      refine lv_aload_n hx hb dMo_step_222 rfl (lv_at hl 8 rfl) ?_
                      refine va_get (D := (dC, dI)) (ci := 8) (v := .ref h0_hand) (C := "StepCourtModel") (T := TMo) (N := 35) hx hb hq inMo hown hK hP 0 rfl rfl 11 (by decide) (hq _ wt_745) (fun _ h9 => h9) rfl dMo_step_223 ?_
                      refine lv_iload hx hb dMo_step_226 (lv_at hl 1 rfl) ?_
                      obtain ⟨hh248, hw⟩ := hw
                      refine va_iald hx hb hK hP 4 3 rfl rfl hh248 dMo_step_228 ?_
                      refine lv_topi (fun f249 ef249 => ?_)
                      have hw := hw f249 ef249
                      refine va_iast hx hb hK hP hD hS 4 3 rfl rfl (show ¬ ((1 : Int32) < 0 ∨ 13 ≤ (1 : Int32).toNatClampNeg) by decide) dMo_step_229 (fun H locs hP hD hS => ?_)
                      have hP : va_P (dC, dI) vwCl [(h0, ce_Mo h0_op h0_argument h0_balance h0_inbox h0_real h0_hand h0_payee h0_paid h0_drawn h0_challenger h0_low h0_high h0_agreed h0_disputed h0_posted h0_middle h0_deadline h0_running h0_node h0_side u.1), (h0_op, .inl (c0_op, 16, .inl u.2.1)), (h0_argument, .inl (c0_argument, 16, .inl u.2.2.1)), (h0_inbox, .inl (c0_inbox, 60, .inl u.2.2.2.1)), (h0_hand, .inl (c0_hand, 13, .inl (upd u.2.2.2.2 1 f249)))] H := hP
                      have hD : va_D A [(h0, ce_Mo h0_op h0_argument h0_balance h0_inbox h0_real h0_hand h0_payee h0_paid h0_drawn h0_challenger h0_low h0_high h0_agreed h0_disputed h0_posted h0_middle h0_deadline h0_running h0_node h0_side u.1), (h0_op, .inl (c0_op, 16, .inl u.2.1)), (h0_argument, .inl (c0_argument, 16, .inl u.2.2.1)), (h0_inbox, .inl (c0_inbox, 60, .inl u.2.2.2.1)), (h0_hand, .inl (c0_hand, 13, .inl (upd u.2.2.2.2 1 f249)))] := hD
                      refine lv_goto (tgt := 362) hx hb dMo_step_230 (by decide) ?_
                      refine lv_aload_n hx hb dMo_step_362 rfl (lv_at hl 8 rfl) ?_
                      refine va_get (D := (dC, dI)) (ci := 8) (v := .ref h0_hand) (C := "StepCourtModel") (T := TMo) (N := 35) hx hb hq inMo hown hK hP 0 rfl rfl 11 (by decide) (hq _ wt_745) (fun _ h9 => h9) rfl dMo_step_363 ?_
                      refine lv_iconst (v := 0) hx hb dMo_step_366 (by decide) ?_
                      refine lv_iload hx hb dMo_step_367 (lv_at hl 0 rfl) ?_
                      refine lv_if_eq (tgt := 376) hx hb dMo_step_369 (by decide) (fun cc250 => ?_) (fun cc250 => ?_)
                      · have hw := hw
                        refine lv_iload hx hb dMo_step_376 (lv_at hl 4 rfl) ?_
                        refine va_iast hx hb hK hP hD hS 4 3 rfl rfl (show ¬ ((0 : Int32) < 0 ∨ 13 ≤ (0 : Int32).toNatClampNeg) by decide) dMo_step_378 (fun H locs hP hD hS => ?_)
                        have hP : va_P (dC, dI) vwCl [(h0, ce_Mo h0_op h0_argument h0_balance h0_inbox h0_real h0_hand h0_payee h0_paid h0_drawn h0_challenger h0_low h0_high h0_agreed h0_disputed h0_posted h0_middle h0_deadline h0_running h0_node h0_side u.1), (h0_op, .inl (c0_op, 16, .inl u.2.1)), (h0_argument, .inl (c0_argument, 16, .inl u.2.2.1)), (h0_inbox, .inl (c0_inbox, 60, .inl u.2.2.2.1)), (h0_hand, .inl (c0_hand, 13, .inl (upd (upd u.2.2.2.2 1 f249) 0 y6)))] H := hP
                        have hD : va_D A [(h0, ce_Mo h0_op h0_argument h0_balance h0_inbox h0_real h0_hand h0_payee h0_paid h0_drawn h0_challenger h0_low h0_high h0_agreed h0_disputed h0_posted h0_middle h0_deadline h0_running h0_node h0_side u.1), (h0_op, .inl (c0_op, 16, .inl u.2.1)), (h0_argument, .inl (c0_argument, 16, .inl u.2.2.1)), (h0_inbox, .inl (c0_inbox, 60, .inl u.2.2.2.1)), (h0_hand, .inl (c0_hand, 13, .inl (upd (upd u.2.2.2.2 1 f249) 0 y6)))] := hD
                        have hP9 := hP.sub (ws' := [(h0, ce_Mo h0_op h0_argument h0_balance h0_inbox h0_real h0_hand h0_payee h0_paid h0_drawn h0_challenger h0_low h0_high h0_agreed h0_disputed h0_posted h0_middle h0_deadline h0_running h0_node h0_side u.1), (h0_op, .inl (c0_op, 16, .inl u.2.1)), (h0_argument, .inl (c0_argument, 16, .inl u.2.2.1)), (h0_inbox, .inl (c0_inbox, 60, .inl u.2.2.2.1)), (h0_hand, .inl (c0_hand, 13, .inl (upd (upd u.2.2.2.2 1 f249) 0 y6)))]) [0, 1, 2, 3, 4] rfl
                        have hD9 := hD.sub (ws' := [(h0, ce_Mo h0_op h0_argument h0_balance h0_inbox h0_real h0_hand h0_payee h0_paid h0_drawn h0_challenger h0_low h0_high h0_agreed h0_disputed h0_posted h0_middle h0_deadline h0_running h0_node h0_side u.1), (h0_op, .inl (c0_op, 16, .inl u.2.1)), (h0_argument, .inl (c0_argument, 16, .inl u.2.2.1)), (h0_inbox, .inl (c0_inbox, 60, .inl u.2.2.2.1)), (h0_hand, .inl (c0_hand, 13, .inl (upd (upd u.2.2.2.2 1 f249) 0 y6)))]) [0, 1, 2, 3, 4] (by decide) rfl
                        have hK9 := hK.sub (tys' := [(c0_op, .int), (c0_argument, .int), (c0_inbox, .int), (c0_hand, .int)]) [0, 1, 2, 3] rfl
                        exact W.vret hx hb hr (fun t ht hW => ⟨⟨(u.1, u.2.1, u.2.2.1, u.2.2.2.1, (upd (upd u.2.2.2.2 1 f249) 0 y6)), rfl, hw, by rw [ht]; exact hP9, va_K.moved hW.alike hK9, hD9⟩, hS.F ht⟩) hS.2.2 dMo_step_379
                      · first | exact absurd cc250 (by decide) | exact (cc250 (by decide)).elim
                  · have hw := hw.2 cc212
                    refine lv_iload_n hx hb dMo_step_165 rfl (lv_at hl 6 rfl) ?_
                    refine lv_bipush (v := 6) hx hb dMo_step_166 (by decide) ?_
                    refine lv_icmp_gt (tgt := 211) hx hb dMo_step_168 (by decide) (fun cc251 => ?_) (fun cc251 => ?_)
                    · have hw := hw.1 cc251
                      refine lv_iload_n hx hb dMo_step_211 rfl (lv_at hl 6 rfl) ?_
                      refine lv_bipush (v := 7) hx hb dMo_step_212 (by decide) ?_
                      refine lv_icmp_ne (tgt := 233) hx hb dMo_step_214 (by decide) (fun cc252 => ?_) (fun cc252 => ?_)
                      · have hw := hw.2 cc252
                        refine lv_iload_n hx hb dMo_step_233 rfl (lv_at hl 6 rfl) ?_
                        refine lv_bipush (v := 8) hx hb dMo_step_234 (by decide) ?_
                        refine lv_icmp_ne (tgt := 251) hx hb dMo_step_236 (by decide) (fun cc253 => ?_) (fun cc253 => ?_)
                        · have hw := hw.2 cc253
                          refine lv_iload_n hx hb dMo_step_251 rfl (lv_at hl 6 rfl) ?_
                          refine lv_bipush (v := 9) hx hb dMo_step_252 (by decide) ?_
                          refine lv_icmp_ne (tgt := 286) hx hb dMo_step_254 (by decide) (fun cc254 => ?_) (fun cc254 => ?_)
                          · have hw := hw.2 cc254
                            refine lv_iload_n hx hb dMo_step_286 rfl (lv_at hl 6 rfl) ?_
                            refine lv_bipush (v := 13) hx hb dMo_step_287 (by decide) ?_
                            refine lv_icmp_ne (tgt := 327) hx hb dMo_step_289 (by decide) (fun cc255 => ?_) (fun cc255 => ?_)
                            · have hw := hw.2 cc255
                              refine lv_iload_n hx hb dMo_step_327 rfl (lv_at hl 6 rfl) ?_
                              refine lv_bipush (v := 10) hx hb dMo_step_328 (by decide) ?_
                              refine lv_icmp_eq (tgt := 355) hx hb dMo_step_330 (by decide) (fun cc256 => ?_) (fun cc256 => ?_)
                              · have hw := hw.1 cc256
                                refine lv_iload hx hb dMo_step_355 (lv_at hl 5 rfl) ?_
                                refine lv_bipush (v := 15) hx hb dMo_step_357 (by decide) ?_
                                refine lv_iand hx hb dMo_step_359 ?_
                                refine lv_topi (fun y257 ey257 => ?_)
                                have hw := hw y257 ey257
                                refine lv_istore (lv' := [(5, .int y257), (9, .int 0), (8, .int y9), (7, .int y8), (6, .int y7), (4, .int y5), (3, .int y3), (2, .int y1), (0, .ref h0), (1, .int k1)]) hx hb dMo_step_360 hl (by decide) rfl (fun ls hl => ?_)
                                refine lv_aload_n hx hb dMo_step_362 rfl (lv_at hl 8 rfl) ?_
                                refine va_get (D := (dC, dI)) (ci := 8) (v := .ref h0_hand) (C := "StepCourtModel") (T := TMo) (N := 35) hx hb hq inMo hown hK hP 0 rfl rfl 11 (by decide) (hq _ wt_745) (fun _ h9 => h9) rfl dMo_step_363 ?_
                                refine lv_iconst (v := 0) hx hb dMo_step_366 (by decide) ?_
                                refine lv_iload hx hb dMo_step_367 (lv_at hl 1 rfl) ?_
                                refine lv_if_eq (tgt := 376) hx hb dMo_step_369 (by decide) (fun cc258 => ?_) (fun cc258 => ?_)
                                · have hw := hw
                                  refine lv_iload hx hb dMo_step_376 (lv_at hl 0 rfl) ?_
                                  refine va_iast hx hb hK hP hD hS 4 3 rfl rfl (show ¬ ((0 : Int32) < 0 ∨ 13 ≤ (0 : Int32).toNatClampNeg) by decide) dMo_step_378 (fun H locs hP hD hS => ?_)
                                  have hP : va_P (dC, dI) vwCl [(h0, ce_Mo h0_op h0_argument h0_balance h0_inbox h0_real h0_hand h0_payee h0_paid h0_drawn h0_challenger h0_low h0_high h0_agreed h0_disputed h0_posted h0_middle h0_deadline h0_running h0_node h0_side u.1), (h0_op, .inl (c0_op, 16, .inl u.2.1)), (h0_argument, .inl (c0_argument, 16, .inl u.2.2.1)), (h0_inbox, .inl (c0_inbox, 60, .inl u.2.2.2.1)), (h0_hand, .inl (c0_hand, 13, .inl (upd u.2.2.2.2 0 y257)))] H := hP
                                  have hD : va_D A [(h0, ce_Mo h0_op h0_argument h0_balance h0_inbox h0_real h0_hand h0_payee h0_paid h0_drawn h0_challenger h0_low h0_high h0_agreed h0_disputed h0_posted h0_middle h0_deadline h0_running h0_node h0_side u.1), (h0_op, .inl (c0_op, 16, .inl u.2.1)), (h0_argument, .inl (c0_argument, 16, .inl u.2.2.1)), (h0_inbox, .inl (c0_inbox, 60, .inl u.2.2.2.1)), (h0_hand, .inl (c0_hand, 13, .inl (upd u.2.2.2.2 0 y257)))] := hD
                                  have hP9 := hP.sub (ws' := [(h0, ce_Mo h0_op h0_argument h0_balance h0_inbox h0_real h0_hand h0_payee h0_paid h0_drawn h0_challenger h0_low h0_high h0_agreed h0_disputed h0_posted h0_middle h0_deadline h0_running h0_node h0_side u.1), (h0_op, .inl (c0_op, 16, .inl u.2.1)), (h0_argument, .inl (c0_argument, 16, .inl u.2.2.1)), (h0_inbox, .inl (c0_inbox, 60, .inl u.2.2.2.1)), (h0_hand, .inl (c0_hand, 13, .inl (upd u.2.2.2.2 0 y257)))]) [0, 1, 2, 3, 4] rfl
                                  have hD9 := hD.sub (ws' := [(h0, ce_Mo h0_op h0_argument h0_balance h0_inbox h0_real h0_hand h0_payee h0_paid h0_drawn h0_challenger h0_low h0_high h0_agreed h0_disputed h0_posted h0_middle h0_deadline h0_running h0_node h0_side u.1), (h0_op, .inl (c0_op, 16, .inl u.2.1)), (h0_argument, .inl (c0_argument, 16, .inl u.2.2.1)), (h0_inbox, .inl (c0_inbox, 60, .inl u.2.2.2.1)), (h0_hand, .inl (c0_hand, 13, .inl (upd u.2.2.2.2 0 y257)))]) [0, 1, 2, 3, 4] (by decide) rfl
                                  have hK9 := hK.sub (tys' := [(c0_op, .int), (c0_argument, .int), (c0_inbox, .int), (c0_hand, .int)]) [0, 1, 2, 3] rfl
                                  exact W.vret hx hb hr (fun t ht hW => ⟨⟨(u.1, u.2.1, u.2.2.1, u.2.2.2.1, (upd u.2.2.2.2 0 y257)), rfl, hw, by rw [ht]; exact hP9, va_K.moved hW.alike hK9, hD9⟩, hS.F ht⟩) hS.2.2 dMo_step_379
                                · first | exact absurd cc258 (by decide) | exact (cc258 (by decide)).elim
                              · have hw := hw.2 cc256
                                refine lv_iload_n hx hb dMo_step_333 rfl (lv_at hl 6 rfl) ?_
                                refine lv_bipush (v := 11) hx hb dMo_step_334 (by decide) ?_
                                refine lv_icmp_ne (tgt := 344) hx hb dMo_step_336 (by decide) (fun cc259 => ?_) (fun cc259 => ?_)
                                · have hw := hw.2 cc259
                                  refine lv_iload_n hx hb dMo_step_344 rfl (lv_at hl 6 rfl) ?_
                                  refine lv_bipush (v := 12) hx hb dMo_step_345 (by decide) ?_
                                  refine lv_icmp_ne (tgt := 362) hx hb dMo_step_347 (by decide) (fun cc260 => ?_) (fun cc260 => ?_)
                                  · have hw := hw.2 cc260
                                    refine lv_aload_n hx hb dMo_step_362 rfl (lv_at hl 8 rfl) ?_
                                    refine va_get (D := (dC, dI)) (ci := 8) (v := .ref h0_hand) (C := "StepCourtModel") (T := TMo) (N := 35) hx hb hq inMo hown hK hP 0 rfl rfl 11 (by decide) (hq _ wt_745) (fun _ h9 => h9) rfl dMo_step_363 ?_
                                    refine lv_iconst (v := 0) hx hb dMo_step_366 (by decide) ?_
                                    refine lv_iload hx hb dMo_step_367 (lv_at hl 0 rfl) ?_
                                    refine lv_if_eq (tgt := 376) hx hb dMo_step_369 (by decide) (fun cc261 => ?_) (fun cc261 => ?_)
                                    · have hw := hw
                                      refine lv_iload hx hb dMo_step_376 (lv_at hl 4 rfl) ?_
                                      refine va_iast hx hb hK hP hD hS 4 3 rfl rfl (show ¬ ((0 : Int32) < 0 ∨ 13 ≤ (0 : Int32).toNatClampNeg) by decide) dMo_step_378 (fun H locs hP hD hS => ?_)
                                      have hP : va_P (dC, dI) vwCl [(h0, ce_Mo h0_op h0_argument h0_balance h0_inbox h0_real h0_hand h0_payee h0_paid h0_drawn h0_challenger h0_low h0_high h0_agreed h0_disputed h0_posted h0_middle h0_deadline h0_running h0_node h0_side u.1), (h0_op, .inl (c0_op, 16, .inl u.2.1)), (h0_argument, .inl (c0_argument, 16, .inl u.2.2.1)), (h0_inbox, .inl (c0_inbox, 60, .inl u.2.2.2.1)), (h0_hand, .inl (c0_hand, 13, .inl (upd u.2.2.2.2 0 y6)))] H := hP
                                      have hD : va_D A [(h0, ce_Mo h0_op h0_argument h0_balance h0_inbox h0_real h0_hand h0_payee h0_paid h0_drawn h0_challenger h0_low h0_high h0_agreed h0_disputed h0_posted h0_middle h0_deadline h0_running h0_node h0_side u.1), (h0_op, .inl (c0_op, 16, .inl u.2.1)), (h0_argument, .inl (c0_argument, 16, .inl u.2.2.1)), (h0_inbox, .inl (c0_inbox, 60, .inl u.2.2.2.1)), (h0_hand, .inl (c0_hand, 13, .inl (upd u.2.2.2.2 0 y6)))] := hD
                                      have hP9 := hP.sub (ws' := [(h0, ce_Mo h0_op h0_argument h0_balance h0_inbox h0_real h0_hand h0_payee h0_paid h0_drawn h0_challenger h0_low h0_high h0_agreed h0_disputed h0_posted h0_middle h0_deadline h0_running h0_node h0_side u.1), (h0_op, .inl (c0_op, 16, .inl u.2.1)), (h0_argument, .inl (c0_argument, 16, .inl u.2.2.1)), (h0_inbox, .inl (c0_inbox, 60, .inl u.2.2.2.1)), (h0_hand, .inl (c0_hand, 13, .inl (upd u.2.2.2.2 0 y6)))]) [0, 1, 2, 3, 4] rfl
                                      have hD9 := hD.sub (ws' := [(h0, ce_Mo h0_op h0_argument h0_balance h0_inbox h0_real h0_hand h0_payee h0_paid h0_drawn h0_challenger h0_low h0_high h0_agreed h0_disputed h0_posted h0_middle h0_deadline h0_running h0_node h0_side u.1), (h0_op, .inl (c0_op, 16, .inl u.2.1)), (h0_argument, .inl (c0_argument, 16, .inl u.2.2.1)), (h0_inbox, .inl (c0_inbox, 60, .inl u.2.2.2.1)), (h0_hand, .inl (c0_hand, 13, .inl (upd u.2.2.2.2 0 y6)))]) [0, 1, 2, 3, 4] (by decide) rfl
                                      have hK9 := hK.sub (tys' := [(c0_op, .int), (c0_argument, .int), (c0_inbox, .int), (c0_hand, .int)]) [0, 1, 2, 3] rfl
                                      exact W.vret hx hb hr (fun t ht hW => ⟨⟨(u.1, u.2.1, u.2.2.1, u.2.2.2.1, (upd u.2.2.2.2 0 y6)), rfl, hw, by rw [ht]; exact hP9, va_K.moved hW.alike hK9, hD9⟩, hS.F ht⟩) hS.2.2 dMo_step_379
                                    · first | exact absurd cc261 (by decide) | exact (cc261 (by decide)).elim
                                  · have hw := hw.1 cc260
                                    refine lv_iload hx hb dMo_step_350 (lv_at hl 3 rfl) ?_
                                    refine lv_if_ge (tgt := 362) hx hb dMo_step_352 (by decide) (fun cc262 => ?_) (fun cc262 => ?_)
                                    · have hw := hw.1 cc262
                                      refine lv_aload_n hx hb dMo_step_362 rfl (lv_at hl 8 rfl) ?_
                                      refine va_get (D := (dC, dI)) (ci := 8) (v := .ref h0_hand) (C := "StepCourtModel") (T := TMo) (N := 35) hx hb hq inMo hown hK hP 0 rfl rfl 11 (by decide) (hq _ wt_745) (fun _ h9 => h9) rfl dMo_step_363 ?_
                                      refine lv_iconst (v := 0) hx hb dMo_step_366 (by decide) ?_
                                      refine lv_iload hx hb dMo_step_367 (lv_at hl 0 rfl) ?_
                                      refine lv_if_eq (tgt := 376) hx hb dMo_step_369 (by decide) (fun cc263 => ?_) (fun cc263 => ?_)
                                      · have hw := hw
                                        refine lv_iload hx hb dMo_step_376 (lv_at hl 4 rfl) ?_
                                        refine va_iast hx hb hK hP hD hS 4 3 rfl rfl (show ¬ ((0 : Int32) < 0 ∨ 13 ≤ (0 : Int32).toNatClampNeg) by decide) dMo_step_378 (fun H locs hP hD hS => ?_)
                                        have hP : va_P (dC, dI) vwCl [(h0, ce_Mo h0_op h0_argument h0_balance h0_inbox h0_real h0_hand h0_payee h0_paid h0_drawn h0_challenger h0_low h0_high h0_agreed h0_disputed h0_posted h0_middle h0_deadline h0_running h0_node h0_side u.1), (h0_op, .inl (c0_op, 16, .inl u.2.1)), (h0_argument, .inl (c0_argument, 16, .inl u.2.2.1)), (h0_inbox, .inl (c0_inbox, 60, .inl u.2.2.2.1)), (h0_hand, .inl (c0_hand, 13, .inl (upd u.2.2.2.2 0 y6)))] H := hP
                                        have hD : va_D A [(h0, ce_Mo h0_op h0_argument h0_balance h0_inbox h0_real h0_hand h0_payee h0_paid h0_drawn h0_challenger h0_low h0_high h0_agreed h0_disputed h0_posted h0_middle h0_deadline h0_running h0_node h0_side u.1), (h0_op, .inl (c0_op, 16, .inl u.2.1)), (h0_argument, .inl (c0_argument, 16, .inl u.2.2.1)), (h0_inbox, .inl (c0_inbox, 60, .inl u.2.2.2.1)), (h0_hand, .inl (c0_hand, 13, .inl (upd u.2.2.2.2 0 y6)))] := hD
                                        have hP9 := hP.sub (ws' := [(h0, ce_Mo h0_op h0_argument h0_balance h0_inbox h0_real h0_hand h0_payee h0_paid h0_drawn h0_challenger h0_low h0_high h0_agreed h0_disputed h0_posted h0_middle h0_deadline h0_running h0_node h0_side u.1), (h0_op, .inl (c0_op, 16, .inl u.2.1)), (h0_argument, .inl (c0_argument, 16, .inl u.2.2.1)), (h0_inbox, .inl (c0_inbox, 60, .inl u.2.2.2.1)), (h0_hand, .inl (c0_hand, 13, .inl (upd u.2.2.2.2 0 y6)))]) [0, 1, 2, 3, 4] rfl
                                        have hD9 := hD.sub (ws' := [(h0, ce_Mo h0_op h0_argument h0_balance h0_inbox h0_real h0_hand h0_payee h0_paid h0_drawn h0_challenger h0_low h0_high h0_agreed h0_disputed h0_posted h0_middle h0_deadline h0_running h0_node h0_side u.1), (h0_op, .inl (c0_op, 16, .inl u.2.1)), (h0_argument, .inl (c0_argument, 16, .inl u.2.2.1)), (h0_inbox, .inl (c0_inbox, 60, .inl u.2.2.2.1)), (h0_hand, .inl (c0_hand, 13, .inl (upd u.2.2.2.2 0 y6)))]) [0, 1, 2, 3, 4] (by decide) rfl
                                        have hK9 := hK.sub (tys' := [(c0_op, .int), (c0_argument, .int), (c0_inbox, .int), (c0_hand, .int)]) [0, 1, 2, 3] rfl
                                        exact W.vret hx hb hr (fun t ht hW => ⟨⟨(u.1, u.2.1, u.2.2.1, u.2.2.2.1, (upd u.2.2.2.2 0 y6)), rfl, hw, by rw [ht]; exact hP9, va_K.moved hW.alike hK9, hD9⟩, hS.F ht⟩) hS.2.2 dMo_step_379
                                      · first | exact absurd cc263 (by decide) | exact (cc263 (by decide)).elim
                                    · have hw := hw.2 cc262
                                      refine lv_iload hx hb dMo_step_355 (lv_at hl 5 rfl) ?_
                                      refine lv_bipush (v := 15) hx hb dMo_step_357 (by decide) ?_
                                      refine lv_iand hx hb dMo_step_359 ?_
                                      refine lv_topi (fun y264 ey264 => ?_)
                                      have hw := hw y264 ey264
                                      refine lv_istore (lv' := [(5, .int y264), (9, .int 0), (8, .int y9), (7, .int y8), (6, .int y7), (4, .int y5), (3, .int y3), (2, .int y1), (0, .ref h0), (1, .int k1)]) hx hb dMo_step_360 hl (by decide) rfl (fun ls hl => ?_)
                                      refine lv_aload_n hx hb dMo_step_362 rfl (lv_at hl 8 rfl) ?_
                                      refine va_get (D := (dC, dI)) (ci := 8) (v := .ref h0_hand) (C := "StepCourtModel") (T := TMo) (N := 35) hx hb hq inMo hown hK hP 0 rfl rfl 11 (by decide) (hq _ wt_745) (fun _ h9 => h9) rfl dMo_step_363 ?_
                                      refine lv_iconst (v := 0) hx hb dMo_step_366 (by decide) ?_
                                      refine lv_iload hx hb dMo_step_367 (lv_at hl 1 rfl) ?_
                                      refine lv_if_eq (tgt := 376) hx hb dMo_step_369 (by decide) (fun cc265 => ?_) (fun cc265 => ?_)
                                      · have hw := hw
                                        refine lv_iload hx hb dMo_step_376 (lv_at hl 0 rfl) ?_
                                        refine va_iast hx hb hK hP hD hS 4 3 rfl rfl (show ¬ ((0 : Int32) < 0 ∨ 13 ≤ (0 : Int32).toNatClampNeg) by decide) dMo_step_378 (fun H locs hP hD hS => ?_)
                                        have hP : va_P (dC, dI) vwCl [(h0, ce_Mo h0_op h0_argument h0_balance h0_inbox h0_real h0_hand h0_payee h0_paid h0_drawn h0_challenger h0_low h0_high h0_agreed h0_disputed h0_posted h0_middle h0_deadline h0_running h0_node h0_side u.1), (h0_op, .inl (c0_op, 16, .inl u.2.1)), (h0_argument, .inl (c0_argument, 16, .inl u.2.2.1)), (h0_inbox, .inl (c0_inbox, 60, .inl u.2.2.2.1)), (h0_hand, .inl (c0_hand, 13, .inl (upd u.2.2.2.2 0 y264)))] H := hP
                                        have hD : va_D A [(h0, ce_Mo h0_op h0_argument h0_balance h0_inbox h0_real h0_hand h0_payee h0_paid h0_drawn h0_challenger h0_low h0_high h0_agreed h0_disputed h0_posted h0_middle h0_deadline h0_running h0_node h0_side u.1), (h0_op, .inl (c0_op, 16, .inl u.2.1)), (h0_argument, .inl (c0_argument, 16, .inl u.2.2.1)), (h0_inbox, .inl (c0_inbox, 60, .inl u.2.2.2.1)), (h0_hand, .inl (c0_hand, 13, .inl (upd u.2.2.2.2 0 y264)))] := hD
                                        have hP9 := hP.sub (ws' := [(h0, ce_Mo h0_op h0_argument h0_balance h0_inbox h0_real h0_hand h0_payee h0_paid h0_drawn h0_challenger h0_low h0_high h0_agreed h0_disputed h0_posted h0_middle h0_deadline h0_running h0_node h0_side u.1), (h0_op, .inl (c0_op, 16, .inl u.2.1)), (h0_argument, .inl (c0_argument, 16, .inl u.2.2.1)), (h0_inbox, .inl (c0_inbox, 60, .inl u.2.2.2.1)), (h0_hand, .inl (c0_hand, 13, .inl (upd u.2.2.2.2 0 y264)))]) [0, 1, 2, 3, 4] rfl
                                        have hD9 := hD.sub (ws' := [(h0, ce_Mo h0_op h0_argument h0_balance h0_inbox h0_real h0_hand h0_payee h0_paid h0_drawn h0_challenger h0_low h0_high h0_agreed h0_disputed h0_posted h0_middle h0_deadline h0_running h0_node h0_side u.1), (h0_op, .inl (c0_op, 16, .inl u.2.1)), (h0_argument, .inl (c0_argument, 16, .inl u.2.2.1)), (h0_inbox, .inl (c0_inbox, 60, .inl u.2.2.2.1)), (h0_hand, .inl (c0_hand, 13, .inl (upd u.2.2.2.2 0 y264)))]) [0, 1, 2, 3, 4] (by decide) rfl
                                        have hK9 := hK.sub (tys' := [(c0_op, .int), (c0_argument, .int), (c0_inbox, .int), (c0_hand, .int)]) [0, 1, 2, 3] rfl
                                        exact W.vret hx hb hr (fun t ht hW => ⟨⟨(u.1, u.2.1, u.2.2.1, u.2.2.2.1, (upd u.2.2.2.2 0 y264)), rfl, hw, by rw [ht]; exact hP9, va_K.moved hW.alike hK9, hD9⟩, hS.F ht⟩) hS.2.2 dMo_step_379
                                      · first | exact absurd cc265 (by decide) | exact (cc265 (by decide)).elim
                                · have hw := hw.1 cc259
                                  refine lv_iload hx hb dMo_step_339 (lv_at hl 3 rfl) ?_
                                  refine lv_if_eq (tgt := 355) hx hb dMo_step_341 (by decide) (fun cc266 => ?_) (fun cc266 => ?_)
                                  · have hw := hw.1 cc266
                                    refine lv_iload hx hb dMo_step_355 (lv_at hl 5 rfl) ?_
                                    refine lv_bipush (v := 15) hx hb dMo_step_357 (by decide) ?_
                                    refine lv_iand hx hb dMo_step_359 ?_
                                    refine lv_topi (fun y267 ey267 => ?_)
                                    have hw := hw y267 ey267
                                    refine lv_istore (lv' := [(5, .int y267), (9, .int 0), (8, .int y9), (7, .int y8), (6, .int y7), (4, .int y5), (3, .int y3), (2, .int y1), (0, .ref h0), (1, .int k1)]) hx hb dMo_step_360 hl (by decide) rfl (fun ls hl => ?_)
                                    refine lv_aload_n hx hb dMo_step_362 rfl (lv_at hl 8 rfl) ?_
                                    refine va_get (D := (dC, dI)) (ci := 8) (v := .ref h0_hand) (C := "StepCourtModel") (T := TMo) (N := 35) hx hb hq inMo hown hK hP 0 rfl rfl 11 (by decide) (hq _ wt_745) (fun _ h9 => h9) rfl dMo_step_363 ?_
                                    refine lv_iconst (v := 0) hx hb dMo_step_366 (by decide) ?_
                                    refine lv_iload hx hb dMo_step_367 (lv_at hl 1 rfl) ?_
                                    refine lv_if_eq (tgt := 376) hx hb dMo_step_369 (by decide) (fun cc268 => ?_) (fun cc268 => ?_)
                                    · have hw := hw
                                      refine lv_iload hx hb dMo_step_376 (lv_at hl 0 rfl) ?_
                                      refine va_iast hx hb hK hP hD hS 4 3 rfl rfl (show ¬ ((0 : Int32) < 0 ∨ 13 ≤ (0 : Int32).toNatClampNeg) by decide) dMo_step_378 (fun H locs hP hD hS => ?_)
                                      have hP : va_P (dC, dI) vwCl [(h0, ce_Mo h0_op h0_argument h0_balance h0_inbox h0_real h0_hand h0_payee h0_paid h0_drawn h0_challenger h0_low h0_high h0_agreed h0_disputed h0_posted h0_middle h0_deadline h0_running h0_node h0_side u.1), (h0_op, .inl (c0_op, 16, .inl u.2.1)), (h0_argument, .inl (c0_argument, 16, .inl u.2.2.1)), (h0_inbox, .inl (c0_inbox, 60, .inl u.2.2.2.1)), (h0_hand, .inl (c0_hand, 13, .inl (upd u.2.2.2.2 0 y267)))] H := hP
                                      have hD : va_D A [(h0, ce_Mo h0_op h0_argument h0_balance h0_inbox h0_real h0_hand h0_payee h0_paid h0_drawn h0_challenger h0_low h0_high h0_agreed h0_disputed h0_posted h0_middle h0_deadline h0_running h0_node h0_side u.1), (h0_op, .inl (c0_op, 16, .inl u.2.1)), (h0_argument, .inl (c0_argument, 16, .inl u.2.2.1)), (h0_inbox, .inl (c0_inbox, 60, .inl u.2.2.2.1)), (h0_hand, .inl (c0_hand, 13, .inl (upd u.2.2.2.2 0 y267)))] := hD
                                      have hP9 := hP.sub (ws' := [(h0, ce_Mo h0_op h0_argument h0_balance h0_inbox h0_real h0_hand h0_payee h0_paid h0_drawn h0_challenger h0_low h0_high h0_agreed h0_disputed h0_posted h0_middle h0_deadline h0_running h0_node h0_side u.1), (h0_op, .inl (c0_op, 16, .inl u.2.1)), (h0_argument, .inl (c0_argument, 16, .inl u.2.2.1)), (h0_inbox, .inl (c0_inbox, 60, .inl u.2.2.2.1)), (h0_hand, .inl (c0_hand, 13, .inl (upd u.2.2.2.2 0 y267)))]) [0, 1, 2, 3, 4] rfl
                                      have hD9 := hD.sub (ws' := [(h0, ce_Mo h0_op h0_argument h0_balance h0_inbox h0_real h0_hand h0_payee h0_paid h0_drawn h0_challenger h0_low h0_high h0_agreed h0_disputed h0_posted h0_middle h0_deadline h0_running h0_node h0_side u.1), (h0_op, .inl (c0_op, 16, .inl u.2.1)), (h0_argument, .inl (c0_argument, 16, .inl u.2.2.1)), (h0_inbox, .inl (c0_inbox, 60, .inl u.2.2.2.1)), (h0_hand, .inl (c0_hand, 13, .inl (upd u.2.2.2.2 0 y267)))]) [0, 1, 2, 3, 4] (by decide) rfl
                                      have hK9 := hK.sub (tys' := [(c0_op, .int), (c0_argument, .int), (c0_inbox, .int), (c0_hand, .int)]) [0, 1, 2, 3] rfl
                                      exact W.vret hx hb hr (fun t ht hW => ⟨⟨(u.1, u.2.1, u.2.2.1, u.2.2.2.1, (upd u.2.2.2.2 0 y267)), rfl, hw, by rw [ht]; exact hP9, va_K.moved hW.alike hK9, hD9⟩, hS.F ht⟩) hS.2.2 dMo_step_379
                                    · first | exact absurd cc268 (by decide) | exact (cc268 (by decide)).elim
                                  · have hw := hw.2 cc266
                                    refine lv_iload_n hx hb dMo_step_344 rfl (lv_at hl 6 rfl) ?_
                                    refine lv_bipush (v := 12) hx hb dMo_step_345 (by decide) ?_
                                    refine lv_icmp_ne (tgt := 362) hx hb dMo_step_347 (by decide) (fun cc269 => ?_) (fun cc269 => ?_)
                                    · have hw := hw.2 cc269
                                      refine lv_aload_n hx hb dMo_step_362 rfl (lv_at hl 8 rfl) ?_
                                      refine va_get (D := (dC, dI)) (ci := 8) (v := .ref h0_hand) (C := "StepCourtModel") (T := TMo) (N := 35) hx hb hq inMo hown hK hP 0 rfl rfl 11 (by decide) (hq _ wt_745) (fun _ h9 => h9) rfl dMo_step_363 ?_
                                      refine lv_iconst (v := 0) hx hb dMo_step_366 (by decide) ?_
                                      refine lv_iload hx hb dMo_step_367 (lv_at hl 0 rfl) ?_
                                      refine lv_if_eq (tgt := 376) hx hb dMo_step_369 (by decide) (fun cc270 => ?_) (fun cc270 => ?_)
                                      · have hw := hw
                                        refine lv_iload hx hb dMo_step_376 (lv_at hl 4 rfl) ?_
                                        refine va_iast hx hb hK hP hD hS 4 3 rfl rfl (show ¬ ((0 : Int32) < 0 ∨ 13 ≤ (0 : Int32).toNatClampNeg) by decide) dMo_step_378 (fun H locs hP hD hS => ?_)
                                        have hP : va_P (dC, dI) vwCl [(h0, ce_Mo h0_op h0_argument h0_balance h0_inbox h0_real h0_hand h0_payee h0_paid h0_drawn h0_challenger h0_low h0_high h0_agreed h0_disputed h0_posted h0_middle h0_deadline h0_running h0_node h0_side u.1), (h0_op, .inl (c0_op, 16, .inl u.2.1)), (h0_argument, .inl (c0_argument, 16, .inl u.2.2.1)), (h0_inbox, .inl (c0_inbox, 60, .inl u.2.2.2.1)), (h0_hand, .inl (c0_hand, 13, .inl (upd u.2.2.2.2 0 y6)))] H := hP
                                        have hD : va_D A [(h0, ce_Mo h0_op h0_argument h0_balance h0_inbox h0_real h0_hand h0_payee h0_paid h0_drawn h0_challenger h0_low h0_high h0_agreed h0_disputed h0_posted h0_middle h0_deadline h0_running h0_node h0_side u.1), (h0_op, .inl (c0_op, 16, .inl u.2.1)), (h0_argument, .inl (c0_argument, 16, .inl u.2.2.1)), (h0_inbox, .inl (c0_inbox, 60, .inl u.2.2.2.1)), (h0_hand, .inl (c0_hand, 13, .inl (upd u.2.2.2.2 0 y6)))] := hD
                                        have hP9 := hP.sub (ws' := [(h0, ce_Mo h0_op h0_argument h0_balance h0_inbox h0_real h0_hand h0_payee h0_paid h0_drawn h0_challenger h0_low h0_high h0_agreed h0_disputed h0_posted h0_middle h0_deadline h0_running h0_node h0_side u.1), (h0_op, .inl (c0_op, 16, .inl u.2.1)), (h0_argument, .inl (c0_argument, 16, .inl u.2.2.1)), (h0_inbox, .inl (c0_inbox, 60, .inl u.2.2.2.1)), (h0_hand, .inl (c0_hand, 13, .inl (upd u.2.2.2.2 0 y6)))]) [0, 1, 2, 3, 4] rfl
                                        have hD9 := hD.sub (ws' := [(h0, ce_Mo h0_op h0_argument h0_balance h0_inbox h0_real h0_hand h0_payee h0_paid h0_drawn h0_challenger h0_low h0_high h0_agreed h0_disputed h0_posted h0_middle h0_deadline h0_running h0_node h0_side u.1), (h0_op, .inl (c0_op, 16, .inl u.2.1)), (h0_argument, .inl (c0_argument, 16, .inl u.2.2.1)), (h0_inbox, .inl (c0_inbox, 60, .inl u.2.2.2.1)), (h0_hand, .inl (c0_hand, 13, .inl (upd u.2.2.2.2 0 y6)))]) [0, 1, 2, 3, 4] (by decide) rfl
                                        have hK9 := hK.sub (tys' := [(c0_op, .int), (c0_argument, .int), (c0_inbox, .int), (c0_hand, .int)]) [0, 1, 2, 3] rfl
                                        exact W.vret hx hb hr (fun t ht hW => ⟨⟨(u.1, u.2.1, u.2.2.1, u.2.2.2.1, (upd u.2.2.2.2 0 y6)), rfl, hw, by rw [ht]; exact hP9, va_K.moved hW.alike hK9, hD9⟩, hS.F ht⟩) hS.2.2 dMo_step_379
                                      · first | exact absurd cc270 (by decide) | exact (cc270 (by decide)).elim
                                    · have hw := hw.1 cc269
                                      refine lv_iload hx hb dMo_step_350 (lv_at hl 3 rfl) ?_
                                      refine lv_if_ge (tgt := 362) hx hb dMo_step_352 (by decide) (fun cc271 => ?_) (fun cc271 => ?_)
                                      · have hw := hw.1 cc271
                                        refine lv_aload_n hx hb dMo_step_362 rfl (lv_at hl 8 rfl) ?_
                                        refine va_get (D := (dC, dI)) (ci := 8) (v := .ref h0_hand) (C := "StepCourtModel") (T := TMo) (N := 35) hx hb hq inMo hown hK hP 0 rfl rfl 11 (by decide) (hq _ wt_745) (fun _ h9 => h9) rfl dMo_step_363 ?_
                                        refine lv_iconst (v := 0) hx hb dMo_step_366 (by decide) ?_
                                        refine lv_iload hx hb dMo_step_367 (lv_at hl 0 rfl) ?_
                                        refine lv_if_eq (tgt := 376) hx hb dMo_step_369 (by decide) (fun cc272 => ?_) (fun cc272 => ?_)
                                        · have hw := hw
                                          refine lv_iload hx hb dMo_step_376 (lv_at hl 4 rfl) ?_
                                          refine va_iast hx hb hK hP hD hS 4 3 rfl rfl (show ¬ ((0 : Int32) < 0 ∨ 13 ≤ (0 : Int32).toNatClampNeg) by decide) dMo_step_378 (fun H locs hP hD hS => ?_)
                                          have hP : va_P (dC, dI) vwCl [(h0, ce_Mo h0_op h0_argument h0_balance h0_inbox h0_real h0_hand h0_payee h0_paid h0_drawn h0_challenger h0_low h0_high h0_agreed h0_disputed h0_posted h0_middle h0_deadline h0_running h0_node h0_side u.1), (h0_op, .inl (c0_op, 16, .inl u.2.1)), (h0_argument, .inl (c0_argument, 16, .inl u.2.2.1)), (h0_inbox, .inl (c0_inbox, 60, .inl u.2.2.2.1)), (h0_hand, .inl (c0_hand, 13, .inl (upd u.2.2.2.2 0 y6)))] H := hP
                                          have hD : va_D A [(h0, ce_Mo h0_op h0_argument h0_balance h0_inbox h0_real h0_hand h0_payee h0_paid h0_drawn h0_challenger h0_low h0_high h0_agreed h0_disputed h0_posted h0_middle h0_deadline h0_running h0_node h0_side u.1), (h0_op, .inl (c0_op, 16, .inl u.2.1)), (h0_argument, .inl (c0_argument, 16, .inl u.2.2.1)), (h0_inbox, .inl (c0_inbox, 60, .inl u.2.2.2.1)), (h0_hand, .inl (c0_hand, 13, .inl (upd u.2.2.2.2 0 y6)))] := hD
                                          have hP9 := hP.sub (ws' := [(h0, ce_Mo h0_op h0_argument h0_balance h0_inbox h0_real h0_hand h0_payee h0_paid h0_drawn h0_challenger h0_low h0_high h0_agreed h0_disputed h0_posted h0_middle h0_deadline h0_running h0_node h0_side u.1), (h0_op, .inl (c0_op, 16, .inl u.2.1)), (h0_argument, .inl (c0_argument, 16, .inl u.2.2.1)), (h0_inbox, .inl (c0_inbox, 60, .inl u.2.2.2.1)), (h0_hand, .inl (c0_hand, 13, .inl (upd u.2.2.2.2 0 y6)))]) [0, 1, 2, 3, 4] rfl
                                          have hD9 := hD.sub (ws' := [(h0, ce_Mo h0_op h0_argument h0_balance h0_inbox h0_real h0_hand h0_payee h0_paid h0_drawn h0_challenger h0_low h0_high h0_agreed h0_disputed h0_posted h0_middle h0_deadline h0_running h0_node h0_side u.1), (h0_op, .inl (c0_op, 16, .inl u.2.1)), (h0_argument, .inl (c0_argument, 16, .inl u.2.2.1)), (h0_inbox, .inl (c0_inbox, 60, .inl u.2.2.2.1)), (h0_hand, .inl (c0_hand, 13, .inl (upd u.2.2.2.2 0 y6)))]) [0, 1, 2, 3, 4] (by decide) rfl
                                          have hK9 := hK.sub (tys' := [(c0_op, .int), (c0_argument, .int), (c0_inbox, .int), (c0_hand, .int)]) [0, 1, 2, 3] rfl
                                          exact W.vret hx hb hr (fun t ht hW => ⟨⟨(u.1, u.2.1, u.2.2.1, u.2.2.2.1, (upd u.2.2.2.2 0 y6)), rfl, hw, by rw [ht]; exact hP9, va_K.moved hW.alike hK9, hD9⟩, hS.F ht⟩) hS.2.2 dMo_step_379
                                        · first | exact absurd cc272 (by decide) | exact (cc272 (by decide)).elim
                                      · have hw := hw.2 cc271
                                        refine lv_iload hx hb dMo_step_355 (lv_at hl 5 rfl) ?_
                                        refine lv_bipush (v := 15) hx hb dMo_step_357 (by decide) ?_
                                        refine lv_iand hx hb dMo_step_359 ?_
                                        refine lv_topi (fun y273 ey273 => ?_)
                                        have hw := hw y273 ey273
                                        refine lv_istore (lv' := [(5, .int y273), (9, .int 0), (8, .int y9), (7, .int y8), (6, .int y7), (4, .int y5), (3, .int y3), (2, .int y1), (0, .ref h0), (1, .int k1)]) hx hb dMo_step_360 hl (by decide) rfl (fun ls hl => ?_)
                                        refine lv_aload_n hx hb dMo_step_362 rfl (lv_at hl 8 rfl) ?_
                                        refine va_get (D := (dC, dI)) (ci := 8) (v := .ref h0_hand) (C := "StepCourtModel") (T := TMo) (N := 35) hx hb hq inMo hown hK hP 0 rfl rfl 11 (by decide) (hq _ wt_745) (fun _ h9 => h9) rfl dMo_step_363 ?_
                                        refine lv_iconst (v := 0) hx hb dMo_step_366 (by decide) ?_
                                        refine lv_iload hx hb dMo_step_367 (lv_at hl 1 rfl) ?_
                                        refine lv_if_eq (tgt := 376) hx hb dMo_step_369 (by decide) (fun cc274 => ?_) (fun cc274 => ?_)
                                        · have hw := hw
                                          refine lv_iload hx hb dMo_step_376 (lv_at hl 0 rfl) ?_
                                          refine va_iast hx hb hK hP hD hS 4 3 rfl rfl (show ¬ ((0 : Int32) < 0 ∨ 13 ≤ (0 : Int32).toNatClampNeg) by decide) dMo_step_378 (fun H locs hP hD hS => ?_)
                                          have hP : va_P (dC, dI) vwCl [(h0, ce_Mo h0_op h0_argument h0_balance h0_inbox h0_real h0_hand h0_payee h0_paid h0_drawn h0_challenger h0_low h0_high h0_agreed h0_disputed h0_posted h0_middle h0_deadline h0_running h0_node h0_side u.1), (h0_op, .inl (c0_op, 16, .inl u.2.1)), (h0_argument, .inl (c0_argument, 16, .inl u.2.2.1)), (h0_inbox, .inl (c0_inbox, 60, .inl u.2.2.2.1)), (h0_hand, .inl (c0_hand, 13, .inl (upd u.2.2.2.2 0 y273)))] H := hP
                                          have hD : va_D A [(h0, ce_Mo h0_op h0_argument h0_balance h0_inbox h0_real h0_hand h0_payee h0_paid h0_drawn h0_challenger h0_low h0_high h0_agreed h0_disputed h0_posted h0_middle h0_deadline h0_running h0_node h0_side u.1), (h0_op, .inl (c0_op, 16, .inl u.2.1)), (h0_argument, .inl (c0_argument, 16, .inl u.2.2.1)), (h0_inbox, .inl (c0_inbox, 60, .inl u.2.2.2.1)), (h0_hand, .inl (c0_hand, 13, .inl (upd u.2.2.2.2 0 y273)))] := hD
                                          have hP9 := hP.sub (ws' := [(h0, ce_Mo h0_op h0_argument h0_balance h0_inbox h0_real h0_hand h0_payee h0_paid h0_drawn h0_challenger h0_low h0_high h0_agreed h0_disputed h0_posted h0_middle h0_deadline h0_running h0_node h0_side u.1), (h0_op, .inl (c0_op, 16, .inl u.2.1)), (h0_argument, .inl (c0_argument, 16, .inl u.2.2.1)), (h0_inbox, .inl (c0_inbox, 60, .inl u.2.2.2.1)), (h0_hand, .inl (c0_hand, 13, .inl (upd u.2.2.2.2 0 y273)))]) [0, 1, 2, 3, 4] rfl
                                          have hD9 := hD.sub (ws' := [(h0, ce_Mo h0_op h0_argument h0_balance h0_inbox h0_real h0_hand h0_payee h0_paid h0_drawn h0_challenger h0_low h0_high h0_agreed h0_disputed h0_posted h0_middle h0_deadline h0_running h0_node h0_side u.1), (h0_op, .inl (c0_op, 16, .inl u.2.1)), (h0_argument, .inl (c0_argument, 16, .inl u.2.2.1)), (h0_inbox, .inl (c0_inbox, 60, .inl u.2.2.2.1)), (h0_hand, .inl (c0_hand, 13, .inl (upd u.2.2.2.2 0 y273)))]) [0, 1, 2, 3, 4] (by decide) rfl
                                          have hK9 := hK.sub (tys' := [(c0_op, .int), (c0_argument, .int), (c0_inbox, .int), (c0_hand, .int)]) [0, 1, 2, 3] rfl
                                          exact W.vret hx hb hr (fun t ht hW => ⟨⟨(u.1, u.2.1, u.2.2.1, u.2.2.2.1, (upd u.2.2.2.2 0 y273)), rfl, hw, by rw [ht]; exact hP9, va_K.moved hW.alike hK9, hD9⟩, hS.F ht⟩) hS.2.2 dMo_step_379
                                        · first | exact absurd cc274 (by decide) | exact (cc274 (by decide)).elim
                            · have hw := hw.1 cc255
                              refine lv_aload_n hx hb dMo_step_292 rfl (lv_at hl 8 rfl) ?_
                              refine lv_aload_n hx hb dMo_step_293 rfl (lv_at hl 8 rfl) ?_
                              refine va_get (D := (dC, dI)) (ci := 8) (v := .long u.1.2.2.2.2.2.2.1) (C := "StepCourtModel") (T := TMo) (N := 35) hx hb hq inMo hown hK hP 0 rfl rfl 12 (by decide) (hq _ wt_746) (fun _ h9 => h9) rfl dMo_step_294 ?_
                              refine lv_iload hx hb dMo_step_297 (lv_at hl 2 rfl) ?_
                              refine lv_iconst (v := 3) hx hb dMo_step_299 (by decide) ?_
                              refine lv_iand hx hb dMo_step_300 ?_
                              refine lv_i2l (v := (y8 &&& 3).toInt64) hx hb dMo_step_301 rfl ?_
                              have hPc := hP.sub (ws' := []) [] rfl
                              have hDc := hD.sub (ws' := []) [] (by decide) rfl
                              have hKc := hK.sub (tys' := []) [] rfl
                              have hFc := va_free (wc := []) hD hS hA [] rfl
                              refine va_calll (va_runS (As := [.long u.1.2.2.2.2.2.2.1, .long ((y8 &&& 3).toInt64)]) (rest := [.ref h0]) ⟨hx, hb, hml, hown, hq⟩ (mt_Mo_mix l dC dI s.heap.size _ () u.1.2.2.2.2.2.2.1 ((y8 &&& 3).toInt64) hw) ⟨cq_B 2 hq wt_723 wt_721 wt_10 rfl rfl hd_Mo_mix ⟨Nat.le_of_ble_eq_true rfl, Nat.le_of_ble_eq_true rfl⟩, (hq _ wt_722)⟩ ⟨kp_bl, kp_at hPc hKc hDc hZ⟩ rfl rfl hl.1 rfl (lv_room (Nat.le_of_ble_eq_true rfl)) dMo_step_302 ⟨(by decide), (by decide)⟩) hS (fun q _ h => hFc q h) hFc (fun r275 u276 t H1 locs ht hvm hw hB hz1 hk1 hS => ?_)
                              obtain ⟨hP1, hK1, hD1⟩ := hB
                              rw [ht] at hP1
                              have hK1 := va_K.moved hvm.symm hK1
                              obtain ⟨hP, hD⟩ := va_join (wr := [(h0, ce_Mo h0_op h0_argument h0_balance h0_inbox h0_real h0_hand h0_payee h0_paid h0_drawn h0_challenger h0_low h0_high h0_agreed h0_disputed h0_posted h0_middle h0_deadline h0_running h0_node h0_side u.1), (h0_op, .inl (c0_op, 16, .inl u.2.1)), (h0_argument, .inl (c0_argument, 16, .inl u.2.2.1)), (h0_inbox, .inl (c0_inbox, 60, .inl u.2.2.2.1)), (h0_hand, .inl (c0_hand, 13, .inl u.2.2.2.2))]) (w1 := []) hP hD [] [0, 1, 2, 3, 4] rfl rfl (by decide) (by decide) hk1 hFc hP1 hD1
                              have hK := (hK.sub (tys' := [(c0_op, .int), (c0_argument, .int), (c0_inbox, .int), (c0_hand, .int)]) [0, 1, 2, 3] rfl).app hK1
                              generalize H1 = H at hP hS ⊢
                              have hP : va_P (dC, dI) vwCl [(h0, ce_Mo h0_op h0_argument h0_balance h0_inbox h0_real h0_hand h0_payee h0_paid h0_drawn h0_challenger h0_low h0_high h0_agreed h0_disputed h0_posted h0_middle h0_deadline h0_running h0_node h0_side u.1), (h0_op, .inl (c0_op, 16, .inl u.2.1)), (h0_argument, .inl (c0_argument, 16, .inl u.2.2.1)), (h0_inbox, .inl (c0_inbox, 60, .inl u.2.2.2.1)), (h0_hand, .inl (c0_hand, 13, .inl u.2.2.2.2))] H := hP
                              have hD : va_D A [(h0, ce_Mo h0_op h0_argument h0_balance h0_inbox h0_real h0_hand h0_payee h0_paid h0_drawn h0_challenger h0_low h0_high h0_agreed h0_disputed h0_posted h0_middle h0_deadline h0_running h0_node h0_side u.1), (h0_op, .inl (c0_op, 16, .inl u.2.1)), (h0_argument, .inl (c0_argument, 16, .inl u.2.2.1)), (h0_inbox, .inl (c0_inbox, 60, .inl u.2.2.2.1)), (h0_hand, .inl (c0_hand, 13, .inl u.2.2.2.2))] := hD
                              have hK : va_K (dC, dI) vwCl [(c0_op, .int), (c0_argument, .int), (c0_inbox, .int), (c0_hand, .int)] s := hK
                              refine lv_iload hx hb dMo_step_305 (lv_at hl 3 rfl) ?_
                              refine lv_i2l (v := y7.toInt64) hx hb dMo_step_307 rfl ?_
                              have hPc := hP.sub (ws' := []) [] rfl
                              have hDc := hD.sub (ws' := []) [] (by decide) rfl
                              have hKc := hK.sub (tys' := []) [] rfl
                              have hFc := va_free (wc := []) hD hS hA [] rfl
                              refine va_calll (va_runS (As := [.long r275, .long (y7.toInt64)]) (rest := [.ref h0]) ⟨hx, hb, hml, hown, hq⟩ (mt_Mo_mix l dC dI H.size _ () r275 (y7.toInt64) hw) ⟨cq_B 2 hq wt_723 wt_721 wt_10 rfl rfl hd_Mo_mix ⟨Nat.le_of_ble_eq_true rfl, Nat.le_of_ble_eq_true rfl⟩, (hq _ wt_722)⟩ ⟨kp_bl, kp_at hPc hKc hDc hZ⟩ rfl rfl hl.1 rfl (lv_room (Nat.le_of_ble_eq_true rfl)) dMo_step_308 ⟨(by decide), (by decide)⟩) hS (fun q _ h => hFc q h) hFc (fun r277 u278 t H1 locs ht hvm hw hB hz1 hk1 hS => ?_)
                              obtain ⟨hP1, hK1, hD1⟩ := hB
                              rw [ht] at hP1
                              have hK1 := va_K.moved hvm.symm hK1
                              obtain ⟨hP, hD⟩ := va_join (wr := [(h0, ce_Mo h0_op h0_argument h0_balance h0_inbox h0_real h0_hand h0_payee h0_paid h0_drawn h0_challenger h0_low h0_high h0_agreed h0_disputed h0_posted h0_middle h0_deadline h0_running h0_node h0_side u.1), (h0_op, .inl (c0_op, 16, .inl u.2.1)), (h0_argument, .inl (c0_argument, 16, .inl u.2.2.1)), (h0_inbox, .inl (c0_inbox, 60, .inl u.2.2.2.1)), (h0_hand, .inl (c0_hand, 13, .inl u.2.2.2.2))]) (w1 := []) hP hD [] [0, 1, 2, 3, 4] rfl rfl (by decide) (by decide) hk1 hFc hP1 hD1
                              have hK := (hK.sub (tys' := [(c0_op, .int), (c0_argument, .int), (c0_inbox, .int), (c0_hand, .int)]) [0, 1, 2, 3] rfl).app hK1
                              generalize H1 = H at hP hS ⊢
                              have hP : va_P (dC, dI) vwCl [(h0, ce_Mo h0_op h0_argument h0_balance h0_inbox h0_real h0_hand h0_payee h0_paid h0_drawn h0_challenger h0_low h0_high h0_agreed h0_disputed h0_posted h0_middle h0_deadline h0_running h0_node h0_side u.1), (h0_op, .inl (c0_op, 16, .inl u.2.1)), (h0_argument, .inl (c0_argument, 16, .inl u.2.2.1)), (h0_inbox, .inl (c0_inbox, 60, .inl u.2.2.2.1)), (h0_hand, .inl (c0_hand, 13, .inl u.2.2.2.2))] H := hP
                              have hD : va_D A [(h0, ce_Mo h0_op h0_argument h0_balance h0_inbox h0_real h0_hand h0_payee h0_paid h0_drawn h0_challenger h0_low h0_high h0_agreed h0_disputed h0_posted h0_middle h0_deadline h0_running h0_node h0_side u.1), (h0_op, .inl (c0_op, 16, .inl u.2.1)), (h0_argument, .inl (c0_argument, 16, .inl u.2.2.1)), (h0_inbox, .inl (c0_inbox, 60, .inl u.2.2.2.1)), (h0_hand, .inl (c0_hand, 13, .inl u.2.2.2.2))] := hD
                              have hK : va_K (dC, dI) vwCl [(c0_op, .int), (c0_argument, .int), (c0_inbox, .int), (c0_hand, .int)] s := hK
                              refine va_put (D := (dC, dI)) (ci := 8) (v := .long r277) (ty := .long) (C := "StepCourtModel") (T := TMo) (N := 35) hx hb hq inMo tyMo tyMo_ok nmMo hown hK hP hD hS 0 rfl rfl 12 (by decide) (hq _ wt_746) (fun _ h9 => h9) rfl (by decide +kernel) rfl rfl (Nat.le_of_ble_eq_true rfl) dMo_step_311 (fun H locs hP hD hS => ?_)
                              have hP : va_P (dC, dI) vwCl [(h0, ce_Mo h0_op h0_argument h0_balance h0_inbox h0_real h0_hand h0_payee h0_paid h0_drawn h0_challenger h0_low h0_high h0_agreed h0_disputed h0_posted h0_middle h0_deadline h0_running h0_node h0_side (u.1.1, u.1.2.1, u.1.2.2.1, u.1.2.2.2.1, u.1.2.2.2.2.1, u.1.2.2.2.2.2.1, r277, u.1.2.2.2.2.2.2.2.1, u.1.2.2.2.2.2.2.2.2.1, u.1.2.2.2.2.2.2.2.2.2.1, u.1.2.2.2.2.2.2.2.2.2.2.1, u.1.2.2.2.2.2.2.2.2.2.2.2.1, u.1.2.2.2.2.2.2.2.2.2.2.2.2.1, u.1.2.2.2.2.2.2.2.2.2.2.2.2.2.1, u.1.2.2.2.2.2.2.2.2.2.2.2.2.2.2)), (h0_op, .inl (c0_op, 16, .inl u.2.1)), (h0_argument, .inl (c0_argument, 16, .inl u.2.2.1)), (h0_inbox, .inl (c0_inbox, 60, .inl u.2.2.2.1)), (h0_hand, .inl (c0_hand, 13, .inl u.2.2.2.2))] H := hP
                              have hD : va_D A [(h0, ce_Mo h0_op h0_argument h0_balance h0_inbox h0_real h0_hand h0_payee h0_paid h0_drawn h0_challenger h0_low h0_high h0_agreed h0_disputed h0_posted h0_middle h0_deadline h0_running h0_node h0_side (u.1.1, u.1.2.1, u.1.2.2.1, u.1.2.2.2.1, u.1.2.2.2.2.1, u.1.2.2.2.2.2.1, r277, u.1.2.2.2.2.2.2.2.1, u.1.2.2.2.2.2.2.2.2.1, u.1.2.2.2.2.2.2.2.2.2.1, u.1.2.2.2.2.2.2.2.2.2.2.1, u.1.2.2.2.2.2.2.2.2.2.2.2.1, u.1.2.2.2.2.2.2.2.2.2.2.2.2.1, u.1.2.2.2.2.2.2.2.2.2.2.2.2.2.1, u.1.2.2.2.2.2.2.2.2.2.2.2.2.2.2)), (h0_op, .inl (c0_op, 16, .inl u.2.1)), (h0_argument, .inl (c0_argument, 16, .inl u.2.2.1)), (h0_inbox, .inl (c0_inbox, 60, .inl u.2.2.2.1)), (h0_hand, .inl (c0_hand, 13, .inl u.2.2.2.2))] := hD
                              refine lv_aload_n hx hb dMo_step_314 rfl (lv_at hl 8 rfl) ?_
                              refine va_get (D := (dC, dI)) (ci := 8) (v := .ref h0_hand) (C := "StepCourtModel") (T := TMo) (N := 35) hx hb hq inMo hown hK hP 0 rfl rfl 11 (by decide) (hq _ wt_745) (fun _ h9 => h9) rfl dMo_step_315 ?_
                              refine lv_iconst (v := 4) hx hb dMo_step_318 (by decide) ?_
                              refine lv_dup2_11 hx hb dMo_step_319 rfl rfl ?_
                              refine va_iald hx hb hK hP 4 3 rfl rfl (show ¬ ((4 : Int32) < 0 ∨ 13 ≤ (4 : Int32).toNatClampNeg) by decide) dMo_step_320 ?_
                              refine W.eq (g2 := F0 m 321 ls [.int (u.2.2.2.2 4), .int 4, .ref h0_hand]) rfl ?_
                              refine lv_iconst (v := 1) hx hb dMo_step_321 (by decide) ?_
                              refine lv_iadd hx hb dMo_step_322 ?_
                              refine lv_topi (fun f279 ef279 => ?_)
                              have hw := hw f279 ef279
                              refine va_iast hx hb hK hP hD hS 4 3 rfl rfl (show ¬ ((4 : Int32) < 0 ∨ 13 ≤ (4 : Int32).toNatClampNeg) by decide) dMo_step_323 (fun H locs hP hD hS => ?_)
                              have hP : va_P (dC, dI) vwCl [(h0, ce_Mo h0_op h0_argument h0_balance h0_inbox h0_real h0_hand h0_payee h0_paid h0_drawn h0_challenger h0_low h0_high h0_agreed h0_disputed h0_posted h0_middle h0_deadline h0_running h0_node h0_side (u.1.1, u.1.2.1, u.1.2.2.1, u.1.2.2.2.1, u.1.2.2.2.2.1, u.1.2.2.2.2.2.1, r277, u.1.2.2.2.2.2.2.2.1, u.1.2.2.2.2.2.2.2.2.1, u.1.2.2.2.2.2.2.2.2.2.1, u.1.2.2.2.2.2.2.2.2.2.2.1, u.1.2.2.2.2.2.2.2.2.2.2.2.1, u.1.2.2.2.2.2.2.2.2.2.2.2.2.1, u.1.2.2.2.2.2.2.2.2.2.2.2.2.2.1, u.1.2.2.2.2.2.2.2.2.2.2.2.2.2.2)), (h0_op, .inl (c0_op, 16, .inl u.2.1)), (h0_argument, .inl (c0_argument, 16, .inl u.2.2.1)), (h0_inbox, .inl (c0_inbox, 60, .inl u.2.2.2.1)), (h0_hand, .inl (c0_hand, 13, .inl (upd u.2.2.2.2 4 f279)))] H := hP
                              have hD : va_D A [(h0, ce_Mo h0_op h0_argument h0_balance h0_inbox h0_real h0_hand h0_payee h0_paid h0_drawn h0_challenger h0_low h0_high h0_agreed h0_disputed h0_posted h0_middle h0_deadline h0_running h0_node h0_side (u.1.1, u.1.2.1, u.1.2.2.1, u.1.2.2.2.1, u.1.2.2.2.2.1, u.1.2.2.2.2.2.1, r277, u.1.2.2.2.2.2.2.2.1, u.1.2.2.2.2.2.2.2.2.1, u.1.2.2.2.2.2.2.2.2.2.1, u.1.2.2.2.2.2.2.2.2.2.2.1, u.1.2.2.2.2.2.2.2.2.2.2.2.1, u.1.2.2.2.2.2.2.2.2.2.2.2.2.1, u.1.2.2.2.2.2.2.2.2.2.2.2.2.2.1, u.1.2.2.2.2.2.2.2.2.2.2.2.2.2.2)), (h0_op, .inl (c0_op, 16, .inl u.2.1)), (h0_argument, .inl (c0_argument, 16, .inl u.2.2.1)), (h0_inbox, .inl (c0_inbox, 60, .inl u.2.2.2.1)), (h0_hand, .inl (c0_hand, 13, .inl (upd u.2.2.2.2 4 f279)))] := hD
                              refine lv_goto (tgt := 362) hx hb dMo_step_324 (by decide) ?_
                              refine lv_aload_n hx hb dMo_step_362 rfl (lv_at hl 8 rfl) ?_
                              refine va_get (D := (dC, dI)) (ci := 8) (v := .ref h0_hand) (C := "StepCourtModel") (T := TMo) (N := 35) hx hb hq inMo hown hK hP 0 rfl rfl 11 (by decide) (hq _ wt_745) (fun _ h9 => h9) rfl dMo_step_363 ?_
                              refine lv_iconst (v := 0) hx hb dMo_step_366 (by decide) ?_
                              refine lv_iload hx hb dMo_step_367 (lv_at hl 0 rfl) ?_
                              refine lv_if_eq (tgt := 376) hx hb dMo_step_369 (by decide) (fun cc280 => ?_) (fun cc280 => ?_)
                              · have hw := hw
                                refine lv_iload hx hb dMo_step_376 (lv_at hl 4 rfl) ?_
                                refine va_iast hx hb hK hP hD hS 4 3 rfl rfl (show ¬ ((0 : Int32) < 0 ∨ 13 ≤ (0 : Int32).toNatClampNeg) by decide) dMo_step_378 (fun H locs hP hD hS => ?_)
                                have hP : va_P (dC, dI) vwCl [(h0, ce_Mo h0_op h0_argument h0_balance h0_inbox h0_real h0_hand h0_payee h0_paid h0_drawn h0_challenger h0_low h0_high h0_agreed h0_disputed h0_posted h0_middle h0_deadline h0_running h0_node h0_side (u.1.1, u.1.2.1, u.1.2.2.1, u.1.2.2.2.1, u.1.2.2.2.2.1, u.1.2.2.2.2.2.1, r277, u.1.2.2.2.2.2.2.2.1, u.1.2.2.2.2.2.2.2.2.1, u.1.2.2.2.2.2.2.2.2.2.1, u.1.2.2.2.2.2.2.2.2.2.2.1, u.1.2.2.2.2.2.2.2.2.2.2.2.1, u.1.2.2.2.2.2.2.2.2.2.2.2.2.1, u.1.2.2.2.2.2.2.2.2.2.2.2.2.2.1, u.1.2.2.2.2.2.2.2.2.2.2.2.2.2.2)), (h0_op, .inl (c0_op, 16, .inl u.2.1)), (h0_argument, .inl (c0_argument, 16, .inl u.2.2.1)), (h0_inbox, .inl (c0_inbox, 60, .inl u.2.2.2.1)), (h0_hand, .inl (c0_hand, 13, .inl (upd (upd u.2.2.2.2 4 f279) 0 y6)))] H := hP
                                have hD : va_D A [(h0, ce_Mo h0_op h0_argument h0_balance h0_inbox h0_real h0_hand h0_payee h0_paid h0_drawn h0_challenger h0_low h0_high h0_agreed h0_disputed h0_posted h0_middle h0_deadline h0_running h0_node h0_side (u.1.1, u.1.2.1, u.1.2.2.1, u.1.2.2.2.1, u.1.2.2.2.2.1, u.1.2.2.2.2.2.1, r277, u.1.2.2.2.2.2.2.2.1, u.1.2.2.2.2.2.2.2.2.1, u.1.2.2.2.2.2.2.2.2.2.1, u.1.2.2.2.2.2.2.2.2.2.2.1, u.1.2.2.2.2.2.2.2.2.2.2.2.1, u.1.2.2.2.2.2.2.2.2.2.2.2.2.1, u.1.2.2.2.2.2.2.2.2.2.2.2.2.2.1, u.1.2.2.2.2.2.2.2.2.2.2.2.2.2.2)), (h0_op, .inl (c0_op, 16, .inl u.2.1)), (h0_argument, .inl (c0_argument, 16, .inl u.2.2.1)), (h0_inbox, .inl (c0_inbox, 60, .inl u.2.2.2.1)), (h0_hand, .inl (c0_hand, 13, .inl (upd (upd u.2.2.2.2 4 f279) 0 y6)))] := hD
                                have hP9 := hP.sub (ws' := [(h0, ce_Mo h0_op h0_argument h0_balance h0_inbox h0_real h0_hand h0_payee h0_paid h0_drawn h0_challenger h0_low h0_high h0_agreed h0_disputed h0_posted h0_middle h0_deadline h0_running h0_node h0_side (u.1.1, u.1.2.1, u.1.2.2.1, u.1.2.2.2.1, u.1.2.2.2.2.1, u.1.2.2.2.2.2.1, r277, u.1.2.2.2.2.2.2.2.1, u.1.2.2.2.2.2.2.2.2.1, u.1.2.2.2.2.2.2.2.2.2.1, u.1.2.2.2.2.2.2.2.2.2.2.1, u.1.2.2.2.2.2.2.2.2.2.2.2.1, u.1.2.2.2.2.2.2.2.2.2.2.2.2.1, u.1.2.2.2.2.2.2.2.2.2.2.2.2.2.1, u.1.2.2.2.2.2.2.2.2.2.2.2.2.2.2)), (h0_op, .inl (c0_op, 16, .inl u.2.1)), (h0_argument, .inl (c0_argument, 16, .inl u.2.2.1)), (h0_inbox, .inl (c0_inbox, 60, .inl u.2.2.2.1)), (h0_hand, .inl (c0_hand, 13, .inl (upd (upd u.2.2.2.2 4 f279) 0 y6)))]) [0, 1, 2, 3, 4] rfl
                                have hD9 := hD.sub (ws' := [(h0, ce_Mo h0_op h0_argument h0_balance h0_inbox h0_real h0_hand h0_payee h0_paid h0_drawn h0_challenger h0_low h0_high h0_agreed h0_disputed h0_posted h0_middle h0_deadline h0_running h0_node h0_side (u.1.1, u.1.2.1, u.1.2.2.1, u.1.2.2.2.1, u.1.2.2.2.2.1, u.1.2.2.2.2.2.1, r277, u.1.2.2.2.2.2.2.2.1, u.1.2.2.2.2.2.2.2.2.1, u.1.2.2.2.2.2.2.2.2.2.1, u.1.2.2.2.2.2.2.2.2.2.2.1, u.1.2.2.2.2.2.2.2.2.2.2.2.1, u.1.2.2.2.2.2.2.2.2.2.2.2.2.1, u.1.2.2.2.2.2.2.2.2.2.2.2.2.2.1, u.1.2.2.2.2.2.2.2.2.2.2.2.2.2.2)), (h0_op, .inl (c0_op, 16, .inl u.2.1)), (h0_argument, .inl (c0_argument, 16, .inl u.2.2.1)), (h0_inbox, .inl (c0_inbox, 60, .inl u.2.2.2.1)), (h0_hand, .inl (c0_hand, 13, .inl (upd (upd u.2.2.2.2 4 f279) 0 y6)))]) [0, 1, 2, 3, 4] (by decide) rfl
                                have hK9 := hK.sub (tys' := [(c0_op, .int), (c0_argument, .int), (c0_inbox, .int), (c0_hand, .int)]) [0, 1, 2, 3] rfl
                                exact W.vret hx hb hr (fun t ht hW => ⟨⟨((u.1.1, u.1.2.1, u.1.2.2.1, u.1.2.2.2.1, u.1.2.2.2.2.1, u.1.2.2.2.2.2.1, r277, u.1.2.2.2.2.2.2.2.1, u.1.2.2.2.2.2.2.2.2.1, u.1.2.2.2.2.2.2.2.2.2.1, u.1.2.2.2.2.2.2.2.2.2.2.1, u.1.2.2.2.2.2.2.2.2.2.2.2.1, u.1.2.2.2.2.2.2.2.2.2.2.2.2.1, u.1.2.2.2.2.2.2.2.2.2.2.2.2.2.1, u.1.2.2.2.2.2.2.2.2.2.2.2.2.2.2), u.2.1, u.2.2.1, u.2.2.2.1, (upd (upd u.2.2.2.2 4 f279) 0 y6)), rfl, hw, by rw [ht]; exact hP9, va_K.moved hW.alike hK9, hD9⟩, hS.F ht⟩) hS.2.2 dMo_step_379
                              · first | exact absurd cc280 (by decide) | exact (cc280 (by decide)).elim
                          · have hw := hw.1 cc254
                            refine lv_aload_n hx hb dMo_step_257 rfl (lv_at hl 8 rfl) ?_
                            refine va_get (D := (dC, dI)) (ci := 8) (v := .ref h0_hand) (C := "StepCourtModel") (T := TMo) (N := 35) hx hb hq inMo hown hK hP 0 rfl rfl 11 (by decide) (hq _ wt_745) (fun _ h9 => h9) rfl dMo_step_258 ?_
                            refine lv_iconst (v := 1) hx hb dMo_step_261 (by decide) ?_
                            refine lv_aload_n hx hb dMo_step_262 rfl (lv_at hl 8 rfl) ?_
                            refine lv_aload_n hx hb dMo_step_263 rfl (lv_at hl 8 rfl) ?_
                            refine va_get (D := (dC, dI)) (ci := 8) (v := .ref h0_hand) (C := "StepCourtModel") (T := TMo) (N := 35) hx hb hq inMo hown hK hP 0 rfl rfl 11 (by decide) (hq _ wt_745) (fun _ h9 => h9) rfl dMo_step_264 ?_
                            refine lv_iconst (v := 3) hx hb dMo_step_267 (by decide) ?_
                            refine va_iald hx hb hK hP 4 3 rfl rfl (show ¬ ((3 : Int32) < 0 ∨ 13 ≤ (3 : Int32).toNatClampNeg) by decide) dMo_step_268 ?_
                            refine W.eq (g2 := F0 m 269 ls [.int (u.2.2.2.2 3), .ref h0, .int 1, .ref h0_hand]) rfl ?_
                            have hPc := hP.sub (ws' := [(h0, ce_Mo h0_op h0_argument h0_balance h0_inbox h0_real h0_hand h0_payee h0_paid h0_drawn h0_challenger h0_low h0_high h0_agreed h0_disputed h0_posted h0_middle h0_deadline h0_running h0_node h0_side u.1), (h0_inbox, .inl (c0_inbox, 60, .inl u.2.2.2.1))]) [0, 3] rfl
                            have hDc := hD.sub (ws' := [(h0, ce_Mo h0_op h0_argument h0_balance h0_inbox h0_real h0_hand h0_payee h0_paid h0_drawn h0_challenger h0_low h0_high h0_agreed h0_disputed h0_posted h0_middle h0_deadline h0_running h0_node h0_side u.1), (h0_inbox, .inl (c0_inbox, 60, .inl u.2.2.2.1))]) [0, 3] (by decide) rfl
                            have hKc := hK.sub (tys' := [(c0_inbox, .int)]) [2] rfl
                            have hFc := va_free (wc := [(h0, ce_Mo h0_op h0_argument h0_balance h0_inbox h0_real h0_hand h0_payee h0_paid h0_drawn h0_challenger h0_low h0_high h0_agreed h0_disputed h0_posted h0_middle h0_deadline h0_running h0_node h0_side u.1), (h0_inbox, .inl (c0_inbox, 60, .inl u.2.2.2.1))]) hD hS hA [0, 3] rfl
                            refine va_calli (va_runV (As := [.int (u.2.2.2.2 3)]) (rest := [.int 1, .ref h0_hand]) ⟨hx, hb, hml, hown, hq⟩ (mt_Mo_wordAt l dC dI h0 h0_inbox h0_op h0_argument h0_balance h0_real h0_hand h0_payee h0_paid h0_drawn h0_challenger h0_low h0_high h0_agreed h0_disputed h0_posted h0_middle h0_deadline h0_running h0_node h0_side c0_inbox s.heap.size _ (u.1, u.2.2.2.1) (u.2.2.2.2 3) hw) ⟨cq_B 1 hq wt_882 wt_879 wt_10 rfl rfl hd_Mo_wordAt ⟨Nat.le_of_ble_eq_true rfl, Nat.le_of_ble_eq_true rfl⟩, (hq _ wt_881), (hq _ wv_29)⟩ ⟨kp_bl, va_recv hKc hPc (ci := 8) (q0 := 0) rfl rfl, kp_at hPc hKc hDc hZ⟩ rfl rfl hl.1 rfl (lv_room (Nat.le_of_ble_eq_true rfl)) dMo_step_269 ⟨(by decide), (by decide)⟩) hS (fun q _ h => hFc q h) hFc (fun r281 u282 t H1 locs ht hvm hw hB hz1 hk1 hS => ?_)
                            obtain ⟨hP1, hK1, hD1⟩ := hB
                            rw [ht] at hP1
                            have hK1 := va_K.moved hvm.symm hK1
                            obtain ⟨hP, hD⟩ := va_join (wr := [(h0_op, .inl (c0_op, 16, .inl u.2.1)), (h0_argument, .inl (c0_argument, 16, .inl u.2.2.1)), (h0_hand, .inl (c0_hand, 13, .inl u.2.2.2.2))]) (w1 := [(h0, ce_Mo h0_op h0_argument h0_balance h0_inbox h0_real h0_hand h0_payee h0_paid h0_drawn h0_challenger h0_low h0_high h0_agreed h0_disputed h0_posted h0_middle h0_deadline h0_running h0_node h0_side u282.1), (h0_inbox, .inl (c0_inbox, 60, .inl u282.2))]) hP hD [0, 3] [1, 2, 4] rfl rfl (by decide) (by decide) hk1 hFc hP1 hD1
                            have hK := (hK.sub (tys' := [(c0_op, .int), (c0_argument, .int), (c0_hand, .int)]) [0, 1, 3] rfl).app hK1
                            generalize H1 = H at hP hS ⊢
                            have hP : va_P (dC, dI) vwCl [(h0_op, .inl (c0_op, 16, .inl u.2.1)), (h0_argument, .inl (c0_argument, 16, .inl u.2.2.1)), (h0_hand, .inl (c0_hand, 13, .inl u.2.2.2.2)), (h0, ce_Mo h0_op h0_argument h0_balance h0_inbox h0_real h0_hand h0_payee h0_paid h0_drawn h0_challenger h0_low h0_high h0_agreed h0_disputed h0_posted h0_middle h0_deadline h0_running h0_node h0_side u282.1), (h0_inbox, .inl (c0_inbox, 60, .inl u282.2))] H := hP
                            have hD : va_D A [(h0_op, .inl (c0_op, 16, .inl u.2.1)), (h0_argument, .inl (c0_argument, 16, .inl u.2.2.1)), (h0_hand, .inl (c0_hand, 13, .inl u.2.2.2.2)), (h0, ce_Mo h0_op h0_argument h0_balance h0_inbox h0_real h0_hand h0_payee h0_paid h0_drawn h0_challenger h0_low h0_high h0_agreed h0_disputed h0_posted h0_middle h0_deadline h0_running h0_node h0_side u282.1), (h0_inbox, .inl (c0_inbox, 60, .inl u282.2))] := hD
                            have hK : va_K (dC, dI) vwCl [(c0_op, .int), (c0_argument, .int), (c0_hand, .int), (c0_inbox, .int)] s := hK
                            refine va_iast hx hb hK hP hD hS 2 2 rfl rfl (show ¬ ((1 : Int32) < 0 ∨ 13 ≤ (1 : Int32).toNatClampNeg) by decide) dMo_step_272 (fun H locs hP hD hS => ?_)
                            have hP : va_P (dC, dI) vwCl [(h0_op, .inl (c0_op, 16, .inl u.2.1)), (h0_argument, .inl (c0_argument, 16, .inl u.2.2.1)), (h0_hand, .inl (c0_hand, 13, .inl (upd u.2.2.2.2 1 r281))), (h0, ce_Mo h0_op h0_argument h0_balance h0_inbox h0_real h0_hand h0_payee h0_paid h0_drawn h0_challenger h0_low h0_high h0_agreed h0_disputed h0_posted h0_middle h0_deadline h0_running h0_node h0_side u282.1), (h0_inbox, .inl (c0_inbox, 60, .inl u282.2))] H := hP
                            have hD : va_D A [(h0_op, .inl (c0_op, 16, .inl u.2.1)), (h0_argument, .inl (c0_argument, 16, .inl u.2.2.1)), (h0_hand, .inl (c0_hand, 13, .inl (upd u.2.2.2.2 1 r281))), (h0, ce_Mo h0_op h0_argument h0_balance h0_inbox h0_real h0_hand h0_payee h0_paid h0_drawn h0_challenger h0_low h0_high h0_agreed h0_disputed h0_posted h0_middle h0_deadline h0_running h0_node h0_side u282.1), (h0_inbox, .inl (c0_inbox, 60, .inl u282.2))] := hD
                            refine lv_aload_n hx hb dMo_step_273 rfl (lv_at hl 8 rfl) ?_
                            refine va_get (D := (dC, dI)) (ci := 8) (v := .ref h0_hand) (C := "StepCourtModel") (T := TMo) (N := 35) hx hb hq inMo hown hK hP 3 rfl rfl 11 (by decide) (hq _ wt_745) (fun _ h9 => h9) rfl dMo_step_274 ?_
                            refine lv_iconst (v := 3) hx hb dMo_step_277 (by decide) ?_
                            refine lv_dup2_11 hx hb dMo_step_278 rfl rfl ?_
                            refine va_iald hx hb hK hP 2 2 rfl rfl (show ¬ ((3 : Int32) < 0 ∨ 13 ≤ (3 : Int32).toNatClampNeg) by decide) dMo_step_279 ?_
                            refine W.eq (g2 := F0 m 280 ls [.int ((upd u.2.2.2.2 1 r281) 3), .int 3, .ref h0_hand]) rfl ?_
                            refine lv_iconst (v := 1) hx hb dMo_step_280 (by decide) ?_
                            refine lv_iadd hx hb dMo_step_281 ?_
                            refine lv_topi (fun f283 ef283 => ?_)
                            have hw := hw f283 ef283
                            refine va_iast hx hb hK hP hD hS 2 2 rfl rfl (show ¬ ((3 : Int32) < 0 ∨ 13 ≤ (3 : Int32).toNatClampNeg) by decide) dMo_step_282 (fun H locs hP hD hS => ?_)
                            have hP : va_P (dC, dI) vwCl [(h0_op, .inl (c0_op, 16, .inl u.2.1)), (h0_argument, .inl (c0_argument, 16, .inl u.2.2.1)), (h0_hand, .inl (c0_hand, 13, .inl (upd (upd u.2.2.2.2 1 r281) 3 f283))), (h0, ce_Mo h0_op h0_argument h0_balance h0_inbox h0_real h0_hand h0_payee h0_paid h0_drawn h0_challenger h0_low h0_high h0_agreed h0_disputed h0_posted h0_middle h0_deadline h0_running h0_node h0_side u282.1), (h0_inbox, .inl (c0_inbox, 60, .inl u282.2))] H := hP
                            have hD : va_D A [(h0_op, .inl (c0_op, 16, .inl u.2.1)), (h0_argument, .inl (c0_argument, 16, .inl u.2.2.1)), (h0_hand, .inl (c0_hand, 13, .inl (upd (upd u.2.2.2.2 1 r281) 3 f283))), (h0, ce_Mo h0_op h0_argument h0_balance h0_inbox h0_real h0_hand h0_payee h0_paid h0_drawn h0_challenger h0_low h0_high h0_agreed h0_disputed h0_posted h0_middle h0_deadline h0_running h0_node h0_side u282.1), (h0_inbox, .inl (c0_inbox, 60, .inl u282.2))] := hD
                            refine lv_goto (tgt := 362) hx hb dMo_step_283 (by decide) ?_
                            refine lv_aload_n hx hb dMo_step_362 rfl (lv_at hl 8 rfl) ?_
                            refine va_get (D := (dC, dI)) (ci := 8) (v := .ref h0_hand) (C := "StepCourtModel") (T := TMo) (N := 35) hx hb hq inMo hown hK hP 3 rfl rfl 11 (by decide) (hq _ wt_745) (fun _ h9 => h9) rfl dMo_step_363 ?_
                            refine lv_iconst (v := 0) hx hb dMo_step_366 (by decide) ?_
                            refine lv_iload hx hb dMo_step_367 (lv_at hl 0 rfl) ?_
                            refine lv_if_eq (tgt := 376) hx hb dMo_step_369 (by decide) (fun cc284 => ?_) (fun cc284 => ?_)
                            · have hw := hw
                              refine lv_iload hx hb dMo_step_376 (lv_at hl 4 rfl) ?_
                              refine va_iast hx hb hK hP hD hS 2 2 rfl rfl (show ¬ ((0 : Int32) < 0 ∨ 13 ≤ (0 : Int32).toNatClampNeg) by decide) dMo_step_378 (fun H locs hP hD hS => ?_)
                              have hP : va_P (dC, dI) vwCl [(h0_op, .inl (c0_op, 16, .inl u.2.1)), (h0_argument, .inl (c0_argument, 16, .inl u.2.2.1)), (h0_hand, .inl (c0_hand, 13, .inl (upd (upd (upd u.2.2.2.2 1 r281) 3 f283) 0 y6))), (h0, ce_Mo h0_op h0_argument h0_balance h0_inbox h0_real h0_hand h0_payee h0_paid h0_drawn h0_challenger h0_low h0_high h0_agreed h0_disputed h0_posted h0_middle h0_deadline h0_running h0_node h0_side u282.1), (h0_inbox, .inl (c0_inbox, 60, .inl u282.2))] H := hP
                              have hD : va_D A [(h0_op, .inl (c0_op, 16, .inl u.2.1)), (h0_argument, .inl (c0_argument, 16, .inl u.2.2.1)), (h0_hand, .inl (c0_hand, 13, .inl (upd (upd (upd u.2.2.2.2 1 r281) 3 f283) 0 y6))), (h0, ce_Mo h0_op h0_argument h0_balance h0_inbox h0_real h0_hand h0_payee h0_paid h0_drawn h0_challenger h0_low h0_high h0_agreed h0_disputed h0_posted h0_middle h0_deadline h0_running h0_node h0_side u282.1), (h0_inbox, .inl (c0_inbox, 60, .inl u282.2))] := hD
                              have hP9 := hP.sub (ws' := [(h0, ce_Mo h0_op h0_argument h0_balance h0_inbox h0_real h0_hand h0_payee h0_paid h0_drawn h0_challenger h0_low h0_high h0_agreed h0_disputed h0_posted h0_middle h0_deadline h0_running h0_node h0_side u282.1), (h0_op, .inl (c0_op, 16, .inl u.2.1)), (h0_argument, .inl (c0_argument, 16, .inl u.2.2.1)), (h0_inbox, .inl (c0_inbox, 60, .inl u282.2)), (h0_hand, .inl (c0_hand, 13, .inl (upd (upd (upd u.2.2.2.2 1 r281) 3 f283) 0 y6)))]) [3, 0, 1, 4, 2] rfl
                              have hD9 := hD.sub (ws' := [(h0, ce_Mo h0_op h0_argument h0_balance h0_inbox h0_real h0_hand h0_payee h0_paid h0_drawn h0_challenger h0_low h0_high h0_agreed h0_disputed h0_posted h0_middle h0_deadline h0_running h0_node h0_side u282.1), (h0_op, .inl (c0_op, 16, .inl u.2.1)), (h0_argument, .inl (c0_argument, 16, .inl u.2.2.1)), (h0_inbox, .inl (c0_inbox, 60, .inl u282.2)), (h0_hand, .inl (c0_hand, 13, .inl (upd (upd (upd u.2.2.2.2 1 r281) 3 f283) 0 y6)))]) [3, 0, 1, 4, 2] (by decide) rfl
                              have hK9 := hK.sub (tys' := [(c0_op, .int), (c0_argument, .int), (c0_inbox, .int), (c0_hand, .int)]) [0, 1, 3, 2] rfl
                              exact W.vret hx hb hr (fun t ht hW => ⟨⟨(u282.1, u.2.1, u.2.2.1, u282.2, (upd (upd (upd u.2.2.2.2 1 r281) 3 f283) 0 y6)), rfl, hw, by rw [ht]; exact hP9, va_K.moved hW.alike hK9, hD9⟩, hS.F ht⟩) hS.2.2 dMo_step_379
                            · first | exact absurd cc284 (by decide) | exact (cc284 (by decide)).elim
                        · have hw := hw.1 cc253
                          refine lv_aload_n hx hb dMo_step_239 rfl (lv_at hl 8 rfl) ?_
                          refine va_get (D := (dC, dI)) (ci := 8) (v := .ref h0_hand) (C := "StepCourtModel") (T := TMo) (N := 35) hx hb hq inMo hown hK hP 0 rfl rfl 11 (by decide) (hq _ wt_745) (fun _ h9 => h9) rfl dMo_step_240 ?_
                          refine lv_iload hx hb dMo_step_243 (lv_at hl 1 rfl) ?_
                          refine lv_iload hx hb dMo_step_245 (lv_at hl 3 rfl) ?_
                          obtain ⟨hh285, hw⟩ := hw
                          refine va_iast hx hb hK hP hD hS 4 3 rfl rfl hh285 dMo_step_247 (fun H locs hP hD hS => ?_)
                          have hP : va_P (dC, dI) vwCl [(h0, ce_Mo h0_op h0_argument h0_balance h0_inbox h0_real h0_hand h0_payee h0_paid h0_drawn h0_challenger h0_low h0_high h0_agreed h0_disputed h0_posted h0_middle h0_deadline h0_running h0_node h0_side u.1), (h0_op, .inl (c0_op, 16, .inl u.2.1)), (h0_argument, .inl (c0_argument, 16, .inl u.2.2.1)), (h0_inbox, .inl (c0_inbox, 60, .inl u.2.2.2.1)), (h0_hand, .inl (c0_hand, 13, .inl (upd u.2.2.2.2 y9.toNatClampNeg y7)))] H := hP
                          have hD : va_D A [(h0, ce_Mo h0_op h0_argument h0_balance h0_inbox h0_real h0_hand h0_payee h0_paid h0_drawn h0_challenger h0_low h0_high h0_agreed h0_disputed h0_posted h0_middle h0_deadline h0_running h0_node h0_side u.1), (h0_op, .inl (c0_op, 16, .inl u.2.1)), (h0_argument, .inl (c0_argument, 16, .inl u.2.2.1)), (h0_inbox, .inl (c0_inbox, 60, .inl u.2.2.2.1)), (h0_hand, .inl (c0_hand, 13, .inl (upd u.2.2.2.2 y9.toNatClampNeg y7)))] := hD
                          refine lv_goto (tgt := 362) hx hb dMo_step_248 (by decide) ?_
                          refine lv_aload_n hx hb dMo_step_362 rfl (lv_at hl 8 rfl) ?_
                          refine va_get (D := (dC, dI)) (ci := 8) (v := .ref h0_hand) (C := "StepCourtModel") (T := TMo) (N := 35) hx hb hq inMo hown hK hP 0 rfl rfl 11 (by decide) (hq _ wt_745) (fun _ h9 => h9) rfl dMo_step_363 ?_
                          refine lv_iconst (v := 0) hx hb dMo_step_366 (by decide) ?_
                          refine lv_iload hx hb dMo_step_367 (lv_at hl 0 rfl) ?_
                          refine lv_if_eq (tgt := 376) hx hb dMo_step_369 (by decide) (fun cc286 => ?_) (fun cc286 => ?_)
                          · have hw := hw
                            refine lv_iload hx hb dMo_step_376 (lv_at hl 4 rfl) ?_
                            refine va_iast hx hb hK hP hD hS 4 3 rfl rfl (show ¬ ((0 : Int32) < 0 ∨ 13 ≤ (0 : Int32).toNatClampNeg) by decide) dMo_step_378 (fun H locs hP hD hS => ?_)
                            have hP : va_P (dC, dI) vwCl [(h0, ce_Mo h0_op h0_argument h0_balance h0_inbox h0_real h0_hand h0_payee h0_paid h0_drawn h0_challenger h0_low h0_high h0_agreed h0_disputed h0_posted h0_middle h0_deadline h0_running h0_node h0_side u.1), (h0_op, .inl (c0_op, 16, .inl u.2.1)), (h0_argument, .inl (c0_argument, 16, .inl u.2.2.1)), (h0_inbox, .inl (c0_inbox, 60, .inl u.2.2.2.1)), (h0_hand, .inl (c0_hand, 13, .inl (upd (upd u.2.2.2.2 y9.toNatClampNeg y7) 0 y6)))] H := hP
                            have hD : va_D A [(h0, ce_Mo h0_op h0_argument h0_balance h0_inbox h0_real h0_hand h0_payee h0_paid h0_drawn h0_challenger h0_low h0_high h0_agreed h0_disputed h0_posted h0_middle h0_deadline h0_running h0_node h0_side u.1), (h0_op, .inl (c0_op, 16, .inl u.2.1)), (h0_argument, .inl (c0_argument, 16, .inl u.2.2.1)), (h0_inbox, .inl (c0_inbox, 60, .inl u.2.2.2.1)), (h0_hand, .inl (c0_hand, 13, .inl (upd (upd u.2.2.2.2 y9.toNatClampNeg y7) 0 y6)))] := hD
                            have hP9 := hP.sub (ws' := [(h0, ce_Mo h0_op h0_argument h0_balance h0_inbox h0_real h0_hand h0_payee h0_paid h0_drawn h0_challenger h0_low h0_high h0_agreed h0_disputed h0_posted h0_middle h0_deadline h0_running h0_node h0_side u.1), (h0_op, .inl (c0_op, 16, .inl u.2.1)), (h0_argument, .inl (c0_argument, 16, .inl u.2.2.1)), (h0_inbox, .inl (c0_inbox, 60, .inl u.2.2.2.1)), (h0_hand, .inl (c0_hand, 13, .inl (upd (upd u.2.2.2.2 y9.toNatClampNeg y7) 0 y6)))]) [0, 1, 2, 3, 4] rfl
                            have hD9 := hD.sub (ws' := [(h0, ce_Mo h0_op h0_argument h0_balance h0_inbox h0_real h0_hand h0_payee h0_paid h0_drawn h0_challenger h0_low h0_high h0_agreed h0_disputed h0_posted h0_middle h0_deadline h0_running h0_node h0_side u.1), (h0_op, .inl (c0_op, 16, .inl u.2.1)), (h0_argument, .inl (c0_argument, 16, .inl u.2.2.1)), (h0_inbox, .inl (c0_inbox, 60, .inl u.2.2.2.1)), (h0_hand, .inl (c0_hand, 13, .inl (upd (upd u.2.2.2.2 y9.toNatClampNeg y7) 0 y6)))]) [0, 1, 2, 3, 4] (by decide) rfl
                            have hK9 := hK.sub (tys' := [(c0_op, .int), (c0_argument, .int), (c0_inbox, .int), (c0_hand, .int)]) [0, 1, 2, 3] rfl
                            exact W.vret hx hb hr (fun t ht hW => ⟨⟨(u.1, u.2.1, u.2.2.1, u.2.2.2.1, (upd (upd u.2.2.2.2 y9.toNatClampNeg y7) 0 y6)), rfl, hw, by rw [ht]; exact hP9, va_K.moved hW.alike hK9, hD9⟩, hS.F ht⟩) hS.2.2 dMo_step_379
                          · first | exact absurd cc286 (by decide) | exact (cc286 (by decide)).elim
                      · have hw := hw.1 cc252
                        refine lv_aload_n hx hb dMo_step_217 rfl (lv_at hl 8 rfl) ?_
                        refine va_get (D := (dC, dI)) (ci := 8) (v := .ref h0_hand) (C := "StepCourtModel") (T := TMo) (N := 35) hx hb hq inMo hown hK hP 0 rfl rfl 11 (by decide) (hq _ wt_745) (fun _ h9 => h9) rfl dMo_step_218 ?_
                        refine lv_iconst (v := 1) hx hb dMo_step_221 (by decide) ?_
                        refine lv_aload_n hx hb dMo_step_222 rfl (lv_at hl 8 rfl) ?_
                        refine va_get (D := (dC, dI)) (ci := 8) (v := .ref h0_hand) (C := "StepCourtModel") (T := TMo) (N := 35) hx hb hq inMo hown hK hP 0 rfl rfl 11 (by decide) (hq _ wt_745) (fun _ h9 => h9) rfl dMo_step_223 ?_
                        refine lv_iload hx hb dMo_step_226 (lv_at hl 1 rfl) ?_
                        obtain ⟨hh287, hw⟩ := hw
                        refine va_iald hx hb hK hP 4 3 rfl rfl hh287 dMo_step_228 ?_
                        refine lv_topi (fun f288 ef288 => ?_)
                        have hw := hw f288 ef288
                        refine va_iast hx hb hK hP hD hS 4 3 rfl rfl (show ¬ ((1 : Int32) < 0 ∨ 13 ≤ (1 : Int32).toNatClampNeg) by decide) dMo_step_229 (fun H locs hP hD hS => ?_)
                        have hP : va_P (dC, dI) vwCl [(h0, ce_Mo h0_op h0_argument h0_balance h0_inbox h0_real h0_hand h0_payee h0_paid h0_drawn h0_challenger h0_low h0_high h0_agreed h0_disputed h0_posted h0_middle h0_deadline h0_running h0_node h0_side u.1), (h0_op, .inl (c0_op, 16, .inl u.2.1)), (h0_argument, .inl (c0_argument, 16, .inl u.2.2.1)), (h0_inbox, .inl (c0_inbox, 60, .inl u.2.2.2.1)), (h0_hand, .inl (c0_hand, 13, .inl (upd u.2.2.2.2 1 f288)))] H := hP
                        have hD : va_D A [(h0, ce_Mo h0_op h0_argument h0_balance h0_inbox h0_real h0_hand h0_payee h0_paid h0_drawn h0_challenger h0_low h0_high h0_agreed h0_disputed h0_posted h0_middle h0_deadline h0_running h0_node h0_side u.1), (h0_op, .inl (c0_op, 16, .inl u.2.1)), (h0_argument, .inl (c0_argument, 16, .inl u.2.2.1)), (h0_inbox, .inl (c0_inbox, 60, .inl u.2.2.2.1)), (h0_hand, .inl (c0_hand, 13, .inl (upd u.2.2.2.2 1 f288)))] := hD
                        refine lv_goto (tgt := 362) hx hb dMo_step_230 (by decide) ?_
                        refine lv_aload_n hx hb dMo_step_362 rfl (lv_at hl 8 rfl) ?_
                        refine va_get (D := (dC, dI)) (ci := 8) (v := .ref h0_hand) (C := "StepCourtModel") (T := TMo) (N := 35) hx hb hq inMo hown hK hP 0 rfl rfl 11 (by decide) (hq _ wt_745) (fun _ h9 => h9) rfl dMo_step_363 ?_
                        refine lv_iconst (v := 0) hx hb dMo_step_366 (by decide) ?_
                        refine lv_iload hx hb dMo_step_367 (lv_at hl 0 rfl) ?_
                        refine lv_if_eq (tgt := 376) hx hb dMo_step_369 (by decide) (fun cc289 => ?_) (fun cc289 => ?_)
                        · have hw := hw
                          refine lv_iload hx hb dMo_step_376 (lv_at hl 4 rfl) ?_
                          refine va_iast hx hb hK hP hD hS 4 3 rfl rfl (show ¬ ((0 : Int32) < 0 ∨ 13 ≤ (0 : Int32).toNatClampNeg) by decide) dMo_step_378 (fun H locs hP hD hS => ?_)
                          have hP : va_P (dC, dI) vwCl [(h0, ce_Mo h0_op h0_argument h0_balance h0_inbox h0_real h0_hand h0_payee h0_paid h0_drawn h0_challenger h0_low h0_high h0_agreed h0_disputed h0_posted h0_middle h0_deadline h0_running h0_node h0_side u.1), (h0_op, .inl (c0_op, 16, .inl u.2.1)), (h0_argument, .inl (c0_argument, 16, .inl u.2.2.1)), (h0_inbox, .inl (c0_inbox, 60, .inl u.2.2.2.1)), (h0_hand, .inl (c0_hand, 13, .inl (upd (upd u.2.2.2.2 1 f288) 0 y6)))] H := hP
                          have hD : va_D A [(h0, ce_Mo h0_op h0_argument h0_balance h0_inbox h0_real h0_hand h0_payee h0_paid h0_drawn h0_challenger h0_low h0_high h0_agreed h0_disputed h0_posted h0_middle h0_deadline h0_running h0_node h0_side u.1), (h0_op, .inl (c0_op, 16, .inl u.2.1)), (h0_argument, .inl (c0_argument, 16, .inl u.2.2.1)), (h0_inbox, .inl (c0_inbox, 60, .inl u.2.2.2.1)), (h0_hand, .inl (c0_hand, 13, .inl (upd (upd u.2.2.2.2 1 f288) 0 y6)))] := hD
                          have hP9 := hP.sub (ws' := [(h0, ce_Mo h0_op h0_argument h0_balance h0_inbox h0_real h0_hand h0_payee h0_paid h0_drawn h0_challenger h0_low h0_high h0_agreed h0_disputed h0_posted h0_middle h0_deadline h0_running h0_node h0_side u.1), (h0_op, .inl (c0_op, 16, .inl u.2.1)), (h0_argument, .inl (c0_argument, 16, .inl u.2.2.1)), (h0_inbox, .inl (c0_inbox, 60, .inl u.2.2.2.1)), (h0_hand, .inl (c0_hand, 13, .inl (upd (upd u.2.2.2.2 1 f288) 0 y6)))]) [0, 1, 2, 3, 4] rfl
                          have hD9 := hD.sub (ws' := [(h0, ce_Mo h0_op h0_argument h0_balance h0_inbox h0_real h0_hand h0_payee h0_paid h0_drawn h0_challenger h0_low h0_high h0_agreed h0_disputed h0_posted h0_middle h0_deadline h0_running h0_node h0_side u.1), (h0_op, .inl (c0_op, 16, .inl u.2.1)), (h0_argument, .inl (c0_argument, 16, .inl u.2.2.1)), (h0_inbox, .inl (c0_inbox, 60, .inl u.2.2.2.1)), (h0_hand, .inl (c0_hand, 13, .inl (upd (upd u.2.2.2.2 1 f288) 0 y6)))]) [0, 1, 2, 3, 4] (by decide) rfl
                          have hK9 := hK.sub (tys' := [(c0_op, .int), (c0_argument, .int), (c0_inbox, .int), (c0_hand, .int)]) [0, 1, 2, 3] rfl
                          exact W.vret hx hb hr (fun t ht hW => ⟨⟨(u.1, u.2.1, u.2.2.1, u.2.2.2.1, (upd (upd u.2.2.2.2 1 f288) 0 y6)), rfl, hw, by rw [ht]; exact hP9, va_K.moved hW.alike hK9, hD9⟩, hS.F ht⟩) hS.2.2 dMo_step_379
                        · first | exact absurd cc289 (by decide) | exact (cc289 (by decide)).elim
                    · have hw := hw.2 cc251
                      refine lv_aload_n hx hb dMo_step_171 rfl (lv_at hl 8 rfl) ?_
                      refine va_get (D := (dC, dI)) (ci := 8) (v := .ref h0_hand) (C := "StepCourtModel") (T := TMo) (N := 35) hx hb hq inMo hown hK hP 0 rfl rfl 11 (by decide) (hq _ wt_745) (fun _ h9 => h9) rfl dMo_step_172 ?_
                      refine lv_iconst (v := 1) hx hb dMo_step_175 (by decide) ?_
                      refine lv_iload_n hx hb dMo_step_176 rfl (lv_at hl 6 rfl) ?_
                      refine lv_iconst (v := 4) hx hb dMo_step_177 (by decide) ?_
                      refine lv_icmp_ne (tgt := 189) hx hb dMo_step_178 (by decide) (fun cc290 => ?_) (fun cc290 => ?_)
                      · have hw := hw.2 cc290
                        refine lv_iload_n hx hb dMo_step_189 rfl (lv_at hl 6 rfl) ?_
                        refine lv_iconst (v := 5) hx hb dMo_step_190 (by decide) ?_
                        refine lv_icmp_ne (tgt := 202) hx hb dMo_step_191 (by decide) (fun cc291 => ?_) (fun cc291 => ?_)
                        · have hw := hw.2 cc291
                          refine lv_iload hx hb dMo_step_202 (lv_at hl 3 rfl) ?_
                          refine lv_iload hx hb dMo_step_204 (lv_at hl 2 rfl) ?_
                          refine lv_imul hx hb dMo_step_206 ?_
                          refine lv_topi (fun f292 ef292 => ?_)
                          have hw := hw f292 ef292
                          refine va_iast hx hb hK hP hD hS 4 3 rfl rfl (show ¬ ((1 : Int32) < 0 ∨ 13 ≤ (1 : Int32).toNatClampNeg) by decide) dMo_step_207 (fun H locs hP hD hS => ?_)
                          have hP : va_P (dC, dI) vwCl [(h0, ce_Mo h0_op h0_argument h0_balance h0_inbox h0_real h0_hand h0_payee h0_paid h0_drawn h0_challenger h0_low h0_high h0_agreed h0_disputed h0_posted h0_middle h0_deadline h0_running h0_node h0_side u.1), (h0_op, .inl (c0_op, 16, .inl u.2.1)), (h0_argument, .inl (c0_argument, 16, .inl u.2.2.1)), (h0_inbox, .inl (c0_inbox, 60, .inl u.2.2.2.1)), (h0_hand, .inl (c0_hand, 13, .inl (upd u.2.2.2.2 1 f292)))] H := hP
                          have hD : va_D A [(h0, ce_Mo h0_op h0_argument h0_balance h0_inbox h0_real h0_hand h0_payee h0_paid h0_drawn h0_challenger h0_low h0_high h0_agreed h0_disputed h0_posted h0_middle h0_deadline h0_running h0_node h0_side u.1), (h0_op, .inl (c0_op, 16, .inl u.2.1)), (h0_argument, .inl (c0_argument, 16, .inl u.2.2.1)), (h0_inbox, .inl (c0_inbox, 60, .inl u.2.2.2.1)), (h0_hand, .inl (c0_hand, 13, .inl (upd u.2.2.2.2 1 f292)))] := hD
                          refine lv_goto (tgt := 362) hx hb dMo_step_208 (by decide) ?_
                          refine lv_aload_n hx hb dMo_step_362 rfl (lv_at hl 8 rfl) ?_
                          refine va_get (D := (dC, dI)) (ci := 8) (v := .ref h0_hand) (C := "StepCourtModel") (T := TMo) (N := 35) hx hb hq inMo hown hK hP 0 rfl rfl 11 (by decide) (hq _ wt_745) (fun _ h9 => h9) rfl dMo_step_363 ?_
                          refine lv_iconst (v := 0) hx hb dMo_step_366 (by decide) ?_
                          refine lv_iload hx hb dMo_step_367 (lv_at hl 0 rfl) ?_
                          refine lv_if_eq (tgt := 376) hx hb dMo_step_369 (by decide) (fun cc293 => ?_) (fun cc293 => ?_)
                          · have hw := hw
                            refine lv_iload hx hb dMo_step_376 (lv_at hl 4 rfl) ?_
                            refine va_iast hx hb hK hP hD hS 4 3 rfl rfl (show ¬ ((0 : Int32) < 0 ∨ 13 ≤ (0 : Int32).toNatClampNeg) by decide) dMo_step_378 (fun H locs hP hD hS => ?_)
                            have hP : va_P (dC, dI) vwCl [(h0, ce_Mo h0_op h0_argument h0_balance h0_inbox h0_real h0_hand h0_payee h0_paid h0_drawn h0_challenger h0_low h0_high h0_agreed h0_disputed h0_posted h0_middle h0_deadline h0_running h0_node h0_side u.1), (h0_op, .inl (c0_op, 16, .inl u.2.1)), (h0_argument, .inl (c0_argument, 16, .inl u.2.2.1)), (h0_inbox, .inl (c0_inbox, 60, .inl u.2.2.2.1)), (h0_hand, .inl (c0_hand, 13, .inl (upd (upd u.2.2.2.2 1 f292) 0 y6)))] H := hP
                            have hD : va_D A [(h0, ce_Mo h0_op h0_argument h0_balance h0_inbox h0_real h0_hand h0_payee h0_paid h0_drawn h0_challenger h0_low h0_high h0_agreed h0_disputed h0_posted h0_middle h0_deadline h0_running h0_node h0_side u.1), (h0_op, .inl (c0_op, 16, .inl u.2.1)), (h0_argument, .inl (c0_argument, 16, .inl u.2.2.1)), (h0_inbox, .inl (c0_inbox, 60, .inl u.2.2.2.1)), (h0_hand, .inl (c0_hand, 13, .inl (upd (upd u.2.2.2.2 1 f292) 0 y6)))] := hD
                            have hP9 := hP.sub (ws' := [(h0, ce_Mo h0_op h0_argument h0_balance h0_inbox h0_real h0_hand h0_payee h0_paid h0_drawn h0_challenger h0_low h0_high h0_agreed h0_disputed h0_posted h0_middle h0_deadline h0_running h0_node h0_side u.1), (h0_op, .inl (c0_op, 16, .inl u.2.1)), (h0_argument, .inl (c0_argument, 16, .inl u.2.2.1)), (h0_inbox, .inl (c0_inbox, 60, .inl u.2.2.2.1)), (h0_hand, .inl (c0_hand, 13, .inl (upd (upd u.2.2.2.2 1 f292) 0 y6)))]) [0, 1, 2, 3, 4] rfl
                            have hD9 := hD.sub (ws' := [(h0, ce_Mo h0_op h0_argument h0_balance h0_inbox h0_real h0_hand h0_payee h0_paid h0_drawn h0_challenger h0_low h0_high h0_agreed h0_disputed h0_posted h0_middle h0_deadline h0_running h0_node h0_side u.1), (h0_op, .inl (c0_op, 16, .inl u.2.1)), (h0_argument, .inl (c0_argument, 16, .inl u.2.2.1)), (h0_inbox, .inl (c0_inbox, 60, .inl u.2.2.2.1)), (h0_hand, .inl (c0_hand, 13, .inl (upd (upd u.2.2.2.2 1 f292) 0 y6)))]) [0, 1, 2, 3, 4] (by decide) rfl
                            have hK9 := hK.sub (tys' := [(c0_op, .int), (c0_argument, .int), (c0_inbox, .int), (c0_hand, .int)]) [0, 1, 2, 3] rfl
                            exact W.vret hx hb hr (fun t ht hW => ⟨⟨(u.1, u.2.1, u.2.2.1, u.2.2.2.1, (upd (upd u.2.2.2.2 1 f292) 0 y6)), rfl, hw, by rw [ht]; exact hP9, va_K.moved hW.alike hK9, hD9⟩, hS.F ht⟩) hS.2.2 dMo_step_379
                          · first | exact absurd cc293 (by decide) | exact (cc293 (by decide)).elim
                        · have hw := hw.1 cc291
                          refine lv_iload hx hb dMo_step_194 (lv_at hl 3 rfl) ?_
                          refine lv_iload hx hb dMo_step_196 (lv_at hl 2 rfl) ?_
                          refine lv_isub hx hb dMo_step_198 ?_
                          refine lv_goto (tgt := 207) hx hb dMo_step_199 (by decide) ?_
                          refine lv_topi (fun f294 ef294 => ?_)
                          have hw := hw f294 ef294
                          refine va_iast hx hb hK hP hD hS 4 3 rfl rfl (show ¬ ((1 : Int32) < 0 ∨ 13 ≤ (1 : Int32).toNatClampNeg) by decide) dMo_step_207 (fun H locs hP hD hS => ?_)
                          have hP : va_P (dC, dI) vwCl [(h0, ce_Mo h0_op h0_argument h0_balance h0_inbox h0_real h0_hand h0_payee h0_paid h0_drawn h0_challenger h0_low h0_high h0_agreed h0_disputed h0_posted h0_middle h0_deadline h0_running h0_node h0_side u.1), (h0_op, .inl (c0_op, 16, .inl u.2.1)), (h0_argument, .inl (c0_argument, 16, .inl u.2.2.1)), (h0_inbox, .inl (c0_inbox, 60, .inl u.2.2.2.1)), (h0_hand, .inl (c0_hand, 13, .inl (upd u.2.2.2.2 1 f294)))] H := hP
                          have hD : va_D A [(h0, ce_Mo h0_op h0_argument h0_balance h0_inbox h0_real h0_hand h0_payee h0_paid h0_drawn h0_challenger h0_low h0_high h0_agreed h0_disputed h0_posted h0_middle h0_deadline h0_running h0_node h0_side u.1), (h0_op, .inl (c0_op, 16, .inl u.2.1)), (h0_argument, .inl (c0_argument, 16, .inl u.2.2.1)), (h0_inbox, .inl (c0_inbox, 60, .inl u.2.2.2.1)), (h0_hand, .inl (c0_hand, 13, .inl (upd u.2.2.2.2 1 f294)))] := hD
                          refine lv_goto (tgt := 362) hx hb dMo_step_208 (by decide) ?_
                          refine lv_aload_n hx hb dMo_step_362 rfl (lv_at hl 8 rfl) ?_
                          refine va_get (D := (dC, dI)) (ci := 8) (v := .ref h0_hand) (C := "StepCourtModel") (T := TMo) (N := 35) hx hb hq inMo hown hK hP 0 rfl rfl 11 (by decide) (hq _ wt_745) (fun _ h9 => h9) rfl dMo_step_363 ?_
                          refine lv_iconst (v := 0) hx hb dMo_step_366 (by decide) ?_
                          refine lv_iload hx hb dMo_step_367 (lv_at hl 0 rfl) ?_
                          refine lv_if_eq (tgt := 376) hx hb dMo_step_369 (by decide) (fun cc295 => ?_) (fun cc295 => ?_)
                          · have hw := hw
                            refine lv_iload hx hb dMo_step_376 (lv_at hl 4 rfl) ?_
                            refine va_iast hx hb hK hP hD hS 4 3 rfl rfl (show ¬ ((0 : Int32) < 0 ∨ 13 ≤ (0 : Int32).toNatClampNeg) by decide) dMo_step_378 (fun H locs hP hD hS => ?_)
                            have hP : va_P (dC, dI) vwCl [(h0, ce_Mo h0_op h0_argument h0_balance h0_inbox h0_real h0_hand h0_payee h0_paid h0_drawn h0_challenger h0_low h0_high h0_agreed h0_disputed h0_posted h0_middle h0_deadline h0_running h0_node h0_side u.1), (h0_op, .inl (c0_op, 16, .inl u.2.1)), (h0_argument, .inl (c0_argument, 16, .inl u.2.2.1)), (h0_inbox, .inl (c0_inbox, 60, .inl u.2.2.2.1)), (h0_hand, .inl (c0_hand, 13, .inl (upd (upd u.2.2.2.2 1 f294) 0 y6)))] H := hP
                            have hD : va_D A [(h0, ce_Mo h0_op h0_argument h0_balance h0_inbox h0_real h0_hand h0_payee h0_paid h0_drawn h0_challenger h0_low h0_high h0_agreed h0_disputed h0_posted h0_middle h0_deadline h0_running h0_node h0_side u.1), (h0_op, .inl (c0_op, 16, .inl u.2.1)), (h0_argument, .inl (c0_argument, 16, .inl u.2.2.1)), (h0_inbox, .inl (c0_inbox, 60, .inl u.2.2.2.1)), (h0_hand, .inl (c0_hand, 13, .inl (upd (upd u.2.2.2.2 1 f294) 0 y6)))] := hD
                            have hP9 := hP.sub (ws' := [(h0, ce_Mo h0_op h0_argument h0_balance h0_inbox h0_real h0_hand h0_payee h0_paid h0_drawn h0_challenger h0_low h0_high h0_agreed h0_disputed h0_posted h0_middle h0_deadline h0_running h0_node h0_side u.1), (h0_op, .inl (c0_op, 16, .inl u.2.1)), (h0_argument, .inl (c0_argument, 16, .inl u.2.2.1)), (h0_inbox, .inl (c0_inbox, 60, .inl u.2.2.2.1)), (h0_hand, .inl (c0_hand, 13, .inl (upd (upd u.2.2.2.2 1 f294) 0 y6)))]) [0, 1, 2, 3, 4] rfl
                            have hD9 := hD.sub (ws' := [(h0, ce_Mo h0_op h0_argument h0_balance h0_inbox h0_real h0_hand h0_payee h0_paid h0_drawn h0_challenger h0_low h0_high h0_agreed h0_disputed h0_posted h0_middle h0_deadline h0_running h0_node h0_side u.1), (h0_op, .inl (c0_op, 16, .inl u.2.1)), (h0_argument, .inl (c0_argument, 16, .inl u.2.2.1)), (h0_inbox, .inl (c0_inbox, 60, .inl u.2.2.2.1)), (h0_hand, .inl (c0_hand, 13, .inl (upd (upd u.2.2.2.2 1 f294) 0 y6)))]) [0, 1, 2, 3, 4] (by decide) rfl
                            have hK9 := hK.sub (tys' := [(c0_op, .int), (c0_argument, .int), (c0_inbox, .int), (c0_hand, .int)]) [0, 1, 2, 3] rfl
                            exact W.vret hx hb hr (fun t ht hW => ⟨⟨(u.1, u.2.1, u.2.2.1, u.2.2.2.1, (upd (upd u.2.2.2.2 1 f294) 0 y6)), rfl, hw, by rw [ht]; exact hP9, va_K.moved hW.alike hK9, hD9⟩, hS.F ht⟩) hS.2.2 dMo_step_379
                          · first | exact absurd cc295 (by decide) | exact (cc295 (by decide)).elim
                      · have hw := hw.1 cc290
                        refine lv_iload hx hb dMo_step_181 (lv_at hl 3 rfl) ?_
                        refine lv_iload hx hb dMo_step_183 (lv_at hl 2 rfl) ?_
                        refine lv_iadd hx hb dMo_step_185 ?_
                        refine lv_goto (tgt := 207) hx hb dMo_step_186 (by decide) ?_
                        refine lv_topi (fun f296 ef296 => ?_)
                        have hw := hw f296 ef296
                        refine va_iast hx hb hK hP hD hS 4 3 rfl rfl (show ¬ ((1 : Int32) < 0 ∨ 13 ≤ (1 : Int32).toNatClampNeg) by decide) dMo_step_207 (fun H locs hP hD hS => ?_)
                        have hP : va_P (dC, dI) vwCl [(h0, ce_Mo h0_op h0_argument h0_balance h0_inbox h0_real h0_hand h0_payee h0_paid h0_drawn h0_challenger h0_low h0_high h0_agreed h0_disputed h0_posted h0_middle h0_deadline h0_running h0_node h0_side u.1), (h0_op, .inl (c0_op, 16, .inl u.2.1)), (h0_argument, .inl (c0_argument, 16, .inl u.2.2.1)), (h0_inbox, .inl (c0_inbox, 60, .inl u.2.2.2.1)), (h0_hand, .inl (c0_hand, 13, .inl (upd u.2.2.2.2 1 f296)))] H := hP
                        have hD : va_D A [(h0, ce_Mo h0_op h0_argument h0_balance h0_inbox h0_real h0_hand h0_payee h0_paid h0_drawn h0_challenger h0_low h0_high h0_agreed h0_disputed h0_posted h0_middle h0_deadline h0_running h0_node h0_side u.1), (h0_op, .inl (c0_op, 16, .inl u.2.1)), (h0_argument, .inl (c0_argument, 16, .inl u.2.2.1)), (h0_inbox, .inl (c0_inbox, 60, .inl u.2.2.2.1)), (h0_hand, .inl (c0_hand, 13, .inl (upd u.2.2.2.2 1 f296)))] := hD
                        refine lv_goto (tgt := 362) hx hb dMo_step_208 (by decide) ?_
                        refine lv_aload_n hx hb dMo_step_362 rfl (lv_at hl 8 rfl) ?_
                        refine va_get (D := (dC, dI)) (ci := 8) (v := .ref h0_hand) (C := "StepCourtModel") (T := TMo) (N := 35) hx hb hq inMo hown hK hP 0 rfl rfl 11 (by decide) (hq _ wt_745) (fun _ h9 => h9) rfl dMo_step_363 ?_
                        refine lv_iconst (v := 0) hx hb dMo_step_366 (by decide) ?_
                        refine lv_iload hx hb dMo_step_367 (lv_at hl 0 rfl) ?_
                        refine lv_if_eq (tgt := 376) hx hb dMo_step_369 (by decide) (fun cc297 => ?_) (fun cc297 => ?_)
                        · have hw := hw
                          refine lv_iload hx hb dMo_step_376 (lv_at hl 4 rfl) ?_
                          refine va_iast hx hb hK hP hD hS 4 3 rfl rfl (show ¬ ((0 : Int32) < 0 ∨ 13 ≤ (0 : Int32).toNatClampNeg) by decide) dMo_step_378 (fun H locs hP hD hS => ?_)
                          have hP : va_P (dC, dI) vwCl [(h0, ce_Mo h0_op h0_argument h0_balance h0_inbox h0_real h0_hand h0_payee h0_paid h0_drawn h0_challenger h0_low h0_high h0_agreed h0_disputed h0_posted h0_middle h0_deadline h0_running h0_node h0_side u.1), (h0_op, .inl (c0_op, 16, .inl u.2.1)), (h0_argument, .inl (c0_argument, 16, .inl u.2.2.1)), (h0_inbox, .inl (c0_inbox, 60, .inl u.2.2.2.1)), (h0_hand, .inl (c0_hand, 13, .inl (upd (upd u.2.2.2.2 1 f296) 0 y6)))] H := hP
                          have hD : va_D A [(h0, ce_Mo h0_op h0_argument h0_balance h0_inbox h0_real h0_hand h0_payee h0_paid h0_drawn h0_challenger h0_low h0_high h0_agreed h0_disputed h0_posted h0_middle h0_deadline h0_running h0_node h0_side u.1), (h0_op, .inl (c0_op, 16, .inl u.2.1)), (h0_argument, .inl (c0_argument, 16, .inl u.2.2.1)), (h0_inbox, .inl (c0_inbox, 60, .inl u.2.2.2.1)), (h0_hand, .inl (c0_hand, 13, .inl (upd (upd u.2.2.2.2 1 f296) 0 y6)))] := hD
                          have hP9 := hP.sub (ws' := [(h0, ce_Mo h0_op h0_argument h0_balance h0_inbox h0_real h0_hand h0_payee h0_paid h0_drawn h0_challenger h0_low h0_high h0_agreed h0_disputed h0_posted h0_middle h0_deadline h0_running h0_node h0_side u.1), (h0_op, .inl (c0_op, 16, .inl u.2.1)), (h0_argument, .inl (c0_argument, 16, .inl u.2.2.1)), (h0_inbox, .inl (c0_inbox, 60, .inl u.2.2.2.1)), (h0_hand, .inl (c0_hand, 13, .inl (upd (upd u.2.2.2.2 1 f296) 0 y6)))]) [0, 1, 2, 3, 4] rfl
                          have hD9 := hD.sub (ws' := [(h0, ce_Mo h0_op h0_argument h0_balance h0_inbox h0_real h0_hand h0_payee h0_paid h0_drawn h0_challenger h0_low h0_high h0_agreed h0_disputed h0_posted h0_middle h0_deadline h0_running h0_node h0_side u.1), (h0_op, .inl (c0_op, 16, .inl u.2.1)), (h0_argument, .inl (c0_argument, 16, .inl u.2.2.1)), (h0_inbox, .inl (c0_inbox, 60, .inl u.2.2.2.1)), (h0_hand, .inl (c0_hand, 13, .inl (upd (upd u.2.2.2.2 1 f296) 0 y6)))]) [0, 1, 2, 3, 4] (by decide) rfl
                          have hK9 := hK.sub (tys' := [(c0_op, .int), (c0_argument, .int), (c0_inbox, .int), (c0_hand, .int)]) [0, 1, 2, 3] rfl
                          exact W.vret hx hb hr (fun t ht hW => ⟨⟨(u.1, u.2.1, u.2.2.1, u.2.2.2.1, (upd (upd u.2.2.2.2 1 f296) 0 y6)), rfl, hw, by rw [ht]; exact hP9, va_K.moved hW.alike hK9, hD9⟩, hS.F ht⟩) hS.2.2 dMo_step_379
                        · first | exact absurd cc297 (by decide) | exact (cc297 (by decide)).elim
                · have hw := hw.1 cc211
                  refine lv_aload_n hx hb dMo_step_141 rfl (lv_at hl 8 rfl) ?_
                  refine va_get (D := (dC, dI)) (ci := 8) (v := .ref h0_hand) (C := "StepCourtModel") (T := TMo) (N := 35) hx hb hq inMo hown hK hP 0 rfl rfl 11 (by decide) (hq _ wt_745) (fun _ h9 => h9) rfl dMo_step_142 ?_
                  refine lv_iconst (v := 1) hx hb dMo_step_145 (by decide) ?_
                  refine lv_iload hx hb dMo_step_146 (lv_at hl 2 rfl) ?_
                  refine va_iast hx hb hK hP hD hS 4 3 rfl rfl (show ¬ ((1 : Int32) < 0 ∨ 13 ≤ (1 : Int32).toNatClampNeg) by decide) dMo_step_148 (fun H locs hP hD hS => ?_)
                  have hP : va_P (dC, dI) vwCl [(h0, ce_Mo h0_op h0_argument h0_balance h0_inbox h0_real h0_hand h0_payee h0_paid h0_drawn h0_challenger h0_low h0_high h0_agreed h0_disputed h0_posted h0_middle h0_deadline h0_running h0_node h0_side u.1), (h0_op, .inl (c0_op, 16, .inl u.2.1)), (h0_argument, .inl (c0_argument, 16, .inl u.2.2.1)), (h0_inbox, .inl (c0_inbox, 60, .inl u.2.2.2.1)), (h0_hand, .inl (c0_hand, 13, .inl (upd u.2.2.2.2 1 y8)))] H := hP
                  have hD : va_D A [(h0, ce_Mo h0_op h0_argument h0_balance h0_inbox h0_real h0_hand h0_payee h0_paid h0_drawn h0_challenger h0_low h0_high h0_agreed h0_disputed h0_posted h0_middle h0_deadline h0_running h0_node h0_side u.1), (h0_op, .inl (c0_op, 16, .inl u.2.1)), (h0_argument, .inl (c0_argument, 16, .inl u.2.2.1)), (h0_inbox, .inl (c0_inbox, 60, .inl u.2.2.2.1)), (h0_hand, .inl (c0_hand, 13, .inl (upd u.2.2.2.2 1 y8)))] := hD
                  refine lv_aload_n hx hb dMo_step_149 rfl (lv_at hl 8 rfl) ?_
                  refine va_get (D := (dC, dI)) (ci := 8) (v := .ref h0_hand) (C := "StepCourtModel") (T := TMo) (N := 35) hx hb hq inMo hown hK hP 0 rfl rfl 11 (by decide) (hq _ wt_745) (fun _ h9 => h9) rfl dMo_step_150 ?_
                  refine lv_iconst (v := 2) hx hb dMo_step_153 (by decide) ?_
                  refine lv_iload hx hb dMo_step_154 (lv_at hl 3 rfl) ?_
                  refine va_iast hx hb hK hP hD hS 4 3 rfl rfl (show ¬ ((2 : Int32) < 0 ∨ 13 ≤ (2 : Int32).toNatClampNeg) by decide) dMo_step_156 (fun H locs hP hD hS => ?_)
                  have hP : va_P (dC, dI) vwCl [(h0, ce_Mo h0_op h0_argument h0_balance h0_inbox h0_real h0_hand h0_payee h0_paid h0_drawn h0_challenger h0_low h0_high h0_agreed h0_disputed h0_posted h0_middle h0_deadline h0_running h0_node h0_side u.1), (h0_op, .inl (c0_op, 16, .inl u.2.1)), (h0_argument, .inl (c0_argument, 16, .inl u.2.2.1)), (h0_inbox, .inl (c0_inbox, 60, .inl u.2.2.2.1)), (h0_hand, .inl (c0_hand, 13, .inl (upd (upd u.2.2.2.2 1 y8) 2 y7)))] H := hP
                  have hD : va_D A [(h0, ce_Mo h0_op h0_argument h0_balance h0_inbox h0_real h0_hand h0_payee h0_paid h0_drawn h0_challenger h0_low h0_high h0_agreed h0_disputed h0_posted h0_middle h0_deadline h0_running h0_node h0_side u.1), (h0_op, .inl (c0_op, 16, .inl u.2.1)), (h0_argument, .inl (c0_argument, 16, .inl u.2.2.1)), (h0_inbox, .inl (c0_inbox, 60, .inl u.2.2.2.1)), (h0_hand, .inl (c0_hand, 13, .inl (upd (upd u.2.2.2.2 1 y8) 2 y7)))] := hD
                  refine lv_goto (tgt := 362) hx hb dMo_step_157 (by decide) ?_
                  refine lv_aload_n hx hb dMo_step_362 rfl (lv_at hl 8 rfl) ?_
                  refine va_get (D := (dC, dI)) (ci := 8) (v := .ref h0_hand) (C := "StepCourtModel") (T := TMo) (N := 35) hx hb hq inMo hown hK hP 0 rfl rfl 11 (by decide) (hq _ wt_745) (fun _ h9 => h9) rfl dMo_step_363 ?_
                  refine lv_iconst (v := 0) hx hb dMo_step_366 (by decide) ?_
                  refine lv_iload hx hb dMo_step_367 (lv_at hl 0 rfl) ?_
                  refine lv_if_eq (tgt := 376) hx hb dMo_step_369 (by decide) (fun cc298 => ?_) (fun cc298 => ?_)
                  · have hw := hw
                    refine lv_iload hx hb dMo_step_376 (lv_at hl 4 rfl) ?_
                    refine va_iast hx hb hK hP hD hS 4 3 rfl rfl (show ¬ ((0 : Int32) < 0 ∨ 13 ≤ (0 : Int32).toNatClampNeg) by decide) dMo_step_378 (fun H locs hP hD hS => ?_)
                    have hP : va_P (dC, dI) vwCl [(h0, ce_Mo h0_op h0_argument h0_balance h0_inbox h0_real h0_hand h0_payee h0_paid h0_drawn h0_challenger h0_low h0_high h0_agreed h0_disputed h0_posted h0_middle h0_deadline h0_running h0_node h0_side u.1), (h0_op, .inl (c0_op, 16, .inl u.2.1)), (h0_argument, .inl (c0_argument, 16, .inl u.2.2.1)), (h0_inbox, .inl (c0_inbox, 60, .inl u.2.2.2.1)), (h0_hand, .inl (c0_hand, 13, .inl (upd (upd (upd u.2.2.2.2 1 y8) 2 y7) 0 y6)))] H := hP
                    have hD : va_D A [(h0, ce_Mo h0_op h0_argument h0_balance h0_inbox h0_real h0_hand h0_payee h0_paid h0_drawn h0_challenger h0_low h0_high h0_agreed h0_disputed h0_posted h0_middle h0_deadline h0_running h0_node h0_side u.1), (h0_op, .inl (c0_op, 16, .inl u.2.1)), (h0_argument, .inl (c0_argument, 16, .inl u.2.2.1)), (h0_inbox, .inl (c0_inbox, 60, .inl u.2.2.2.1)), (h0_hand, .inl (c0_hand, 13, .inl (upd (upd (upd u.2.2.2.2 1 y8) 2 y7) 0 y6)))] := hD
                    have hP9 := hP.sub (ws' := [(h0, ce_Mo h0_op h0_argument h0_balance h0_inbox h0_real h0_hand h0_payee h0_paid h0_drawn h0_challenger h0_low h0_high h0_agreed h0_disputed h0_posted h0_middle h0_deadline h0_running h0_node h0_side u.1), (h0_op, .inl (c0_op, 16, .inl u.2.1)), (h0_argument, .inl (c0_argument, 16, .inl u.2.2.1)), (h0_inbox, .inl (c0_inbox, 60, .inl u.2.2.2.1)), (h0_hand, .inl (c0_hand, 13, .inl (upd (upd (upd u.2.2.2.2 1 y8) 2 y7) 0 y6)))]) [0, 1, 2, 3, 4] rfl
                    have hD9 := hD.sub (ws' := [(h0, ce_Mo h0_op h0_argument h0_balance h0_inbox h0_real h0_hand h0_payee h0_paid h0_drawn h0_challenger h0_low h0_high h0_agreed h0_disputed h0_posted h0_middle h0_deadline h0_running h0_node h0_side u.1), (h0_op, .inl (c0_op, 16, .inl u.2.1)), (h0_argument, .inl (c0_argument, 16, .inl u.2.2.1)), (h0_inbox, .inl (c0_inbox, 60, .inl u.2.2.2.1)), (h0_hand, .inl (c0_hand, 13, .inl (upd (upd (upd u.2.2.2.2 1 y8) 2 y7) 0 y6)))]) [0, 1, 2, 3, 4] (by decide) rfl
                    have hK9 := hK.sub (tys' := [(c0_op, .int), (c0_argument, .int), (c0_inbox, .int), (c0_hand, .int)]) [0, 1, 2, 3] rfl
                    exact W.vret hx hb hr (fun t ht hW => ⟨⟨(u.1, u.2.1, u.2.2.1, u.2.2.2.1, (upd (upd (upd u.2.2.2.2 1 y8) 2 y7) 0 y6)), rfl, hw, by rw [ht]; exact hP9, va_K.moved hW.alike hK9, hD9⟩, hS.F ht⟩) hS.2.2 dMo_step_379
                  · first | exact absurd cc298 (by decide) | exact (cc298 (by decide)).elim
              · have hw := hw.1 cc210
                refine lv_aload_n hx hb dMo_step_125 rfl (lv_at hl 8 rfl) ?_
                refine va_get (D := (dC, dI)) (ci := 8) (v := .ref h0_hand) (C := "StepCourtModel") (T := TMo) (N := 35) hx hb hq inMo hown hK hP 0 rfl rfl 11 (by decide) (hq _ wt_745) (fun _ h9 => h9) rfl dMo_step_126 ?_
                refine lv_iconst (v := 2) hx hb dMo_step_129 (by decide) ?_
                refine lv_iload hx hb dMo_step_130 (lv_at hl 5 rfl) ?_
                refine va_iast hx hb hK hP hD hS 4 3 rfl rfl (show ¬ ((2 : Int32) < 0 ∨ 13 ≤ (2 : Int32).toNatClampNeg) by decide) dMo_step_132 (fun H locs hP hD hS => ?_)
                have hP : va_P (dC, dI) vwCl [(h0, ce_Mo h0_op h0_argument h0_balance h0_inbox h0_real h0_hand h0_payee h0_paid h0_drawn h0_challenger h0_low h0_high h0_agreed h0_disputed h0_posted h0_middle h0_deadline h0_running h0_node h0_side u.1), (h0_op, .inl (c0_op, 16, .inl u.2.1)), (h0_argument, .inl (c0_argument, 16, .inl u.2.2.1)), (h0_inbox, .inl (c0_inbox, 60, .inl u.2.2.2.1)), (h0_hand, .inl (c0_hand, 13, .inl (upd u.2.2.2.2 2 y5)))] H := hP
                have hD : va_D A [(h0, ce_Mo h0_op h0_argument h0_balance h0_inbox h0_real h0_hand h0_payee h0_paid h0_drawn h0_challenger h0_low h0_high h0_agreed h0_disputed h0_posted h0_middle h0_deadline h0_running h0_node h0_side u.1), (h0_op, .inl (c0_op, 16, .inl u.2.1)), (h0_argument, .inl (c0_argument, 16, .inl u.2.2.1)), (h0_inbox, .inl (c0_inbox, 60, .inl u.2.2.2.1)), (h0_hand, .inl (c0_hand, 13, .inl (upd u.2.2.2.2 2 y5)))] := hD
                refine lv_goto (tgt := 362) hx hb dMo_step_133 (by decide) ?_
                refine lv_aload_n hx hb dMo_step_362 rfl (lv_at hl 8 rfl) ?_
                refine va_get (D := (dC, dI)) (ci := 8) (v := .ref h0_hand) (C := "StepCourtModel") (T := TMo) (N := 35) hx hb hq inMo hown hK hP 0 rfl rfl 11 (by decide) (hq _ wt_745) (fun _ h9 => h9) rfl dMo_step_363 ?_
                refine lv_iconst (v := 0) hx hb dMo_step_366 (by decide) ?_
                refine lv_iload hx hb dMo_step_367 (lv_at hl 0 rfl) ?_
                refine lv_if_eq (tgt := 376) hx hb dMo_step_369 (by decide) (fun cc299 => ?_) (fun cc299 => ?_)
                · have hw := hw
                  refine lv_iload hx hb dMo_step_376 (lv_at hl 4 rfl) ?_
                  refine va_iast hx hb hK hP hD hS 4 3 rfl rfl (show ¬ ((0 : Int32) < 0 ∨ 13 ≤ (0 : Int32).toNatClampNeg) by decide) dMo_step_378 (fun H locs hP hD hS => ?_)
                  have hP : va_P (dC, dI) vwCl [(h0, ce_Mo h0_op h0_argument h0_balance h0_inbox h0_real h0_hand h0_payee h0_paid h0_drawn h0_challenger h0_low h0_high h0_agreed h0_disputed h0_posted h0_middle h0_deadline h0_running h0_node h0_side u.1), (h0_op, .inl (c0_op, 16, .inl u.2.1)), (h0_argument, .inl (c0_argument, 16, .inl u.2.2.1)), (h0_inbox, .inl (c0_inbox, 60, .inl u.2.2.2.1)), (h0_hand, .inl (c0_hand, 13, .inl (upd (upd u.2.2.2.2 2 y5) 0 y6)))] H := hP
                  have hD : va_D A [(h0, ce_Mo h0_op h0_argument h0_balance h0_inbox h0_real h0_hand h0_payee h0_paid h0_drawn h0_challenger h0_low h0_high h0_agreed h0_disputed h0_posted h0_middle h0_deadline h0_running h0_node h0_side u.1), (h0_op, .inl (c0_op, 16, .inl u.2.1)), (h0_argument, .inl (c0_argument, 16, .inl u.2.2.1)), (h0_inbox, .inl (c0_inbox, 60, .inl u.2.2.2.1)), (h0_hand, .inl (c0_hand, 13, .inl (upd (upd u.2.2.2.2 2 y5) 0 y6)))] := hD
                  have hP9 := hP.sub (ws' := [(h0, ce_Mo h0_op h0_argument h0_balance h0_inbox h0_real h0_hand h0_payee h0_paid h0_drawn h0_challenger h0_low h0_high h0_agreed h0_disputed h0_posted h0_middle h0_deadline h0_running h0_node h0_side u.1), (h0_op, .inl (c0_op, 16, .inl u.2.1)), (h0_argument, .inl (c0_argument, 16, .inl u.2.2.1)), (h0_inbox, .inl (c0_inbox, 60, .inl u.2.2.2.1)), (h0_hand, .inl (c0_hand, 13, .inl (upd (upd u.2.2.2.2 2 y5) 0 y6)))]) [0, 1, 2, 3, 4] rfl
                  have hD9 := hD.sub (ws' := [(h0, ce_Mo h0_op h0_argument h0_balance h0_inbox h0_real h0_hand h0_payee h0_paid h0_drawn h0_challenger h0_low h0_high h0_agreed h0_disputed h0_posted h0_middle h0_deadline h0_running h0_node h0_side u.1), (h0_op, .inl (c0_op, 16, .inl u.2.1)), (h0_argument, .inl (c0_argument, 16, .inl u.2.2.1)), (h0_inbox, .inl (c0_inbox, 60, .inl u.2.2.2.1)), (h0_hand, .inl (c0_hand, 13, .inl (upd (upd u.2.2.2.2 2 y5) 0 y6)))]) [0, 1, 2, 3, 4] (by decide) rfl
                  have hK9 := hK.sub (tys' := [(c0_op, .int), (c0_argument, .int), (c0_inbox, .int), (c0_hand, .int)]) [0, 1, 2, 3] rfl
                  exact W.vret hx hb hr (fun t ht hW => ⟨⟨(u.1, u.2.1, u.2.2.1, u.2.2.2.1, (upd (upd u.2.2.2.2 2 y5) 0 y6)), rfl, hw, by rw [ht]; exact hP9, va_K.moved hW.alike hK9, hD9⟩, hS.F ht⟩) hS.2.2 dMo_step_379
                · first | exact absurd cc299 (by decide) | exact (cc299 (by decide)).elim
            · have hw := hw.1 cc209
              refine lv_aload_n hx hb dMo_step_109 rfl (lv_at hl 8 rfl) ?_
              refine va_get (D := (dC, dI)) (ci := 8) (v := .ref h0_hand) (C := "StepCourtModel") (T := TMo) (N := 35) hx hb hq inMo hown hK hP 0 rfl rfl 11 (by decide) (hq _ wt_745) (fun _ h9 => h9) rfl dMo_step_110 ?_
              refine lv_iconst (v := 1) hx hb dMo_step_113 (by decide) ?_
              refine lv_iload hx hb dMo_step_114 (lv_at hl 5 rfl) ?_
              refine va_iast hx hb hK hP hD hS 4 3 rfl rfl (show ¬ ((1 : Int32) < 0 ∨ 13 ≤ (1 : Int32).toNatClampNeg) by decide) dMo_step_116 (fun H locs hP hD hS => ?_)
              have hP : va_P (dC, dI) vwCl [(h0, ce_Mo h0_op h0_argument h0_balance h0_inbox h0_real h0_hand h0_payee h0_paid h0_drawn h0_challenger h0_low h0_high h0_agreed h0_disputed h0_posted h0_middle h0_deadline h0_running h0_node h0_side u.1), (h0_op, .inl (c0_op, 16, .inl u.2.1)), (h0_argument, .inl (c0_argument, 16, .inl u.2.2.1)), (h0_inbox, .inl (c0_inbox, 60, .inl u.2.2.2.1)), (h0_hand, .inl (c0_hand, 13, .inl (upd u.2.2.2.2 1 y5)))] H := hP
              have hD : va_D A [(h0, ce_Mo h0_op h0_argument h0_balance h0_inbox h0_real h0_hand h0_payee h0_paid h0_drawn h0_challenger h0_low h0_high h0_agreed h0_disputed h0_posted h0_middle h0_deadline h0_running h0_node h0_side u.1), (h0_op, .inl (c0_op, 16, .inl u.2.1)), (h0_argument, .inl (c0_argument, 16, .inl u.2.2.1)), (h0_inbox, .inl (c0_inbox, 60, .inl u.2.2.2.1)), (h0_hand, .inl (c0_hand, 13, .inl (upd u.2.2.2.2 1 y5)))] := hD
              refine lv_goto (tgt := 362) hx hb dMo_step_117 (by decide) ?_
              refine lv_aload_n hx hb dMo_step_362 rfl (lv_at hl 8 rfl) ?_
              refine va_get (D := (dC, dI)) (ci := 8) (v := .ref h0_hand) (C := "StepCourtModel") (T := TMo) (N := 35) hx hb hq inMo hown hK hP 0 rfl rfl 11 (by decide) (hq _ wt_745) (fun _ h9 => h9) rfl dMo_step_363 ?_
              refine lv_iconst (v := 0) hx hb dMo_step_366 (by decide) ?_
              refine lv_iload hx hb dMo_step_367 (lv_at hl 0 rfl) ?_
              refine lv_if_eq (tgt := 376) hx hb dMo_step_369 (by decide) (fun cc300 => ?_) (fun cc300 => ?_)
              · have hw := hw
                refine lv_iload hx hb dMo_step_376 (lv_at hl 4 rfl) ?_
                refine va_iast hx hb hK hP hD hS 4 3 rfl rfl (show ¬ ((0 : Int32) < 0 ∨ 13 ≤ (0 : Int32).toNatClampNeg) by decide) dMo_step_378 (fun H locs hP hD hS => ?_)
                have hP : va_P (dC, dI) vwCl [(h0, ce_Mo h0_op h0_argument h0_balance h0_inbox h0_real h0_hand h0_payee h0_paid h0_drawn h0_challenger h0_low h0_high h0_agreed h0_disputed h0_posted h0_middle h0_deadline h0_running h0_node h0_side u.1), (h0_op, .inl (c0_op, 16, .inl u.2.1)), (h0_argument, .inl (c0_argument, 16, .inl u.2.2.1)), (h0_inbox, .inl (c0_inbox, 60, .inl u.2.2.2.1)), (h0_hand, .inl (c0_hand, 13, .inl (upd (upd u.2.2.2.2 1 y5) 0 y6)))] H := hP
                have hD : va_D A [(h0, ce_Mo h0_op h0_argument h0_balance h0_inbox h0_real h0_hand h0_payee h0_paid h0_drawn h0_challenger h0_low h0_high h0_agreed h0_disputed h0_posted h0_middle h0_deadline h0_running h0_node h0_side u.1), (h0_op, .inl (c0_op, 16, .inl u.2.1)), (h0_argument, .inl (c0_argument, 16, .inl u.2.2.1)), (h0_inbox, .inl (c0_inbox, 60, .inl u.2.2.2.1)), (h0_hand, .inl (c0_hand, 13, .inl (upd (upd u.2.2.2.2 1 y5) 0 y6)))] := hD
                have hP9 := hP.sub (ws' := [(h0, ce_Mo h0_op h0_argument h0_balance h0_inbox h0_real h0_hand h0_payee h0_paid h0_drawn h0_challenger h0_low h0_high h0_agreed h0_disputed h0_posted h0_middle h0_deadline h0_running h0_node h0_side u.1), (h0_op, .inl (c0_op, 16, .inl u.2.1)), (h0_argument, .inl (c0_argument, 16, .inl u.2.2.1)), (h0_inbox, .inl (c0_inbox, 60, .inl u.2.2.2.1)), (h0_hand, .inl (c0_hand, 13, .inl (upd (upd u.2.2.2.2 1 y5) 0 y6)))]) [0, 1, 2, 3, 4] rfl
                have hD9 := hD.sub (ws' := [(h0, ce_Mo h0_op h0_argument h0_balance h0_inbox h0_real h0_hand h0_payee h0_paid h0_drawn h0_challenger h0_low h0_high h0_agreed h0_disputed h0_posted h0_middle h0_deadline h0_running h0_node h0_side u.1), (h0_op, .inl (c0_op, 16, .inl u.2.1)), (h0_argument, .inl (c0_argument, 16, .inl u.2.2.1)), (h0_inbox, .inl (c0_inbox, 60, .inl u.2.2.2.1)), (h0_hand, .inl (c0_hand, 13, .inl (upd (upd u.2.2.2.2 1 y5) 0 y6)))]) [0, 1, 2, 3, 4] (by decide) rfl
                have hK9 := hK.sub (tys' := [(c0_op, .int), (c0_argument, .int), (c0_inbox, .int), (c0_hand, .int)]) [0, 1, 2, 3] rfl
                exact W.vret hx hb hr (fun t ht hW => ⟨⟨(u.1, u.2.1, u.2.2.1, u.2.2.2.1, (upd (upd u.2.2.2.2 1 y5) 0 y6)), rfl, hw, by rw [ht]; exact hP9, va_K.moved hW.alike hK9, hD9⟩, hS.F ht⟩) hS.2.2 dMo_step_379
              · first | exact absurd cc300 (by decide) | exact (cc300 (by decide)).elim
        · have hw := hw.1 cc207
          refine lv_aload_n hx hb dMo_step_81 rfl (lv_at hl 7 rfl) ?_
          refine va_get (D := (dC, dI)) (ci := 8) (v := .ref h0_hand) (C := "StepCourtModel") (T := TMo) (N := 35) hx hb hq inMo hown hK hP 0 rfl rfl 11 (by decide) (hq _ wt_745) (fun _ h9 => h9) rfl dMo_step_82 ?_
          refine lv_iconst (v := 4) hx hb dMo_step_85 (by decide) ?_
          refine va_iald hx hb hK hP 4 3 rfl rfl (show ¬ ((4 : Int32) < 0 ∨ 13 ≤ (4 : Int32).toNatClampNeg) by decide) dMo_step_86 ?_
          refine W.eq (g2 := F0 m 87 ls [.int (u.2.2.2.2 4)]) rfl ?_
          refine lv_bipush (v := 30) hx hb dMo_step_87 (by decide) ?_
          refine lv_icmp_ne (tgt := 96) hx hb dMo_step_89 (by decide) (fun cc301 => ?_) (fun cc301 => ?_)
          · have hw := hw.2 cc301
            refine lv_iconst (v := 0) hx hb dMo_step_96 (by decide) ?_
            refine lv_istore (lv' := [(9, .int 0), (8, .int y9), (7, .int y8), (6, .int y7), (5, .int y6), (4, .int y5), (3, .int y3), (2, .int y1), (0, .ref h0), (1, .int k1)]) hx hb dMo_step_97 hl (by decide) rfl (fun ls hl => ?_)
            refine lv_iload hx hb dMo_step_99 (lv_at hl 0 rfl) ?_
            refine lv_if_ne (tgt := 362) hx hb dMo_step_101 (by decide) (fun cc302 => ?_) (fun cc302 => ?_)
            · first | exact absurd cc302 (by decide) | exact (cc302 (by decide)).elim
            · have hw := hw
              refine lv_iload_n hx hb dMo_step_104 rfl (lv_at hl 6 rfl) ?_
              refine lv_iconst (v := 1) hx hb dMo_step_105 (by decide) ?_
              refine lv_icmp_ne (tgt := 120) hx hb dMo_step_106 (by decide) (fun cc303 => ?_) (fun cc303 => ?_)
              · have hw := hw.2 cc303
                refine lv_iload_n hx hb dMo_step_120 rfl (lv_at hl 6 rfl) ?_
                refine lv_iconst (v := 2) hx hb dMo_step_121 (by decide) ?_
                refine lv_icmp_ne (tgt := 136) hx hb dMo_step_122 (by decide) (fun cc304 => ?_) (fun cc304 => ?_)
                · have hw := hw.2 cc304
                  refine lv_iload_n hx hb dMo_step_136 rfl (lv_at hl 6 rfl) ?_
                  refine lv_iconst (v := 3) hx hb dMo_step_137 (by decide) ?_
                  refine lv_icmp_ne (tgt := 160) hx hb dMo_step_138 (by decide) (fun cc305 => ?_) (fun cc305 => ?_)
                  · have hw := hw.2 cc305
                    refine lv_iload_n hx hb dMo_step_160 rfl (lv_at hl 6 rfl) ?_
                    refine lv_iconst (v := 4) hx hb dMo_step_161 (by decide) ?_
                    refine lv_icmp_lt (tgt := 211) hx hb dMo_step_162 (by decide) (fun cc306 => ?_) (fun cc306 => ?_)
                    · have hw := hw.1 cc306
                      refine lv_iload_n hx hb dMo_step_211 rfl (lv_at hl 6 rfl) ?_
                      refine lv_bipush (v := 7) hx hb dMo_step_212 (by decide) ?_
                      refine lv_icmp_ne (tgt := 233) hx hb dMo_step_214 (by decide) (fun cc307 => ?_) (fun cc307 => ?_)
                      · have hw := hw.2 cc307
                        refine lv_iload_n hx hb dMo_step_233 rfl (lv_at hl 6 rfl) ?_
                        refine lv_bipush (v := 8) hx hb dMo_step_234 (by decide) ?_
                        refine lv_icmp_ne (tgt := 251) hx hb dMo_step_236 (by decide) (fun cc308 => ?_) (fun cc308 => ?_)
                        · have hw := hw.2 cc308
                          refine lv_iload_n hx hb dMo_step_251 rfl (lv_at hl 6 rfl) ?_
                          refine lv_bipush (v := 9) hx hb dMo_step_252 (by decide) ?_
                          refine lv_icmp_ne (tgt := 286) hx hb dMo_step_254 (by decide) (fun cc309 => ?_) (fun cc309 => ?_)
                          · have hw := hw.2 cc309
                            refine lv_iload_n hx hb dMo_step_286 rfl (lv_at hl 6 rfl) ?_
                            refine lv_bipush (v := 13) hx hb dMo_step_287 (by decide) ?_
                            refine lv_icmp_ne (tgt := 327) hx hb dMo_step_289 (by decide) (fun cc310 => ?_) (fun cc310 => ?_)
                            · have hw := hw.2 cc310
                              refine lv_iload_n hx hb dMo_step_327 rfl (lv_at hl 6 rfl) ?_
                              refine lv_bipush (v := 10) hx hb dMo_step_328 (by decide) ?_
                              refine lv_icmp_eq (tgt := 355) hx hb dMo_step_330 (by decide) (fun cc311 => ?_) (fun cc311 => ?_)
                              · have hw := hw.1 cc311
                                refine lv_iload hx hb dMo_step_355 (lv_at hl 5 rfl) ?_
                                refine lv_bipush (v := 15) hx hb dMo_step_357 (by decide) ?_
                                refine lv_iand hx hb dMo_step_359 ?_
                                refine lv_topi (fun y312 ey312 => ?_)
                                have hw := hw y312 ey312
                                refine lv_istore (lv' := [(5, .int y312), (9, .int 0), (8, .int y9), (7, .int y8), (6, .int y7), (4, .int y5), (3, .int y3), (2, .int y1), (0, .ref h0), (1, .int k1)]) hx hb dMo_step_360 hl (by decide) rfl (fun ls hl => ?_)
                                refine lv_aload_n hx hb dMo_step_362 rfl (lv_at hl 8 rfl) ?_
                                refine va_get (D := (dC, dI)) (ci := 8) (v := .ref h0_hand) (C := "StepCourtModel") (T := TMo) (N := 35) hx hb hq inMo hown hK hP 0 rfl rfl 11 (by decide) (hq _ wt_745) (fun _ h9 => h9) rfl dMo_step_363 ?_
                                refine lv_iconst (v := 0) hx hb dMo_step_366 (by decide) ?_
                                refine lv_iload hx hb dMo_step_367 (lv_at hl 1 rfl) ?_
                                refine lv_if_eq (tgt := 376) hx hb dMo_step_369 (by decide) (fun cc313 => ?_) (fun cc313 => ?_)
                                · have hw := hw
                                  refine lv_iload hx hb dMo_step_376 (lv_at hl 0 rfl) ?_
                                  refine va_iast hx hb hK hP hD hS 4 3 rfl rfl (show ¬ ((0 : Int32) < 0 ∨ 13 ≤ (0 : Int32).toNatClampNeg) by decide) dMo_step_378 (fun H locs hP hD hS => ?_)
                                  have hP : va_P (dC, dI) vwCl [(h0, ce_Mo h0_op h0_argument h0_balance h0_inbox h0_real h0_hand h0_payee h0_paid h0_drawn h0_challenger h0_low h0_high h0_agreed h0_disputed h0_posted h0_middle h0_deadline h0_running h0_node h0_side u.1), (h0_op, .inl (c0_op, 16, .inl u.2.1)), (h0_argument, .inl (c0_argument, 16, .inl u.2.2.1)), (h0_inbox, .inl (c0_inbox, 60, .inl u.2.2.2.1)), (h0_hand, .inl (c0_hand, 13, .inl (upd u.2.2.2.2 0 y312)))] H := hP
                                  have hD : va_D A [(h0, ce_Mo h0_op h0_argument h0_balance h0_inbox h0_real h0_hand h0_payee h0_paid h0_drawn h0_challenger h0_low h0_high h0_agreed h0_disputed h0_posted h0_middle h0_deadline h0_running h0_node h0_side u.1), (h0_op, .inl (c0_op, 16, .inl u.2.1)), (h0_argument, .inl (c0_argument, 16, .inl u.2.2.1)), (h0_inbox, .inl (c0_inbox, 60, .inl u.2.2.2.1)), (h0_hand, .inl (c0_hand, 13, .inl (upd u.2.2.2.2 0 y312)))] := hD
                                  have hP9 := hP.sub (ws' := [(h0, ce_Mo h0_op h0_argument h0_balance h0_inbox h0_real h0_hand h0_payee h0_paid h0_drawn h0_challenger h0_low h0_high h0_agreed h0_disputed h0_posted h0_middle h0_deadline h0_running h0_node h0_side u.1), (h0_op, .inl (c0_op, 16, .inl u.2.1)), (h0_argument, .inl (c0_argument, 16, .inl u.2.2.1)), (h0_inbox, .inl (c0_inbox, 60, .inl u.2.2.2.1)), (h0_hand, .inl (c0_hand, 13, .inl (upd u.2.2.2.2 0 y312)))]) [0, 1, 2, 3, 4] rfl
                                  have hD9 := hD.sub (ws' := [(h0, ce_Mo h0_op h0_argument h0_balance h0_inbox h0_real h0_hand h0_payee h0_paid h0_drawn h0_challenger h0_low h0_high h0_agreed h0_disputed h0_posted h0_middle h0_deadline h0_running h0_node h0_side u.1), (h0_op, .inl (c0_op, 16, .inl u.2.1)), (h0_argument, .inl (c0_argument, 16, .inl u.2.2.1)), (h0_inbox, .inl (c0_inbox, 60, .inl u.2.2.2.1)), (h0_hand, .inl (c0_hand, 13, .inl (upd u.2.2.2.2 0 y312)))]) [0, 1, 2, 3, 4] (by decide) rfl
                                  have hK9 := hK.sub (tys' := [(c0_op, .int), (c0_argument, .int), (c0_inbox, .int), (c0_hand, .int)]) [0, 1, 2, 3] rfl
                                  exact W.vret hx hb hr (fun t ht hW => ⟨⟨(u.1, u.2.1, u.2.2.1, u.2.2.2.1, (upd u.2.2.2.2 0 y312)), rfl, hw, by rw [ht]; exact hP9, va_K.moved hW.alike hK9, hD9⟩, hS.F ht⟩) hS.2.2 dMo_step_379
                                · first | exact absurd cc313 (by decide) | exact (cc313 (by decide)).elim
                              · have hw := hw.2 cc311
                                refine lv_iload_n hx hb dMo_step_333 rfl (lv_at hl 6 rfl) ?_
                                refine lv_bipush (v := 11) hx hb dMo_step_334 (by decide) ?_
                                refine lv_icmp_ne (tgt := 344) hx hb dMo_step_336 (by decide) (fun cc314 => ?_) (fun cc314 => ?_)
                                · have hw := hw.2 cc314
                                  refine lv_iload_n hx hb dMo_step_344 rfl (lv_at hl 6 rfl) ?_
                                  refine lv_bipush (v := 12) hx hb dMo_step_345 (by decide) ?_
                                  refine lv_icmp_ne (tgt := 362) hx hb dMo_step_347 (by decide) (fun cc315 => ?_) (fun cc315 => ?_)
                                  · have hw := hw.2 cc315
                                    refine lv_aload_n hx hb dMo_step_362 rfl (lv_at hl 8 rfl) ?_
                                    refine va_get (D := (dC, dI)) (ci := 8) (v := .ref h0_hand) (C := "StepCourtModel") (T := TMo) (N := 35) hx hb hq inMo hown hK hP 0 rfl rfl 11 (by decide) (hq _ wt_745) (fun _ h9 => h9) rfl dMo_step_363 ?_
                                    refine lv_iconst (v := 0) hx hb dMo_step_366 (by decide) ?_
                                    refine lv_iload hx hb dMo_step_367 (lv_at hl 0 rfl) ?_
                                    refine lv_if_eq (tgt := 376) hx hb dMo_step_369 (by decide) (fun cc316 => ?_) (fun cc316 => ?_)
                                    · have hw := hw
                                      refine lv_iload hx hb dMo_step_376 (lv_at hl 4 rfl) ?_
                                      refine va_iast hx hb hK hP hD hS 4 3 rfl rfl (show ¬ ((0 : Int32) < 0 ∨ 13 ≤ (0 : Int32).toNatClampNeg) by decide) dMo_step_378 (fun H locs hP hD hS => ?_)
                                      have hP : va_P (dC, dI) vwCl [(h0, ce_Mo h0_op h0_argument h0_balance h0_inbox h0_real h0_hand h0_payee h0_paid h0_drawn h0_challenger h0_low h0_high h0_agreed h0_disputed h0_posted h0_middle h0_deadline h0_running h0_node h0_side u.1), (h0_op, .inl (c0_op, 16, .inl u.2.1)), (h0_argument, .inl (c0_argument, 16, .inl u.2.2.1)), (h0_inbox, .inl (c0_inbox, 60, .inl u.2.2.2.1)), (h0_hand, .inl (c0_hand, 13, .inl (upd u.2.2.2.2 0 y6)))] H := hP
                                      have hD : va_D A [(h0, ce_Mo h0_op h0_argument h0_balance h0_inbox h0_real h0_hand h0_payee h0_paid h0_drawn h0_challenger h0_low h0_high h0_agreed h0_disputed h0_posted h0_middle h0_deadline h0_running h0_node h0_side u.1), (h0_op, .inl (c0_op, 16, .inl u.2.1)), (h0_argument, .inl (c0_argument, 16, .inl u.2.2.1)), (h0_inbox, .inl (c0_inbox, 60, .inl u.2.2.2.1)), (h0_hand, .inl (c0_hand, 13, .inl (upd u.2.2.2.2 0 y6)))] := hD
                                      have hP9 := hP.sub (ws' := [(h0, ce_Mo h0_op h0_argument h0_balance h0_inbox h0_real h0_hand h0_payee h0_paid h0_drawn h0_challenger h0_low h0_high h0_agreed h0_disputed h0_posted h0_middle h0_deadline h0_running h0_node h0_side u.1), (h0_op, .inl (c0_op, 16, .inl u.2.1)), (h0_argument, .inl (c0_argument, 16, .inl u.2.2.1)), (h0_inbox, .inl (c0_inbox, 60, .inl u.2.2.2.1)), (h0_hand, .inl (c0_hand, 13, .inl (upd u.2.2.2.2 0 y6)))]) [0, 1, 2, 3, 4] rfl
                                      have hD9 := hD.sub (ws' := [(h0, ce_Mo h0_op h0_argument h0_balance h0_inbox h0_real h0_hand h0_payee h0_paid h0_drawn h0_challenger h0_low h0_high h0_agreed h0_disputed h0_posted h0_middle h0_deadline h0_running h0_node h0_side u.1), (h0_op, .inl (c0_op, 16, .inl u.2.1)), (h0_argument, .inl (c0_argument, 16, .inl u.2.2.1)), (h0_inbox, .inl (c0_inbox, 60, .inl u.2.2.2.1)), (h0_hand, .inl (c0_hand, 13, .inl (upd u.2.2.2.2 0 y6)))]) [0, 1, 2, 3, 4] (by decide) rfl
                                      have hK9 := hK.sub (tys' := [(c0_op, .int), (c0_argument, .int), (c0_inbox, .int), (c0_hand, .int)]) [0, 1, 2, 3] rfl
                                      exact W.vret hx hb hr (fun t ht hW => ⟨⟨(u.1, u.2.1, u.2.2.1, u.2.2.2.1, (upd u.2.2.2.2 0 y6)), rfl, hw, by rw [ht]; exact hP9, va_K.moved hW.alike hK9, hD9⟩, hS.F ht⟩) hS.2.2 dMo_step_379
                                    · first | exact absurd cc316 (by decide) | exact (cc316 (by decide)).elim
                                  · have hw := hw.1 cc315
                                    refine lv_iload hx hb dMo_step_350 (lv_at hl 3 rfl) ?_
                                    refine lv_if_ge (tgt := 362) hx hb dMo_step_352 (by decide) (fun cc317 => ?_) (fun cc317 => ?_)
                                    · have hw := hw.1 cc317
                                      refine lv_aload_n hx hb dMo_step_362 rfl (lv_at hl 8 rfl) ?_
                                      refine va_get (D := (dC, dI)) (ci := 8) (v := .ref h0_hand) (C := "StepCourtModel") (T := TMo) (N := 35) hx hb hq inMo hown hK hP 0 rfl rfl 11 (by decide) (hq _ wt_745) (fun _ h9 => h9) rfl dMo_step_363 ?_
                                      refine lv_iconst (v := 0) hx hb dMo_step_366 (by decide) ?_
                                      refine lv_iload hx hb dMo_step_367 (lv_at hl 0 rfl) ?_
                                      refine lv_if_eq (tgt := 376) hx hb dMo_step_369 (by decide) (fun cc318 => ?_) (fun cc318 => ?_)
                                      · have hw := hw
                                        refine lv_iload hx hb dMo_step_376 (lv_at hl 4 rfl) ?_
                                        refine va_iast hx hb hK hP hD hS 4 3 rfl rfl (show ¬ ((0 : Int32) < 0 ∨ 13 ≤ (0 : Int32).toNatClampNeg) by decide) dMo_step_378 (fun H locs hP hD hS => ?_)
                                        have hP : va_P (dC, dI) vwCl [(h0, ce_Mo h0_op h0_argument h0_balance h0_inbox h0_real h0_hand h0_payee h0_paid h0_drawn h0_challenger h0_low h0_high h0_agreed h0_disputed h0_posted h0_middle h0_deadline h0_running h0_node h0_side u.1), (h0_op, .inl (c0_op, 16, .inl u.2.1)), (h0_argument, .inl (c0_argument, 16, .inl u.2.2.1)), (h0_inbox, .inl (c0_inbox, 60, .inl u.2.2.2.1)), (h0_hand, .inl (c0_hand, 13, .inl (upd u.2.2.2.2 0 y6)))] H := hP
                                        have hD : va_D A [(h0, ce_Mo h0_op h0_argument h0_balance h0_inbox h0_real h0_hand h0_payee h0_paid h0_drawn h0_challenger h0_low h0_high h0_agreed h0_disputed h0_posted h0_middle h0_deadline h0_running h0_node h0_side u.1), (h0_op, .inl (c0_op, 16, .inl u.2.1)), (h0_argument, .inl (c0_argument, 16, .inl u.2.2.1)), (h0_inbox, .inl (c0_inbox, 60, .inl u.2.2.2.1)), (h0_hand, .inl (c0_hand, 13, .inl (upd u.2.2.2.2 0 y6)))] := hD
                                        have hP9 := hP.sub (ws' := [(h0, ce_Mo h0_op h0_argument h0_balance h0_inbox h0_real h0_hand h0_payee h0_paid h0_drawn h0_challenger h0_low h0_high h0_agreed h0_disputed h0_posted h0_middle h0_deadline h0_running h0_node h0_side u.1), (h0_op, .inl (c0_op, 16, .inl u.2.1)), (h0_argument, .inl (c0_argument, 16, .inl u.2.2.1)), (h0_inbox, .inl (c0_inbox, 60, .inl u.2.2.2.1)), (h0_hand, .inl (c0_hand, 13, .inl (upd u.2.2.2.2 0 y6)))]) [0, 1, 2, 3, 4] rfl
                                        have hD9 := hD.sub (ws' := [(h0, ce_Mo h0_op h0_argument h0_balance h0_inbox h0_real h0_hand h0_payee h0_paid h0_drawn h0_challenger h0_low h0_high h0_agreed h0_disputed h0_posted h0_middle h0_deadline h0_running h0_node h0_side u.1), (h0_op, .inl (c0_op, 16, .inl u.2.1)), (h0_argument, .inl (c0_argument, 16, .inl u.2.2.1)), (h0_inbox, .inl (c0_inbox, 60, .inl u.2.2.2.1)), (h0_hand, .inl (c0_hand, 13, .inl (upd u.2.2.2.2 0 y6)))]) [0, 1, 2, 3, 4] (by decide) rfl
                                        have hK9 := hK.sub (tys' := [(c0_op, .int), (c0_argument, .int), (c0_inbox, .int), (c0_hand, .int)]) [0, 1, 2, 3] rfl
                                        exact W.vret hx hb hr (fun t ht hW => ⟨⟨(u.1, u.2.1, u.2.2.1, u.2.2.2.1, (upd u.2.2.2.2 0 y6)), rfl, hw, by rw [ht]; exact hP9, va_K.moved hW.alike hK9, hD9⟩, hS.F ht⟩) hS.2.2 dMo_step_379
                                      · first | exact absurd cc318 (by decide) | exact (cc318 (by decide)).elim
                                    · have hw := hw.2 cc317
                                      refine lv_iload hx hb dMo_step_355 (lv_at hl 5 rfl) ?_
                                      refine lv_bipush (v := 15) hx hb dMo_step_357 (by decide) ?_
                                      refine lv_iand hx hb dMo_step_359 ?_
                                      refine lv_topi (fun y319 ey319 => ?_)
                                      have hw := hw y319 ey319
                                      refine lv_istore (lv' := [(5, .int y319), (9, .int 0), (8, .int y9), (7, .int y8), (6, .int y7), (4, .int y5), (3, .int y3), (2, .int y1), (0, .ref h0), (1, .int k1)]) hx hb dMo_step_360 hl (by decide) rfl (fun ls hl => ?_)
                                      refine lv_aload_n hx hb dMo_step_362 rfl (lv_at hl 8 rfl) ?_
                                      refine va_get (D := (dC, dI)) (ci := 8) (v := .ref h0_hand) (C := "StepCourtModel") (T := TMo) (N := 35) hx hb hq inMo hown hK hP 0 rfl rfl 11 (by decide) (hq _ wt_745) (fun _ h9 => h9) rfl dMo_step_363 ?_
                                      refine lv_iconst (v := 0) hx hb dMo_step_366 (by decide) ?_
                                      refine lv_iload hx hb dMo_step_367 (lv_at hl 1 rfl) ?_
                                      refine lv_if_eq (tgt := 376) hx hb dMo_step_369 (by decide) (fun cc320 => ?_) (fun cc320 => ?_)
                                      · have hw := hw
                                        refine lv_iload hx hb dMo_step_376 (lv_at hl 0 rfl) ?_
                                        refine va_iast hx hb hK hP hD hS 4 3 rfl rfl (show ¬ ((0 : Int32) < 0 ∨ 13 ≤ (0 : Int32).toNatClampNeg) by decide) dMo_step_378 (fun H locs hP hD hS => ?_)
                                        have hP : va_P (dC, dI) vwCl [(h0, ce_Mo h0_op h0_argument h0_balance h0_inbox h0_real h0_hand h0_payee h0_paid h0_drawn h0_challenger h0_low h0_high h0_agreed h0_disputed h0_posted h0_middle h0_deadline h0_running h0_node h0_side u.1), (h0_op, .inl (c0_op, 16, .inl u.2.1)), (h0_argument, .inl (c0_argument, 16, .inl u.2.2.1)), (h0_inbox, .inl (c0_inbox, 60, .inl u.2.2.2.1)), (h0_hand, .inl (c0_hand, 13, .inl (upd u.2.2.2.2 0 y319)))] H := hP
                                        have hD : va_D A [(h0, ce_Mo h0_op h0_argument h0_balance h0_inbox h0_real h0_hand h0_payee h0_paid h0_drawn h0_challenger h0_low h0_high h0_agreed h0_disputed h0_posted h0_middle h0_deadline h0_running h0_node h0_side u.1), (h0_op, .inl (c0_op, 16, .inl u.2.1)), (h0_argument, .inl (c0_argument, 16, .inl u.2.2.1)), (h0_inbox, .inl (c0_inbox, 60, .inl u.2.2.2.1)), (h0_hand, .inl (c0_hand, 13, .inl (upd u.2.2.2.2 0 y319)))] := hD
                                        have hP9 := hP.sub (ws' := [(h0, ce_Mo h0_op h0_argument h0_balance h0_inbox h0_real h0_hand h0_payee h0_paid h0_drawn h0_challenger h0_low h0_high h0_agreed h0_disputed h0_posted h0_middle h0_deadline h0_running h0_node h0_side u.1), (h0_op, .inl (c0_op, 16, .inl u.2.1)), (h0_argument, .inl (c0_argument, 16, .inl u.2.2.1)), (h0_inbox, .inl (c0_inbox, 60, .inl u.2.2.2.1)), (h0_hand, .inl (c0_hand, 13, .inl (upd u.2.2.2.2 0 y319)))]) [0, 1, 2, 3, 4] rfl
                                        have hD9 := hD.sub (ws' := [(h0, ce_Mo h0_op h0_argument h0_balance h0_inbox h0_real h0_hand h0_payee h0_paid h0_drawn h0_challenger h0_low h0_high h0_agreed h0_disputed h0_posted h0_middle h0_deadline h0_running h0_node h0_side u.1), (h0_op, .inl (c0_op, 16, .inl u.2.1)), (h0_argument, .inl (c0_argument, 16, .inl u.2.2.1)), (h0_inbox, .inl (c0_inbox, 60, .inl u.2.2.2.1)), (h0_hand, .inl (c0_hand, 13, .inl (upd u.2.2.2.2 0 y319)))]) [0, 1, 2, 3, 4] (by decide) rfl
                                        have hK9 := hK.sub (tys' := [(c0_op, .int), (c0_argument, .int), (c0_inbox, .int), (c0_hand, .int)]) [0, 1, 2, 3] rfl
                                        exact W.vret hx hb hr (fun t ht hW => ⟨⟨(u.1, u.2.1, u.2.2.1, u.2.2.2.1, (upd u.2.2.2.2 0 y319)), rfl, hw, by rw [ht]; exact hP9, va_K.moved hW.alike hK9, hD9⟩, hS.F ht⟩) hS.2.2 dMo_step_379
                                      · first | exact absurd cc320 (by decide) | exact (cc320 (by decide)).elim
                                · have hw := hw.1 cc314
                                  refine lv_iload hx hb dMo_step_339 (lv_at hl 3 rfl) ?_
                                  refine lv_if_eq (tgt := 355) hx hb dMo_step_341 (by decide) (fun cc321 => ?_) (fun cc321 => ?_)
                                  · have hw := hw.1 cc321
                                    refine lv_iload hx hb dMo_step_355 (lv_at hl 5 rfl) ?_
                                    refine lv_bipush (v := 15) hx hb dMo_step_357 (by decide) ?_
                                    refine lv_iand hx hb dMo_step_359 ?_
                                    refine lv_topi (fun y322 ey322 => ?_)
                                    have hw := hw y322 ey322
                                    refine lv_istore (lv' := [(5, .int y322), (9, .int 0), (8, .int y9), (7, .int y8), (6, .int y7), (4, .int y5), (3, .int y3), (2, .int y1), (0, .ref h0), (1, .int k1)]) hx hb dMo_step_360 hl (by decide) rfl (fun ls hl => ?_)
                                    refine lv_aload_n hx hb dMo_step_362 rfl (lv_at hl 8 rfl) ?_
                                    refine va_get (D := (dC, dI)) (ci := 8) (v := .ref h0_hand) (C := "StepCourtModel") (T := TMo) (N := 35) hx hb hq inMo hown hK hP 0 rfl rfl 11 (by decide) (hq _ wt_745) (fun _ h9 => h9) rfl dMo_step_363 ?_
                                    refine lv_iconst (v := 0) hx hb dMo_step_366 (by decide) ?_
                                    refine lv_iload hx hb dMo_step_367 (lv_at hl 1 rfl) ?_
                                    refine lv_if_eq (tgt := 376) hx hb dMo_step_369 (by decide) (fun cc323 => ?_) (fun cc323 => ?_)
                                    · have hw := hw
                                      refine lv_iload hx hb dMo_step_376 (lv_at hl 0 rfl) ?_
                                      refine va_iast hx hb hK hP hD hS 4 3 rfl rfl (show ¬ ((0 : Int32) < 0 ∨ 13 ≤ (0 : Int32).toNatClampNeg) by decide) dMo_step_378 (fun H locs hP hD hS => ?_)
                                      have hP : va_P (dC, dI) vwCl [(h0, ce_Mo h0_op h0_argument h0_balance h0_inbox h0_real h0_hand h0_payee h0_paid h0_drawn h0_challenger h0_low h0_high h0_agreed h0_disputed h0_posted h0_middle h0_deadline h0_running h0_node h0_side u.1), (h0_op, .inl (c0_op, 16, .inl u.2.1)), (h0_argument, .inl (c0_argument, 16, .inl u.2.2.1)), (h0_inbox, .inl (c0_inbox, 60, .inl u.2.2.2.1)), (h0_hand, .inl (c0_hand, 13, .inl (upd u.2.2.2.2 0 y322)))] H := hP
                                      have hD : va_D A [(h0, ce_Mo h0_op h0_argument h0_balance h0_inbox h0_real h0_hand h0_payee h0_paid h0_drawn h0_challenger h0_low h0_high h0_agreed h0_disputed h0_posted h0_middle h0_deadline h0_running h0_node h0_side u.1), (h0_op, .inl (c0_op, 16, .inl u.2.1)), (h0_argument, .inl (c0_argument, 16, .inl u.2.2.1)), (h0_inbox, .inl (c0_inbox, 60, .inl u.2.2.2.1)), (h0_hand, .inl (c0_hand, 13, .inl (upd u.2.2.2.2 0 y322)))] := hD
                                      have hP9 := hP.sub (ws' := [(h0, ce_Mo h0_op h0_argument h0_balance h0_inbox h0_real h0_hand h0_payee h0_paid h0_drawn h0_challenger h0_low h0_high h0_agreed h0_disputed h0_posted h0_middle h0_deadline h0_running h0_node h0_side u.1), (h0_op, .inl (c0_op, 16, .inl u.2.1)), (h0_argument, .inl (c0_argument, 16, .inl u.2.2.1)), (h0_inbox, .inl (c0_inbox, 60, .inl u.2.2.2.1)), (h0_hand, .inl (c0_hand, 13, .inl (upd u.2.2.2.2 0 y322)))]) [0, 1, 2, 3, 4] rfl
                                      have hD9 := hD.sub (ws' := [(h0, ce_Mo h0_op h0_argument h0_balance h0_inbox h0_real h0_hand h0_payee h0_paid h0_drawn h0_challenger h0_low h0_high h0_agreed h0_disputed h0_posted h0_middle h0_deadline h0_running h0_node h0_side u.1), (h0_op, .inl (c0_op, 16, .inl u.2.1)), (h0_argument, .inl (c0_argument, 16, .inl u.2.2.1)), (h0_inbox, .inl (c0_inbox, 60, .inl u.2.2.2.1)), (h0_hand, .inl (c0_hand, 13, .inl (upd u.2.2.2.2 0 y322)))]) [0, 1, 2, 3, 4] (by decide) rfl
                                      have hK9 := hK.sub (tys' := [(c0_op, .int), (c0_argument, .int), (c0_inbox, .int), (c0_hand, .int)]) [0, 1, 2, 3] rfl
                                      exact W.vret hx hb hr (fun t ht hW => ⟨⟨(u.1, u.2.1, u.2.2.1, u.2.2.2.1, (upd u.2.2.2.2 0 y322)), rfl, hw, by rw [ht]; exact hP9, va_K.moved hW.alike hK9, hD9⟩, hS.F ht⟩) hS.2.2 dMo_step_379
                                    · first | exact absurd cc323 (by decide) | exact (cc323 (by decide)).elim
                                  · have hw := hw.2 cc321
                                    refine lv_iload_n hx hb dMo_step_344 rfl (lv_at hl 6 rfl) ?_
                                    refine lv_bipush (v := 12) hx hb dMo_step_345 (by decide) ?_
                                    refine lv_icmp_ne (tgt := 362) hx hb dMo_step_347 (by decide) (fun cc324 => ?_) (fun cc324 => ?_)
                                    · have hw := hw.2 cc324
                                      refine lv_aload_n hx hb dMo_step_362 rfl (lv_at hl 8 rfl) ?_
                                      refine va_get (D := (dC, dI)) (ci := 8) (v := .ref h0_hand) (C := "StepCourtModel") (T := TMo) (N := 35) hx hb hq inMo hown hK hP 0 rfl rfl 11 (by decide) (hq _ wt_745) (fun _ h9 => h9) rfl dMo_step_363 ?_
                                      refine lv_iconst (v := 0) hx hb dMo_step_366 (by decide) ?_
                                      refine lv_iload hx hb dMo_step_367 (lv_at hl 0 rfl) ?_
                                      refine lv_if_eq (tgt := 376) hx hb dMo_step_369 (by decide) (fun cc325 => ?_) (fun cc325 => ?_)
                                      · have hw := hw
                                        refine lv_iload hx hb dMo_step_376 (lv_at hl 4 rfl) ?_
                                        refine va_iast hx hb hK hP hD hS 4 3 rfl rfl (show ¬ ((0 : Int32) < 0 ∨ 13 ≤ (0 : Int32).toNatClampNeg) by decide) dMo_step_378 (fun H locs hP hD hS => ?_)
                                        have hP : va_P (dC, dI) vwCl [(h0, ce_Mo h0_op h0_argument h0_balance h0_inbox h0_real h0_hand h0_payee h0_paid h0_drawn h0_challenger h0_low h0_high h0_agreed h0_disputed h0_posted h0_middle h0_deadline h0_running h0_node h0_side u.1), (h0_op, .inl (c0_op, 16, .inl u.2.1)), (h0_argument, .inl (c0_argument, 16, .inl u.2.2.1)), (h0_inbox, .inl (c0_inbox, 60, .inl u.2.2.2.1)), (h0_hand, .inl (c0_hand, 13, .inl (upd u.2.2.2.2 0 y6)))] H := hP
                                        have hD : va_D A [(h0, ce_Mo h0_op h0_argument h0_balance h0_inbox h0_real h0_hand h0_payee h0_paid h0_drawn h0_challenger h0_low h0_high h0_agreed h0_disputed h0_posted h0_middle h0_deadline h0_running h0_node h0_side u.1), (h0_op, .inl (c0_op, 16, .inl u.2.1)), (h0_argument, .inl (c0_argument, 16, .inl u.2.2.1)), (h0_inbox, .inl (c0_inbox, 60, .inl u.2.2.2.1)), (h0_hand, .inl (c0_hand, 13, .inl (upd u.2.2.2.2 0 y6)))] := hD
                                        have hP9 := hP.sub (ws' := [(h0, ce_Mo h0_op h0_argument h0_balance h0_inbox h0_real h0_hand h0_payee h0_paid h0_drawn h0_challenger h0_low h0_high h0_agreed h0_disputed h0_posted h0_middle h0_deadline h0_running h0_node h0_side u.1), (h0_op, .inl (c0_op, 16, .inl u.2.1)), (h0_argument, .inl (c0_argument, 16, .inl u.2.2.1)), (h0_inbox, .inl (c0_inbox, 60, .inl u.2.2.2.1)), (h0_hand, .inl (c0_hand, 13, .inl (upd u.2.2.2.2 0 y6)))]) [0, 1, 2, 3, 4] rfl
                                        have hD9 := hD.sub (ws' := [(h0, ce_Mo h0_op h0_argument h0_balance h0_inbox h0_real h0_hand h0_payee h0_paid h0_drawn h0_challenger h0_low h0_high h0_agreed h0_disputed h0_posted h0_middle h0_deadline h0_running h0_node h0_side u.1), (h0_op, .inl (c0_op, 16, .inl u.2.1)), (h0_argument, .inl (c0_argument, 16, .inl u.2.2.1)), (h0_inbox, .inl (c0_inbox, 60, .inl u.2.2.2.1)), (h0_hand, .inl (c0_hand, 13, .inl (upd u.2.2.2.2 0 y6)))]) [0, 1, 2, 3, 4] (by decide) rfl
                                        have hK9 := hK.sub (tys' := [(c0_op, .int), (c0_argument, .int), (c0_inbox, .int), (c0_hand, .int)]) [0, 1, 2, 3] rfl
                                        exact W.vret hx hb hr (fun t ht hW => ⟨⟨(u.1, u.2.1, u.2.2.1, u.2.2.2.1, (upd u.2.2.2.2 0 y6)), rfl, hw, by rw [ht]; exact hP9, va_K.moved hW.alike hK9, hD9⟩, hS.F ht⟩) hS.2.2 dMo_step_379
                                      · first | exact absurd cc325 (by decide) | exact (cc325 (by decide)).elim
                                    · have hw := hw.1 cc324
                                      refine lv_iload hx hb dMo_step_350 (lv_at hl 3 rfl) ?_
                                      refine lv_if_ge (tgt := 362) hx hb dMo_step_352 (by decide) (fun cc326 => ?_) (fun cc326 => ?_)
                                      · have hw := hw.1 cc326
                                        refine lv_aload_n hx hb dMo_step_362 rfl (lv_at hl 8 rfl) ?_
                                        refine va_get (D := (dC, dI)) (ci := 8) (v := .ref h0_hand) (C := "StepCourtModel") (T := TMo) (N := 35) hx hb hq inMo hown hK hP 0 rfl rfl 11 (by decide) (hq _ wt_745) (fun _ h9 => h9) rfl dMo_step_363 ?_
                                        refine lv_iconst (v := 0) hx hb dMo_step_366 (by decide) ?_
                                        refine lv_iload hx hb dMo_step_367 (lv_at hl 0 rfl) ?_
                                        refine lv_if_eq (tgt := 376) hx hb dMo_step_369 (by decide) (fun cc327 => ?_) (fun cc327 => ?_)
                                        · have hw := hw
                                          refine lv_iload hx hb dMo_step_376 (lv_at hl 4 rfl) ?_
                                          refine va_iast hx hb hK hP hD hS 4 3 rfl rfl (show ¬ ((0 : Int32) < 0 ∨ 13 ≤ (0 : Int32).toNatClampNeg) by decide) dMo_step_378 (fun H locs hP hD hS => ?_)
                                          have hP : va_P (dC, dI) vwCl [(h0, ce_Mo h0_op h0_argument h0_balance h0_inbox h0_real h0_hand h0_payee h0_paid h0_drawn h0_challenger h0_low h0_high h0_agreed h0_disputed h0_posted h0_middle h0_deadline h0_running h0_node h0_side u.1), (h0_op, .inl (c0_op, 16, .inl u.2.1)), (h0_argument, .inl (c0_argument, 16, .inl u.2.2.1)), (h0_inbox, .inl (c0_inbox, 60, .inl u.2.2.2.1)), (h0_hand, .inl (c0_hand, 13, .inl (upd u.2.2.2.2 0 y6)))] H := hP
                                          have hD : va_D A [(h0, ce_Mo h0_op h0_argument h0_balance h0_inbox h0_real h0_hand h0_payee h0_paid h0_drawn h0_challenger h0_low h0_high h0_agreed h0_disputed h0_posted h0_middle h0_deadline h0_running h0_node h0_side u.1), (h0_op, .inl (c0_op, 16, .inl u.2.1)), (h0_argument, .inl (c0_argument, 16, .inl u.2.2.1)), (h0_inbox, .inl (c0_inbox, 60, .inl u.2.2.2.1)), (h0_hand, .inl (c0_hand, 13, .inl (upd u.2.2.2.2 0 y6)))] := hD
                                          have hP9 := hP.sub (ws' := [(h0, ce_Mo h0_op h0_argument h0_balance h0_inbox h0_real h0_hand h0_payee h0_paid h0_drawn h0_challenger h0_low h0_high h0_agreed h0_disputed h0_posted h0_middle h0_deadline h0_running h0_node h0_side u.1), (h0_op, .inl (c0_op, 16, .inl u.2.1)), (h0_argument, .inl (c0_argument, 16, .inl u.2.2.1)), (h0_inbox, .inl (c0_inbox, 60, .inl u.2.2.2.1)), (h0_hand, .inl (c0_hand, 13, .inl (upd u.2.2.2.2 0 y6)))]) [0, 1, 2, 3, 4] rfl
                                          have hD9 := hD.sub (ws' := [(h0, ce_Mo h0_op h0_argument h0_balance h0_inbox h0_real h0_hand h0_payee h0_paid h0_drawn h0_challenger h0_low h0_high h0_agreed h0_disputed h0_posted h0_middle h0_deadline h0_running h0_node h0_side u.1), (h0_op, .inl (c0_op, 16, .inl u.2.1)), (h0_argument, .inl (c0_argument, 16, .inl u.2.2.1)), (h0_inbox, .inl (c0_inbox, 60, .inl u.2.2.2.1)), (h0_hand, .inl (c0_hand, 13, .inl (upd u.2.2.2.2 0 y6)))]) [0, 1, 2, 3, 4] (by decide) rfl
                                          have hK9 := hK.sub (tys' := [(c0_op, .int), (c0_argument, .int), (c0_inbox, .int), (c0_hand, .int)]) [0, 1, 2, 3] rfl
                                          exact W.vret hx hb hr (fun t ht hW => ⟨⟨(u.1, u.2.1, u.2.2.1, u.2.2.2.1, (upd u.2.2.2.2 0 y6)), rfl, hw, by rw [ht]; exact hP9, va_K.moved hW.alike hK9, hD9⟩, hS.F ht⟩) hS.2.2 dMo_step_379
                                        · first | exact absurd cc327 (by decide) | exact (cc327 (by decide)).elim
                                      · have hw := hw.2 cc326
                                        refine lv_iload hx hb dMo_step_355 (lv_at hl 5 rfl) ?_
                                        refine lv_bipush (v := 15) hx hb dMo_step_357 (by decide) ?_
                                        refine lv_iand hx hb dMo_step_359 ?_
                                        refine lv_topi (fun y328 ey328 => ?_)
                                        have hw := hw y328 ey328
                                        refine lv_istore (lv' := [(5, .int y328), (9, .int 0), (8, .int y9), (7, .int y8), (6, .int y7), (4, .int y5), (3, .int y3), (2, .int y1), (0, .ref h0), (1, .int k1)]) hx hb dMo_step_360 hl (by decide) rfl (fun ls hl => ?_)
                                        refine lv_aload_n hx hb dMo_step_362 rfl (lv_at hl 8 rfl) ?_
                                        refine va_get (D := (dC, dI)) (ci := 8) (v := .ref h0_hand) (C := "StepCourtModel") (T := TMo) (N := 35) hx hb hq inMo hown hK hP 0 rfl rfl 11 (by decide) (hq _ wt_745) (fun _ h9 => h9) rfl dMo_step_363 ?_
                                        refine lv_iconst (v := 0) hx hb dMo_step_366 (by decide) ?_
                                        refine lv_iload hx hb dMo_step_367 (lv_at hl 1 rfl) ?_
                                        refine lv_if_eq (tgt := 376) hx hb dMo_step_369 (by decide) (fun cc329 => ?_) (fun cc329 => ?_)
                                        · have hw := hw
                                          refine lv_iload hx hb dMo_step_376 (lv_at hl 0 rfl) ?_
                                          refine va_iast hx hb hK hP hD hS 4 3 rfl rfl (show ¬ ((0 : Int32) < 0 ∨ 13 ≤ (0 : Int32).toNatClampNeg) by decide) dMo_step_378 (fun H locs hP hD hS => ?_)
                                          have hP : va_P (dC, dI) vwCl [(h0, ce_Mo h0_op h0_argument h0_balance h0_inbox h0_real h0_hand h0_payee h0_paid h0_drawn h0_challenger h0_low h0_high h0_agreed h0_disputed h0_posted h0_middle h0_deadline h0_running h0_node h0_side u.1), (h0_op, .inl (c0_op, 16, .inl u.2.1)), (h0_argument, .inl (c0_argument, 16, .inl u.2.2.1)), (h0_inbox, .inl (c0_inbox, 60, .inl u.2.2.2.1)), (h0_hand, .inl (c0_hand, 13, .inl (upd u.2.2.2.2 0 y328)))] H := hP
                                          have hD : va_D A [(h0, ce_Mo h0_op h0_argument h0_balance h0_inbox h0_real h0_hand h0_payee h0_paid h0_drawn h0_challenger h0_low h0_high h0_agreed h0_disputed h0_posted h0_middle h0_deadline h0_running h0_node h0_side u.1), (h0_op, .inl (c0_op, 16, .inl u.2.1)), (h0_argument, .inl (c0_argument, 16, .inl u.2.2.1)), (h0_inbox, .inl (c0_inbox, 60, .inl u.2.2.2.1)), (h0_hand, .inl (c0_hand, 13, .inl (upd u.2.2.2.2 0 y328)))] := hD
                                          have hP9 := hP.sub (ws' := [(h0, ce_Mo h0_op h0_argument h0_balance h0_inbox h0_real h0_hand h0_payee h0_paid h0_drawn h0_challenger h0_low h0_high h0_agreed h0_disputed h0_posted h0_middle h0_deadline h0_running h0_node h0_side u.1), (h0_op, .inl (c0_op, 16, .inl u.2.1)), (h0_argument, .inl (c0_argument, 16, .inl u.2.2.1)), (h0_inbox, .inl (c0_inbox, 60, .inl u.2.2.2.1)), (h0_hand, .inl (c0_hand, 13, .inl (upd u.2.2.2.2 0 y328)))]) [0, 1, 2, 3, 4] rfl
                                          have hD9 := hD.sub (ws' := [(h0, ce_Mo h0_op h0_argument h0_balance h0_inbox h0_real h0_hand h0_payee h0_paid h0_drawn h0_challenger h0_low h0_high h0_agreed h0_disputed h0_posted h0_middle h0_deadline h0_running h0_node h0_side u.1), (h0_op, .inl (c0_op, 16, .inl u.2.1)), (h0_argument, .inl (c0_argument, 16, .inl u.2.2.1)), (h0_inbox, .inl (c0_inbox, 60, .inl u.2.2.2.1)), (h0_hand, .inl (c0_hand, 13, .inl (upd u.2.2.2.2 0 y328)))]) [0, 1, 2, 3, 4] (by decide) rfl
                                          have hK9 := hK.sub (tys' := [(c0_op, .int), (c0_argument, .int), (c0_inbox, .int), (c0_hand, .int)]) [0, 1, 2, 3] rfl
                                          exact W.vret hx hb hr (fun t ht hW => ⟨⟨(u.1, u.2.1, u.2.2.1, u.2.2.2.1, (upd u.2.2.2.2 0 y328)), rfl, hw, by rw [ht]; exact hP9, va_K.moved hW.alike hK9, hD9⟩, hS.F ht⟩) hS.2.2 dMo_step_379
                                        · first | exact absurd cc329 (by decide) | exact (cc329 (by decide)).elim
                            · have hw := hw.1 cc310
                              refine lv_aload_n hx hb dMo_step_292 rfl (lv_at hl 8 rfl) ?_
                              refine lv_aload_n hx hb dMo_step_293 rfl (lv_at hl 8 rfl) ?_
                              refine va_get (D := (dC, dI)) (ci := 8) (v := .long u.1.2.2.2.2.2.2.1) (C := "StepCourtModel") (T := TMo) (N := 35) hx hb hq inMo hown hK hP 0 rfl rfl 12 (by decide) (hq _ wt_746) (fun _ h9 => h9) rfl dMo_step_294 ?_
                              refine lv_iload hx hb dMo_step_297 (lv_at hl 2 rfl) ?_
                              refine lv_iconst (v := 3) hx hb dMo_step_299 (by decide) ?_
                              refine lv_iand hx hb dMo_step_300 ?_
                              refine lv_i2l (v := (y8 &&& 3).toInt64) hx hb dMo_step_301 rfl ?_
                              have hPc := hP.sub (ws' := []) [] rfl
                              have hDc := hD.sub (ws' := []) [] (by decide) rfl
                              have hKc := hK.sub (tys' := []) [] rfl
                              have hFc := va_free (wc := []) hD hS hA [] rfl
                              refine va_calll (va_runS (As := [.long u.1.2.2.2.2.2.2.1, .long ((y8 &&& 3).toInt64)]) (rest := [.ref h0]) ⟨hx, hb, hml, hown, hq⟩ (mt_Mo_mix l dC dI s.heap.size _ () u.1.2.2.2.2.2.2.1 ((y8 &&& 3).toInt64) hw) ⟨cq_B 2 hq wt_723 wt_721 wt_10 rfl rfl hd_Mo_mix ⟨Nat.le_of_ble_eq_true rfl, Nat.le_of_ble_eq_true rfl⟩, (hq _ wt_722)⟩ ⟨kp_bl, kp_at hPc hKc hDc hZ⟩ rfl rfl hl.1 rfl (lv_room (Nat.le_of_ble_eq_true rfl)) dMo_step_302 ⟨(by decide), (by decide)⟩) hS (fun q _ h => hFc q h) hFc (fun r330 u331 t H1 locs ht hvm hw hB hz1 hk1 hS => ?_)
                              obtain ⟨hP1, hK1, hD1⟩ := hB
                              rw [ht] at hP1
                              have hK1 := va_K.moved hvm.symm hK1
                              obtain ⟨hP, hD⟩ := va_join (wr := [(h0, ce_Mo h0_op h0_argument h0_balance h0_inbox h0_real h0_hand h0_payee h0_paid h0_drawn h0_challenger h0_low h0_high h0_agreed h0_disputed h0_posted h0_middle h0_deadline h0_running h0_node h0_side u.1), (h0_op, .inl (c0_op, 16, .inl u.2.1)), (h0_argument, .inl (c0_argument, 16, .inl u.2.2.1)), (h0_inbox, .inl (c0_inbox, 60, .inl u.2.2.2.1)), (h0_hand, .inl (c0_hand, 13, .inl u.2.2.2.2))]) (w1 := []) hP hD [] [0, 1, 2, 3, 4] rfl rfl (by decide) (by decide) hk1 hFc hP1 hD1
                              have hK := (hK.sub (tys' := [(c0_op, .int), (c0_argument, .int), (c0_inbox, .int), (c0_hand, .int)]) [0, 1, 2, 3] rfl).app hK1
                              generalize H1 = H at hP hS ⊢
                              have hP : va_P (dC, dI) vwCl [(h0, ce_Mo h0_op h0_argument h0_balance h0_inbox h0_real h0_hand h0_payee h0_paid h0_drawn h0_challenger h0_low h0_high h0_agreed h0_disputed h0_posted h0_middle h0_deadline h0_running h0_node h0_side u.1), (h0_op, .inl (c0_op, 16, .inl u.2.1)), (h0_argument, .inl (c0_argument, 16, .inl u.2.2.1)), (h0_inbox, .inl (c0_inbox, 60, .inl u.2.2.2.1)), (h0_hand, .inl (c0_hand, 13, .inl u.2.2.2.2))] H := hP
                              have hD : va_D A [(h0, ce_Mo h0_op h0_argument h0_balance h0_inbox h0_real h0_hand h0_payee h0_paid h0_drawn h0_challenger h0_low h0_high h0_agreed h0_disputed h0_posted h0_middle h0_deadline h0_running h0_node h0_side u.1), (h0_op, .inl (c0_op, 16, .inl u.2.1)), (h0_argument, .inl (c0_argument, 16, .inl u.2.2.1)), (h0_inbox, .inl (c0_inbox, 60, .inl u.2.2.2.1)), (h0_hand, .inl (c0_hand, 13, .inl u.2.2.2.2))] := hD
                              have hK : va_K (dC, dI) vwCl [(c0_op, .int), (c0_argument, .int), (c0_inbox, .int), (c0_hand, .int)] s := hK
                              refine lv_iload hx hb dMo_step_305 (lv_at hl 3 rfl) ?_
                              refine lv_i2l (v := y7.toInt64) hx hb dMo_step_307 rfl ?_
                              have hPc := hP.sub (ws' := []) [] rfl
                              have hDc := hD.sub (ws' := []) [] (by decide) rfl
                              have hKc := hK.sub (tys' := []) [] rfl
                              have hFc := va_free (wc := []) hD hS hA [] rfl
                              refine va_calll (va_runS (As := [.long r330, .long (y7.toInt64)]) (rest := [.ref h0]) ⟨hx, hb, hml, hown, hq⟩ (mt_Mo_mix l dC dI H.size _ () r330 (y7.toInt64) hw) ⟨cq_B 2 hq wt_723 wt_721 wt_10 rfl rfl hd_Mo_mix ⟨Nat.le_of_ble_eq_true rfl, Nat.le_of_ble_eq_true rfl⟩, (hq _ wt_722)⟩ ⟨kp_bl, kp_at hPc hKc hDc hZ⟩ rfl rfl hl.1 rfl (lv_room (Nat.le_of_ble_eq_true rfl)) dMo_step_308 ⟨(by decide), (by decide)⟩) hS (fun q _ h => hFc q h) hFc (fun r332 u333 t H1 locs ht hvm hw hB hz1 hk1 hS => ?_)
                              obtain ⟨hP1, hK1, hD1⟩ := hB
                              rw [ht] at hP1
                              have hK1 := va_K.moved hvm.symm hK1
                              obtain ⟨hP, hD⟩ := va_join (wr := [(h0, ce_Mo h0_op h0_argument h0_balance h0_inbox h0_real h0_hand h0_payee h0_paid h0_drawn h0_challenger h0_low h0_high h0_agreed h0_disputed h0_posted h0_middle h0_deadline h0_running h0_node h0_side u.1), (h0_op, .inl (c0_op, 16, .inl u.2.1)), (h0_argument, .inl (c0_argument, 16, .inl u.2.2.1)), (h0_inbox, .inl (c0_inbox, 60, .inl u.2.2.2.1)), (h0_hand, .inl (c0_hand, 13, .inl u.2.2.2.2))]) (w1 := []) hP hD [] [0, 1, 2, 3, 4] rfl rfl (by decide) (by decide) hk1 hFc hP1 hD1
                              have hK := (hK.sub (tys' := [(c0_op, .int), (c0_argument, .int), (c0_inbox, .int), (c0_hand, .int)]) [0, 1, 2, 3] rfl).app hK1
                              generalize H1 = H at hP hS ⊢
                              have hP : va_P (dC, dI) vwCl [(h0, ce_Mo h0_op h0_argument h0_balance h0_inbox h0_real h0_hand h0_payee h0_paid h0_drawn h0_challenger h0_low h0_high h0_agreed h0_disputed h0_posted h0_middle h0_deadline h0_running h0_node h0_side u.1), (h0_op, .inl (c0_op, 16, .inl u.2.1)), (h0_argument, .inl (c0_argument, 16, .inl u.2.2.1)), (h0_inbox, .inl (c0_inbox, 60, .inl u.2.2.2.1)), (h0_hand, .inl (c0_hand, 13, .inl u.2.2.2.2))] H := hP
                              have hD : va_D A [(h0, ce_Mo h0_op h0_argument h0_balance h0_inbox h0_real h0_hand h0_payee h0_paid h0_drawn h0_challenger h0_low h0_high h0_agreed h0_disputed h0_posted h0_middle h0_deadline h0_running h0_node h0_side u.1), (h0_op, .inl (c0_op, 16, .inl u.2.1)), (h0_argument, .inl (c0_argument, 16, .inl u.2.2.1)), (h0_inbox, .inl (c0_inbox, 60, .inl u.2.2.2.1)), (h0_hand, .inl (c0_hand, 13, .inl u.2.2.2.2))] := hD
                              have hK : va_K (dC, dI) vwCl [(c0_op, .int), (c0_argument, .int), (c0_inbox, .int), (c0_hand, .int)] s := hK
                              refine va_put (D := (dC, dI)) (ci := 8) (v := .long r332) (ty := .long) (C := "StepCourtModel") (T := TMo) (N := 35) hx hb hq inMo tyMo tyMo_ok nmMo hown hK hP hD hS 0 rfl rfl 12 (by decide) (hq _ wt_746) (fun _ h9 => h9) rfl (by decide +kernel) rfl rfl (Nat.le_of_ble_eq_true rfl) dMo_step_311 (fun H locs hP hD hS => ?_)
                              have hP : va_P (dC, dI) vwCl [(h0, ce_Mo h0_op h0_argument h0_balance h0_inbox h0_real h0_hand h0_payee h0_paid h0_drawn h0_challenger h0_low h0_high h0_agreed h0_disputed h0_posted h0_middle h0_deadline h0_running h0_node h0_side (u.1.1, u.1.2.1, u.1.2.2.1, u.1.2.2.2.1, u.1.2.2.2.2.1, u.1.2.2.2.2.2.1, r332, u.1.2.2.2.2.2.2.2.1, u.1.2.2.2.2.2.2.2.2.1, u.1.2.2.2.2.2.2.2.2.2.1, u.1.2.2.2.2.2.2.2.2.2.2.1, u.1.2.2.2.2.2.2.2.2.2.2.2.1, u.1.2.2.2.2.2.2.2.2.2.2.2.2.1, u.1.2.2.2.2.2.2.2.2.2.2.2.2.2.1, u.1.2.2.2.2.2.2.2.2.2.2.2.2.2.2)), (h0_op, .inl (c0_op, 16, .inl u.2.1)), (h0_argument, .inl (c0_argument, 16, .inl u.2.2.1)), (h0_inbox, .inl (c0_inbox, 60, .inl u.2.2.2.1)), (h0_hand, .inl (c0_hand, 13, .inl u.2.2.2.2))] H := hP
                              have hD : va_D A [(h0, ce_Mo h0_op h0_argument h0_balance h0_inbox h0_real h0_hand h0_payee h0_paid h0_drawn h0_challenger h0_low h0_high h0_agreed h0_disputed h0_posted h0_middle h0_deadline h0_running h0_node h0_side (u.1.1, u.1.2.1, u.1.2.2.1, u.1.2.2.2.1, u.1.2.2.2.2.1, u.1.2.2.2.2.2.1, r332, u.1.2.2.2.2.2.2.2.1, u.1.2.2.2.2.2.2.2.2.1, u.1.2.2.2.2.2.2.2.2.2.1, u.1.2.2.2.2.2.2.2.2.2.2.1, u.1.2.2.2.2.2.2.2.2.2.2.2.1, u.1.2.2.2.2.2.2.2.2.2.2.2.2.1, u.1.2.2.2.2.2.2.2.2.2.2.2.2.2.1, u.1.2.2.2.2.2.2.2.2.2.2.2.2.2.2)), (h0_op, .inl (c0_op, 16, .inl u.2.1)), (h0_argument, .inl (c0_argument, 16, .inl u.2.2.1)), (h0_inbox, .inl (c0_inbox, 60, .inl u.2.2.2.1)), (h0_hand, .inl (c0_hand, 13, .inl u.2.2.2.2))] := hD
                              refine lv_aload_n hx hb dMo_step_314 rfl (lv_at hl 8 rfl) ?_
                              refine va_get (D := (dC, dI)) (ci := 8) (v := .ref h0_hand) (C := "StepCourtModel") (T := TMo) (N := 35) hx hb hq inMo hown hK hP 0 rfl rfl 11 (by decide) (hq _ wt_745) (fun _ h9 => h9) rfl dMo_step_315 ?_
                              refine lv_iconst (v := 4) hx hb dMo_step_318 (by decide) ?_
                              refine lv_dup2_11 hx hb dMo_step_319 rfl rfl ?_
                              refine va_iald hx hb hK hP 4 3 rfl rfl (show ¬ ((4 : Int32) < 0 ∨ 13 ≤ (4 : Int32).toNatClampNeg) by decide) dMo_step_320 ?_
                              refine W.eq (g2 := F0 m 321 ls [.int (u.2.2.2.2 4), .int 4, .ref h0_hand]) rfl ?_
                              refine lv_iconst (v := 1) hx hb dMo_step_321 (by decide) ?_
                              refine lv_iadd hx hb dMo_step_322 ?_
                              refine lv_topi (fun f334 ef334 => ?_)
                              have hw := hw f334 ef334
                              refine va_iast hx hb hK hP hD hS 4 3 rfl rfl (show ¬ ((4 : Int32) < 0 ∨ 13 ≤ (4 : Int32).toNatClampNeg) by decide) dMo_step_323 (fun H locs hP hD hS => ?_)
                              have hP : va_P (dC, dI) vwCl [(h0, ce_Mo h0_op h0_argument h0_balance h0_inbox h0_real h0_hand h0_payee h0_paid h0_drawn h0_challenger h0_low h0_high h0_agreed h0_disputed h0_posted h0_middle h0_deadline h0_running h0_node h0_side (u.1.1, u.1.2.1, u.1.2.2.1, u.1.2.2.2.1, u.1.2.2.2.2.1, u.1.2.2.2.2.2.1, r332, u.1.2.2.2.2.2.2.2.1, u.1.2.2.2.2.2.2.2.2.1, u.1.2.2.2.2.2.2.2.2.2.1, u.1.2.2.2.2.2.2.2.2.2.2.1, u.1.2.2.2.2.2.2.2.2.2.2.2.1, u.1.2.2.2.2.2.2.2.2.2.2.2.2.1, u.1.2.2.2.2.2.2.2.2.2.2.2.2.2.1, u.1.2.2.2.2.2.2.2.2.2.2.2.2.2.2)), (h0_op, .inl (c0_op, 16, .inl u.2.1)), (h0_argument, .inl (c0_argument, 16, .inl u.2.2.1)), (h0_inbox, .inl (c0_inbox, 60, .inl u.2.2.2.1)), (h0_hand, .inl (c0_hand, 13, .inl (upd u.2.2.2.2 4 f334)))] H := hP
                              have hD : va_D A [(h0, ce_Mo h0_op h0_argument h0_balance h0_inbox h0_real h0_hand h0_payee h0_paid h0_drawn h0_challenger h0_low h0_high h0_agreed h0_disputed h0_posted h0_middle h0_deadline h0_running h0_node h0_side (u.1.1, u.1.2.1, u.1.2.2.1, u.1.2.2.2.1, u.1.2.2.2.2.1, u.1.2.2.2.2.2.1, r332, u.1.2.2.2.2.2.2.2.1, u.1.2.2.2.2.2.2.2.2.1, u.1.2.2.2.2.2.2.2.2.2.1, u.1.2.2.2.2.2.2.2.2.2.2.1, u.1.2.2.2.2.2.2.2.2.2.2.2.1, u.1.2.2.2.2.2.2.2.2.2.2.2.2.1, u.1.2.2.2.2.2.2.2.2.2.2.2.2.2.1, u.1.2.2.2.2.2.2.2.2.2.2.2.2.2.2)), (h0_op, .inl (c0_op, 16, .inl u.2.1)), (h0_argument, .inl (c0_argument, 16, .inl u.2.2.1)), (h0_inbox, .inl (c0_inbox, 60, .inl u.2.2.2.1)), (h0_hand, .inl (c0_hand, 13, .inl (upd u.2.2.2.2 4 f334)))] := hD
                              refine lv_goto (tgt := 362) hx hb dMo_step_324 (by decide) ?_
                              refine lv_aload_n hx hb dMo_step_362 rfl (lv_at hl 8 rfl) ?_
                              refine va_get (D := (dC, dI)) (ci := 8) (v := .ref h0_hand) (C := "StepCourtModel") (T := TMo) (N := 35) hx hb hq inMo hown hK hP 0 rfl rfl 11 (by decide) (hq _ wt_745) (fun _ h9 => h9) rfl dMo_step_363 ?_
                              refine lv_iconst (v := 0) hx hb dMo_step_366 (by decide) ?_
                              refine lv_iload hx hb dMo_step_367 (lv_at hl 0 rfl) ?_
                              refine lv_if_eq (tgt := 376) hx hb dMo_step_369 (by decide) (fun cc335 => ?_) (fun cc335 => ?_)
                              · have hw := hw
                                refine lv_iload hx hb dMo_step_376 (lv_at hl 4 rfl) ?_
                                refine va_iast hx hb hK hP hD hS 4 3 rfl rfl (show ¬ ((0 : Int32) < 0 ∨ 13 ≤ (0 : Int32).toNatClampNeg) by decide) dMo_step_378 (fun H locs hP hD hS => ?_)
                                have hP : va_P (dC, dI) vwCl [(h0, ce_Mo h0_op h0_argument h0_balance h0_inbox h0_real h0_hand h0_payee h0_paid h0_drawn h0_challenger h0_low h0_high h0_agreed h0_disputed h0_posted h0_middle h0_deadline h0_running h0_node h0_side (u.1.1, u.1.2.1, u.1.2.2.1, u.1.2.2.2.1, u.1.2.2.2.2.1, u.1.2.2.2.2.2.1, r332, u.1.2.2.2.2.2.2.2.1, u.1.2.2.2.2.2.2.2.2.1, u.1.2.2.2.2.2.2.2.2.2.1, u.1.2.2.2.2.2.2.2.2.2.2.1, u.1.2.2.2.2.2.2.2.2.2.2.2.1, u.1.2.2.2.2.2.2.2.2.2.2.2.2.1, u.1.2.2.2.2.2.2.2.2.2.2.2.2.2.1, u.1.2.2.2.2.2.2.2.2.2.2.2.2.2.2)), (h0_op, .inl (c0_op, 16, .inl u.2.1)), (h0_argument, .inl (c0_argument, 16, .inl u.2.2.1)), (h0_inbox, .inl (c0_inbox, 60, .inl u.2.2.2.1)), (h0_hand, .inl (c0_hand, 13, .inl (upd (upd u.2.2.2.2 4 f334) 0 y6)))] H := hP
                                have hD : va_D A [(h0, ce_Mo h0_op h0_argument h0_balance h0_inbox h0_real h0_hand h0_payee h0_paid h0_drawn h0_challenger h0_low h0_high h0_agreed h0_disputed h0_posted h0_middle h0_deadline h0_running h0_node h0_side (u.1.1, u.1.2.1, u.1.2.2.1, u.1.2.2.2.1, u.1.2.2.2.2.1, u.1.2.2.2.2.2.1, r332, u.1.2.2.2.2.2.2.2.1, u.1.2.2.2.2.2.2.2.2.1, u.1.2.2.2.2.2.2.2.2.2.1, u.1.2.2.2.2.2.2.2.2.2.2.1, u.1.2.2.2.2.2.2.2.2.2.2.2.1, u.1.2.2.2.2.2.2.2.2.2.2.2.2.1, u.1.2.2.2.2.2.2.2.2.2.2.2.2.2.1, u.1.2.2.2.2.2.2.2.2.2.2.2.2.2.2)), (h0_op, .inl (c0_op, 16, .inl u.2.1)), (h0_argument, .inl (c0_argument, 16, .inl u.2.2.1)), (h0_inbox, .inl (c0_inbox, 60, .inl u.2.2.2.1)), (h0_hand, .inl (c0_hand, 13, .inl (upd (upd u.2.2.2.2 4 f334) 0 y6)))] := hD
                                have hP9 := hP.sub (ws' := [(h0, ce_Mo h0_op h0_argument h0_balance h0_inbox h0_real h0_hand h0_payee h0_paid h0_drawn h0_challenger h0_low h0_high h0_agreed h0_disputed h0_posted h0_middle h0_deadline h0_running h0_node h0_side (u.1.1, u.1.2.1, u.1.2.2.1, u.1.2.2.2.1, u.1.2.2.2.2.1, u.1.2.2.2.2.2.1, r332, u.1.2.2.2.2.2.2.2.1, u.1.2.2.2.2.2.2.2.2.1, u.1.2.2.2.2.2.2.2.2.2.1, u.1.2.2.2.2.2.2.2.2.2.2.1, u.1.2.2.2.2.2.2.2.2.2.2.2.1, u.1.2.2.2.2.2.2.2.2.2.2.2.2.1, u.1.2.2.2.2.2.2.2.2.2.2.2.2.2.1, u.1.2.2.2.2.2.2.2.2.2.2.2.2.2.2)), (h0_op, .inl (c0_op, 16, .inl u.2.1)), (h0_argument, .inl (c0_argument, 16, .inl u.2.2.1)), (h0_inbox, .inl (c0_inbox, 60, .inl u.2.2.2.1)), (h0_hand, .inl (c0_hand, 13, .inl (upd (upd u.2.2.2.2 4 f334) 0 y6)))]) [0, 1, 2, 3, 4] rfl
                                have hD9 := hD.sub (ws' := [(h0, ce_Mo h0_op h0_argument h0_balance h0_inbox h0_real h0_hand h0_payee h0_paid h0_drawn h0_challenger h0_low h0_high h0_agreed h0_disputed h0_posted h0_middle h0_deadline h0_running h0_node h0_side (u.1.1, u.1.2.1, u.1.2.2.1, u.1.2.2.2.1, u.1.2.2.2.2.1, u.1.2.2.2.2.2.1, r332, u.1.2.2.2.2.2.2.2.1, u.1.2.2.2.2.2.2.2.2.1, u.1.2.2.2.2.2.2.2.2.2.1, u.1.2.2.2.2.2.2.2.2.2.2.1, u.1.2.2.2.2.2.2.2.2.2.2.2.1, u.1.2.2.2.2.2.2.2.2.2.2.2.2.1, u.1.2.2.2.2.2.2.2.2.2.2.2.2.2.1, u.1.2.2.2.2.2.2.2.2.2.2.2.2.2.2)), (h0_op, .inl (c0_op, 16, .inl u.2.1)), (h0_argument, .inl (c0_argument, 16, .inl u.2.2.1)), (h0_inbox, .inl (c0_inbox, 60, .inl u.2.2.2.1)), (h0_hand, .inl (c0_hand, 13, .inl (upd (upd u.2.2.2.2 4 f334) 0 y6)))]) [0, 1, 2, 3, 4] (by decide) rfl
                                have hK9 := hK.sub (tys' := [(c0_op, .int), (c0_argument, .int), (c0_inbox, .int), (c0_hand, .int)]) [0, 1, 2, 3] rfl
                                exact W.vret hx hb hr (fun t ht hW => ⟨⟨((u.1.1, u.1.2.1, u.1.2.2.1, u.1.2.2.2.1, u.1.2.2.2.2.1, u.1.2.2.2.2.2.1, r332, u.1.2.2.2.2.2.2.2.1, u.1.2.2.2.2.2.2.2.2.1, u.1.2.2.2.2.2.2.2.2.2.1, u.1.2.2.2.2.2.2.2.2.2.2.1, u.1.2.2.2.2.2.2.2.2.2.2.2.1, u.1.2.2.2.2.2.2.2.2.2.2.2.2.1, u.1.2.2.2.2.2.2.2.2.2.2.2.2.2.1, u.1.2.2.2.2.2.2.2.2.2.2.2.2.2.2), u.2.1, u.2.2.1, u.2.2.2.1, (upd (upd u.2.2.2.2 4 f334) 0 y6)), rfl, hw, by rw [ht]; exact hP9, va_K.moved hW.alike hK9, hD9⟩, hS.F ht⟩) hS.2.2 dMo_step_379
                              · first | exact absurd cc335 (by decide) | exact (cc335 (by decide)).elim
                          · have hw := hw.1 cc309
                            refine lv_aload_n hx hb dMo_step_257 rfl (lv_at hl 8 rfl) ?_
                            refine va_get (D := (dC, dI)) (ci := 8) (v := .ref h0_hand) (C := "StepCourtModel") (T := TMo) (N := 35) hx hb hq inMo hown hK hP 0 rfl rfl 11 (by decide) (hq _ wt_745) (fun _ h9 => h9) rfl dMo_step_258 ?_
                            refine lv_iconst (v := 1) hx hb dMo_step_261 (by decide) ?_
                            refine lv_aload_n hx hb dMo_step_262 rfl (lv_at hl 8 rfl) ?_
                            refine lv_aload_n hx hb dMo_step_263 rfl (lv_at hl 8 rfl) ?_
                            refine va_get (D := (dC, dI)) (ci := 8) (v := .ref h0_hand) (C := "StepCourtModel") (T := TMo) (N := 35) hx hb hq inMo hown hK hP 0 rfl rfl 11 (by decide) (hq _ wt_745) (fun _ h9 => h9) rfl dMo_step_264 ?_
                            refine lv_iconst (v := 3) hx hb dMo_step_267 (by decide) ?_
                            refine va_iald hx hb hK hP 4 3 rfl rfl (show ¬ ((3 : Int32) < 0 ∨ 13 ≤ (3 : Int32).toNatClampNeg) by decide) dMo_step_268 ?_
                            refine W.eq (g2 := F0 m 269 ls [.int (u.2.2.2.2 3), .ref h0, .int 1, .ref h0_hand]) rfl ?_
                            have hPc := hP.sub (ws' := [(h0, ce_Mo h0_op h0_argument h0_balance h0_inbox h0_real h0_hand h0_payee h0_paid h0_drawn h0_challenger h0_low h0_high h0_agreed h0_disputed h0_posted h0_middle h0_deadline h0_running h0_node h0_side u.1), (h0_inbox, .inl (c0_inbox, 60, .inl u.2.2.2.1))]) [0, 3] rfl
                            have hDc := hD.sub (ws' := [(h0, ce_Mo h0_op h0_argument h0_balance h0_inbox h0_real h0_hand h0_payee h0_paid h0_drawn h0_challenger h0_low h0_high h0_agreed h0_disputed h0_posted h0_middle h0_deadline h0_running h0_node h0_side u.1), (h0_inbox, .inl (c0_inbox, 60, .inl u.2.2.2.1))]) [0, 3] (by decide) rfl
                            have hKc := hK.sub (tys' := [(c0_inbox, .int)]) [2] rfl
                            have hFc := va_free (wc := [(h0, ce_Mo h0_op h0_argument h0_balance h0_inbox h0_real h0_hand h0_payee h0_paid h0_drawn h0_challenger h0_low h0_high h0_agreed h0_disputed h0_posted h0_middle h0_deadline h0_running h0_node h0_side u.1), (h0_inbox, .inl (c0_inbox, 60, .inl u.2.2.2.1))]) hD hS hA [0, 3] rfl
                            refine va_calli (va_runV (As := [.int (u.2.2.2.2 3)]) (rest := [.int 1, .ref h0_hand]) ⟨hx, hb, hml, hown, hq⟩ (mt_Mo_wordAt l dC dI h0 h0_inbox h0_op h0_argument h0_balance h0_real h0_hand h0_payee h0_paid h0_drawn h0_challenger h0_low h0_high h0_agreed h0_disputed h0_posted h0_middle h0_deadline h0_running h0_node h0_side c0_inbox s.heap.size _ (u.1, u.2.2.2.1) (u.2.2.2.2 3) hw) ⟨cq_B 1 hq wt_882 wt_879 wt_10 rfl rfl hd_Mo_wordAt ⟨Nat.le_of_ble_eq_true rfl, Nat.le_of_ble_eq_true rfl⟩, (hq _ wt_881), (hq _ wv_29)⟩ ⟨kp_bl, va_recv hKc hPc (ci := 8) (q0 := 0) rfl rfl, kp_at hPc hKc hDc hZ⟩ rfl rfl hl.1 rfl (lv_room (Nat.le_of_ble_eq_true rfl)) dMo_step_269 ⟨(by decide), (by decide)⟩) hS (fun q _ h => hFc q h) hFc (fun r336 u337 t H1 locs ht hvm hw hB hz1 hk1 hS => ?_)
                            obtain ⟨hP1, hK1, hD1⟩ := hB
                            rw [ht] at hP1
                            have hK1 := va_K.moved hvm.symm hK1
                            obtain ⟨hP, hD⟩ := va_join (wr := [(h0_op, .inl (c0_op, 16, .inl u.2.1)), (h0_argument, .inl (c0_argument, 16, .inl u.2.2.1)), (h0_hand, .inl (c0_hand, 13, .inl u.2.2.2.2))]) (w1 := [(h0, ce_Mo h0_op h0_argument h0_balance h0_inbox h0_real h0_hand h0_payee h0_paid h0_drawn h0_challenger h0_low h0_high h0_agreed h0_disputed h0_posted h0_middle h0_deadline h0_running h0_node h0_side u337.1), (h0_inbox, .inl (c0_inbox, 60, .inl u337.2))]) hP hD [0, 3] [1, 2, 4] rfl rfl (by decide) (by decide) hk1 hFc hP1 hD1
                            have hK := (hK.sub (tys' := [(c0_op, .int), (c0_argument, .int), (c0_hand, .int)]) [0, 1, 3] rfl).app hK1
                            generalize H1 = H at hP hS ⊢
                            have hP : va_P (dC, dI) vwCl [(h0_op, .inl (c0_op, 16, .inl u.2.1)), (h0_argument, .inl (c0_argument, 16, .inl u.2.2.1)), (h0_hand, .inl (c0_hand, 13, .inl u.2.2.2.2)), (h0, ce_Mo h0_op h0_argument h0_balance h0_inbox h0_real h0_hand h0_payee h0_paid h0_drawn h0_challenger h0_low h0_high h0_agreed h0_disputed h0_posted h0_middle h0_deadline h0_running h0_node h0_side u337.1), (h0_inbox, .inl (c0_inbox, 60, .inl u337.2))] H := hP
                            have hD : va_D A [(h0_op, .inl (c0_op, 16, .inl u.2.1)), (h0_argument, .inl (c0_argument, 16, .inl u.2.2.1)), (h0_hand, .inl (c0_hand, 13, .inl u.2.2.2.2)), (h0, ce_Mo h0_op h0_argument h0_balance h0_inbox h0_real h0_hand h0_payee h0_paid h0_drawn h0_challenger h0_low h0_high h0_agreed h0_disputed h0_posted h0_middle h0_deadline h0_running h0_node h0_side u337.1), (h0_inbox, .inl (c0_inbox, 60, .inl u337.2))] := hD
                            have hK : va_K (dC, dI) vwCl [(c0_op, .int), (c0_argument, .int), (c0_hand, .int), (c0_inbox, .int)] s := hK
                            refine va_iast hx hb hK hP hD hS 2 2 rfl rfl (show ¬ ((1 : Int32) < 0 ∨ 13 ≤ (1 : Int32).toNatClampNeg) by decide) dMo_step_272 (fun H locs hP hD hS => ?_)
                            have hP : va_P (dC, dI) vwCl [(h0_op, .inl (c0_op, 16, .inl u.2.1)), (h0_argument, .inl (c0_argument, 16, .inl u.2.2.1)), (h0_hand, .inl (c0_hand, 13, .inl (upd u.2.2.2.2 1 r336))), (h0, ce_Mo h0_op h0_argument h0_balance h0_inbox h0_real h0_hand h0_payee h0_paid h0_drawn h0_challenger h0_low h0_high h0_agreed h0_disputed h0_posted h0_middle h0_deadline h0_running h0_node h0_side u337.1), (h0_inbox, .inl (c0_inbox, 60, .inl u337.2))] H := hP
                            have hD : va_D A [(h0_op, .inl (c0_op, 16, .inl u.2.1)), (h0_argument, .inl (c0_argument, 16, .inl u.2.2.1)), (h0_hand, .inl (c0_hand, 13, .inl (upd u.2.2.2.2 1 r336))), (h0, ce_Mo h0_op h0_argument h0_balance h0_inbox h0_real h0_hand h0_payee h0_paid h0_drawn h0_challenger h0_low h0_high h0_agreed h0_disputed h0_posted h0_middle h0_deadline h0_running h0_node h0_side u337.1), (h0_inbox, .inl (c0_inbox, 60, .inl u337.2))] := hD
                            refine lv_aload_n hx hb dMo_step_273 rfl (lv_at hl 8 rfl) ?_
                            refine va_get (D := (dC, dI)) (ci := 8) (v := .ref h0_hand) (C := "StepCourtModel") (T := TMo) (N := 35) hx hb hq inMo hown hK hP 3 rfl rfl 11 (by decide) (hq _ wt_745) (fun _ h9 => h9) rfl dMo_step_274 ?_
                            refine lv_iconst (v := 3) hx hb dMo_step_277 (by decide) ?_
                            refine lv_dup2_11 hx hb dMo_step_278 rfl rfl ?_
                            refine va_iald hx hb hK hP 2 2 rfl rfl (show ¬ ((3 : Int32) < 0 ∨ 13 ≤ (3 : Int32).toNatClampNeg) by decide) dMo_step_279 ?_
                            refine W.eq (g2 := F0 m 280 ls [.int ((upd u.2.2.2.2 1 r336) 3), .int 3, .ref h0_hand]) rfl ?_
                            refine lv_iconst (v := 1) hx hb dMo_step_280 (by decide) ?_
                            refine lv_iadd hx hb dMo_step_281 ?_
                            refine lv_topi (fun f338 ef338 => ?_)
                            have hw := hw f338 ef338
                            refine va_iast hx hb hK hP hD hS 2 2 rfl rfl (show ¬ ((3 : Int32) < 0 ∨ 13 ≤ (3 : Int32).toNatClampNeg) by decide) dMo_step_282 (fun H locs hP hD hS => ?_)
                            have hP : va_P (dC, dI) vwCl [(h0_op, .inl (c0_op, 16, .inl u.2.1)), (h0_argument, .inl (c0_argument, 16, .inl u.2.2.1)), (h0_hand, .inl (c0_hand, 13, .inl (upd (upd u.2.2.2.2 1 r336) 3 f338))), (h0, ce_Mo h0_op h0_argument h0_balance h0_inbox h0_real h0_hand h0_payee h0_paid h0_drawn h0_challenger h0_low h0_high h0_agreed h0_disputed h0_posted h0_middle h0_deadline h0_running h0_node h0_side u337.1), (h0_inbox, .inl (c0_inbox, 60, .inl u337.2))] H := hP
                            have hD : va_D A [(h0_op, .inl (c0_op, 16, .inl u.2.1)), (h0_argument, .inl (c0_argument, 16, .inl u.2.2.1)), (h0_hand, .inl (c0_hand, 13, .inl (upd (upd u.2.2.2.2 1 r336) 3 f338))), (h0, ce_Mo h0_op h0_argument h0_balance h0_inbox h0_real h0_hand h0_payee h0_paid h0_drawn h0_challenger h0_low h0_high h0_agreed h0_disputed h0_posted h0_middle h0_deadline h0_running h0_node h0_side u337.1), (h0_inbox, .inl (c0_inbox, 60, .inl u337.2))] := hD
                            refine lv_goto (tgt := 362) hx hb dMo_step_283 (by decide) ?_
                            refine lv_aload_n hx hb dMo_step_362 rfl (lv_at hl 8 rfl) ?_
                            refine va_get (D := (dC, dI)) (ci := 8) (v := .ref h0_hand) (C := "StepCourtModel") (T := TMo) (N := 35) hx hb hq inMo hown hK hP 3 rfl rfl 11 (by decide) (hq _ wt_745) (fun _ h9 => h9) rfl dMo_step_363 ?_
                            refine lv_iconst (v := 0) hx hb dMo_step_366 (by decide) ?_
                            refine lv_iload hx hb dMo_step_367 (lv_at hl 0 rfl) ?_
                            refine lv_if_eq (tgt := 376) hx hb dMo_step_369 (by decide) (fun cc339 => ?_) (fun cc339 => ?_)
                            · have hw := hw
                              refine lv_iload hx hb dMo_step_376 (lv_at hl 4 rfl) ?_
                              refine va_iast hx hb hK hP hD hS 2 2 rfl rfl (show ¬ ((0 : Int32) < 0 ∨ 13 ≤ (0 : Int32).toNatClampNeg) by decide) dMo_step_378 (fun H locs hP hD hS => ?_)
                              have hP : va_P (dC, dI) vwCl [(h0_op, .inl (c0_op, 16, .inl u.2.1)), (h0_argument, .inl (c0_argument, 16, .inl u.2.2.1)), (h0_hand, .inl (c0_hand, 13, .inl (upd (upd (upd u.2.2.2.2 1 r336) 3 f338) 0 y6))), (h0, ce_Mo h0_op h0_argument h0_balance h0_inbox h0_real h0_hand h0_payee h0_paid h0_drawn h0_challenger h0_low h0_high h0_agreed h0_disputed h0_posted h0_middle h0_deadline h0_running h0_node h0_side u337.1), (h0_inbox, .inl (c0_inbox, 60, .inl u337.2))] H := hP
                              have hD : va_D A [(h0_op, .inl (c0_op, 16, .inl u.2.1)), (h0_argument, .inl (c0_argument, 16, .inl u.2.2.1)), (h0_hand, .inl (c0_hand, 13, .inl (upd (upd (upd u.2.2.2.2 1 r336) 3 f338) 0 y6))), (h0, ce_Mo h0_op h0_argument h0_balance h0_inbox h0_real h0_hand h0_payee h0_paid h0_drawn h0_challenger h0_low h0_high h0_agreed h0_disputed h0_posted h0_middle h0_deadline h0_running h0_node h0_side u337.1), (h0_inbox, .inl (c0_inbox, 60, .inl u337.2))] := hD
                              have hP9 := hP.sub (ws' := [(h0, ce_Mo h0_op h0_argument h0_balance h0_inbox h0_real h0_hand h0_payee h0_paid h0_drawn h0_challenger h0_low h0_high h0_agreed h0_disputed h0_posted h0_middle h0_deadline h0_running h0_node h0_side u337.1), (h0_op, .inl (c0_op, 16, .inl u.2.1)), (h0_argument, .inl (c0_argument, 16, .inl u.2.2.1)), (h0_inbox, .inl (c0_inbox, 60, .inl u337.2)), (h0_hand, .inl (c0_hand, 13, .inl (upd (upd (upd u.2.2.2.2 1 r336) 3 f338) 0 y6)))]) [3, 0, 1, 4, 2] rfl
                              have hD9 := hD.sub (ws' := [(h0, ce_Mo h0_op h0_argument h0_balance h0_inbox h0_real h0_hand h0_payee h0_paid h0_drawn h0_challenger h0_low h0_high h0_agreed h0_disputed h0_posted h0_middle h0_deadline h0_running h0_node h0_side u337.1), (h0_op, .inl (c0_op, 16, .inl u.2.1)), (h0_argument, .inl (c0_argument, 16, .inl u.2.2.1)), (h0_inbox, .inl (c0_inbox, 60, .inl u337.2)), (h0_hand, .inl (c0_hand, 13, .inl (upd (upd (upd u.2.2.2.2 1 r336) 3 f338) 0 y6)))]) [3, 0, 1, 4, 2] (by decide) rfl
                              have hK9 := hK.sub (tys' := [(c0_op, .int), (c0_argument, .int), (c0_inbox, .int), (c0_hand, .int)]) [0, 1, 3, 2] rfl
                              exact W.vret hx hb hr (fun t ht hW => ⟨⟨(u337.1, u.2.1, u.2.2.1, u337.2, (upd (upd (upd u.2.2.2.2 1 r336) 3 f338) 0 y6)), rfl, hw, by rw [ht]; exact hP9, va_K.moved hW.alike hK9, hD9⟩, hS.F ht⟩) hS.2.2 dMo_step_379
                            · first | exact absurd cc339 (by decide) | exact (cc339 (by decide)).elim
                        · have hw := hw.1 cc308
                          refine lv_aload_n hx hb dMo_step_239 rfl (lv_at hl 8 rfl) ?_
                          refine va_get (D := (dC, dI)) (ci := 8) (v := .ref h0_hand) (C := "StepCourtModel") (T := TMo) (N := 35) hx hb hq inMo hown hK hP 0 rfl rfl 11 (by decide) (hq _ wt_745) (fun _ h9 => h9) rfl dMo_step_240 ?_
                          refine lv_iload hx hb dMo_step_243 (lv_at hl 1 rfl) ?_
                          refine lv_iload hx hb dMo_step_245 (lv_at hl 3 rfl) ?_
                          obtain ⟨hh340, hw⟩ := hw
                          refine va_iast hx hb hK hP hD hS 4 3 rfl rfl hh340 dMo_step_247 (fun H locs hP hD hS => ?_)
                          have hP : va_P (dC, dI) vwCl [(h0, ce_Mo h0_op h0_argument h0_balance h0_inbox h0_real h0_hand h0_payee h0_paid h0_drawn h0_challenger h0_low h0_high h0_agreed h0_disputed h0_posted h0_middle h0_deadline h0_running h0_node h0_side u.1), (h0_op, .inl (c0_op, 16, .inl u.2.1)), (h0_argument, .inl (c0_argument, 16, .inl u.2.2.1)), (h0_inbox, .inl (c0_inbox, 60, .inl u.2.2.2.1)), (h0_hand, .inl (c0_hand, 13, .inl (upd u.2.2.2.2 y9.toNatClampNeg y7)))] H := hP
                          have hD : va_D A [(h0, ce_Mo h0_op h0_argument h0_balance h0_inbox h0_real h0_hand h0_payee h0_paid h0_drawn h0_challenger h0_low h0_high h0_agreed h0_disputed h0_posted h0_middle h0_deadline h0_running h0_node h0_side u.1), (h0_op, .inl (c0_op, 16, .inl u.2.1)), (h0_argument, .inl (c0_argument, 16, .inl u.2.2.1)), (h0_inbox, .inl (c0_inbox, 60, .inl u.2.2.2.1)), (h0_hand, .inl (c0_hand, 13, .inl (upd u.2.2.2.2 y9.toNatClampNeg y7)))] := hD
                          refine lv_goto (tgt := 362) hx hb dMo_step_248 (by decide) ?_
                          refine lv_aload_n hx hb dMo_step_362 rfl (lv_at hl 8 rfl) ?_
                          refine va_get (D := (dC, dI)) (ci := 8) (v := .ref h0_hand) (C := "StepCourtModel") (T := TMo) (N := 35) hx hb hq inMo hown hK hP 0 rfl rfl 11 (by decide) (hq _ wt_745) (fun _ h9 => h9) rfl dMo_step_363 ?_
                          refine lv_iconst (v := 0) hx hb dMo_step_366 (by decide) ?_
                          refine lv_iload hx hb dMo_step_367 (lv_at hl 0 rfl) ?_
                          refine lv_if_eq (tgt := 376) hx hb dMo_step_369 (by decide) (fun cc341 => ?_) (fun cc341 => ?_)
                          · have hw := hw
                            refine lv_iload hx hb dMo_step_376 (lv_at hl 4 rfl) ?_
                            refine va_iast hx hb hK hP hD hS 4 3 rfl rfl (show ¬ ((0 : Int32) < 0 ∨ 13 ≤ (0 : Int32).toNatClampNeg) by decide) dMo_step_378 (fun H locs hP hD hS => ?_)
                            have hP : va_P (dC, dI) vwCl [(h0, ce_Mo h0_op h0_argument h0_balance h0_inbox h0_real h0_hand h0_payee h0_paid h0_drawn h0_challenger h0_low h0_high h0_agreed h0_disputed h0_posted h0_middle h0_deadline h0_running h0_node h0_side u.1), (h0_op, .inl (c0_op, 16, .inl u.2.1)), (h0_argument, .inl (c0_argument, 16, .inl u.2.2.1)), (h0_inbox, .inl (c0_inbox, 60, .inl u.2.2.2.1)), (h0_hand, .inl (c0_hand, 13, .inl (upd (upd u.2.2.2.2 y9.toNatClampNeg y7) 0 y6)))] H := hP
                            have hD : va_D A [(h0, ce_Mo h0_op h0_argument h0_balance h0_inbox h0_real h0_hand h0_payee h0_paid h0_drawn h0_challenger h0_low h0_high h0_agreed h0_disputed h0_posted h0_middle h0_deadline h0_running h0_node h0_side u.1), (h0_op, .inl (c0_op, 16, .inl u.2.1)), (h0_argument, .inl (c0_argument, 16, .inl u.2.2.1)), (h0_inbox, .inl (c0_inbox, 60, .inl u.2.2.2.1)), (h0_hand, .inl (c0_hand, 13, .inl (upd (upd u.2.2.2.2 y9.toNatClampNeg y7) 0 y6)))] := hD
                            have hP9 := hP.sub (ws' := [(h0, ce_Mo h0_op h0_argument h0_balance h0_inbox h0_real h0_hand h0_payee h0_paid h0_drawn h0_challenger h0_low h0_high h0_agreed h0_disputed h0_posted h0_middle h0_deadline h0_running h0_node h0_side u.1), (h0_op, .inl (c0_op, 16, .inl u.2.1)), (h0_argument, .inl (c0_argument, 16, .inl u.2.2.1)), (h0_inbox, .inl (c0_inbox, 60, .inl u.2.2.2.1)), (h0_hand, .inl (c0_hand, 13, .inl (upd (upd u.2.2.2.2 y9.toNatClampNeg y7) 0 y6)))]) [0, 1, 2, 3, 4] rfl
                            have hD9 := hD.sub (ws' := [(h0, ce_Mo h0_op h0_argument h0_balance h0_inbox h0_real h0_hand h0_payee h0_paid h0_drawn h0_challenger h0_low h0_high h0_agreed h0_disputed h0_posted h0_middle h0_deadline h0_running h0_node h0_side u.1), (h0_op, .inl (c0_op, 16, .inl u.2.1)), (h0_argument, .inl (c0_argument, 16, .inl u.2.2.1)), (h0_inbox, .inl (c0_inbox, 60, .inl u.2.2.2.1)), (h0_hand, .inl (c0_hand, 13, .inl (upd (upd u.2.2.2.2 y9.toNatClampNeg y7) 0 y6)))]) [0, 1, 2, 3, 4] (by decide) rfl
                            have hK9 := hK.sub (tys' := [(c0_op, .int), (c0_argument, .int), (c0_inbox, .int), (c0_hand, .int)]) [0, 1, 2, 3] rfl
                            exact W.vret hx hb hr (fun t ht hW => ⟨⟨(u.1, u.2.1, u.2.2.1, u.2.2.2.1, (upd (upd u.2.2.2.2 y9.toNatClampNeg y7) 0 y6)), rfl, hw, by rw [ht]; exact hP9, va_K.moved hW.alike hK9, hD9⟩, hS.F ht⟩) hS.2.2 dMo_step_379
                          · first | exact absurd cc341 (by decide) | exact (cc341 (by decide)).elim
                      · have hw := hw.1 cc307
                        refine lv_aload_n hx hb dMo_step_217 rfl (lv_at hl 8 rfl) ?_
                        refine va_get (D := (dC, dI)) (ci := 8) (v := .ref h0_hand) (C := "StepCourtModel") (T := TMo) (N := 35) hx hb hq inMo hown hK hP 0 rfl rfl 11 (by decide) (hq _ wt_745) (fun _ h9 => h9) rfl dMo_step_218 ?_
                        refine lv_iconst (v := 1) hx hb dMo_step_221 (by decide) ?_
                        refine lv_aload_n hx hb dMo_step_222 rfl (lv_at hl 8 rfl) ?_
                        refine va_get (D := (dC, dI)) (ci := 8) (v := .ref h0_hand) (C := "StepCourtModel") (T := TMo) (N := 35) hx hb hq inMo hown hK hP 0 rfl rfl 11 (by decide) (hq _ wt_745) (fun _ h9 => h9) rfl dMo_step_223 ?_
                        refine lv_iload hx hb dMo_step_226 (lv_at hl 1 rfl) ?_
                        obtain ⟨hh342, hw⟩ := hw
                        refine va_iald hx hb hK hP 4 3 rfl rfl hh342 dMo_step_228 ?_
                        refine lv_topi (fun f343 ef343 => ?_)
                        have hw := hw f343 ef343
                        refine va_iast hx hb hK hP hD hS 4 3 rfl rfl (show ¬ ((1 : Int32) < 0 ∨ 13 ≤ (1 : Int32).toNatClampNeg) by decide) dMo_step_229 (fun H locs hP hD hS => ?_)
                        have hP : va_P (dC, dI) vwCl [(h0, ce_Mo h0_op h0_argument h0_balance h0_inbox h0_real h0_hand h0_payee h0_paid h0_drawn h0_challenger h0_low h0_high h0_agreed h0_disputed h0_posted h0_middle h0_deadline h0_running h0_node h0_side u.1), (h0_op, .inl (c0_op, 16, .inl u.2.1)), (h0_argument, .inl (c0_argument, 16, .inl u.2.2.1)), (h0_inbox, .inl (c0_inbox, 60, .inl u.2.2.2.1)), (h0_hand, .inl (c0_hand, 13, .inl (upd u.2.2.2.2 1 f343)))] H := hP
                        have hD : va_D A [(h0, ce_Mo h0_op h0_argument h0_balance h0_inbox h0_real h0_hand h0_payee h0_paid h0_drawn h0_challenger h0_low h0_high h0_agreed h0_disputed h0_posted h0_middle h0_deadline h0_running h0_node h0_side u.1), (h0_op, .inl (c0_op, 16, .inl u.2.1)), (h0_argument, .inl (c0_argument, 16, .inl u.2.2.1)), (h0_inbox, .inl (c0_inbox, 60, .inl u.2.2.2.1)), (h0_hand, .inl (c0_hand, 13, .inl (upd u.2.2.2.2 1 f343)))] := hD
                        refine lv_goto (tgt := 362) hx hb dMo_step_230 (by decide) ?_
                        refine lv_aload_n hx hb dMo_step_362 rfl (lv_at hl 8 rfl) ?_
                        refine va_get (D := (dC, dI)) (ci := 8) (v := .ref h0_hand) (C := "StepCourtModel") (T := TMo) (N := 35) hx hb hq inMo hown hK hP 0 rfl rfl 11 (by decide) (hq _ wt_745) (fun _ h9 => h9) rfl dMo_step_363 ?_
                        refine lv_iconst (v := 0) hx hb dMo_step_366 (by decide) ?_
                        refine lv_iload hx hb dMo_step_367 (lv_at hl 0 rfl) ?_
                        refine lv_if_eq (tgt := 376) hx hb dMo_step_369 (by decide) (fun cc344 => ?_) (fun cc344 => ?_)
                        · have hw := hw
                          refine lv_iload hx hb dMo_step_376 (lv_at hl 4 rfl) ?_
                          refine va_iast hx hb hK hP hD hS 4 3 rfl rfl (show ¬ ((0 : Int32) < 0 ∨ 13 ≤ (0 : Int32).toNatClampNeg) by decide) dMo_step_378 (fun H locs hP hD hS => ?_)
                          have hP : va_P (dC, dI) vwCl [(h0, ce_Mo h0_op h0_argument h0_balance h0_inbox h0_real h0_hand h0_payee h0_paid h0_drawn h0_challenger h0_low h0_high h0_agreed h0_disputed h0_posted h0_middle h0_deadline h0_running h0_node h0_side u.1), (h0_op, .inl (c0_op, 16, .inl u.2.1)), (h0_argument, .inl (c0_argument, 16, .inl u.2.2.1)), (h0_inbox, .inl (c0_inbox, 60, .inl u.2.2.2.1)), (h0_hand, .inl (c0_hand, 13, .inl (upd (upd u.2.2.2.2 1 f343) 0 y6)))] H := hP
                          have hD : va_D A [(h0, ce_Mo h0_op h0_argument h0_balance h0_inbox h0_real h0_hand h0_payee h0_paid h0_drawn h0_challenger h0_low h0_high h0_agreed h0_disputed h0_posted h0_middle h0_deadline h0_running h0_node h0_side u.1), (h0_op, .inl (c0_op, 16, .inl u.2.1)), (h0_argument, .inl (c0_argument, 16, .inl u.2.2.1)), (h0_inbox, .inl (c0_inbox, 60, .inl u.2.2.2.1)), (h0_hand, .inl (c0_hand, 13, .inl (upd (upd u.2.2.2.2 1 f343) 0 y6)))] := hD
                          have hP9 := hP.sub (ws' := [(h0, ce_Mo h0_op h0_argument h0_balance h0_inbox h0_real h0_hand h0_payee h0_paid h0_drawn h0_challenger h0_low h0_high h0_agreed h0_disputed h0_posted h0_middle h0_deadline h0_running h0_node h0_side u.1), (h0_op, .inl (c0_op, 16, .inl u.2.1)), (h0_argument, .inl (c0_argument, 16, .inl u.2.2.1)), (h0_inbox, .inl (c0_inbox, 60, .inl u.2.2.2.1)), (h0_hand, .inl (c0_hand, 13, .inl (upd (upd u.2.2.2.2 1 f343) 0 y6)))]) [0, 1, 2, 3, 4] rfl
                          have hD9 := hD.sub (ws' := [(h0, ce_Mo h0_op h0_argument h0_balance h0_inbox h0_real h0_hand h0_payee h0_paid h0_drawn h0_challenger h0_low h0_high h0_agreed h0_disputed h0_posted h0_middle h0_deadline h0_running h0_node h0_side u.1), (h0_op, .inl (c0_op, 16, .inl u.2.1)), (h0_argument, .inl (c0_argument, 16, .inl u.2.2.1)), (h0_inbox, .inl (c0_inbox, 60, .inl u.2.2.2.1)), (h0_hand, .inl (c0_hand, 13, .inl (upd (upd u.2.2.2.2 1 f343) 0 y6)))]) [0, 1, 2, 3, 4] (by decide) rfl
                          have hK9 := hK.sub (tys' := [(c0_op, .int), (c0_argument, .int), (c0_inbox, .int), (c0_hand, .int)]) [0, 1, 2, 3] rfl
                          exact W.vret hx hb hr (fun t ht hW => ⟨⟨(u.1, u.2.1, u.2.2.1, u.2.2.2.1, (upd (upd u.2.2.2.2 1 f343) 0 y6)), rfl, hw, by rw [ht]; exact hP9, va_K.moved hW.alike hK9, hD9⟩, hS.F ht⟩) hS.2.2 dMo_step_379
                        · first | exact absurd cc344 (by decide) | exact (cc344 (by decide)).elim
                    · have hw := hw.2 cc306
                      refine lv_iload_n hx hb dMo_step_165 rfl (lv_at hl 6 rfl) ?_
                      refine lv_bipush (v := 6) hx hb dMo_step_166 (by decide) ?_
                      refine lv_icmp_gt (tgt := 211) hx hb dMo_step_168 (by decide) (fun cc345 => ?_) (fun cc345 => ?_)
                      · have hw := hw.1 cc345
                        refine lv_iload_n hx hb dMo_step_211 rfl (lv_at hl 6 rfl) ?_
                        refine lv_bipush (v := 7) hx hb dMo_step_212 (by decide) ?_
                        refine lv_icmp_ne (tgt := 233) hx hb dMo_step_214 (by decide) (fun cc346 => ?_) (fun cc346 => ?_)
                        · have hw := hw.2 cc346
                          refine lv_iload_n hx hb dMo_step_233 rfl (lv_at hl 6 rfl) ?_
                          refine lv_bipush (v := 8) hx hb dMo_step_234 (by decide) ?_
                          refine lv_icmp_ne (tgt := 251) hx hb dMo_step_236 (by decide) (fun cc347 => ?_) (fun cc347 => ?_)
                          · have hw := hw.2 cc347
                            refine lv_iload_n hx hb dMo_step_251 rfl (lv_at hl 6 rfl) ?_
                            refine lv_bipush (v := 9) hx hb dMo_step_252 (by decide) ?_
                            refine lv_icmp_ne (tgt := 286) hx hb dMo_step_254 (by decide) (fun cc348 => ?_) (fun cc348 => ?_)
                            · have hw := hw.2 cc348
                              refine lv_iload_n hx hb dMo_step_286 rfl (lv_at hl 6 rfl) ?_
                              refine lv_bipush (v := 13) hx hb dMo_step_287 (by decide) ?_
                              refine lv_icmp_ne (tgt := 327) hx hb dMo_step_289 (by decide) (fun cc349 => ?_) (fun cc349 => ?_)
                              · have hw := hw.2 cc349
                                refine lv_iload_n hx hb dMo_step_327 rfl (lv_at hl 6 rfl) ?_
                                refine lv_bipush (v := 10) hx hb dMo_step_328 (by decide) ?_
                                refine lv_icmp_eq (tgt := 355) hx hb dMo_step_330 (by decide) (fun cc350 => ?_) (fun cc350 => ?_)
                                · have hw := hw.1 cc350
                                  refine lv_iload hx hb dMo_step_355 (lv_at hl 5 rfl) ?_
                                  refine lv_bipush (v := 15) hx hb dMo_step_357 (by decide) ?_
                                  refine lv_iand hx hb dMo_step_359 ?_
                                  refine lv_topi (fun y351 ey351 => ?_)
                                  have hw := hw y351 ey351
                                  refine lv_istore (lv' := [(5, .int y351), (9, .int 0), (8, .int y9), (7, .int y8), (6, .int y7), (4, .int y5), (3, .int y3), (2, .int y1), (0, .ref h0), (1, .int k1)]) hx hb dMo_step_360 hl (by decide) rfl (fun ls hl => ?_)
                                  refine lv_aload_n hx hb dMo_step_362 rfl (lv_at hl 8 rfl) ?_
                                  refine va_get (D := (dC, dI)) (ci := 8) (v := .ref h0_hand) (C := "StepCourtModel") (T := TMo) (N := 35) hx hb hq inMo hown hK hP 0 rfl rfl 11 (by decide) (hq _ wt_745) (fun _ h9 => h9) rfl dMo_step_363 ?_
                                  refine lv_iconst (v := 0) hx hb dMo_step_366 (by decide) ?_
                                  refine lv_iload hx hb dMo_step_367 (lv_at hl 1 rfl) ?_
                                  refine lv_if_eq (tgt := 376) hx hb dMo_step_369 (by decide) (fun cc352 => ?_) (fun cc352 => ?_)
                                  · have hw := hw
                                    refine lv_iload hx hb dMo_step_376 (lv_at hl 0 rfl) ?_
                                    refine va_iast hx hb hK hP hD hS 4 3 rfl rfl (show ¬ ((0 : Int32) < 0 ∨ 13 ≤ (0 : Int32).toNatClampNeg) by decide) dMo_step_378 (fun H locs hP hD hS => ?_)
                                    have hP : va_P (dC, dI) vwCl [(h0, ce_Mo h0_op h0_argument h0_balance h0_inbox h0_real h0_hand h0_payee h0_paid h0_drawn h0_challenger h0_low h0_high h0_agreed h0_disputed h0_posted h0_middle h0_deadline h0_running h0_node h0_side u.1), (h0_op, .inl (c0_op, 16, .inl u.2.1)), (h0_argument, .inl (c0_argument, 16, .inl u.2.2.1)), (h0_inbox, .inl (c0_inbox, 60, .inl u.2.2.2.1)), (h0_hand, .inl (c0_hand, 13, .inl (upd u.2.2.2.2 0 y351)))] H := hP
                                    have hD : va_D A [(h0, ce_Mo h0_op h0_argument h0_balance h0_inbox h0_real h0_hand h0_payee h0_paid h0_drawn h0_challenger h0_low h0_high h0_agreed h0_disputed h0_posted h0_middle h0_deadline h0_running h0_node h0_side u.1), (h0_op, .inl (c0_op, 16, .inl u.2.1)), (h0_argument, .inl (c0_argument, 16, .inl u.2.2.1)), (h0_inbox, .inl (c0_inbox, 60, .inl u.2.2.2.1)), (h0_hand, .inl (c0_hand, 13, .inl (upd u.2.2.2.2 0 y351)))] := hD
                                    have hP9 := hP.sub (ws' := [(h0, ce_Mo h0_op h0_argument h0_balance h0_inbox h0_real h0_hand h0_payee h0_paid h0_drawn h0_challenger h0_low h0_high h0_agreed h0_disputed h0_posted h0_middle h0_deadline h0_running h0_node h0_side u.1), (h0_op, .inl (c0_op, 16, .inl u.2.1)), (h0_argument, .inl (c0_argument, 16, .inl u.2.2.1)), (h0_inbox, .inl (c0_inbox, 60, .inl u.2.2.2.1)), (h0_hand, .inl (c0_hand, 13, .inl (upd u.2.2.2.2 0 y351)))]) [0, 1, 2, 3, 4] rfl
                                    have hD9 := hD.sub (ws' := [(h0, ce_Mo h0_op h0_argument h0_balance h0_inbox h0_real h0_hand h0_payee h0_paid h0_drawn h0_challenger h0_low h0_high h0_agreed h0_disputed h0_posted h0_middle h0_deadline h0_running h0_node h0_side u.1), (h0_op, .inl (c0_op, 16, .inl u.2.1)), (h0_argument, .inl (c0_argument, 16, .inl u.2.2.1)), (h0_inbox, .inl (c0_inbox, 60, .inl u.2.2.2.1)), (h0_hand, .inl (c0_hand, 13, .inl (upd u.2.2.2.2 0 y351)))]) [0, 1, 2, 3, 4] (by decide) rfl
                                    have hK9 := hK.sub (tys' := [(c0_op, .int), (c0_argument, .int), (c0_inbox, .int), (c0_hand, .int)]) [0, 1, 2, 3] rfl
                                    exact W.vret hx hb hr (fun t ht hW => ⟨⟨(u.1, u.2.1, u.2.2.1, u.2.2.2.1, (upd u.2.2.2.2 0 y351)), rfl, hw, by rw [ht]; exact hP9, va_K.moved hW.alike hK9, hD9⟩, hS.F ht⟩) hS.2.2 dMo_step_379
                                  · first | exact absurd cc352 (by decide) | exact (cc352 (by decide)).elim
                                · have hw := hw.2 cc350
                                  refine lv_iload_n hx hb dMo_step_333 rfl (lv_at hl 6 rfl) ?_
                                  refine lv_bipush (v := 11) hx hb dMo_step_334 (by decide) ?_
                                  refine lv_icmp_ne (tgt := 344) hx hb dMo_step_336 (by decide) (fun cc353 => ?_) (fun cc353 => ?_)
                                  · have hw := hw.2 cc353
                                    refine lv_iload_n hx hb dMo_step_344 rfl (lv_at hl 6 rfl) ?_
                                    refine lv_bipush (v := 12) hx hb dMo_step_345 (by decide) ?_
                                    refine lv_icmp_ne (tgt := 362) hx hb dMo_step_347 (by decide) (fun cc354 => ?_) (fun cc354 => ?_)
                                    · have hw := hw.2 cc354
                                      refine lv_aload_n hx hb dMo_step_362 rfl (lv_at hl 8 rfl) ?_
                                      refine va_get (D := (dC, dI)) (ci := 8) (v := .ref h0_hand) (C := "StepCourtModel") (T := TMo) (N := 35) hx hb hq inMo hown hK hP 0 rfl rfl 11 (by decide) (hq _ wt_745) (fun _ h9 => h9) rfl dMo_step_363 ?_
                                      refine lv_iconst (v := 0) hx hb dMo_step_366 (by decide) ?_
                                      refine lv_iload hx hb dMo_step_367 (lv_at hl 0 rfl) ?_
                                      refine lv_if_eq (tgt := 376) hx hb dMo_step_369 (by decide) (fun cc355 => ?_) (fun cc355 => ?_)
                                      · have hw := hw
                                        refine lv_iload hx hb dMo_step_376 (lv_at hl 4 rfl) ?_
                                        refine va_iast hx hb hK hP hD hS 4 3 rfl rfl (show ¬ ((0 : Int32) < 0 ∨ 13 ≤ (0 : Int32).toNatClampNeg) by decide) dMo_step_378 (fun H locs hP hD hS => ?_)
                                        have hP : va_P (dC, dI) vwCl [(h0, ce_Mo h0_op h0_argument h0_balance h0_inbox h0_real h0_hand h0_payee h0_paid h0_drawn h0_challenger h0_low h0_high h0_agreed h0_disputed h0_posted h0_middle h0_deadline h0_running h0_node h0_side u.1), (h0_op, .inl (c0_op, 16, .inl u.2.1)), (h0_argument, .inl (c0_argument, 16, .inl u.2.2.1)), (h0_inbox, .inl (c0_inbox, 60, .inl u.2.2.2.1)), (h0_hand, .inl (c0_hand, 13, .inl (upd u.2.2.2.2 0 y6)))] H := hP
                                        have hD : va_D A [(h0, ce_Mo h0_op h0_argument h0_balance h0_inbox h0_real h0_hand h0_payee h0_paid h0_drawn h0_challenger h0_low h0_high h0_agreed h0_disputed h0_posted h0_middle h0_deadline h0_running h0_node h0_side u.1), (h0_op, .inl (c0_op, 16, .inl u.2.1)), (h0_argument, .inl (c0_argument, 16, .inl u.2.2.1)), (h0_inbox, .inl (c0_inbox, 60, .inl u.2.2.2.1)), (h0_hand, .inl (c0_hand, 13, .inl (upd u.2.2.2.2 0 y6)))] := hD
                                        have hP9 := hP.sub (ws' := [(h0, ce_Mo h0_op h0_argument h0_balance h0_inbox h0_real h0_hand h0_payee h0_paid h0_drawn h0_challenger h0_low h0_high h0_agreed h0_disputed h0_posted h0_middle h0_deadline h0_running h0_node h0_side u.1), (h0_op, .inl (c0_op, 16, .inl u.2.1)), (h0_argument, .inl (c0_argument, 16, .inl u.2.2.1)), (h0_inbox, .inl (c0_inbox, 60, .inl u.2.2.2.1)), (h0_hand, .inl (c0_hand, 13, .inl (upd u.2.2.2.2 0 y6)))]) [0, 1, 2, 3, 4] rfl
                                        have hD9 := hD.sub (ws' := [(h0, ce_Mo h0_op h0_argument h0_balance h0_inbox h0_real h0_hand h0_payee h0_paid h0_drawn h0_challenger h0_low h0_high h0_agreed h0_disputed h0_posted h0_middle h0_deadline h0_running h0_node h0_side u.1), (h0_op, .inl (c0_op, 16, .inl u.2.1)), (h0_argument, .inl (c0_argument, 16, .inl u.2.2.1)), (h0_inbox, .inl (c0_inbox, 60, .inl u.2.2.2.1)), (h0_hand, .inl (c0_hand, 13, .inl (upd u.2.2.2.2 0 y6)))]) [0, 1, 2, 3, 4] (by decide) rfl
                                        have hK9 := hK.sub (tys' := [(c0_op, .int), (c0_argument, .int), (c0_inbox, .int), (c0_hand, .int)]) [0, 1, 2, 3] rfl
                                        exact W.vret hx hb hr (fun t ht hW => ⟨⟨(u.1, u.2.1, u.2.2.1, u.2.2.2.1, (upd u.2.2.2.2 0 y6)), rfl, hw, by rw [ht]; exact hP9, va_K.moved hW.alike hK9, hD9⟩, hS.F ht⟩) hS.2.2 dMo_step_379
                                      · first | exact absurd cc355 (by decide) | exact (cc355 (by decide)).elim
                                    · have hw := hw.1 cc354
                                      refine lv_iload hx hb dMo_step_350 (lv_at hl 3 rfl) ?_
                                      refine lv_if_ge (tgt := 362) hx hb dMo_step_352 (by decide) (fun cc356 => ?_) (fun cc356 => ?_)
                                      · have hw := hw.1 cc356
                                        refine lv_aload_n hx hb dMo_step_362 rfl (lv_at hl 8 rfl) ?_
                                        refine va_get (D := (dC, dI)) (ci := 8) (v := .ref h0_hand) (C := "StepCourtModel") (T := TMo) (N := 35) hx hb hq inMo hown hK hP 0 rfl rfl 11 (by decide) (hq _ wt_745) (fun _ h9 => h9) rfl dMo_step_363 ?_
                                        refine lv_iconst (v := 0) hx hb dMo_step_366 (by decide) ?_
                                        refine lv_iload hx hb dMo_step_367 (lv_at hl 0 rfl) ?_
                                        refine lv_if_eq (tgt := 376) hx hb dMo_step_369 (by decide) (fun cc357 => ?_) (fun cc357 => ?_)
                                        · have hw := hw
                                          refine lv_iload hx hb dMo_step_376 (lv_at hl 4 rfl) ?_
                                          refine va_iast hx hb hK hP hD hS 4 3 rfl rfl (show ¬ ((0 : Int32) < 0 ∨ 13 ≤ (0 : Int32).toNatClampNeg) by decide) dMo_step_378 (fun H locs hP hD hS => ?_)
                                          have hP : va_P (dC, dI) vwCl [(h0, ce_Mo h0_op h0_argument h0_balance h0_inbox h0_real h0_hand h0_payee h0_paid h0_drawn h0_challenger h0_low h0_high h0_agreed h0_disputed h0_posted h0_middle h0_deadline h0_running h0_node h0_side u.1), (h0_op, .inl (c0_op, 16, .inl u.2.1)), (h0_argument, .inl (c0_argument, 16, .inl u.2.2.1)), (h0_inbox, .inl (c0_inbox, 60, .inl u.2.2.2.1)), (h0_hand, .inl (c0_hand, 13, .inl (upd u.2.2.2.2 0 y6)))] H := hP
                                          have hD : va_D A [(h0, ce_Mo h0_op h0_argument h0_balance h0_inbox h0_real h0_hand h0_payee h0_paid h0_drawn h0_challenger h0_low h0_high h0_agreed h0_disputed h0_posted h0_middle h0_deadline h0_running h0_node h0_side u.1), (h0_op, .inl (c0_op, 16, .inl u.2.1)), (h0_argument, .inl (c0_argument, 16, .inl u.2.2.1)), (h0_inbox, .inl (c0_inbox, 60, .inl u.2.2.2.1)), (h0_hand, .inl (c0_hand, 13, .inl (upd u.2.2.2.2 0 y6)))] := hD
                                          have hP9 := hP.sub (ws' := [(h0, ce_Mo h0_op h0_argument h0_balance h0_inbox h0_real h0_hand h0_payee h0_paid h0_drawn h0_challenger h0_low h0_high h0_agreed h0_disputed h0_posted h0_middle h0_deadline h0_running h0_node h0_side u.1), (h0_op, .inl (c0_op, 16, .inl u.2.1)), (h0_argument, .inl (c0_argument, 16, .inl u.2.2.1)), (h0_inbox, .inl (c0_inbox, 60, .inl u.2.2.2.1)), (h0_hand, .inl (c0_hand, 13, .inl (upd u.2.2.2.2 0 y6)))]) [0, 1, 2, 3, 4] rfl
                                          have hD9 := hD.sub (ws' := [(h0, ce_Mo h0_op h0_argument h0_balance h0_inbox h0_real h0_hand h0_payee h0_paid h0_drawn h0_challenger h0_low h0_high h0_agreed h0_disputed h0_posted h0_middle h0_deadline h0_running h0_node h0_side u.1), (h0_op, .inl (c0_op, 16, .inl u.2.1)), (h0_argument, .inl (c0_argument, 16, .inl u.2.2.1)), (h0_inbox, .inl (c0_inbox, 60, .inl u.2.2.2.1)), (h0_hand, .inl (c0_hand, 13, .inl (upd u.2.2.2.2 0 y6)))]) [0, 1, 2, 3, 4] (by decide) rfl
                                          have hK9 := hK.sub (tys' := [(c0_op, .int), (c0_argument, .int), (c0_inbox, .int), (c0_hand, .int)]) [0, 1, 2, 3] rfl
                                          exact W.vret hx hb hr (fun t ht hW => ⟨⟨(u.1, u.2.1, u.2.2.1, u.2.2.2.1, (upd u.2.2.2.2 0 y6)), rfl, hw, by rw [ht]; exact hP9, va_K.moved hW.alike hK9, hD9⟩, hS.F ht⟩) hS.2.2 dMo_step_379
                                        · first | exact absurd cc357 (by decide) | exact (cc357 (by decide)).elim
                                      · have hw := hw.2 cc356
                                        refine lv_iload hx hb dMo_step_355 (lv_at hl 5 rfl) ?_
                                        refine lv_bipush (v := 15) hx hb dMo_step_357 (by decide) ?_
                                        refine lv_iand hx hb dMo_step_359 ?_
                                        refine lv_topi (fun y358 ey358 => ?_)
                                        have hw := hw y358 ey358
                                        refine lv_istore (lv' := [(5, .int y358), (9, .int 0), (8, .int y9), (7, .int y8), (6, .int y7), (4, .int y5), (3, .int y3), (2, .int y1), (0, .ref h0), (1, .int k1)]) hx hb dMo_step_360 hl (by decide) rfl (fun ls hl => ?_)
                                        refine lv_aload_n hx hb dMo_step_362 rfl (lv_at hl 8 rfl) ?_
                                        refine va_get (D := (dC, dI)) (ci := 8) (v := .ref h0_hand) (C := "StepCourtModel") (T := TMo) (N := 35) hx hb hq inMo hown hK hP 0 rfl rfl 11 (by decide) (hq _ wt_745) (fun _ h9 => h9) rfl dMo_step_363 ?_
                                        refine lv_iconst (v := 0) hx hb dMo_step_366 (by decide) ?_
                                        refine lv_iload hx hb dMo_step_367 (lv_at hl 1 rfl) ?_
                                        refine lv_if_eq (tgt := 376) hx hb dMo_step_369 (by decide) (fun cc359 => ?_) (fun cc359 => ?_)
                                        · have hw := hw
                                          refine lv_iload hx hb dMo_step_376 (lv_at hl 0 rfl) ?_
                                          refine va_iast hx hb hK hP hD hS 4 3 rfl rfl (show ¬ ((0 : Int32) < 0 ∨ 13 ≤ (0 : Int32).toNatClampNeg) by decide) dMo_step_378 (fun H locs hP hD hS => ?_)
                                          have hP : va_P (dC, dI) vwCl [(h0, ce_Mo h0_op h0_argument h0_balance h0_inbox h0_real h0_hand h0_payee h0_paid h0_drawn h0_challenger h0_low h0_high h0_agreed h0_disputed h0_posted h0_middle h0_deadline h0_running h0_node h0_side u.1), (h0_op, .inl (c0_op, 16, .inl u.2.1)), (h0_argument, .inl (c0_argument, 16, .inl u.2.2.1)), (h0_inbox, .inl (c0_inbox, 60, .inl u.2.2.2.1)), (h0_hand, .inl (c0_hand, 13, .inl (upd u.2.2.2.2 0 y358)))] H := hP
                                          have hD : va_D A [(h0, ce_Mo h0_op h0_argument h0_balance h0_inbox h0_real h0_hand h0_payee h0_paid h0_drawn h0_challenger h0_low h0_high h0_agreed h0_disputed h0_posted h0_middle h0_deadline h0_running h0_node h0_side u.1), (h0_op, .inl (c0_op, 16, .inl u.2.1)), (h0_argument, .inl (c0_argument, 16, .inl u.2.2.1)), (h0_inbox, .inl (c0_inbox, 60, .inl u.2.2.2.1)), (h0_hand, .inl (c0_hand, 13, .inl (upd u.2.2.2.2 0 y358)))] := hD
                                          have hP9 := hP.sub (ws' := [(h0, ce_Mo h0_op h0_argument h0_balance h0_inbox h0_real h0_hand h0_payee h0_paid h0_drawn h0_challenger h0_low h0_high h0_agreed h0_disputed h0_posted h0_middle h0_deadline h0_running h0_node h0_side u.1), (h0_op, .inl (c0_op, 16, .inl u.2.1)), (h0_argument, .inl (c0_argument, 16, .inl u.2.2.1)), (h0_inbox, .inl (c0_inbox, 60, .inl u.2.2.2.1)), (h0_hand, .inl (c0_hand, 13, .inl (upd u.2.2.2.2 0 y358)))]) [0, 1, 2, 3, 4] rfl
                                          have hD9 := hD.sub (ws' := [(h0, ce_Mo h0_op h0_argument h0_balance h0_inbox h0_real h0_hand h0_payee h0_paid h0_drawn h0_challenger h0_low h0_high h0_agreed h0_disputed h0_posted h0_middle h0_deadline h0_running h0_node h0_side u.1), (h0_op, .inl (c0_op, 16, .inl u.2.1)), (h0_argument, .inl (c0_argument, 16, .inl u.2.2.1)), (h0_inbox, .inl (c0_inbox, 60, .inl u.2.2.2.1)), (h0_hand, .inl (c0_hand, 13, .inl (upd u.2.2.2.2 0 y358)))]) [0, 1, 2, 3, 4] (by decide) rfl
                                          have hK9 := hK.sub (tys' := [(c0_op, .int), (c0_argument, .int), (c0_inbox, .int), (c0_hand, .int)]) [0, 1, 2, 3] rfl
                                          exact W.vret hx hb hr (fun t ht hW => ⟨⟨(u.1, u.2.1, u.2.2.1, u.2.2.2.1, (upd u.2.2.2.2 0 y358)), rfl, hw, by rw [ht]; exact hP9, va_K.moved hW.alike hK9, hD9⟩, hS.F ht⟩) hS.2.2 dMo_step_379
                                        · first | exact absurd cc359 (by decide) | exact (cc359 (by decide)).elim
                                  · have hw := hw.1 cc353
                                    refine lv_iload hx hb dMo_step_339 (lv_at hl 3 rfl) ?_
                                    refine lv_if_eq (tgt := 355) hx hb dMo_step_341 (by decide) (fun cc360 => ?_) (fun cc360 => ?_)
                                    · have hw := hw.1 cc360
                                      refine lv_iload hx hb dMo_step_355 (lv_at hl 5 rfl) ?_
                                      refine lv_bipush (v := 15) hx hb dMo_step_357 (by decide) ?_
                                      refine lv_iand hx hb dMo_step_359 ?_
                                      refine lv_topi (fun y361 ey361 => ?_)
                                      have hw := hw y361 ey361
                                      refine lv_istore (lv' := [(5, .int y361), (9, .int 0), (8, .int y9), (7, .int y8), (6, .int y7), (4, .int y5), (3, .int y3), (2, .int y1), (0, .ref h0), (1, .int k1)]) hx hb dMo_step_360 hl (by decide) rfl (fun ls hl => ?_)
                                      refine lv_aload_n hx hb dMo_step_362 rfl (lv_at hl 8 rfl) ?_
                                      refine va_get (D := (dC, dI)) (ci := 8) (v := .ref h0_hand) (C := "StepCourtModel") (T := TMo) (N := 35) hx hb hq inMo hown hK hP 0 rfl rfl 11 (by decide) (hq _ wt_745) (fun _ h9 => h9) rfl dMo_step_363 ?_
                                      refine lv_iconst (v := 0) hx hb dMo_step_366 (by decide) ?_
                                      refine lv_iload hx hb dMo_step_367 (lv_at hl 1 rfl) ?_
                                      refine lv_if_eq (tgt := 376) hx hb dMo_step_369 (by decide) (fun cc362 => ?_) (fun cc362 => ?_)
                                      · have hw := hw
                                        refine lv_iload hx hb dMo_step_376 (lv_at hl 0 rfl) ?_
                                        refine va_iast hx hb hK hP hD hS 4 3 rfl rfl (show ¬ ((0 : Int32) < 0 ∨ 13 ≤ (0 : Int32).toNatClampNeg) by decide) dMo_step_378 (fun H locs hP hD hS => ?_)
                                        have hP : va_P (dC, dI) vwCl [(h0, ce_Mo h0_op h0_argument h0_balance h0_inbox h0_real h0_hand h0_payee h0_paid h0_drawn h0_challenger h0_low h0_high h0_agreed h0_disputed h0_posted h0_middle h0_deadline h0_running h0_node h0_side u.1), (h0_op, .inl (c0_op, 16, .inl u.2.1)), (h0_argument, .inl (c0_argument, 16, .inl u.2.2.1)), (h0_inbox, .inl (c0_inbox, 60, .inl u.2.2.2.1)), (h0_hand, .inl (c0_hand, 13, .inl (upd u.2.2.2.2 0 y361)))] H := hP
                                        have hD : va_D A [(h0, ce_Mo h0_op h0_argument h0_balance h0_inbox h0_real h0_hand h0_payee h0_paid h0_drawn h0_challenger h0_low h0_high h0_agreed h0_disputed h0_posted h0_middle h0_deadline h0_running h0_node h0_side u.1), (h0_op, .inl (c0_op, 16, .inl u.2.1)), (h0_argument, .inl (c0_argument, 16, .inl u.2.2.1)), (h0_inbox, .inl (c0_inbox, 60, .inl u.2.2.2.1)), (h0_hand, .inl (c0_hand, 13, .inl (upd u.2.2.2.2 0 y361)))] := hD
                                        have hP9 := hP.sub (ws' := [(h0, ce_Mo h0_op h0_argument h0_balance h0_inbox h0_real h0_hand h0_payee h0_paid h0_drawn h0_challenger h0_low h0_high h0_agreed h0_disputed h0_posted h0_middle h0_deadline h0_running h0_node h0_side u.1), (h0_op, .inl (c0_op, 16, .inl u.2.1)), (h0_argument, .inl (c0_argument, 16, .inl u.2.2.1)), (h0_inbox, .inl (c0_inbox, 60, .inl u.2.2.2.1)), (h0_hand, .inl (c0_hand, 13, .inl (upd u.2.2.2.2 0 y361)))]) [0, 1, 2, 3, 4] rfl
                                        have hD9 := hD.sub (ws' := [(h0, ce_Mo h0_op h0_argument h0_balance h0_inbox h0_real h0_hand h0_payee h0_paid h0_drawn h0_challenger h0_low h0_high h0_agreed h0_disputed h0_posted h0_middle h0_deadline h0_running h0_node h0_side u.1), (h0_op, .inl (c0_op, 16, .inl u.2.1)), (h0_argument, .inl (c0_argument, 16, .inl u.2.2.1)), (h0_inbox, .inl (c0_inbox, 60, .inl u.2.2.2.1)), (h0_hand, .inl (c0_hand, 13, .inl (upd u.2.2.2.2 0 y361)))]) [0, 1, 2, 3, 4] (by decide) rfl
                                        have hK9 := hK.sub (tys' := [(c0_op, .int), (c0_argument, .int), (c0_inbox, .int), (c0_hand, .int)]) [0, 1, 2, 3] rfl
                                        exact W.vret hx hb hr (fun t ht hW => ⟨⟨(u.1, u.2.1, u.2.2.1, u.2.2.2.1, (upd u.2.2.2.2 0 y361)), rfl, hw, by rw [ht]; exact hP9, va_K.moved hW.alike hK9, hD9⟩, hS.F ht⟩) hS.2.2 dMo_step_379
                                      · first | exact absurd cc362 (by decide) | exact (cc362 (by decide)).elim
                                    · have hw := hw.2 cc360
                                      refine lv_iload_n hx hb dMo_step_344 rfl (lv_at hl 6 rfl) ?_
                                      refine lv_bipush (v := 12) hx hb dMo_step_345 (by decide) ?_
                                      refine lv_icmp_ne (tgt := 362) hx hb dMo_step_347 (by decide) (fun cc363 => ?_) (fun cc363 => ?_)
                                      · have hw := hw.2 cc363
                                        refine lv_aload_n hx hb dMo_step_362 rfl (lv_at hl 8 rfl) ?_
                                        refine va_get (D := (dC, dI)) (ci := 8) (v := .ref h0_hand) (C := "StepCourtModel") (T := TMo) (N := 35) hx hb hq inMo hown hK hP 0 rfl rfl 11 (by decide) (hq _ wt_745) (fun _ h9 => h9) rfl dMo_step_363 ?_
                                        refine lv_iconst (v := 0) hx hb dMo_step_366 (by decide) ?_
                                        refine lv_iload hx hb dMo_step_367 (lv_at hl 0 rfl) ?_
                                        refine lv_if_eq (tgt := 376) hx hb dMo_step_369 (by decide) (fun cc364 => ?_) (fun cc364 => ?_)
                                        · have hw := hw
                                          refine lv_iload hx hb dMo_step_376 (lv_at hl 4 rfl) ?_
                                          refine va_iast hx hb hK hP hD hS 4 3 rfl rfl (show ¬ ((0 : Int32) < 0 ∨ 13 ≤ (0 : Int32).toNatClampNeg) by decide) dMo_step_378 (fun H locs hP hD hS => ?_)
                                          have hP : va_P (dC, dI) vwCl [(h0, ce_Mo h0_op h0_argument h0_balance h0_inbox h0_real h0_hand h0_payee h0_paid h0_drawn h0_challenger h0_low h0_high h0_agreed h0_disputed h0_posted h0_middle h0_deadline h0_running h0_node h0_side u.1), (h0_op, .inl (c0_op, 16, .inl u.2.1)), (h0_argument, .inl (c0_argument, 16, .inl u.2.2.1)), (h0_inbox, .inl (c0_inbox, 60, .inl u.2.2.2.1)), (h0_hand, .inl (c0_hand, 13, .inl (upd u.2.2.2.2 0 y6)))] H := hP
                                          have hD : va_D A [(h0, ce_Mo h0_op h0_argument h0_balance h0_inbox h0_real h0_hand h0_payee h0_paid h0_drawn h0_challenger h0_low h0_high h0_agreed h0_disputed h0_posted h0_middle h0_deadline h0_running h0_node h0_side u.1), (h0_op, .inl (c0_op, 16, .inl u.2.1)), (h0_argument, .inl (c0_argument, 16, .inl u.2.2.1)), (h0_inbox, .inl (c0_inbox, 60, .inl u.2.2.2.1)), (h0_hand, .inl (c0_hand, 13, .inl (upd u.2.2.2.2 0 y6)))] := hD
                                          have hP9 := hP.sub (ws' := [(h0, ce_Mo h0_op h0_argument h0_balance h0_inbox h0_real h0_hand h0_payee h0_paid h0_drawn h0_challenger h0_low h0_high h0_agreed h0_disputed h0_posted h0_middle h0_deadline h0_running h0_node h0_side u.1), (h0_op, .inl (c0_op, 16, .inl u.2.1)), (h0_argument, .inl (c0_argument, 16, .inl u.2.2.1)), (h0_inbox, .inl (c0_inbox, 60, .inl u.2.2.2.1)), (h0_hand, .inl (c0_hand, 13, .inl (upd u.2.2.2.2 0 y6)))]) [0, 1, 2, 3, 4] rfl
                                          have hD9 := hD.sub (ws' := [(h0, ce_Mo h0_op h0_argument h0_balance h0_inbox h0_real h0_hand h0_payee h0_paid h0_drawn h0_challenger h0_low h0_high h0_agreed h0_disputed h0_posted h0_middle h0_deadline h0_running h0_node h0_side u.1), (h0_op, .inl (c0_op, 16, .inl u.2.1)), (h0_argument, .inl (c0_argument, 16, .inl u.2.2.1)), (h0_inbox, .inl (c0_inbox, 60, .inl u.2.2.2.1)), (h0_hand, .inl (c0_hand, 13, .inl (upd u.2.2.2.2 0 y6)))]) [0, 1, 2, 3, 4] (by decide) rfl
                                          have hK9 := hK.sub (tys' := [(c0_op, .int), (c0_argument, .int), (c0_inbox, .int), (c0_hand, .int)]) [0, 1, 2, 3] rfl
                                          exact W.vret hx hb hr (fun t ht hW => ⟨⟨(u.1, u.2.1, u.2.2.1, u.2.2.2.1, (upd u.2.2.2.2 0 y6)), rfl, hw, by rw [ht]; exact hP9, va_K.moved hW.alike hK9, hD9⟩, hS.F ht⟩) hS.2.2 dMo_step_379
                                        · first | exact absurd cc364 (by decide) | exact (cc364 (by decide)).elim
                                      · have hw := hw.1 cc363
                                        refine lv_iload hx hb dMo_step_350 (lv_at hl 3 rfl) ?_
                                        refine lv_if_ge (tgt := 362) hx hb dMo_step_352 (by decide) (fun cc365 => ?_) (fun cc365 => ?_)
                                        · have hw := hw.1 cc365
                                          refine lv_aload_n hx hb dMo_step_362 rfl (lv_at hl 8 rfl) ?_
                                          refine va_get (D := (dC, dI)) (ci := 8) (v := .ref h0_hand) (C := "StepCourtModel") (T := TMo) (N := 35) hx hb hq inMo hown hK hP 0 rfl rfl 11 (by decide) (hq _ wt_745) (fun _ h9 => h9) rfl dMo_step_363 ?_
                                          refine lv_iconst (v := 0) hx hb dMo_step_366 (by decide) ?_
                                          refine lv_iload hx hb dMo_step_367 (lv_at hl 0 rfl) ?_
                                          refine lv_if_eq (tgt := 376) hx hb dMo_step_369 (by decide) (fun cc366 => ?_) (fun cc366 => ?_)
                                          · have hw := hw
                                            refine lv_iload hx hb dMo_step_376 (lv_at hl 4 rfl) ?_
                                            refine va_iast hx hb hK hP hD hS 4 3 rfl rfl (show ¬ ((0 : Int32) < 0 ∨ 13 ≤ (0 : Int32).toNatClampNeg) by decide) dMo_step_378 (fun H locs hP hD hS => ?_)
                                            have hP : va_P (dC, dI) vwCl [(h0, ce_Mo h0_op h0_argument h0_balance h0_inbox h0_real h0_hand h0_payee h0_paid h0_drawn h0_challenger h0_low h0_high h0_agreed h0_disputed h0_posted h0_middle h0_deadline h0_running h0_node h0_side u.1), (h0_op, .inl (c0_op, 16, .inl u.2.1)), (h0_argument, .inl (c0_argument, 16, .inl u.2.2.1)), (h0_inbox, .inl (c0_inbox, 60, .inl u.2.2.2.1)), (h0_hand, .inl (c0_hand, 13, .inl (upd u.2.2.2.2 0 y6)))] H := hP
                                            have hD : va_D A [(h0, ce_Mo h0_op h0_argument h0_balance h0_inbox h0_real h0_hand h0_payee h0_paid h0_drawn h0_challenger h0_low h0_high h0_agreed h0_disputed h0_posted h0_middle h0_deadline h0_running h0_node h0_side u.1), (h0_op, .inl (c0_op, 16, .inl u.2.1)), (h0_argument, .inl (c0_argument, 16, .inl u.2.2.1)), (h0_inbox, .inl (c0_inbox, 60, .inl u.2.2.2.1)), (h0_hand, .inl (c0_hand, 13, .inl (upd u.2.2.2.2 0 y6)))] := hD
                                            have hP9 := hP.sub (ws' := [(h0, ce_Mo h0_op h0_argument h0_balance h0_inbox h0_real h0_hand h0_payee h0_paid h0_drawn h0_challenger h0_low h0_high h0_agreed h0_disputed h0_posted h0_middle h0_deadline h0_running h0_node h0_side u.1), (h0_op, .inl (c0_op, 16, .inl u.2.1)), (h0_argument, .inl (c0_argument, 16, .inl u.2.2.1)), (h0_inbox, .inl (c0_inbox, 60, .inl u.2.2.2.1)), (h0_hand, .inl (c0_hand, 13, .inl (upd u.2.2.2.2 0 y6)))]) [0, 1, 2, 3, 4] rfl
                                            have hD9 := hD.sub (ws' := [(h0, ce_Mo h0_op h0_argument h0_balance h0_inbox h0_real h0_hand h0_payee h0_paid h0_drawn h0_challenger h0_low h0_high h0_agreed h0_disputed h0_posted h0_middle h0_deadline h0_running h0_node h0_side u.1), (h0_op, .inl (c0_op, 16, .inl u.2.1)), (h0_argument, .inl (c0_argument, 16, .inl u.2.2.1)), (h0_inbox, .inl (c0_inbox, 60, .inl u.2.2.2.1)), (h0_hand, .inl (c0_hand, 13, .inl (upd u.2.2.2.2 0 y6)))]) [0, 1, 2, 3, 4] (by decide) rfl
                                            have hK9 := hK.sub (tys' := [(c0_op, .int), (c0_argument, .int), (c0_inbox, .int), (c0_hand, .int)]) [0, 1, 2, 3] rfl
                                            exact W.vret hx hb hr (fun t ht hW => ⟨⟨(u.1, u.2.1, u.2.2.1, u.2.2.2.1, (upd u.2.2.2.2 0 y6)), rfl, hw, by rw [ht]; exact hP9, va_K.moved hW.alike hK9, hD9⟩, hS.F ht⟩) hS.2.2 dMo_step_379
                                          · first | exact absurd cc366 (by decide) | exact (cc366 (by decide)).elim
                                        · have hw := hw.2 cc365
                                          refine lv_iload hx hb dMo_step_355 (lv_at hl 5 rfl) ?_
                                          refine lv_bipush (v := 15) hx hb dMo_step_357 (by decide) ?_
                                          refine lv_iand hx hb dMo_step_359 ?_
                                          refine lv_topi (fun y367 ey367 => ?_)
                                          have hw := hw y367 ey367
                                          refine lv_istore (lv' := [(5, .int y367), (9, .int 0), (8, .int y9), (7, .int y8), (6, .int y7), (4, .int y5), (3, .int y3), (2, .int y1), (0, .ref h0), (1, .int k1)]) hx hb dMo_step_360 hl (by decide) rfl (fun ls hl => ?_)
                                          refine lv_aload_n hx hb dMo_step_362 rfl (lv_at hl 8 rfl) ?_
                                          refine va_get (D := (dC, dI)) (ci := 8) (v := .ref h0_hand) (C := "StepCourtModel") (T := TMo) (N := 35) hx hb hq inMo hown hK hP 0 rfl rfl 11 (by decide) (hq _ wt_745) (fun _ h9 => h9) rfl dMo_step_363 ?_
                                          refine lv_iconst (v := 0) hx hb dMo_step_366 (by decide) ?_
                                          refine lv_iload hx hb dMo_step_367 (lv_at hl 1 rfl) ?_
                                          refine lv_if_eq (tgt := 376) hx hb dMo_step_369 (by decide) (fun cc368 => ?_) (fun cc368 => ?_)
                                          · have hw := hw
                                            refine lv_iload hx hb dMo_step_376 (lv_at hl 0 rfl) ?_
                                            refine va_iast hx hb hK hP hD hS 4 3 rfl rfl (show ¬ ((0 : Int32) < 0 ∨ 13 ≤ (0 : Int32).toNatClampNeg) by decide) dMo_step_378 (fun H locs hP hD hS => ?_)
                                            have hP : va_P (dC, dI) vwCl [(h0, ce_Mo h0_op h0_argument h0_balance h0_inbox h0_real h0_hand h0_payee h0_paid h0_drawn h0_challenger h0_low h0_high h0_agreed h0_disputed h0_posted h0_middle h0_deadline h0_running h0_node h0_side u.1), (h0_op, .inl (c0_op, 16, .inl u.2.1)), (h0_argument, .inl (c0_argument, 16, .inl u.2.2.1)), (h0_inbox, .inl (c0_inbox, 60, .inl u.2.2.2.1)), (h0_hand, .inl (c0_hand, 13, .inl (upd u.2.2.2.2 0 y367)))] H := hP
                                            have hD : va_D A [(h0, ce_Mo h0_op h0_argument h0_balance h0_inbox h0_real h0_hand h0_payee h0_paid h0_drawn h0_challenger h0_low h0_high h0_agreed h0_disputed h0_posted h0_middle h0_deadline h0_running h0_node h0_side u.1), (h0_op, .inl (c0_op, 16, .inl u.2.1)), (h0_argument, .inl (c0_argument, 16, .inl u.2.2.1)), (h0_inbox, .inl (c0_inbox, 60, .inl u.2.2.2.1)), (h0_hand, .inl (c0_hand, 13, .inl (upd u.2.2.2.2 0 y367)))] := hD
                                            have hP9 := hP.sub (ws' := [(h0, ce_Mo h0_op h0_argument h0_balance h0_inbox h0_real h0_hand h0_payee h0_paid h0_drawn h0_challenger h0_low h0_high h0_agreed h0_disputed h0_posted h0_middle h0_deadline h0_running h0_node h0_side u.1), (h0_op, .inl (c0_op, 16, .inl u.2.1)), (h0_argument, .inl (c0_argument, 16, .inl u.2.2.1)), (h0_inbox, .inl (c0_inbox, 60, .inl u.2.2.2.1)), (h0_hand, .inl (c0_hand, 13, .inl (upd u.2.2.2.2 0 y367)))]) [0, 1, 2, 3, 4] rfl
                                            have hD9 := hD.sub (ws' := [(h0, ce_Mo h0_op h0_argument h0_balance h0_inbox h0_real h0_hand h0_payee h0_paid h0_drawn h0_challenger h0_low h0_high h0_agreed h0_disputed h0_posted h0_middle h0_deadline h0_running h0_node h0_side u.1), (h0_op, .inl (c0_op, 16, .inl u.2.1)), (h0_argument, .inl (c0_argument, 16, .inl u.2.2.1)), (h0_inbox, .inl (c0_inbox, 60, .inl u.2.2.2.1)), (h0_hand, .inl (c0_hand, 13, .inl (upd u.2.2.2.2 0 y367)))]) [0, 1, 2, 3, 4] (by decide) rfl
                                            have hK9 := hK.sub (tys' := [(c0_op, .int), (c0_argument, .int), (c0_inbox, .int), (c0_hand, .int)]) [0, 1, 2, 3] rfl
                                            exact W.vret hx hb hr (fun t ht hW => ⟨⟨(u.1, u.2.1, u.2.2.1, u.2.2.2.1, (upd u.2.2.2.2 0 y367)), rfl, hw, by rw [ht]; exact hP9, va_K.moved hW.alike hK9, hD9⟩, hS.F ht⟩) hS.2.2 dMo_step_379
                                          · first | exact absurd cc368 (by decide) | exact (cc368 (by decide)).elim
                              · have hw := hw.1 cc349
                                refine lv_aload_n hx hb dMo_step_292 rfl (lv_at hl 8 rfl) ?_
                                refine lv_aload_n hx hb dMo_step_293 rfl (lv_at hl 8 rfl) ?_
                                refine va_get (D := (dC, dI)) (ci := 8) (v := .long u.1.2.2.2.2.2.2.1) (C := "StepCourtModel") (T := TMo) (N := 35) hx hb hq inMo hown hK hP 0 rfl rfl 12 (by decide) (hq _ wt_746) (fun _ h9 => h9) rfl dMo_step_294 ?_
                                refine lv_iload hx hb dMo_step_297 (lv_at hl 2 rfl) ?_
                                refine lv_iconst (v := 3) hx hb dMo_step_299 (by decide) ?_
                                refine lv_iand hx hb dMo_step_300 ?_
                                refine lv_i2l (v := (y8 &&& 3).toInt64) hx hb dMo_step_301 rfl ?_
                                have hPc := hP.sub (ws' := []) [] rfl
                                have hDc := hD.sub (ws' := []) [] (by decide) rfl
                                have hKc := hK.sub (tys' := []) [] rfl
                                have hFc := va_free (wc := []) hD hS hA [] rfl
                                refine va_calll (va_runS (As := [.long u.1.2.2.2.2.2.2.1, .long ((y8 &&& 3).toInt64)]) (rest := [.ref h0]) ⟨hx, hb, hml, hown, hq⟩ (mt_Mo_mix l dC dI s.heap.size _ () u.1.2.2.2.2.2.2.1 ((y8 &&& 3).toInt64) hw) ⟨cq_B 2 hq wt_723 wt_721 wt_10 rfl rfl hd_Mo_mix ⟨Nat.le_of_ble_eq_true rfl, Nat.le_of_ble_eq_true rfl⟩, (hq _ wt_722)⟩ ⟨kp_bl, kp_at hPc hKc hDc hZ⟩ rfl rfl hl.1 rfl (lv_room (Nat.le_of_ble_eq_true rfl)) dMo_step_302 ⟨(by decide), (by decide)⟩) hS (fun q _ h => hFc q h) hFc (fun r369 u370 t H1 locs ht hvm hw hB hz1 hk1 hS => ?_)
                                obtain ⟨hP1, hK1, hD1⟩ := hB
                                rw [ht] at hP1
                                have hK1 := va_K.moved hvm.symm hK1
                                obtain ⟨hP, hD⟩ := va_join (wr := [(h0, ce_Mo h0_op h0_argument h0_balance h0_inbox h0_real h0_hand h0_payee h0_paid h0_drawn h0_challenger h0_low h0_high h0_agreed h0_disputed h0_posted h0_middle h0_deadline h0_running h0_node h0_side u.1), (h0_op, .inl (c0_op, 16, .inl u.2.1)), (h0_argument, .inl (c0_argument, 16, .inl u.2.2.1)), (h0_inbox, .inl (c0_inbox, 60, .inl u.2.2.2.1)), (h0_hand, .inl (c0_hand, 13, .inl u.2.2.2.2))]) (w1 := []) hP hD [] [0, 1, 2, 3, 4] rfl rfl (by decide) (by decide) hk1 hFc hP1 hD1
                                have hK := (hK.sub (tys' := [(c0_op, .int), (c0_argument, .int), (c0_inbox, .int), (c0_hand, .int)]) [0, 1, 2, 3] rfl).app hK1
                                generalize H1 = H at hP hS ⊢
                                have hP : va_P (dC, dI) vwCl [(h0, ce_Mo h0_op h0_argument h0_balance h0_inbox h0_real h0_hand h0_payee h0_paid h0_drawn h0_challenger h0_low h0_high h0_agreed h0_disputed h0_posted h0_middle h0_deadline h0_running h0_node h0_side u.1), (h0_op, .inl (c0_op, 16, .inl u.2.1)), (h0_argument, .inl (c0_argument, 16, .inl u.2.2.1)), (h0_inbox, .inl (c0_inbox, 60, .inl u.2.2.2.1)), (h0_hand, .inl (c0_hand, 13, .inl u.2.2.2.2))] H := hP
                                have hD : va_D A [(h0, ce_Mo h0_op h0_argument h0_balance h0_inbox h0_real h0_hand h0_payee h0_paid h0_drawn h0_challenger h0_low h0_high h0_agreed h0_disputed h0_posted h0_middle h0_deadline h0_running h0_node h0_side u.1), (h0_op, .inl (c0_op, 16, .inl u.2.1)), (h0_argument, .inl (c0_argument, 16, .inl u.2.2.1)), (h0_inbox, .inl (c0_inbox, 60, .inl u.2.2.2.1)), (h0_hand, .inl (c0_hand, 13, .inl u.2.2.2.2))] := hD
                                have hK : va_K (dC, dI) vwCl [(c0_op, .int), (c0_argument, .int), (c0_inbox, .int), (c0_hand, .int)] s := hK
                                refine lv_iload hx hb dMo_step_305 (lv_at hl 3 rfl) ?_
                                refine lv_i2l (v := y7.toInt64) hx hb dMo_step_307 rfl ?_
                                have hPc := hP.sub (ws' := []) [] rfl
                                have hDc := hD.sub (ws' := []) [] (by decide) rfl
                                have hKc := hK.sub (tys' := []) [] rfl
                                have hFc := va_free (wc := []) hD hS hA [] rfl
                                refine va_calll (va_runS (As := [.long r369, .long (y7.toInt64)]) (rest := [.ref h0]) ⟨hx, hb, hml, hown, hq⟩ (mt_Mo_mix l dC dI H.size _ () r369 (y7.toInt64) hw) ⟨cq_B 2 hq wt_723 wt_721 wt_10 rfl rfl hd_Mo_mix ⟨Nat.le_of_ble_eq_true rfl, Nat.le_of_ble_eq_true rfl⟩, (hq _ wt_722)⟩ ⟨kp_bl, kp_at hPc hKc hDc hZ⟩ rfl rfl hl.1 rfl (lv_room (Nat.le_of_ble_eq_true rfl)) dMo_step_308 ⟨(by decide), (by decide)⟩) hS (fun q _ h => hFc q h) hFc (fun r371 u372 t H1 locs ht hvm hw hB hz1 hk1 hS => ?_)
                                obtain ⟨hP1, hK1, hD1⟩ := hB
                                rw [ht] at hP1
                                have hK1 := va_K.moved hvm.symm hK1
                                obtain ⟨hP, hD⟩ := va_join (wr := [(h0, ce_Mo h0_op h0_argument h0_balance h0_inbox h0_real h0_hand h0_payee h0_paid h0_drawn h0_challenger h0_low h0_high h0_agreed h0_disputed h0_posted h0_middle h0_deadline h0_running h0_node h0_side u.1), (h0_op, .inl (c0_op, 16, .inl u.2.1)), (h0_argument, .inl (c0_argument, 16, .inl u.2.2.1)), (h0_inbox, .inl (c0_inbox, 60, .inl u.2.2.2.1)), (h0_hand, .inl (c0_hand, 13, .inl u.2.2.2.2))]) (w1 := []) hP hD [] [0, 1, 2, 3, 4] rfl rfl (by decide) (by decide) hk1 hFc hP1 hD1
                                have hK := (hK.sub (tys' := [(c0_op, .int), (c0_argument, .int), (c0_inbox, .int), (c0_hand, .int)]) [0, 1, 2, 3] rfl).app hK1
                                generalize H1 = H at hP hS ⊢
                                have hP : va_P (dC, dI) vwCl [(h0, ce_Mo h0_op h0_argument h0_balance h0_inbox h0_real h0_hand h0_payee h0_paid h0_drawn h0_challenger h0_low h0_high h0_agreed h0_disputed h0_posted h0_middle h0_deadline h0_running h0_node h0_side u.1), (h0_op, .inl (c0_op, 16, .inl u.2.1)), (h0_argument, .inl (c0_argument, 16, .inl u.2.2.1)), (h0_inbox, .inl (c0_inbox, 60, .inl u.2.2.2.1)), (h0_hand, .inl (c0_hand, 13, .inl u.2.2.2.2))] H := hP
                                have hD : va_D A [(h0, ce_Mo h0_op h0_argument h0_balance h0_inbox h0_real h0_hand h0_payee h0_paid h0_drawn h0_challenger h0_low h0_high h0_agreed h0_disputed h0_posted h0_middle h0_deadline h0_running h0_node h0_side u.1), (h0_op, .inl (c0_op, 16, .inl u.2.1)), (h0_argument, .inl (c0_argument, 16, .inl u.2.2.1)), (h0_inbox, .inl (c0_inbox, 60, .inl u.2.2.2.1)), (h0_hand, .inl (c0_hand, 13, .inl u.2.2.2.2))] := hD
                                have hK : va_K (dC, dI) vwCl [(c0_op, .int), (c0_argument, .int), (c0_inbox, .int), (c0_hand, .int)] s := hK
                                refine va_put (D := (dC, dI)) (ci := 8) (v := .long r371) (ty := .long) (C := "StepCourtModel") (T := TMo) (N := 35) hx hb hq inMo tyMo tyMo_ok nmMo hown hK hP hD hS 0 rfl rfl 12 (by decide) (hq _ wt_746) (fun _ h9 => h9) rfl (by decide +kernel) rfl rfl (Nat.le_of_ble_eq_true rfl) dMo_step_311 (fun H locs hP hD hS => ?_)
                                have hP : va_P (dC, dI) vwCl [(h0, ce_Mo h0_op h0_argument h0_balance h0_inbox h0_real h0_hand h0_payee h0_paid h0_drawn h0_challenger h0_low h0_high h0_agreed h0_disputed h0_posted h0_middle h0_deadline h0_running h0_node h0_side (u.1.1, u.1.2.1, u.1.2.2.1, u.1.2.2.2.1, u.1.2.2.2.2.1, u.1.2.2.2.2.2.1, r371, u.1.2.2.2.2.2.2.2.1, u.1.2.2.2.2.2.2.2.2.1, u.1.2.2.2.2.2.2.2.2.2.1, u.1.2.2.2.2.2.2.2.2.2.2.1, u.1.2.2.2.2.2.2.2.2.2.2.2.1, u.1.2.2.2.2.2.2.2.2.2.2.2.2.1, u.1.2.2.2.2.2.2.2.2.2.2.2.2.2.1, u.1.2.2.2.2.2.2.2.2.2.2.2.2.2.2)), (h0_op, .inl (c0_op, 16, .inl u.2.1)), (h0_argument, .inl (c0_argument, 16, .inl u.2.2.1)), (h0_inbox, .inl (c0_inbox, 60, .inl u.2.2.2.1)), (h0_hand, .inl (c0_hand, 13, .inl u.2.2.2.2))] H := hP
                                have hD : va_D A [(h0, ce_Mo h0_op h0_argument h0_balance h0_inbox h0_real h0_hand h0_payee h0_paid h0_drawn h0_challenger h0_low h0_high h0_agreed h0_disputed h0_posted h0_middle h0_deadline h0_running h0_node h0_side (u.1.1, u.1.2.1, u.1.2.2.1, u.1.2.2.2.1, u.1.2.2.2.2.1, u.1.2.2.2.2.2.1, r371, u.1.2.2.2.2.2.2.2.1, u.1.2.2.2.2.2.2.2.2.1, u.1.2.2.2.2.2.2.2.2.2.1, u.1.2.2.2.2.2.2.2.2.2.2.1, u.1.2.2.2.2.2.2.2.2.2.2.2.1, u.1.2.2.2.2.2.2.2.2.2.2.2.2.1, u.1.2.2.2.2.2.2.2.2.2.2.2.2.2.1, u.1.2.2.2.2.2.2.2.2.2.2.2.2.2.2)), (h0_op, .inl (c0_op, 16, .inl u.2.1)), (h0_argument, .inl (c0_argument, 16, .inl u.2.2.1)), (h0_inbox, .inl (c0_inbox, 60, .inl u.2.2.2.1)), (h0_hand, .inl (c0_hand, 13, .inl u.2.2.2.2))] := hD
                                refine lv_aload_n hx hb dMo_step_314 rfl (lv_at hl 8 rfl) ?_
                                refine va_get (D := (dC, dI)) (ci := 8) (v := .ref h0_hand) (C := "StepCourtModel") (T := TMo) (N := 35) hx hb hq inMo hown hK hP 0 rfl rfl 11 (by decide) (hq _ wt_745) (fun _ h9 => h9) rfl dMo_step_315 ?_
                                refine lv_iconst (v := 4) hx hb dMo_step_318 (by decide) ?_
                                refine lv_dup2_11 hx hb dMo_step_319 rfl rfl ?_
                                refine va_iald hx hb hK hP 4 3 rfl rfl (show ¬ ((4 : Int32) < 0 ∨ 13 ≤ (4 : Int32).toNatClampNeg) by decide) dMo_step_320 ?_
                                refine W.eq (g2 := F0 m 321 ls [.int (u.2.2.2.2 4), .int 4, .ref h0_hand]) rfl ?_
                                refine lv_iconst (v := 1) hx hb dMo_step_321 (by decide) ?_
                                refine lv_iadd hx hb dMo_step_322 ?_
                                refine lv_topi (fun f373 ef373 => ?_)
                                have hw := hw f373 ef373
                                refine va_iast hx hb hK hP hD hS 4 3 rfl rfl (show ¬ ((4 : Int32) < 0 ∨ 13 ≤ (4 : Int32).toNatClampNeg) by decide) dMo_step_323 (fun H locs hP hD hS => ?_)
                                have hP : va_P (dC, dI) vwCl [(h0, ce_Mo h0_op h0_argument h0_balance h0_inbox h0_real h0_hand h0_payee h0_paid h0_drawn h0_challenger h0_low h0_high h0_agreed h0_disputed h0_posted h0_middle h0_deadline h0_running h0_node h0_side (u.1.1, u.1.2.1, u.1.2.2.1, u.1.2.2.2.1, u.1.2.2.2.2.1, u.1.2.2.2.2.2.1, r371, u.1.2.2.2.2.2.2.2.1, u.1.2.2.2.2.2.2.2.2.1, u.1.2.2.2.2.2.2.2.2.2.1, u.1.2.2.2.2.2.2.2.2.2.2.1, u.1.2.2.2.2.2.2.2.2.2.2.2.1, u.1.2.2.2.2.2.2.2.2.2.2.2.2.1, u.1.2.2.2.2.2.2.2.2.2.2.2.2.2.1, u.1.2.2.2.2.2.2.2.2.2.2.2.2.2.2)), (h0_op, .inl (c0_op, 16, .inl u.2.1)), (h0_argument, .inl (c0_argument, 16, .inl u.2.2.1)), (h0_inbox, .inl (c0_inbox, 60, .inl u.2.2.2.1)), (h0_hand, .inl (c0_hand, 13, .inl (upd u.2.2.2.2 4 f373)))] H := hP
                                have hD : va_D A [(h0, ce_Mo h0_op h0_argument h0_balance h0_inbox h0_real h0_hand h0_payee h0_paid h0_drawn h0_challenger h0_low h0_high h0_agreed h0_disputed h0_posted h0_middle h0_deadline h0_running h0_node h0_side (u.1.1, u.1.2.1, u.1.2.2.1, u.1.2.2.2.1, u.1.2.2.2.2.1, u.1.2.2.2.2.2.1, r371, u.1.2.2.2.2.2.2.2.1, u.1.2.2.2.2.2.2.2.2.1, u.1.2.2.2.2.2.2.2.2.2.1, u.1.2.2.2.2.2.2.2.2.2.2.1, u.1.2.2.2.2.2.2.2.2.2.2.2.1, u.1.2.2.2.2.2.2.2.2.2.2.2.2.1, u.1.2.2.2.2.2.2.2.2.2.2.2.2.2.1, u.1.2.2.2.2.2.2.2.2.2.2.2.2.2.2)), (h0_op, .inl (c0_op, 16, .inl u.2.1)), (h0_argument, .inl (c0_argument, 16, .inl u.2.2.1)), (h0_inbox, .inl (c0_inbox, 60, .inl u.2.2.2.1)), (h0_hand, .inl (c0_hand, 13, .inl (upd u.2.2.2.2 4 f373)))] := hD
                                refine lv_goto (tgt := 362) hx hb dMo_step_324 (by decide) ?_
                                refine lv_aload_n hx hb dMo_step_362 rfl (lv_at hl 8 rfl) ?_
                                refine va_get (D := (dC, dI)) (ci := 8) (v := .ref h0_hand) (C := "StepCourtModel") (T := TMo) (N := 35) hx hb hq inMo hown hK hP 0 rfl rfl 11 (by decide) (hq _ wt_745) (fun _ h9 => h9) rfl dMo_step_363 ?_
                                refine lv_iconst (v := 0) hx hb dMo_step_366 (by decide) ?_
                                refine lv_iload hx hb dMo_step_367 (lv_at hl 0 rfl) ?_
                                refine lv_if_eq (tgt := 376) hx hb dMo_step_369 (by decide) (fun cc374 => ?_) (fun cc374 => ?_)
                                · have hw := hw
                                  refine lv_iload hx hb dMo_step_376 (lv_at hl 4 rfl) ?_
                                  refine va_iast hx hb hK hP hD hS 4 3 rfl rfl (show ¬ ((0 : Int32) < 0 ∨ 13 ≤ (0 : Int32).toNatClampNeg) by decide) dMo_step_378 (fun H locs hP hD hS => ?_)
                                  have hP : va_P (dC, dI) vwCl [(h0, ce_Mo h0_op h0_argument h0_balance h0_inbox h0_real h0_hand h0_payee h0_paid h0_drawn h0_challenger h0_low h0_high h0_agreed h0_disputed h0_posted h0_middle h0_deadline h0_running h0_node h0_side (u.1.1, u.1.2.1, u.1.2.2.1, u.1.2.2.2.1, u.1.2.2.2.2.1, u.1.2.2.2.2.2.1, r371, u.1.2.2.2.2.2.2.2.1, u.1.2.2.2.2.2.2.2.2.1, u.1.2.2.2.2.2.2.2.2.2.1, u.1.2.2.2.2.2.2.2.2.2.2.1, u.1.2.2.2.2.2.2.2.2.2.2.2.1, u.1.2.2.2.2.2.2.2.2.2.2.2.2.1, u.1.2.2.2.2.2.2.2.2.2.2.2.2.2.1, u.1.2.2.2.2.2.2.2.2.2.2.2.2.2.2)), (h0_op, .inl (c0_op, 16, .inl u.2.1)), (h0_argument, .inl (c0_argument, 16, .inl u.2.2.1)), (h0_inbox, .inl (c0_inbox, 60, .inl u.2.2.2.1)), (h0_hand, .inl (c0_hand, 13, .inl (upd (upd u.2.2.2.2 4 f373) 0 y6)))] H := hP
                                  have hD : va_D A [(h0, ce_Mo h0_op h0_argument h0_balance h0_inbox h0_real h0_hand h0_payee h0_paid h0_drawn h0_challenger h0_low h0_high h0_agreed h0_disputed h0_posted h0_middle h0_deadline h0_running h0_node h0_side (u.1.1, u.1.2.1, u.1.2.2.1, u.1.2.2.2.1, u.1.2.2.2.2.1, u.1.2.2.2.2.2.1, r371, u.1.2.2.2.2.2.2.2.1, u.1.2.2.2.2.2.2.2.2.1, u.1.2.2.2.2.2.2.2.2.2.1, u.1.2.2.2.2.2.2.2.2.2.2.1, u.1.2.2.2.2.2.2.2.2.2.2.2.1, u.1.2.2.2.2.2.2.2.2.2.2.2.2.1, u.1.2.2.2.2.2.2.2.2.2.2.2.2.2.1, u.1.2.2.2.2.2.2.2.2.2.2.2.2.2.2)), (h0_op, .inl (c0_op, 16, .inl u.2.1)), (h0_argument, .inl (c0_argument, 16, .inl u.2.2.1)), (h0_inbox, .inl (c0_inbox, 60, .inl u.2.2.2.1)), (h0_hand, .inl (c0_hand, 13, .inl (upd (upd u.2.2.2.2 4 f373) 0 y6)))] := hD
                                  have hP9 := hP.sub (ws' := [(h0, ce_Mo h0_op h0_argument h0_balance h0_inbox h0_real h0_hand h0_payee h0_paid h0_drawn h0_challenger h0_low h0_high h0_agreed h0_disputed h0_posted h0_middle h0_deadline h0_running h0_node h0_side (u.1.1, u.1.2.1, u.1.2.2.1, u.1.2.2.2.1, u.1.2.2.2.2.1, u.1.2.2.2.2.2.1, r371, u.1.2.2.2.2.2.2.2.1, u.1.2.2.2.2.2.2.2.2.1, u.1.2.2.2.2.2.2.2.2.2.1, u.1.2.2.2.2.2.2.2.2.2.2.1, u.1.2.2.2.2.2.2.2.2.2.2.2.1, u.1.2.2.2.2.2.2.2.2.2.2.2.2.1, u.1.2.2.2.2.2.2.2.2.2.2.2.2.2.1, u.1.2.2.2.2.2.2.2.2.2.2.2.2.2.2)), (h0_op, .inl (c0_op, 16, .inl u.2.1)), (h0_argument, .inl (c0_argument, 16, .inl u.2.2.1)), (h0_inbox, .inl (c0_inbox, 60, .inl u.2.2.2.1)), (h0_hand, .inl (c0_hand, 13, .inl (upd (upd u.2.2.2.2 4 f373) 0 y6)))]) [0, 1, 2, 3, 4] rfl
                                  have hD9 := hD.sub (ws' := [(h0, ce_Mo h0_op h0_argument h0_balance h0_inbox h0_real h0_hand h0_payee h0_paid h0_drawn h0_challenger h0_low h0_high h0_agreed h0_disputed h0_posted h0_middle h0_deadline h0_running h0_node h0_side (u.1.1, u.1.2.1, u.1.2.2.1, u.1.2.2.2.1, u.1.2.2.2.2.1, u.1.2.2.2.2.2.1, r371, u.1.2.2.2.2.2.2.2.1, u.1.2.2.2.2.2.2.2.2.1, u.1.2.2.2.2.2.2.2.2.2.1, u.1.2.2.2.2.2.2.2.2.2.2.1, u.1.2.2.2.2.2.2.2.2.2.2.2.1, u.1.2.2.2.2.2.2.2.2.2.2.2.2.1, u.1.2.2.2.2.2.2.2.2.2.2.2.2.2.1, u.1.2.2.2.2.2.2.2.2.2.2.2.2.2.2)), (h0_op, .inl (c0_op, 16, .inl u.2.1)), (h0_argument, .inl (c0_argument, 16, .inl u.2.2.1)), (h0_inbox, .inl (c0_inbox, 60, .inl u.2.2.2.1)), (h0_hand, .inl (c0_hand, 13, .inl (upd (upd u.2.2.2.2 4 f373) 0 y6)))]) [0, 1, 2, 3, 4] (by decide) rfl
                                  have hK9 := hK.sub (tys' := [(c0_op, .int), (c0_argument, .int), (c0_inbox, .int), (c0_hand, .int)]) [0, 1, 2, 3] rfl
                                  exact W.vret hx hb hr (fun t ht hW => ⟨⟨((u.1.1, u.1.2.1, u.1.2.2.1, u.1.2.2.2.1, u.1.2.2.2.2.1, u.1.2.2.2.2.2.1, r371, u.1.2.2.2.2.2.2.2.1, u.1.2.2.2.2.2.2.2.2.1, u.1.2.2.2.2.2.2.2.2.2.1, u.1.2.2.2.2.2.2.2.2.2.2.1, u.1.2.2.2.2.2.2.2.2.2.2.2.1, u.1.2.2.2.2.2.2.2.2.2.2.2.2.1, u.1.2.2.2.2.2.2.2.2.2.2.2.2.2.1, u.1.2.2.2.2.2.2.2.2.2.2.2.2.2.2), u.2.1, u.2.2.1, u.2.2.2.1, (upd (upd u.2.2.2.2 4 f373) 0 y6)), rfl, hw, by rw [ht]; exact hP9, va_K.moved hW.alike hK9, hD9⟩, hS.F ht⟩) hS.2.2 dMo_step_379
                                · first | exact absurd cc374 (by decide) | exact (cc374 (by decide)).elim
                            · have hw := hw.1 cc348
                              refine lv_aload_n hx hb dMo_step_257 rfl (lv_at hl 8 rfl) ?_
                              refine va_get (D := (dC, dI)) (ci := 8) (v := .ref h0_hand) (C := "StepCourtModel") (T := TMo) (N := 35) hx hb hq inMo hown hK hP 0 rfl rfl 11 (by decide) (hq _ wt_745) (fun _ h9 => h9) rfl dMo_step_258 ?_
                              refine lv_iconst (v := 1) hx hb dMo_step_261 (by decide) ?_
                              refine lv_aload_n hx hb dMo_step_262 rfl (lv_at hl 8 rfl) ?_
                              refine lv_aload_n hx hb dMo_step_263 rfl (lv_at hl 8 rfl) ?_
                              refine va_get (D := (dC, dI)) (ci := 8) (v := .ref h0_hand) (C := "StepCourtModel") (T := TMo) (N := 35) hx hb hq inMo hown hK hP 0 rfl rfl 11 (by decide) (hq _ wt_745) (fun _ h9 => h9) rfl dMo_step_264 ?_
                              refine lv_iconst (v := 3) hx hb dMo_step_267 (by decide) ?_
                              refine va_iald hx hb hK hP 4 3 rfl rfl (show ¬ ((3 : Int32) < 0 ∨ 13 ≤ (3 : Int32).toNatClampNeg) by decide) dMo_step_268 ?_
                              refine W.eq (g2 := F0 m 269 ls [.int (u.2.2.2.2 3), .ref h0, .int 1, .ref h0_hand]) rfl ?_
                              have hPc := hP.sub (ws' := [(h0, ce_Mo h0_op h0_argument h0_balance h0_inbox h0_real h0_hand h0_payee h0_paid h0_drawn h0_challenger h0_low h0_high h0_agreed h0_disputed h0_posted h0_middle h0_deadline h0_running h0_node h0_side u.1), (h0_inbox, .inl (c0_inbox, 60, .inl u.2.2.2.1))]) [0, 3] rfl
                              have hDc := hD.sub (ws' := [(h0, ce_Mo h0_op h0_argument h0_balance h0_inbox h0_real h0_hand h0_payee h0_paid h0_drawn h0_challenger h0_low h0_high h0_agreed h0_disputed h0_posted h0_middle h0_deadline h0_running h0_node h0_side u.1), (h0_inbox, .inl (c0_inbox, 60, .inl u.2.2.2.1))]) [0, 3] (by decide) rfl
                              have hKc := hK.sub (tys' := [(c0_inbox, .int)]) [2] rfl
                              have hFc := va_free (wc := [(h0, ce_Mo h0_op h0_argument h0_balance h0_inbox h0_real h0_hand h0_payee h0_paid h0_drawn h0_challenger h0_low h0_high h0_agreed h0_disputed h0_posted h0_middle h0_deadline h0_running h0_node h0_side u.1), (h0_inbox, .inl (c0_inbox, 60, .inl u.2.2.2.1))]) hD hS hA [0, 3] rfl
                              refine va_calli (va_runV (As := [.int (u.2.2.2.2 3)]) (rest := [.int 1, .ref h0_hand]) ⟨hx, hb, hml, hown, hq⟩ (mt_Mo_wordAt l dC dI h0 h0_inbox h0_op h0_argument h0_balance h0_real h0_hand h0_payee h0_paid h0_drawn h0_challenger h0_low h0_high h0_agreed h0_disputed h0_posted h0_middle h0_deadline h0_running h0_node h0_side c0_inbox s.heap.size _ (u.1, u.2.2.2.1) (u.2.2.2.2 3) hw) ⟨cq_B 1 hq wt_882 wt_879 wt_10 rfl rfl hd_Mo_wordAt ⟨Nat.le_of_ble_eq_true rfl, Nat.le_of_ble_eq_true rfl⟩, (hq _ wt_881), (hq _ wv_29)⟩ ⟨kp_bl, va_recv hKc hPc (ci := 8) (q0 := 0) rfl rfl, kp_at hPc hKc hDc hZ⟩ rfl rfl hl.1 rfl (lv_room (Nat.le_of_ble_eq_true rfl)) dMo_step_269 ⟨(by decide), (by decide)⟩) hS (fun q _ h => hFc q h) hFc (fun r375 u376 t H1 locs ht hvm hw hB hz1 hk1 hS => ?_)
                              obtain ⟨hP1, hK1, hD1⟩ := hB
                              rw [ht] at hP1
                              have hK1 := va_K.moved hvm.symm hK1
                              obtain ⟨hP, hD⟩ := va_join (wr := [(h0_op, .inl (c0_op, 16, .inl u.2.1)), (h0_argument, .inl (c0_argument, 16, .inl u.2.2.1)), (h0_hand, .inl (c0_hand, 13, .inl u.2.2.2.2))]) (w1 := [(h0, ce_Mo h0_op h0_argument h0_balance h0_inbox h0_real h0_hand h0_payee h0_paid h0_drawn h0_challenger h0_low h0_high h0_agreed h0_disputed h0_posted h0_middle h0_deadline h0_running h0_node h0_side u376.1), (h0_inbox, .inl (c0_inbox, 60, .inl u376.2))]) hP hD [0, 3] [1, 2, 4] rfl rfl (by decide) (by decide) hk1 hFc hP1 hD1
                              have hK := (hK.sub (tys' := [(c0_op, .int), (c0_argument, .int), (c0_hand, .int)]) [0, 1, 3] rfl).app hK1
                              generalize H1 = H at hP hS ⊢
                              have hP : va_P (dC, dI) vwCl [(h0_op, .inl (c0_op, 16, .inl u.2.1)), (h0_argument, .inl (c0_argument, 16, .inl u.2.2.1)), (h0_hand, .inl (c0_hand, 13, .inl u.2.2.2.2)), (h0, ce_Mo h0_op h0_argument h0_balance h0_inbox h0_real h0_hand h0_payee h0_paid h0_drawn h0_challenger h0_low h0_high h0_agreed h0_disputed h0_posted h0_middle h0_deadline h0_running h0_node h0_side u376.1), (h0_inbox, .inl (c0_inbox, 60, .inl u376.2))] H := hP
                              have hD : va_D A [(h0_op, .inl (c0_op, 16, .inl u.2.1)), (h0_argument, .inl (c0_argument, 16, .inl u.2.2.1)), (h0_hand, .inl (c0_hand, 13, .inl u.2.2.2.2)), (h0, ce_Mo h0_op h0_argument h0_balance h0_inbox h0_real h0_hand h0_payee h0_paid h0_drawn h0_challenger h0_low h0_high h0_agreed h0_disputed h0_posted h0_middle h0_deadline h0_running h0_node h0_side u376.1), (h0_inbox, .inl (c0_inbox, 60, .inl u376.2))] := hD
                              have hK : va_K (dC, dI) vwCl [(c0_op, .int), (c0_argument, .int), (c0_hand, .int), (c0_inbox, .int)] s := hK
                              refine va_iast hx hb hK hP hD hS 2 2 rfl rfl (show ¬ ((1 : Int32) < 0 ∨ 13 ≤ (1 : Int32).toNatClampNeg) by decide) dMo_step_272 (fun H locs hP hD hS => ?_)
                              have hP : va_P (dC, dI) vwCl [(h0_op, .inl (c0_op, 16, .inl u.2.1)), (h0_argument, .inl (c0_argument, 16, .inl u.2.2.1)), (h0_hand, .inl (c0_hand, 13, .inl (upd u.2.2.2.2 1 r375))), (h0, ce_Mo h0_op h0_argument h0_balance h0_inbox h0_real h0_hand h0_payee h0_paid h0_drawn h0_challenger h0_low h0_high h0_agreed h0_disputed h0_posted h0_middle h0_deadline h0_running h0_node h0_side u376.1), (h0_inbox, .inl (c0_inbox, 60, .inl u376.2))] H := hP
                              have hD : va_D A [(h0_op, .inl (c0_op, 16, .inl u.2.1)), (h0_argument, .inl (c0_argument, 16, .inl u.2.2.1)), (h0_hand, .inl (c0_hand, 13, .inl (upd u.2.2.2.2 1 r375))), (h0, ce_Mo h0_op h0_argument h0_balance h0_inbox h0_real h0_hand h0_payee h0_paid h0_drawn h0_challenger h0_low h0_high h0_agreed h0_disputed h0_posted h0_middle h0_deadline h0_running h0_node h0_side u376.1), (h0_inbox, .inl (c0_inbox, 60, .inl u376.2))] := hD
                              refine lv_aload_n hx hb dMo_step_273 rfl (lv_at hl 8 rfl) ?_
                              refine va_get (D := (dC, dI)) (ci := 8) (v := .ref h0_hand) (C := "StepCourtModel") (T := TMo) (N := 35) hx hb hq inMo hown hK hP 3 rfl rfl 11 (by decide) (hq _ wt_745) (fun _ h9 => h9) rfl dMo_step_274 ?_
                              refine lv_iconst (v := 3) hx hb dMo_step_277 (by decide) ?_
                              refine lv_dup2_11 hx hb dMo_step_278 rfl rfl ?_
                              refine va_iald hx hb hK hP 2 2 rfl rfl (show ¬ ((3 : Int32) < 0 ∨ 13 ≤ (3 : Int32).toNatClampNeg) by decide) dMo_step_279 ?_
                              refine W.eq (g2 := F0 m 280 ls [.int ((upd u.2.2.2.2 1 r375) 3), .int 3, .ref h0_hand]) rfl ?_
                              refine lv_iconst (v := 1) hx hb dMo_step_280 (by decide) ?_
                              refine lv_iadd hx hb dMo_step_281 ?_
                              refine lv_topi (fun f377 ef377 => ?_)
                              have hw := hw f377 ef377
                              refine va_iast hx hb hK hP hD hS 2 2 rfl rfl (show ¬ ((3 : Int32) < 0 ∨ 13 ≤ (3 : Int32).toNatClampNeg) by decide) dMo_step_282 (fun H locs hP hD hS => ?_)
                              have hP : va_P (dC, dI) vwCl [(h0_op, .inl (c0_op, 16, .inl u.2.1)), (h0_argument, .inl (c0_argument, 16, .inl u.2.2.1)), (h0_hand, .inl (c0_hand, 13, .inl (upd (upd u.2.2.2.2 1 r375) 3 f377))), (h0, ce_Mo h0_op h0_argument h0_balance h0_inbox h0_real h0_hand h0_payee h0_paid h0_drawn h0_challenger h0_low h0_high h0_agreed h0_disputed h0_posted h0_middle h0_deadline h0_running h0_node h0_side u376.1), (h0_inbox, .inl (c0_inbox, 60, .inl u376.2))] H := hP
                              have hD : va_D A [(h0_op, .inl (c0_op, 16, .inl u.2.1)), (h0_argument, .inl (c0_argument, 16, .inl u.2.2.1)), (h0_hand, .inl (c0_hand, 13, .inl (upd (upd u.2.2.2.2 1 r375) 3 f377))), (h0, ce_Mo h0_op h0_argument h0_balance h0_inbox h0_real h0_hand h0_payee h0_paid h0_drawn h0_challenger h0_low h0_high h0_agreed h0_disputed h0_posted h0_middle h0_deadline h0_running h0_node h0_side u376.1), (h0_inbox, .inl (c0_inbox, 60, .inl u376.2))] := hD
                              refine lv_goto (tgt := 362) hx hb dMo_step_283 (by decide) ?_
                              refine lv_aload_n hx hb dMo_step_362 rfl (lv_at hl 8 rfl) ?_
                              refine va_get (D := (dC, dI)) (ci := 8) (v := .ref h0_hand) (C := "StepCourtModel") (T := TMo) (N := 35) hx hb hq inMo hown hK hP 3 rfl rfl 11 (by decide) (hq _ wt_745) (fun _ h9 => h9) rfl dMo_step_363 ?_
                              refine lv_iconst (v := 0) hx hb dMo_step_366 (by decide) ?_
                              refine lv_iload hx hb dMo_step_367 (lv_at hl 0 rfl) ?_
                              refine lv_if_eq (tgt := 376) hx hb dMo_step_369 (by decide) (fun cc378 => ?_) (fun cc378 => ?_)
                              · have hw := hw
                                refine lv_iload hx hb dMo_step_376 (lv_at hl 4 rfl) ?_
                                refine va_iast hx hb hK hP hD hS 2 2 rfl rfl (show ¬ ((0 : Int32) < 0 ∨ 13 ≤ (0 : Int32).toNatClampNeg) by decide) dMo_step_378 (fun H locs hP hD hS => ?_)
                                have hP : va_P (dC, dI) vwCl [(h0_op, .inl (c0_op, 16, .inl u.2.1)), (h0_argument, .inl (c0_argument, 16, .inl u.2.2.1)), (h0_hand, .inl (c0_hand, 13, .inl (upd (upd (upd u.2.2.2.2 1 r375) 3 f377) 0 y6))), (h0, ce_Mo h0_op h0_argument h0_balance h0_inbox h0_real h0_hand h0_payee h0_paid h0_drawn h0_challenger h0_low h0_high h0_agreed h0_disputed h0_posted h0_middle h0_deadline h0_running h0_node h0_side u376.1), (h0_inbox, .inl (c0_inbox, 60, .inl u376.2))] H := hP
                                have hD : va_D A [(h0_op, .inl (c0_op, 16, .inl u.2.1)), (h0_argument, .inl (c0_argument, 16, .inl u.2.2.1)), (h0_hand, .inl (c0_hand, 13, .inl (upd (upd (upd u.2.2.2.2 1 r375) 3 f377) 0 y6))), (h0, ce_Mo h0_op h0_argument h0_balance h0_inbox h0_real h0_hand h0_payee h0_paid h0_drawn h0_challenger h0_low h0_high h0_agreed h0_disputed h0_posted h0_middle h0_deadline h0_running h0_node h0_side u376.1), (h0_inbox, .inl (c0_inbox, 60, .inl u376.2))] := hD
                                have hP9 := hP.sub (ws' := [(h0, ce_Mo h0_op h0_argument h0_balance h0_inbox h0_real h0_hand h0_payee h0_paid h0_drawn h0_challenger h0_low h0_high h0_agreed h0_disputed h0_posted h0_middle h0_deadline h0_running h0_node h0_side u376.1), (h0_op, .inl (c0_op, 16, .inl u.2.1)), (h0_argument, .inl (c0_argument, 16, .inl u.2.2.1)), (h0_inbox, .inl (c0_inbox, 60, .inl u376.2)), (h0_hand, .inl (c0_hand, 13, .inl (upd (upd (upd u.2.2.2.2 1 r375) 3 f377) 0 y6)))]) [3, 0, 1, 4, 2] rfl
                                have hD9 := hD.sub (ws' := [(h0, ce_Mo h0_op h0_argument h0_balance h0_inbox h0_real h0_hand h0_payee h0_paid h0_drawn h0_challenger h0_low h0_high h0_agreed h0_disputed h0_posted h0_middle h0_deadline h0_running h0_node h0_side u376.1), (h0_op, .inl (c0_op, 16, .inl u.2.1)), (h0_argument, .inl (c0_argument, 16, .inl u.2.2.1)), (h0_inbox, .inl (c0_inbox, 60, .inl u376.2)), (h0_hand, .inl (c0_hand, 13, .inl (upd (upd (upd u.2.2.2.2 1 r375) 3 f377) 0 y6)))]) [3, 0, 1, 4, 2] (by decide) rfl
                                have hK9 := hK.sub (tys' := [(c0_op, .int), (c0_argument, .int), (c0_inbox, .int), (c0_hand, .int)]) [0, 1, 3, 2] rfl
                                exact W.vret hx hb hr (fun t ht hW => ⟨⟨(u376.1, u.2.1, u.2.2.1, u376.2, (upd (upd (upd u.2.2.2.2 1 r375) 3 f377) 0 y6)), rfl, hw, by rw [ht]; exact hP9, va_K.moved hW.alike hK9, hD9⟩, hS.F ht⟩) hS.2.2 dMo_step_379
                              · first | exact absurd cc378 (by decide) | exact (cc378 (by decide)).elim
                          · have hw := hw.1 cc347
                            refine lv_aload_n hx hb dMo_step_239 rfl (lv_at hl 8 rfl) ?_
                            refine va_get (D := (dC, dI)) (ci := 8) (v := .ref h0_hand) (C := "StepCourtModel") (T := TMo) (N := 35) hx hb hq inMo hown hK hP 0 rfl rfl 11 (by decide) (hq _ wt_745) (fun _ h9 => h9) rfl dMo_step_240 ?_
                            refine lv_iload hx hb dMo_step_243 (lv_at hl 1 rfl) ?_
                            refine lv_iload hx hb dMo_step_245 (lv_at hl 3 rfl) ?_
                            obtain ⟨hh379, hw⟩ := hw
                            refine va_iast hx hb hK hP hD hS 4 3 rfl rfl hh379 dMo_step_247 (fun H locs hP hD hS => ?_)
                            have hP : va_P (dC, dI) vwCl [(h0, ce_Mo h0_op h0_argument h0_balance h0_inbox h0_real h0_hand h0_payee h0_paid h0_drawn h0_challenger h0_low h0_high h0_agreed h0_disputed h0_posted h0_middle h0_deadline h0_running h0_node h0_side u.1), (h0_op, .inl (c0_op, 16, .inl u.2.1)), (h0_argument, .inl (c0_argument, 16, .inl u.2.2.1)), (h0_inbox, .inl (c0_inbox, 60, .inl u.2.2.2.1)), (h0_hand, .inl (c0_hand, 13, .inl (upd u.2.2.2.2 y9.toNatClampNeg y7)))] H := hP
                            have hD : va_D A [(h0, ce_Mo h0_op h0_argument h0_balance h0_inbox h0_real h0_hand h0_payee h0_paid h0_drawn h0_challenger h0_low h0_high h0_agreed h0_disputed h0_posted h0_middle h0_deadline h0_running h0_node h0_side u.1), (h0_op, .inl (c0_op, 16, .inl u.2.1)), (h0_argument, .inl (c0_argument, 16, .inl u.2.2.1)), (h0_inbox, .inl (c0_inbox, 60, .inl u.2.2.2.1)), (h0_hand, .inl (c0_hand, 13, .inl (upd u.2.2.2.2 y9.toNatClampNeg y7)))] := hD
                            refine lv_goto (tgt := 362) hx hb dMo_step_248 (by decide) ?_
                            refine lv_aload_n hx hb dMo_step_362 rfl (lv_at hl 8 rfl) ?_
                            refine va_get (D := (dC, dI)) (ci := 8) (v := .ref h0_hand) (C := "StepCourtModel") (T := TMo) (N := 35) hx hb hq inMo hown hK hP 0 rfl rfl 11 (by decide) (hq _ wt_745) (fun _ h9 => h9) rfl dMo_step_363 ?_
                            refine lv_iconst (v := 0) hx hb dMo_step_366 (by decide) ?_
                            refine lv_iload hx hb dMo_step_367 (lv_at hl 0 rfl) ?_
                            refine lv_if_eq (tgt := 376) hx hb dMo_step_369 (by decide) (fun cc380 => ?_) (fun cc380 => ?_)
                            · have hw := hw
                              refine lv_iload hx hb dMo_step_376 (lv_at hl 4 rfl) ?_
                              refine va_iast hx hb hK hP hD hS 4 3 rfl rfl (show ¬ ((0 : Int32) < 0 ∨ 13 ≤ (0 : Int32).toNatClampNeg) by decide) dMo_step_378 (fun H locs hP hD hS => ?_)
                              have hP : va_P (dC, dI) vwCl [(h0, ce_Mo h0_op h0_argument h0_balance h0_inbox h0_real h0_hand h0_payee h0_paid h0_drawn h0_challenger h0_low h0_high h0_agreed h0_disputed h0_posted h0_middle h0_deadline h0_running h0_node h0_side u.1), (h0_op, .inl (c0_op, 16, .inl u.2.1)), (h0_argument, .inl (c0_argument, 16, .inl u.2.2.1)), (h0_inbox, .inl (c0_inbox, 60, .inl u.2.2.2.1)), (h0_hand, .inl (c0_hand, 13, .inl (upd (upd u.2.2.2.2 y9.toNatClampNeg y7) 0 y6)))] H := hP
                              have hD : va_D A [(h0, ce_Mo h0_op h0_argument h0_balance h0_inbox h0_real h0_hand h0_payee h0_paid h0_drawn h0_challenger h0_low h0_high h0_agreed h0_disputed h0_posted h0_middle h0_deadline h0_running h0_node h0_side u.1), (h0_op, .inl (c0_op, 16, .inl u.2.1)), (h0_argument, .inl (c0_argument, 16, .inl u.2.2.1)), (h0_inbox, .inl (c0_inbox, 60, .inl u.2.2.2.1)), (h0_hand, .inl (c0_hand, 13, .inl (upd (upd u.2.2.2.2 y9.toNatClampNeg y7) 0 y6)))] := hD
                              have hP9 := hP.sub (ws' := [(h0, ce_Mo h0_op h0_argument h0_balance h0_inbox h0_real h0_hand h0_payee h0_paid h0_drawn h0_challenger h0_low h0_high h0_agreed h0_disputed h0_posted h0_middle h0_deadline h0_running h0_node h0_side u.1), (h0_op, .inl (c0_op, 16, .inl u.2.1)), (h0_argument, .inl (c0_argument, 16, .inl u.2.2.1)), (h0_inbox, .inl (c0_inbox, 60, .inl u.2.2.2.1)), (h0_hand, .inl (c0_hand, 13, .inl (upd (upd u.2.2.2.2 y9.toNatClampNeg y7) 0 y6)))]) [0, 1, 2, 3, 4] rfl
                              have hD9 := hD.sub (ws' := [(h0, ce_Mo h0_op h0_argument h0_balance h0_inbox h0_real h0_hand h0_payee h0_paid h0_drawn h0_challenger h0_low h0_high h0_agreed h0_disputed h0_posted h0_middle h0_deadline h0_running h0_node h0_side u.1), (h0_op, .inl (c0_op, 16, .inl u.2.1)), (h0_argument, .inl (c0_argument, 16, .inl u.2.2.1)), (h0_inbox, .inl (c0_inbox, 60, .inl u.2.2.2.1)), (h0_hand, .inl (c0_hand, 13, .inl (upd (upd u.2.2.2.2 y9.toNatClampNeg y7) 0 y6)))]) [0, 1, 2, 3, 4] (by decide) rfl
                              have hK9 := hK.sub (tys' := [(c0_op, .int), (c0_argument, .int), (c0_inbox, .int), (c0_hand, .int)]) [0, 1, 2, 3] rfl
                              exact W.vret hx hb hr (fun t ht hW => ⟨⟨(u.1, u.2.1, u.2.2.1, u.2.2.2.1, (upd (upd u.2.2.2.2 y9.toNatClampNeg y7) 0 y6)), rfl, hw, by rw [ht]; exact hP9, va_K.moved hW.alike hK9, hD9⟩, hS.F ht⟩) hS.2.2 dMo_step_379
                            · first | exact absurd cc380 (by decide) | exact (cc380 (by decide)).elim
                        · have hw := hw.1 cc346
                          refine lv_aload_n hx hb dMo_step_217 rfl (lv_at hl 8 rfl) ?_
                          refine va_get (D := (dC, dI)) (ci := 8) (v := .ref h0_hand) (C := "StepCourtModel") (T := TMo) (N := 35) hx hb hq inMo hown hK hP 0 rfl rfl 11 (by decide) (hq _ wt_745) (fun _ h9 => h9) rfl dMo_step_218 ?_
                          refine lv_iconst (v := 1) hx hb dMo_step_221 (by decide) ?_
                          refine lv_aload_n hx hb dMo_step_222 rfl (lv_at hl 8 rfl) ?_
                          refine va_get (D := (dC, dI)) (ci := 8) (v := .ref h0_hand) (C := "StepCourtModel") (T := TMo) (N := 35) hx hb hq inMo hown hK hP 0 rfl rfl 11 (by decide) (hq _ wt_745) (fun _ h9 => h9) rfl dMo_step_223 ?_
                          refine lv_iload hx hb dMo_step_226 (lv_at hl 1 rfl) ?_
                          obtain ⟨hh381, hw⟩ := hw
                          refine va_iald hx hb hK hP 4 3 rfl rfl hh381 dMo_step_228 ?_
                          refine lv_topi (fun f382 ef382 => ?_)
                          have hw := hw f382 ef382
                          refine va_iast hx hb hK hP hD hS 4 3 rfl rfl (show ¬ ((1 : Int32) < 0 ∨ 13 ≤ (1 : Int32).toNatClampNeg) by decide) dMo_step_229 (fun H locs hP hD hS => ?_)
                          have hP : va_P (dC, dI) vwCl [(h0, ce_Mo h0_op h0_argument h0_balance h0_inbox h0_real h0_hand h0_payee h0_paid h0_drawn h0_challenger h0_low h0_high h0_agreed h0_disputed h0_posted h0_middle h0_deadline h0_running h0_node h0_side u.1), (h0_op, .inl (c0_op, 16, .inl u.2.1)), (h0_argument, .inl (c0_argument, 16, .inl u.2.2.1)), (h0_inbox, .inl (c0_inbox, 60, .inl u.2.2.2.1)), (h0_hand, .inl (c0_hand, 13, .inl (upd u.2.2.2.2 1 f382)))] H := hP
                          have hD : va_D A [(h0, ce_Mo h0_op h0_argument h0_balance h0_inbox h0_real h0_hand h0_payee h0_paid h0_drawn h0_challenger h0_low h0_high h0_agreed h0_disputed h0_posted h0_middle h0_deadline h0_running h0_node h0_side u.1), (h0_op, .inl (c0_op, 16, .inl u.2.1)), (h0_argument, .inl (c0_argument, 16, .inl u.2.2.1)), (h0_inbox, .inl (c0_inbox, 60, .inl u.2.2.2.1)), (h0_hand, .inl (c0_hand, 13, .inl (upd u.2.2.2.2 1 f382)))] := hD
                          refine lv_goto (tgt := 362) hx hb dMo_step_230 (by decide) ?_
                          refine lv_aload_n hx hb dMo_step_362 rfl (lv_at hl 8 rfl) ?_
                          refine va_get (D := (dC, dI)) (ci := 8) (v := .ref h0_hand) (C := "StepCourtModel") (T := TMo) (N := 35) hx hb hq inMo hown hK hP 0 rfl rfl 11 (by decide) (hq _ wt_745) (fun _ h9 => h9) rfl dMo_step_363 ?_
                          refine lv_iconst (v := 0) hx hb dMo_step_366 (by decide) ?_
                          refine lv_iload hx hb dMo_step_367 (lv_at hl 0 rfl) ?_
                          refine lv_if_eq (tgt := 376) hx hb dMo_step_369 (by decide) (fun cc383 => ?_) (fun cc383 => ?_)
                          · have hw := hw
                            refine lv_iload hx hb dMo_step_376 (lv_at hl 4 rfl) ?_
                            refine va_iast hx hb hK hP hD hS 4 3 rfl rfl (show ¬ ((0 : Int32) < 0 ∨ 13 ≤ (0 : Int32).toNatClampNeg) by decide) dMo_step_378 (fun H locs hP hD hS => ?_)
                            have hP : va_P (dC, dI) vwCl [(h0, ce_Mo h0_op h0_argument h0_balance h0_inbox h0_real h0_hand h0_payee h0_paid h0_drawn h0_challenger h0_low h0_high h0_agreed h0_disputed h0_posted h0_middle h0_deadline h0_running h0_node h0_side u.1), (h0_op, .inl (c0_op, 16, .inl u.2.1)), (h0_argument, .inl (c0_argument, 16, .inl u.2.2.1)), (h0_inbox, .inl (c0_inbox, 60, .inl u.2.2.2.1)), (h0_hand, .inl (c0_hand, 13, .inl (upd (upd u.2.2.2.2 1 f382) 0 y6)))] H := hP
                            have hD : va_D A [(h0, ce_Mo h0_op h0_argument h0_balance h0_inbox h0_real h0_hand h0_payee h0_paid h0_drawn h0_challenger h0_low h0_high h0_agreed h0_disputed h0_posted h0_middle h0_deadline h0_running h0_node h0_side u.1), (h0_op, .inl (c0_op, 16, .inl u.2.1)), (h0_argument, .inl (c0_argument, 16, .inl u.2.2.1)), (h0_inbox, .inl (c0_inbox, 60, .inl u.2.2.2.1)), (h0_hand, .inl (c0_hand, 13, .inl (upd (upd u.2.2.2.2 1 f382) 0 y6)))] := hD
                            have hP9 := hP.sub (ws' := [(h0, ce_Mo h0_op h0_argument h0_balance h0_inbox h0_real h0_hand h0_payee h0_paid h0_drawn h0_challenger h0_low h0_high h0_agreed h0_disputed h0_posted h0_middle h0_deadline h0_running h0_node h0_side u.1), (h0_op, .inl (c0_op, 16, .inl u.2.1)), (h0_argument, .inl (c0_argument, 16, .inl u.2.2.1)), (h0_inbox, .inl (c0_inbox, 60, .inl u.2.2.2.1)), (h0_hand, .inl (c0_hand, 13, .inl (upd (upd u.2.2.2.2 1 f382) 0 y6)))]) [0, 1, 2, 3, 4] rfl
                            have hD9 := hD.sub (ws' := [(h0, ce_Mo h0_op h0_argument h0_balance h0_inbox h0_real h0_hand h0_payee h0_paid h0_drawn h0_challenger h0_low h0_high h0_agreed h0_disputed h0_posted h0_middle h0_deadline h0_running h0_node h0_side u.1), (h0_op, .inl (c0_op, 16, .inl u.2.1)), (h0_argument, .inl (c0_argument, 16, .inl u.2.2.1)), (h0_inbox, .inl (c0_inbox, 60, .inl u.2.2.2.1)), (h0_hand, .inl (c0_hand, 13, .inl (upd (upd u.2.2.2.2 1 f382) 0 y6)))]) [0, 1, 2, 3, 4] (by decide) rfl
                            have hK9 := hK.sub (tys' := [(c0_op, .int), (c0_argument, .int), (c0_inbox, .int), (c0_hand, .int)]) [0, 1, 2, 3] rfl
                            exact W.vret hx hb hr (fun t ht hW => ⟨⟨(u.1, u.2.1, u.2.2.1, u.2.2.2.1, (upd (upd u.2.2.2.2 1 f382) 0 y6)), rfl, hw, by rw [ht]; exact hP9, va_K.moved hW.alike hK9, hD9⟩, hS.F ht⟩) hS.2.2 dMo_step_379
                          · first | exact absurd cc383 (by decide) | exact (cc383 (by decide)).elim
                      · have hw := hw.2 cc345
                        refine lv_aload_n hx hb dMo_step_171 rfl (lv_at hl 8 rfl) ?_
                        refine va_get (D := (dC, dI)) (ci := 8) (v := .ref h0_hand) (C := "StepCourtModel") (T := TMo) (N := 35) hx hb hq inMo hown hK hP 0 rfl rfl 11 (by decide) (hq _ wt_745) (fun _ h9 => h9) rfl dMo_step_172 ?_
                        refine lv_iconst (v := 1) hx hb dMo_step_175 (by decide) ?_
                        refine lv_iload_n hx hb dMo_step_176 rfl (lv_at hl 6 rfl) ?_
                        refine lv_iconst (v := 4) hx hb dMo_step_177 (by decide) ?_
                        refine lv_icmp_ne (tgt := 189) hx hb dMo_step_178 (by decide) (fun cc384 => ?_) (fun cc384 => ?_)
                        · have hw := hw.2 cc384
                          refine lv_iload_n hx hb dMo_step_189 rfl (lv_at hl 6 rfl) ?_
                          refine lv_iconst (v := 5) hx hb dMo_step_190 (by decide) ?_
                          refine lv_icmp_ne (tgt := 202) hx hb dMo_step_191 (by decide) (fun cc385 => ?_) (fun cc385 => ?_)
                          · have hw := hw.2 cc385
                            refine lv_iload hx hb dMo_step_202 (lv_at hl 3 rfl) ?_
                            refine lv_iload hx hb dMo_step_204 (lv_at hl 2 rfl) ?_
                            refine lv_imul hx hb dMo_step_206 ?_
                            refine lv_topi (fun f386 ef386 => ?_)
                            have hw := hw f386 ef386
                            refine va_iast hx hb hK hP hD hS 4 3 rfl rfl (show ¬ ((1 : Int32) < 0 ∨ 13 ≤ (1 : Int32).toNatClampNeg) by decide) dMo_step_207 (fun H locs hP hD hS => ?_)
                            have hP : va_P (dC, dI) vwCl [(h0, ce_Mo h0_op h0_argument h0_balance h0_inbox h0_real h0_hand h0_payee h0_paid h0_drawn h0_challenger h0_low h0_high h0_agreed h0_disputed h0_posted h0_middle h0_deadline h0_running h0_node h0_side u.1), (h0_op, .inl (c0_op, 16, .inl u.2.1)), (h0_argument, .inl (c0_argument, 16, .inl u.2.2.1)), (h0_inbox, .inl (c0_inbox, 60, .inl u.2.2.2.1)), (h0_hand, .inl (c0_hand, 13, .inl (upd u.2.2.2.2 1 f386)))] H := hP
                            have hD : va_D A [(h0, ce_Mo h0_op h0_argument h0_balance h0_inbox h0_real h0_hand h0_payee h0_paid h0_drawn h0_challenger h0_low h0_high h0_agreed h0_disputed h0_posted h0_middle h0_deadline h0_running h0_node h0_side u.1), (h0_op, .inl (c0_op, 16, .inl u.2.1)), (h0_argument, .inl (c0_argument, 16, .inl u.2.2.1)), (h0_inbox, .inl (c0_inbox, 60, .inl u.2.2.2.1)), (h0_hand, .inl (c0_hand, 13, .inl (upd u.2.2.2.2 1 f386)))] := hD
                            refine lv_goto (tgt := 362) hx hb dMo_step_208 (by decide) ?_
                            refine lv_aload_n hx hb dMo_step_362 rfl (lv_at hl 8 rfl) ?_
                            refine va_get (D := (dC, dI)) (ci := 8) (v := .ref h0_hand) (C := "StepCourtModel") (T := TMo) (N := 35) hx hb hq inMo hown hK hP 0 rfl rfl 11 (by decide) (hq _ wt_745) (fun _ h9 => h9) rfl dMo_step_363 ?_
                            refine lv_iconst (v := 0) hx hb dMo_step_366 (by decide) ?_
                            refine lv_iload hx hb dMo_step_367 (lv_at hl 0 rfl) ?_
                            refine lv_if_eq (tgt := 376) hx hb dMo_step_369 (by decide) (fun cc387 => ?_) (fun cc387 => ?_)
                            · have hw := hw
                              refine lv_iload hx hb dMo_step_376 (lv_at hl 4 rfl) ?_
                              refine va_iast hx hb hK hP hD hS 4 3 rfl rfl (show ¬ ((0 : Int32) < 0 ∨ 13 ≤ (0 : Int32).toNatClampNeg) by decide) dMo_step_378 (fun H locs hP hD hS => ?_)
                              have hP : va_P (dC, dI) vwCl [(h0, ce_Mo h0_op h0_argument h0_balance h0_inbox h0_real h0_hand h0_payee h0_paid h0_drawn h0_challenger h0_low h0_high h0_agreed h0_disputed h0_posted h0_middle h0_deadline h0_running h0_node h0_side u.1), (h0_op, .inl (c0_op, 16, .inl u.2.1)), (h0_argument, .inl (c0_argument, 16, .inl u.2.2.1)), (h0_inbox, .inl (c0_inbox, 60, .inl u.2.2.2.1)), (h0_hand, .inl (c0_hand, 13, .inl (upd (upd u.2.2.2.2 1 f386) 0 y6)))] H := hP
                              have hD : va_D A [(h0, ce_Mo h0_op h0_argument h0_balance h0_inbox h0_real h0_hand h0_payee h0_paid h0_drawn h0_challenger h0_low h0_high h0_agreed h0_disputed h0_posted h0_middle h0_deadline h0_running h0_node h0_side u.1), (h0_op, .inl (c0_op, 16, .inl u.2.1)), (h0_argument, .inl (c0_argument, 16, .inl u.2.2.1)), (h0_inbox, .inl (c0_inbox, 60, .inl u.2.2.2.1)), (h0_hand, .inl (c0_hand, 13, .inl (upd (upd u.2.2.2.2 1 f386) 0 y6)))] := hD
                              have hP9 := hP.sub (ws' := [(h0, ce_Mo h0_op h0_argument h0_balance h0_inbox h0_real h0_hand h0_payee h0_paid h0_drawn h0_challenger h0_low h0_high h0_agreed h0_disputed h0_posted h0_middle h0_deadline h0_running h0_node h0_side u.1), (h0_op, .inl (c0_op, 16, .inl u.2.1)), (h0_argument, .inl (c0_argument, 16, .inl u.2.2.1)), (h0_inbox, .inl (c0_inbox, 60, .inl u.2.2.2.1)), (h0_hand, .inl (c0_hand, 13, .inl (upd (upd u.2.2.2.2 1 f386) 0 y6)))]) [0, 1, 2, 3, 4] rfl
                              have hD9 := hD.sub (ws' := [(h0, ce_Mo h0_op h0_argument h0_balance h0_inbox h0_real h0_hand h0_payee h0_paid h0_drawn h0_challenger h0_low h0_high h0_agreed h0_disputed h0_posted h0_middle h0_deadline h0_running h0_node h0_side u.1), (h0_op, .inl (c0_op, 16, .inl u.2.1)), (h0_argument, .inl (c0_argument, 16, .inl u.2.2.1)), (h0_inbox, .inl (c0_inbox, 60, .inl u.2.2.2.1)), (h0_hand, .inl (c0_hand, 13, .inl (upd (upd u.2.2.2.2 1 f386) 0 y6)))]) [0, 1, 2, 3, 4] (by decide) rfl
                              have hK9 := hK.sub (tys' := [(c0_op, .int), (c0_argument, .int), (c0_inbox, .int), (c0_hand, .int)]) [0, 1, 2, 3] rfl
                              exact W.vret hx hb hr (fun t ht hW => ⟨⟨(u.1, u.2.1, u.2.2.1, u.2.2.2.1, (upd (upd u.2.2.2.2 1 f386) 0 y6)), rfl, hw, by rw [ht]; exact hP9, va_K.moved hW.alike hK9, hD9⟩, hS.F ht⟩) hS.2.2 dMo_step_379
                            · first | exact absurd cc387 (by decide) | exact (cc387 (by decide)).elim
                          · have hw := hw.1 cc385
                            refine lv_iload hx hb dMo_step_194 (lv_at hl 3 rfl) ?_
                            refine lv_iload hx hb dMo_step_196 (lv_at hl 2 rfl) ?_
                            refine lv_isub hx hb dMo_step_198 ?_
                            refine lv_goto (tgt := 207) hx hb dMo_step_199 (by decide) ?_
                            refine lv_topi (fun f388 ef388 => ?_)
                            have hw := hw f388 ef388
                            refine va_iast hx hb hK hP hD hS 4 3 rfl rfl (show ¬ ((1 : Int32) < 0 ∨ 13 ≤ (1 : Int32).toNatClampNeg) by decide) dMo_step_207 (fun H locs hP hD hS => ?_)
                            have hP : va_P (dC, dI) vwCl [(h0, ce_Mo h0_op h0_argument h0_balance h0_inbox h0_real h0_hand h0_payee h0_paid h0_drawn h0_challenger h0_low h0_high h0_agreed h0_disputed h0_posted h0_middle h0_deadline h0_running h0_node h0_side u.1), (h0_op, .inl (c0_op, 16, .inl u.2.1)), (h0_argument, .inl (c0_argument, 16, .inl u.2.2.1)), (h0_inbox, .inl (c0_inbox, 60, .inl u.2.2.2.1)), (h0_hand, .inl (c0_hand, 13, .inl (upd u.2.2.2.2 1 f388)))] H := hP
                            have hD : va_D A [(h0, ce_Mo h0_op h0_argument h0_balance h0_inbox h0_real h0_hand h0_payee h0_paid h0_drawn h0_challenger h0_low h0_high h0_agreed h0_disputed h0_posted h0_middle h0_deadline h0_running h0_node h0_side u.1), (h0_op, .inl (c0_op, 16, .inl u.2.1)), (h0_argument, .inl (c0_argument, 16, .inl u.2.2.1)), (h0_inbox, .inl (c0_inbox, 60, .inl u.2.2.2.1)), (h0_hand, .inl (c0_hand, 13, .inl (upd u.2.2.2.2 1 f388)))] := hD
                            refine lv_goto (tgt := 362) hx hb dMo_step_208 (by decide) ?_
                            refine lv_aload_n hx hb dMo_step_362 rfl (lv_at hl 8 rfl) ?_
                            refine va_get (D := (dC, dI)) (ci := 8) (v := .ref h0_hand) (C := "StepCourtModel") (T := TMo) (N := 35) hx hb hq inMo hown hK hP 0 rfl rfl 11 (by decide) (hq _ wt_745) (fun _ h9 => h9) rfl dMo_step_363 ?_
                            refine lv_iconst (v := 0) hx hb dMo_step_366 (by decide) ?_
                            refine lv_iload hx hb dMo_step_367 (lv_at hl 0 rfl) ?_
                            refine lv_if_eq (tgt := 376) hx hb dMo_step_369 (by decide) (fun cc389 => ?_) (fun cc389 => ?_)
                            · have hw := hw
                              refine lv_iload hx hb dMo_step_376 (lv_at hl 4 rfl) ?_
                              refine va_iast hx hb hK hP hD hS 4 3 rfl rfl (show ¬ ((0 : Int32) < 0 ∨ 13 ≤ (0 : Int32).toNatClampNeg) by decide) dMo_step_378 (fun H locs hP hD hS => ?_)
                              have hP : va_P (dC, dI) vwCl [(h0, ce_Mo h0_op h0_argument h0_balance h0_inbox h0_real h0_hand h0_payee h0_paid h0_drawn h0_challenger h0_low h0_high h0_agreed h0_disputed h0_posted h0_middle h0_deadline h0_running h0_node h0_side u.1), (h0_op, .inl (c0_op, 16, .inl u.2.1)), (h0_argument, .inl (c0_argument, 16, .inl u.2.2.1)), (h0_inbox, .inl (c0_inbox, 60, .inl u.2.2.2.1)), (h0_hand, .inl (c0_hand, 13, .inl (upd (upd u.2.2.2.2 1 f388) 0 y6)))] H := hP
                              have hD : va_D A [(h0, ce_Mo h0_op h0_argument h0_balance h0_inbox h0_real h0_hand h0_payee h0_paid h0_drawn h0_challenger h0_low h0_high h0_agreed h0_disputed h0_posted h0_middle h0_deadline h0_running h0_node h0_side u.1), (h0_op, .inl (c0_op, 16, .inl u.2.1)), (h0_argument, .inl (c0_argument, 16, .inl u.2.2.1)), (h0_inbox, .inl (c0_inbox, 60, .inl u.2.2.2.1)), (h0_hand, .inl (c0_hand, 13, .inl (upd (upd u.2.2.2.2 1 f388) 0 y6)))] := hD
                              have hP9 := hP.sub (ws' := [(h0, ce_Mo h0_op h0_argument h0_balance h0_inbox h0_real h0_hand h0_payee h0_paid h0_drawn h0_challenger h0_low h0_high h0_agreed h0_disputed h0_posted h0_middle h0_deadline h0_running h0_node h0_side u.1), (h0_op, .inl (c0_op, 16, .inl u.2.1)), (h0_argument, .inl (c0_argument, 16, .inl u.2.2.1)), (h0_inbox, .inl (c0_inbox, 60, .inl u.2.2.2.1)), (h0_hand, .inl (c0_hand, 13, .inl (upd (upd u.2.2.2.2 1 f388) 0 y6)))]) [0, 1, 2, 3, 4] rfl
                              have hD9 := hD.sub (ws' := [(h0, ce_Mo h0_op h0_argument h0_balance h0_inbox h0_real h0_hand h0_payee h0_paid h0_drawn h0_challenger h0_low h0_high h0_agreed h0_disputed h0_posted h0_middle h0_deadline h0_running h0_node h0_side u.1), (h0_op, .inl (c0_op, 16, .inl u.2.1)), (h0_argument, .inl (c0_argument, 16, .inl u.2.2.1)), (h0_inbox, .inl (c0_inbox, 60, .inl u.2.2.2.1)), (h0_hand, .inl (c0_hand, 13, .inl (upd (upd u.2.2.2.2 1 f388) 0 y6)))]) [0, 1, 2, 3, 4] (by decide) rfl
                              have hK9 := hK.sub (tys' := [(c0_op, .int), (c0_argument, .int), (c0_inbox, .int), (c0_hand, .int)]) [0, 1, 2, 3] rfl
                              exact W.vret hx hb hr (fun t ht hW => ⟨⟨(u.1, u.2.1, u.2.2.1, u.2.2.2.1, (upd (upd u.2.2.2.2 1 f388) 0 y6)), rfl, hw, by rw [ht]; exact hP9, va_K.moved hW.alike hK9, hD9⟩, hS.F ht⟩) hS.2.2 dMo_step_379
                            · first | exact absurd cc389 (by decide) | exact (cc389 (by decide)).elim
                        · have hw := hw.1 cc384
                          refine lv_iload hx hb dMo_step_181 (lv_at hl 3 rfl) ?_
                          refine lv_iload hx hb dMo_step_183 (lv_at hl 2 rfl) ?_
                          refine lv_iadd hx hb dMo_step_185 ?_
                          refine lv_goto (tgt := 207) hx hb dMo_step_186 (by decide) ?_
                          refine lv_topi (fun f390 ef390 => ?_)
                          have hw := hw f390 ef390
                          refine va_iast hx hb hK hP hD hS 4 3 rfl rfl (show ¬ ((1 : Int32) < 0 ∨ 13 ≤ (1 : Int32).toNatClampNeg) by decide) dMo_step_207 (fun H locs hP hD hS => ?_)
                          have hP : va_P (dC, dI) vwCl [(h0, ce_Mo h0_op h0_argument h0_balance h0_inbox h0_real h0_hand h0_payee h0_paid h0_drawn h0_challenger h0_low h0_high h0_agreed h0_disputed h0_posted h0_middle h0_deadline h0_running h0_node h0_side u.1), (h0_op, .inl (c0_op, 16, .inl u.2.1)), (h0_argument, .inl (c0_argument, 16, .inl u.2.2.1)), (h0_inbox, .inl (c0_inbox, 60, .inl u.2.2.2.1)), (h0_hand, .inl (c0_hand, 13, .inl (upd u.2.2.2.2 1 f390)))] H := hP
                          have hD : va_D A [(h0, ce_Mo h0_op h0_argument h0_balance h0_inbox h0_real h0_hand h0_payee h0_paid h0_drawn h0_challenger h0_low h0_high h0_agreed h0_disputed h0_posted h0_middle h0_deadline h0_running h0_node h0_side u.1), (h0_op, .inl (c0_op, 16, .inl u.2.1)), (h0_argument, .inl (c0_argument, 16, .inl u.2.2.1)), (h0_inbox, .inl (c0_inbox, 60, .inl u.2.2.2.1)), (h0_hand, .inl (c0_hand, 13, .inl (upd u.2.2.2.2 1 f390)))] := hD
                          refine lv_goto (tgt := 362) hx hb dMo_step_208 (by decide) ?_
                          refine lv_aload_n hx hb dMo_step_362 rfl (lv_at hl 8 rfl) ?_
                          refine va_get (D := (dC, dI)) (ci := 8) (v := .ref h0_hand) (C := "StepCourtModel") (T := TMo) (N := 35) hx hb hq inMo hown hK hP 0 rfl rfl 11 (by decide) (hq _ wt_745) (fun _ h9 => h9) rfl dMo_step_363 ?_
                          refine lv_iconst (v := 0) hx hb dMo_step_366 (by decide) ?_
                          refine lv_iload hx hb dMo_step_367 (lv_at hl 0 rfl) ?_
                          refine lv_if_eq (tgt := 376) hx hb dMo_step_369 (by decide) (fun cc391 => ?_) (fun cc391 => ?_)
                          · have hw := hw
                            refine lv_iload hx hb dMo_step_376 (lv_at hl 4 rfl) ?_
                            refine va_iast hx hb hK hP hD hS 4 3 rfl rfl (show ¬ ((0 : Int32) < 0 ∨ 13 ≤ (0 : Int32).toNatClampNeg) by decide) dMo_step_378 (fun H locs hP hD hS => ?_)
                            have hP : va_P (dC, dI) vwCl [(h0, ce_Mo h0_op h0_argument h0_balance h0_inbox h0_real h0_hand h0_payee h0_paid h0_drawn h0_challenger h0_low h0_high h0_agreed h0_disputed h0_posted h0_middle h0_deadline h0_running h0_node h0_side u.1), (h0_op, .inl (c0_op, 16, .inl u.2.1)), (h0_argument, .inl (c0_argument, 16, .inl u.2.2.1)), (h0_inbox, .inl (c0_inbox, 60, .inl u.2.2.2.1)), (h0_hand, .inl (c0_hand, 13, .inl (upd (upd u.2.2.2.2 1 f390) 0 y6)))] H := hP
                            have hD : va_D A [(h0, ce_Mo h0_op h0_argument h0_balance h0_inbox h0_real h0_hand h0_payee h0_paid h0_drawn h0_challenger h0_low h0_high h0_agreed h0_disputed h0_posted h0_middle h0_deadline h0_running h0_node h0_side u.1), (h0_op, .inl (c0_op, 16, .inl u.2.1)), (h0_argument, .inl (c0_argument, 16, .inl u.2.2.1)), (h0_inbox, .inl (c0_inbox, 60, .inl u.2.2.2.1)), (h0_hand, .inl (c0_hand, 13, .inl (upd (upd u.2.2.2.2 1 f390) 0 y6)))] := hD
                            have hP9 := hP.sub (ws' := [(h0, ce_Mo h0_op h0_argument h0_balance h0_inbox h0_real h0_hand h0_payee h0_paid h0_drawn h0_challenger h0_low h0_high h0_agreed h0_disputed h0_posted h0_middle h0_deadline h0_running h0_node h0_side u.1), (h0_op, .inl (c0_op, 16, .inl u.2.1)), (h0_argument, .inl (c0_argument, 16, .inl u.2.2.1)), (h0_inbox, .inl (c0_inbox, 60, .inl u.2.2.2.1)), (h0_hand, .inl (c0_hand, 13, .inl (upd (upd u.2.2.2.2 1 f390) 0 y6)))]) [0, 1, 2, 3, 4] rfl
                            have hD9 := hD.sub (ws' := [(h0, ce_Mo h0_op h0_argument h0_balance h0_inbox h0_real h0_hand h0_payee h0_paid h0_drawn h0_challenger h0_low h0_high h0_agreed h0_disputed h0_posted h0_middle h0_deadline h0_running h0_node h0_side u.1), (h0_op, .inl (c0_op, 16, .inl u.2.1)), (h0_argument, .inl (c0_argument, 16, .inl u.2.2.1)), (h0_inbox, .inl (c0_inbox, 60, .inl u.2.2.2.1)), (h0_hand, .inl (c0_hand, 13, .inl (upd (upd u.2.2.2.2 1 f390) 0 y6)))]) [0, 1, 2, 3, 4] (by decide) rfl
                            have hK9 := hK.sub (tys' := [(c0_op, .int), (c0_argument, .int), (c0_inbox, .int), (c0_hand, .int)]) [0, 1, 2, 3] rfl
                            exact W.vret hx hb hr (fun t ht hW => ⟨⟨(u.1, u.2.1, u.2.2.1, u.2.2.2.1, (upd (upd u.2.2.2.2 1 f390) 0 y6)), rfl, hw, by rw [ht]; exact hP9, va_K.moved hW.alike hK9, hD9⟩, hS.F ht⟩) hS.2.2 dMo_step_379
                          · first | exact absurd cc391 (by decide) | exact (cc391 (by decide)).elim
                  · have hw := hw.1 cc305
                    refine lv_aload_n hx hb dMo_step_141 rfl (lv_at hl 8 rfl) ?_
                    refine va_get (D := (dC, dI)) (ci := 8) (v := .ref h0_hand) (C := "StepCourtModel") (T := TMo) (N := 35) hx hb hq inMo hown hK hP 0 rfl rfl 11 (by decide) (hq _ wt_745) (fun _ h9 => h9) rfl dMo_step_142 ?_
                    refine lv_iconst (v := 1) hx hb dMo_step_145 (by decide) ?_
                    refine lv_iload hx hb dMo_step_146 (lv_at hl 2 rfl) ?_
                    refine va_iast hx hb hK hP hD hS 4 3 rfl rfl (show ¬ ((1 : Int32) < 0 ∨ 13 ≤ (1 : Int32).toNatClampNeg) by decide) dMo_step_148 (fun H locs hP hD hS => ?_)
                    have hP : va_P (dC, dI) vwCl [(h0, ce_Mo h0_op h0_argument h0_balance h0_inbox h0_real h0_hand h0_payee h0_paid h0_drawn h0_challenger h0_low h0_high h0_agreed h0_disputed h0_posted h0_middle h0_deadline h0_running h0_node h0_side u.1), (h0_op, .inl (c0_op, 16, .inl u.2.1)), (h0_argument, .inl (c0_argument, 16, .inl u.2.2.1)), (h0_inbox, .inl (c0_inbox, 60, .inl u.2.2.2.1)), (h0_hand, .inl (c0_hand, 13, .inl (upd u.2.2.2.2 1 y8)))] H := hP
                    have hD : va_D A [(h0, ce_Mo h0_op h0_argument h0_balance h0_inbox h0_real h0_hand h0_payee h0_paid h0_drawn h0_challenger h0_low h0_high h0_agreed h0_disputed h0_posted h0_middle h0_deadline h0_running h0_node h0_side u.1), (h0_op, .inl (c0_op, 16, .inl u.2.1)), (h0_argument, .inl (c0_argument, 16, .inl u.2.2.1)), (h0_inbox, .inl (c0_inbox, 60, .inl u.2.2.2.1)), (h0_hand, .inl (c0_hand, 13, .inl (upd u.2.2.2.2 1 y8)))] := hD
                    refine lv_aload_n hx hb dMo_step_149 rfl (lv_at hl 8 rfl) ?_
                    refine va_get (D := (dC, dI)) (ci := 8) (v := .ref h0_hand) (C := "StepCourtModel") (T := TMo) (N := 35) hx hb hq inMo hown hK hP 0 rfl rfl 11 (by decide) (hq _ wt_745) (fun _ h9 => h9) rfl dMo_step_150 ?_
                    refine lv_iconst (v := 2) hx hb dMo_step_153 (by decide) ?_
                    refine lv_iload hx hb dMo_step_154 (lv_at hl 3 rfl) ?_
                    refine va_iast hx hb hK hP hD hS 4 3 rfl rfl (show ¬ ((2 : Int32) < 0 ∨ 13 ≤ (2 : Int32).toNatClampNeg) by decide) dMo_step_156 (fun H locs hP hD hS => ?_)
                    have hP : va_P (dC, dI) vwCl [(h0, ce_Mo h0_op h0_argument h0_balance h0_inbox h0_real h0_hand h0_payee h0_paid h0_drawn h0_challenger h0_low h0_high h0_agreed h0_disputed h0_posted h0_middle h0_deadline h0_running h0_node h0_side u.1), (h0_op, .inl (c0_op, 16, .inl u.2.1)), (h0_argument, .inl (c0_argument, 16, .inl u.2.2.1)), (h0_inbox, .inl (c0_inbox, 60, .inl u.2.2.2.1)), (h0_hand, .inl (c0_hand, 13, .inl (upd (upd u.2.2.2.2 1 y8) 2 y7)))] H := hP
                    have hD : va_D A [(h0, ce_Mo h0_op h0_argument h0_balance h0_inbox h0_real h0_hand h0_payee h0_paid h0_drawn h0_challenger h0_low h0_high h0_agreed h0_disputed h0_posted h0_middle h0_deadline h0_running h0_node h0_side u.1), (h0_op, .inl (c0_op, 16, .inl u.2.1)), (h0_argument, .inl (c0_argument, 16, .inl u.2.2.1)), (h0_inbox, .inl (c0_inbox, 60, .inl u.2.2.2.1)), (h0_hand, .inl (c0_hand, 13, .inl (upd (upd u.2.2.2.2 1 y8) 2 y7)))] := hD
                    refine lv_goto (tgt := 362) hx hb dMo_step_157 (by decide) ?_
                    refine lv_aload_n hx hb dMo_step_362 rfl (lv_at hl 8 rfl) ?_
                    refine va_get (D := (dC, dI)) (ci := 8) (v := .ref h0_hand) (C := "StepCourtModel") (T := TMo) (N := 35) hx hb hq inMo hown hK hP 0 rfl rfl 11 (by decide) (hq _ wt_745) (fun _ h9 => h9) rfl dMo_step_363 ?_
                    refine lv_iconst (v := 0) hx hb dMo_step_366 (by decide) ?_
                    refine lv_iload hx hb dMo_step_367 (lv_at hl 0 rfl) ?_
                    refine lv_if_eq (tgt := 376) hx hb dMo_step_369 (by decide) (fun cc392 => ?_) (fun cc392 => ?_)
                    · have hw := hw
                      refine lv_iload hx hb dMo_step_376 (lv_at hl 4 rfl) ?_
                      refine va_iast hx hb hK hP hD hS 4 3 rfl rfl (show ¬ ((0 : Int32) < 0 ∨ 13 ≤ (0 : Int32).toNatClampNeg) by decide) dMo_step_378 (fun H locs hP hD hS => ?_)
                      have hP : va_P (dC, dI) vwCl [(h0, ce_Mo h0_op h0_argument h0_balance h0_inbox h0_real h0_hand h0_payee h0_paid h0_drawn h0_challenger h0_low h0_high h0_agreed h0_disputed h0_posted h0_middle h0_deadline h0_running h0_node h0_side u.1), (h0_op, .inl (c0_op, 16, .inl u.2.1)), (h0_argument, .inl (c0_argument, 16, .inl u.2.2.1)), (h0_inbox, .inl (c0_inbox, 60, .inl u.2.2.2.1)), (h0_hand, .inl (c0_hand, 13, .inl (upd (upd (upd u.2.2.2.2 1 y8) 2 y7) 0 y6)))] H := hP
                      have hD : va_D A [(h0, ce_Mo h0_op h0_argument h0_balance h0_inbox h0_real h0_hand h0_payee h0_paid h0_drawn h0_challenger h0_low h0_high h0_agreed h0_disputed h0_posted h0_middle h0_deadline h0_running h0_node h0_side u.1), (h0_op, .inl (c0_op, 16, .inl u.2.1)), (h0_argument, .inl (c0_argument, 16, .inl u.2.2.1)), (h0_inbox, .inl (c0_inbox, 60, .inl u.2.2.2.1)), (h0_hand, .inl (c0_hand, 13, .inl (upd (upd (upd u.2.2.2.2 1 y8) 2 y7) 0 y6)))] := hD
                      have hP9 := hP.sub (ws' := [(h0, ce_Mo h0_op h0_argument h0_balance h0_inbox h0_real h0_hand h0_payee h0_paid h0_drawn h0_challenger h0_low h0_high h0_agreed h0_disputed h0_posted h0_middle h0_deadline h0_running h0_node h0_side u.1), (h0_op, .inl (c0_op, 16, .inl u.2.1)), (h0_argument, .inl (c0_argument, 16, .inl u.2.2.1)), (h0_inbox, .inl (c0_inbox, 60, .inl u.2.2.2.1)), (h0_hand, .inl (c0_hand, 13, .inl (upd (upd (upd u.2.2.2.2 1 y8) 2 y7) 0 y6)))]) [0, 1, 2, 3, 4] rfl
                      have hD9 := hD.sub (ws' := [(h0, ce_Mo h0_op h0_argument h0_balance h0_inbox h0_real h0_hand h0_payee h0_paid h0_drawn h0_challenger h0_low h0_high h0_agreed h0_disputed h0_posted h0_middle h0_deadline h0_running h0_node h0_side u.1), (h0_op, .inl (c0_op, 16, .inl u.2.1)), (h0_argument, .inl (c0_argument, 16, .inl u.2.2.1)), (h0_inbox, .inl (c0_inbox, 60, .inl u.2.2.2.1)), (h0_hand, .inl (c0_hand, 13, .inl (upd (upd (upd u.2.2.2.2 1 y8) 2 y7) 0 y6)))]) [0, 1, 2, 3, 4] (by decide) rfl
                      have hK9 := hK.sub (tys' := [(c0_op, .int), (c0_argument, .int), (c0_inbox, .int), (c0_hand, .int)]) [0, 1, 2, 3] rfl
                      exact W.vret hx hb hr (fun t ht hW => ⟨⟨(u.1, u.2.1, u.2.2.1, u.2.2.2.1, (upd (upd (upd u.2.2.2.2 1 y8) 2 y7) 0 y6)), rfl, hw, by rw [ht]; exact hP9, va_K.moved hW.alike hK9, hD9⟩, hS.F ht⟩) hS.2.2 dMo_step_379
                    · first | exact absurd cc392 (by decide) | exact (cc392 (by decide)).elim
                · have hw := hw.1 cc304
                  refine lv_aload_n hx hb dMo_step_125 rfl (lv_at hl 8 rfl) ?_
                  refine va_get (D := (dC, dI)) (ci := 8) (v := .ref h0_hand) (C := "StepCourtModel") (T := TMo) (N := 35) hx hb hq inMo hown hK hP 0 rfl rfl 11 (by decide) (hq _ wt_745) (fun _ h9 => h9) rfl dMo_step_126 ?_
                  refine lv_iconst (v := 2) hx hb dMo_step_129 (by decide) ?_
                  refine lv_iload hx hb dMo_step_130 (lv_at hl 5 rfl) ?_
                  refine va_iast hx hb hK hP hD hS 4 3 rfl rfl (show ¬ ((2 : Int32) < 0 ∨ 13 ≤ (2 : Int32).toNatClampNeg) by decide) dMo_step_132 (fun H locs hP hD hS => ?_)
                  have hP : va_P (dC, dI) vwCl [(h0, ce_Mo h0_op h0_argument h0_balance h0_inbox h0_real h0_hand h0_payee h0_paid h0_drawn h0_challenger h0_low h0_high h0_agreed h0_disputed h0_posted h0_middle h0_deadline h0_running h0_node h0_side u.1), (h0_op, .inl (c0_op, 16, .inl u.2.1)), (h0_argument, .inl (c0_argument, 16, .inl u.2.2.1)), (h0_inbox, .inl (c0_inbox, 60, .inl u.2.2.2.1)), (h0_hand, .inl (c0_hand, 13, .inl (upd u.2.2.2.2 2 y5)))] H := hP
                  have hD : va_D A [(h0, ce_Mo h0_op h0_argument h0_balance h0_inbox h0_real h0_hand h0_payee h0_paid h0_drawn h0_challenger h0_low h0_high h0_agreed h0_disputed h0_posted h0_middle h0_deadline h0_running h0_node h0_side u.1), (h0_op, .inl (c0_op, 16, .inl u.2.1)), (h0_argument, .inl (c0_argument, 16, .inl u.2.2.1)), (h0_inbox, .inl (c0_inbox, 60, .inl u.2.2.2.1)), (h0_hand, .inl (c0_hand, 13, .inl (upd u.2.2.2.2 2 y5)))] := hD
                  refine lv_goto (tgt := 362) hx hb dMo_step_133 (by decide) ?_
                  refine lv_aload_n hx hb dMo_step_362 rfl (lv_at hl 8 rfl) ?_
                  refine va_get (D := (dC, dI)) (ci := 8) (v := .ref h0_hand) (C := "StepCourtModel") (T := TMo) (N := 35) hx hb hq inMo hown hK hP 0 rfl rfl 11 (by decide) (hq _ wt_745) (fun _ h9 => h9) rfl dMo_step_363 ?_
                  refine lv_iconst (v := 0) hx hb dMo_step_366 (by decide) ?_
                  refine lv_iload hx hb dMo_step_367 (lv_at hl 0 rfl) ?_
                  refine lv_if_eq (tgt := 376) hx hb dMo_step_369 (by decide) (fun cc393 => ?_) (fun cc393 => ?_)
                  · have hw := hw
                    refine lv_iload hx hb dMo_step_376 (lv_at hl 4 rfl) ?_
                    refine va_iast hx hb hK hP hD hS 4 3 rfl rfl (show ¬ ((0 : Int32) < 0 ∨ 13 ≤ (0 : Int32).toNatClampNeg) by decide) dMo_step_378 (fun H locs hP hD hS => ?_)
                    have hP : va_P (dC, dI) vwCl [(h0, ce_Mo h0_op h0_argument h0_balance h0_inbox h0_real h0_hand h0_payee h0_paid h0_drawn h0_challenger h0_low h0_high h0_agreed h0_disputed h0_posted h0_middle h0_deadline h0_running h0_node h0_side u.1), (h0_op, .inl (c0_op, 16, .inl u.2.1)), (h0_argument, .inl (c0_argument, 16, .inl u.2.2.1)), (h0_inbox, .inl (c0_inbox, 60, .inl u.2.2.2.1)), (h0_hand, .inl (c0_hand, 13, .inl (upd (upd u.2.2.2.2 2 y5) 0 y6)))] H := hP
                    have hD : va_D A [(h0, ce_Mo h0_op h0_argument h0_balance h0_inbox h0_real h0_hand h0_payee h0_paid h0_drawn h0_challenger h0_low h0_high h0_agreed h0_disputed h0_posted h0_middle h0_deadline h0_running h0_node h0_side u.1), (h0_op, .inl (c0_op, 16, .inl u.2.1)), (h0_argument, .inl (c0_argument, 16, .inl u.2.2.1)), (h0_inbox, .inl (c0_inbox, 60, .inl u.2.2.2.1)), (h0_hand, .inl (c0_hand, 13, .inl (upd (upd u.2.2.2.2 2 y5) 0 y6)))] := hD
                    have hP9 := hP.sub (ws' := [(h0, ce_Mo h0_op h0_argument h0_balance h0_inbox h0_real h0_hand h0_payee h0_paid h0_drawn h0_challenger h0_low h0_high h0_agreed h0_disputed h0_posted h0_middle h0_deadline h0_running h0_node h0_side u.1), (h0_op, .inl (c0_op, 16, .inl u.2.1)), (h0_argument, .inl (c0_argument, 16, .inl u.2.2.1)), (h0_inbox, .inl (c0_inbox, 60, .inl u.2.2.2.1)), (h0_hand, .inl (c0_hand, 13, .inl (upd (upd u.2.2.2.2 2 y5) 0 y6)))]) [0, 1, 2, 3, 4] rfl
                    have hD9 := hD.sub (ws' := [(h0, ce_Mo h0_op h0_argument h0_balance h0_inbox h0_real h0_hand h0_payee h0_paid h0_drawn h0_challenger h0_low h0_high h0_agreed h0_disputed h0_posted h0_middle h0_deadline h0_running h0_node h0_side u.1), (h0_op, .inl (c0_op, 16, .inl u.2.1)), (h0_argument, .inl (c0_argument, 16, .inl u.2.2.1)), (h0_inbox, .inl (c0_inbox, 60, .inl u.2.2.2.1)), (h0_hand, .inl (c0_hand, 13, .inl (upd (upd u.2.2.2.2 2 y5) 0 y6)))]) [0, 1, 2, 3, 4] (by decide) rfl
                    have hK9 := hK.sub (tys' := [(c0_op, .int), (c0_argument, .int), (c0_inbox, .int), (c0_hand, .int)]) [0, 1, 2, 3] rfl
                    exact W.vret hx hb hr (fun t ht hW => ⟨⟨(u.1, u.2.1, u.2.2.1, u.2.2.2.1, (upd (upd u.2.2.2.2 2 y5) 0 y6)), rfl, hw, by rw [ht]; exact hP9, va_K.moved hW.alike hK9, hD9⟩, hS.F ht⟩) hS.2.2 dMo_step_379
                  · first | exact absurd cc393 (by decide) | exact (cc393 (by decide)).elim
              · have hw := hw.1 cc303
                refine lv_aload_n hx hb dMo_step_109 rfl (lv_at hl 8 rfl) ?_
                refine va_get (D := (dC, dI)) (ci := 8) (v := .ref h0_hand) (C := "StepCourtModel") (T := TMo) (N := 35) hx hb hq inMo hown hK hP 0 rfl rfl 11 (by decide) (hq _ wt_745) (fun _ h9 => h9) rfl dMo_step_110 ?_
                refine lv_iconst (v := 1) hx hb dMo_step_113 (by decide) ?_
                refine lv_iload hx hb dMo_step_114 (lv_at hl 5 rfl) ?_
                refine va_iast hx hb hK hP hD hS 4 3 rfl rfl (show ¬ ((1 : Int32) < 0 ∨ 13 ≤ (1 : Int32).toNatClampNeg) by decide) dMo_step_116 (fun H locs hP hD hS => ?_)
                have hP : va_P (dC, dI) vwCl [(h0, ce_Mo h0_op h0_argument h0_balance h0_inbox h0_real h0_hand h0_payee h0_paid h0_drawn h0_challenger h0_low h0_high h0_agreed h0_disputed h0_posted h0_middle h0_deadline h0_running h0_node h0_side u.1), (h0_op, .inl (c0_op, 16, .inl u.2.1)), (h0_argument, .inl (c0_argument, 16, .inl u.2.2.1)), (h0_inbox, .inl (c0_inbox, 60, .inl u.2.2.2.1)), (h0_hand, .inl (c0_hand, 13, .inl (upd u.2.2.2.2 1 y5)))] H := hP
                have hD : va_D A [(h0, ce_Mo h0_op h0_argument h0_balance h0_inbox h0_real h0_hand h0_payee h0_paid h0_drawn h0_challenger h0_low h0_high h0_agreed h0_disputed h0_posted h0_middle h0_deadline h0_running h0_node h0_side u.1), (h0_op, .inl (c0_op, 16, .inl u.2.1)), (h0_argument, .inl (c0_argument, 16, .inl u.2.2.1)), (h0_inbox, .inl (c0_inbox, 60, .inl u.2.2.2.1)), (h0_hand, .inl (c0_hand, 13, .inl (upd u.2.2.2.2 1 y5)))] := hD
                refine lv_goto (tgt := 362) hx hb dMo_step_117 (by decide) ?_
                refine lv_aload_n hx hb dMo_step_362 rfl (lv_at hl 8 rfl) ?_
                refine va_get (D := (dC, dI)) (ci := 8) (v := .ref h0_hand) (C := "StepCourtModel") (T := TMo) (N := 35) hx hb hq inMo hown hK hP 0 rfl rfl 11 (by decide) (hq _ wt_745) (fun _ h9 => h9) rfl dMo_step_363 ?_
                refine lv_iconst (v := 0) hx hb dMo_step_366 (by decide) ?_
                refine lv_iload hx hb dMo_step_367 (lv_at hl 0 rfl) ?_
                refine lv_if_eq (tgt := 376) hx hb dMo_step_369 (by decide) (fun cc394 => ?_) (fun cc394 => ?_)
                · have hw := hw
                  refine lv_iload hx hb dMo_step_376 (lv_at hl 4 rfl) ?_
                  refine va_iast hx hb hK hP hD hS 4 3 rfl rfl (show ¬ ((0 : Int32) < 0 ∨ 13 ≤ (0 : Int32).toNatClampNeg) by decide) dMo_step_378 (fun H locs hP hD hS => ?_)
                  have hP : va_P (dC, dI) vwCl [(h0, ce_Mo h0_op h0_argument h0_balance h0_inbox h0_real h0_hand h0_payee h0_paid h0_drawn h0_challenger h0_low h0_high h0_agreed h0_disputed h0_posted h0_middle h0_deadline h0_running h0_node h0_side u.1), (h0_op, .inl (c0_op, 16, .inl u.2.1)), (h0_argument, .inl (c0_argument, 16, .inl u.2.2.1)), (h0_inbox, .inl (c0_inbox, 60, .inl u.2.2.2.1)), (h0_hand, .inl (c0_hand, 13, .inl (upd (upd u.2.2.2.2 1 y5) 0 y6)))] H := hP
                  have hD : va_D A [(h0, ce_Mo h0_op h0_argument h0_balance h0_inbox h0_real h0_hand h0_payee h0_paid h0_drawn h0_challenger h0_low h0_high h0_agreed h0_disputed h0_posted h0_middle h0_deadline h0_running h0_node h0_side u.1), (h0_op, .inl (c0_op, 16, .inl u.2.1)), (h0_argument, .inl (c0_argument, 16, .inl u.2.2.1)), (h0_inbox, .inl (c0_inbox, 60, .inl u.2.2.2.1)), (h0_hand, .inl (c0_hand, 13, .inl (upd (upd u.2.2.2.2 1 y5) 0 y6)))] := hD
                  have hP9 := hP.sub (ws' := [(h0, ce_Mo h0_op h0_argument h0_balance h0_inbox h0_real h0_hand h0_payee h0_paid h0_drawn h0_challenger h0_low h0_high h0_agreed h0_disputed h0_posted h0_middle h0_deadline h0_running h0_node h0_side u.1), (h0_op, .inl (c0_op, 16, .inl u.2.1)), (h0_argument, .inl (c0_argument, 16, .inl u.2.2.1)), (h0_inbox, .inl (c0_inbox, 60, .inl u.2.2.2.1)), (h0_hand, .inl (c0_hand, 13, .inl (upd (upd u.2.2.2.2 1 y5) 0 y6)))]) [0, 1, 2, 3, 4] rfl
                  have hD9 := hD.sub (ws' := [(h0, ce_Mo h0_op h0_argument h0_balance h0_inbox h0_real h0_hand h0_payee h0_paid h0_drawn h0_challenger h0_low h0_high h0_agreed h0_disputed h0_posted h0_middle h0_deadline h0_running h0_node h0_side u.1), (h0_op, .inl (c0_op, 16, .inl u.2.1)), (h0_argument, .inl (c0_argument, 16, .inl u.2.2.1)), (h0_inbox, .inl (c0_inbox, 60, .inl u.2.2.2.1)), (h0_hand, .inl (c0_hand, 13, .inl (upd (upd u.2.2.2.2 1 y5) 0 y6)))]) [0, 1, 2, 3, 4] (by decide) rfl
                  have hK9 := hK.sub (tys' := [(c0_op, .int), (c0_argument, .int), (c0_inbox, .int), (c0_hand, .int)]) [0, 1, 2, 3] rfl
                  exact W.vret hx hb hr (fun t ht hW => ⟨⟨(u.1, u.2.1, u.2.2.1, u.2.2.2.1, (upd (upd u.2.2.2.2 1 y5) 0 y6)), rfl, hw, by rw [ht]; exact hP9, va_K.moved hW.alike hK9, hD9⟩, hS.F ht⟩) hS.2.2 dMo_step_379
                · first | exact absurd cc394 (by decide) | exact (cc394 (by decide)).elim
          · have hw := hw.1 cc301
            refine lv_iconst (v := 1) hx hb dMo_step_92 (by decide) ?_
            refine lv_goto (tgt := 97) hx hb dMo_step_93 (by decide) ?_
            refine lv_istore (lv' := [(9, .int 1), (8, .int y9), (7, .int y8), (6, .int y7), (5, .int y6), (4, .int y5), (3, .int y3), (2, .int y1), (0, .ref h0), (1, .int k1)]) hx hb dMo_step_97 hl (by decide) rfl (fun ls hl => ?_)
            refine lv_iload hx hb dMo_step_99 (lv_at hl 0 rfl) ?_
            refine lv_if_ne (tgt := 362) hx hb dMo_step_101 (by decide) (fun cc395 => ?_) (fun cc395 => ?_)
            · have hw := hw
              refine lv_aload_n hx hb dMo_step_362 rfl (lv_at hl 8 rfl) ?_
              refine va_get (D := (dC, dI)) (ci := 8) (v := .ref h0_hand) (C := "StepCourtModel") (T := TMo) (N := 35) hx hb hq inMo hown hK hP 0 rfl rfl 11 (by decide) (hq _ wt_745) (fun _ h9 => h9) rfl dMo_step_363 ?_
              refine lv_iconst (v := 0) hx hb dMo_step_366 (by decide) ?_
              refine lv_iload hx hb dMo_step_367 (lv_at hl 0 rfl) ?_
              refine lv_if_eq (tgt := 376) hx hb dMo_step_369 (by decide) (fun cc396 => ?_) (fun cc396 => ?_)
              · first | exact absurd cc396 (by decide) | exact (cc396 (by decide)).elim
              · have hw := hw
                refine lv_iload_n hx hb dMo_step_372 rfl (lv_at hl 7 rfl) ?_
                refine lv_goto (tgt := 378) hx hb dMo_step_373 (by decide) ?_
                refine va_iast hx hb hK hP hD hS 4 3 rfl rfl (show ¬ ((0 : Int32) < 0 ∨ 13 ≤ (0 : Int32).toNatClampNeg) by decide) dMo_step_378 (fun H locs hP hD hS => ?_)
                have hP : va_P (dC, dI) vwCl [(h0, ce_Mo h0_op h0_argument h0_balance h0_inbox h0_real h0_hand h0_payee h0_paid h0_drawn h0_challenger h0_low h0_high h0_agreed h0_disputed h0_posted h0_middle h0_deadline h0_running h0_node h0_side u.1), (h0_op, .inl (c0_op, 16, .inl u.2.1)), (h0_argument, .inl (c0_argument, 16, .inl u.2.2.1)), (h0_inbox, .inl (c0_inbox, 60, .inl u.2.2.2.1)), (h0_hand, .inl (c0_hand, 13, .inl (upd u.2.2.2.2 0 y1)))] H := hP
                have hD : va_D A [(h0, ce_Mo h0_op h0_argument h0_balance h0_inbox h0_real h0_hand h0_payee h0_paid h0_drawn h0_challenger h0_low h0_high h0_agreed h0_disputed h0_posted h0_middle h0_deadline h0_running h0_node h0_side u.1), (h0_op, .inl (c0_op, 16, .inl u.2.1)), (h0_argument, .inl (c0_argument, 16, .inl u.2.2.1)), (h0_inbox, .inl (c0_inbox, 60, .inl u.2.2.2.1)), (h0_hand, .inl (c0_hand, 13, .inl (upd u.2.2.2.2 0 y1)))] := hD
                have hP9 := hP.sub (ws' := [(h0, ce_Mo h0_op h0_argument h0_balance h0_inbox h0_real h0_hand h0_payee h0_paid h0_drawn h0_challenger h0_low h0_high h0_agreed h0_disputed h0_posted h0_middle h0_deadline h0_running h0_node h0_side u.1), (h0_op, .inl (c0_op, 16, .inl u.2.1)), (h0_argument, .inl (c0_argument, 16, .inl u.2.2.1)), (h0_inbox, .inl (c0_inbox, 60, .inl u.2.2.2.1)), (h0_hand, .inl (c0_hand, 13, .inl (upd u.2.2.2.2 0 y1)))]) [0, 1, 2, 3, 4] rfl
                have hD9 := hD.sub (ws' := [(h0, ce_Mo h0_op h0_argument h0_balance h0_inbox h0_real h0_hand h0_payee h0_paid h0_drawn h0_challenger h0_low h0_high h0_agreed h0_disputed h0_posted h0_middle h0_deadline h0_running h0_node h0_side u.1), (h0_op, .inl (c0_op, 16, .inl u.2.1)), (h0_argument, .inl (c0_argument, 16, .inl u.2.2.1)), (h0_inbox, .inl (c0_inbox, 60, .inl u.2.2.2.1)), (h0_hand, .inl (c0_hand, 13, .inl (upd u.2.2.2.2 0 y1)))]) [0, 1, 2, 3, 4] (by decide) rfl
                have hK9 := hK.sub (tys' := [(c0_op, .int), (c0_argument, .int), (c0_inbox, .int), (c0_hand, .int)]) [0, 1, 2, 3] rfl
                exact W.vret hx hb hr (fun t ht hW => ⟨⟨(u.1, u.2.1, u.2.2.1, u.2.2.2.1, (upd u.2.2.2.2 0 y1)), rfl, hw, by rw [ht]; exact hP9, va_K.moved hW.alike hK9, hD9⟩, hS.F ht⟩) hS.2.2 dMo_step_379
            · first | exact absurd cc395 (by decide) | exact (cc395 (by decide)).elim
