theorem dX2_combine_105 : decode cX2_combine 105 = .ok (.aload_n 0, 1) := by decide +kernel
theorem dX2_combine_106 : decode cX2_combine 106 = .ok (.getfield 33, 3) := by decide +kernel
theorem dX2_combine_109 : decode cX2_combine 109 = .ok (.iload 8, 2) := by decide +kernel
theorem dX2_combine_111 : decode cX2_combine 111 = .ok (.laload, 1) := by decide +kernel
theorem dX2_combine_112 : decode cX2_combine 112 = .ok (.lneg, 1) := by decide +kernel
theorem dX2_combine_113 : decode cX2_combine 113 = .ok (.goto 10, 3) := by decide +kernel
theorem dX2_combine_116 : decode cX2_combine 116 = .ok (.aload_n 0, 1) := by decide +kernel
theorem dX2_combine_117 : decode cX2_combine 117 = .ok (.getfield 33, 3) := by decide +kernel
theorem dX2_combine_120 : decode cX2_combine 120 = .ok (.iload 8, 2) := by decide +kernel
theorem dX2_combine_122 : decode cX2_combine 122 = .ok (.laload, 1) := by decide +kernel
theorem dX2_combine_123 : decode cX2_combine 123 = .ok (.lstore 10, 2) := by decide +kernel
theorem dX2_combine_125 : decode cX2_combine 125 = .ok (.iload 9, 2) := by decide +kernel
theorem dX2_combine_127 : decode cX2_combine 127 = .ok (.ifCond .ne 13, 3) := by decide +kernel
theorem dX2_combine_130 : decode cX2_combine 130 = .ok (.aload_n 0, 1) := by decide +kernel
theorem dX2_combine_131 : decode cX2_combine 131 = .ok (.getfield 30, 3) := by decide +kernel
theorem dX2_combine_134 : decode cX2_combine 134 = .ok (.iload 8, 2) := by decide +kernel
theorem dX2_combine_136 : decode cX2_combine 136 = .ok (.laload, 1) := by decide +kernel
theorem dX2_combine_137 : decode cX2_combine 137 = .ok (.goto 24, 3) := by decide +kernel
theorem dX2_combine_140 : decode cX2_combine 140 = .ok (.aload_n 0, 1) := by decide +kernel
theorem dX2_combine_141 : decode cX2_combine 141 = .ok (.getfield 30, 3) := by decide +kernel
theorem dX2_combine_144 : decode cX2_combine 144 = .ok (.iload 8, 2) := by decide +kernel
theorem dX2_combine_146 : decode cX2_combine 146 = .ok (.laload, 1) := by decide +kernel
theorem dX2_combine_147 : decode cX2_combine 147 = .ok (.lneg, 1) := by decide +kernel
theorem dX2_combine_148 : decode cX2_combine 148 = .ok (.lload 10, 2) := by decide +kernel
theorem dX2_combine_150 : decode cX2_combine 150 = .ok (.lconst 0, 1) := by decide +kernel
theorem dX2_combine_151 : decode cX2_combine 151 = .ok (.lcmp, 1) := by decide +kernel
theorem dX2_combine_152 : decode cX2_combine 152 = .ok (.ifCond .eq 7, 3) := by decide +kernel
theorem dX2_combine_155 : decode cX2_combine 155 = .ok (.lconst 1, 1) := by decide +kernel
theorem dX2_combine_156 : decode cX2_combine 156 = .ok (.goto 4, 3) := by decide +kernel
theorem dX2_combine_159 : decode cX2_combine 159 = .ok (.lconst 0, 1) := by decide +kernel
theorem dX2_combine_160 : decode cX2_combine 160 = .ok (.lsub, 1) := by decide +kernel
theorem dX2_combine_161 : decode cX2_combine 161 = .ok (.lstore 12, 2) := by decide +kernel
theorem dX2_combine_163 : decode cX2_combine 163 = .ok (.aload_n 0, 1) := by decide +kernel
theorem dX2_combine_164 : decode cX2_combine 164 = .ok (.lload 12, 2) := by decide +kernel
theorem dX2_combine_166 : decode cX2_combine 166 = .ok (.lload 10, 2) := by decide +kernel
theorem dX2_combine_168 : decode cX2_combine 168 = .ok (.invokevirtual 76, 3) := by decide +kernel
theorem dX2_combine_171 : decode cX2_combine 171 = .ok (.iinc 8 1, 3) := by decide +kernel
theorem dX2_combine_174 : decode cX2_combine 174 = .ok (.goto (-134), 3) := by decide +kernel
theorem dX2_combine_177 : decode cX2_combine 177 = .ok (.iconst 0, 1) := by decide +kernel
theorem dX2_combine_178 : decode cX2_combine 178 = .ok (.istore 8, 2) := by decide +kernel
theorem dX2_combine_180 : decode cX2_combine 180 = .ok (.iload 8, 2) := by decide +kernel
theorem dX2_combine_182 : decode cX2_combine 182 = .ok (.bipush 11, 2) := by decide +kernel
theorem dX2_combine_184 : decode cX2_combine 184 = .ok (.if_icmp .ge 159, 3) := by decide +kernel
theorem dX2_combine_187 : decode cX2_combine 187 = .ok (.aload_n 0, 1) := by decide +kernel
theorem dX2_combine_188 : decode cX2_combine 188 = .ok (.getfield 30, 3) := by decide +kernel
theorem dX2_combine_191 : decode cX2_combine 191 = .ok (.iload 8, 2) := by decide +kernel
theorem dX2_combine_193 : decode cX2_combine 193 = .ok (.laload, 1) := by decide +kernel
theorem dX2_combine_194 : decode cX2_combine 194 = .ok (.lconst 0, 1) := by decide +kernel
theorem dX2_combine_195 : decode cX2_combine 195 = .ok (.lcmp, 1) := by decide +kernel
theorem dX2_combine_196 : decode cX2_combine 196 = .ok (.ifCond .ge 7, 3) := by decide +kernel
theorem dX2_combine_199 : decode cX2_combine 199 = .ok (.iconst 1, 1) := by decide +kernel
theorem dX2_combine_200 : decode cX2_combine 200 = .ok (.goto 4, 3) := by decide +kernel
theorem dX2_combine_203 : decode cX2_combine 203 = .ok (.iconst 0, 1) := by decide +kernel
theorem dX2_combine_204 : decode cX2_combine 204 = .ok (.istore 9, 2) := by decide +kernel
theorem dX2_combine_206 : decode cX2_combine 206 = .ok (.iload 9, 2) := by decide +kernel
theorem dX2_combine_208 : decode cX2_combine 208 = .ok (.ifCond .eq 14, 3) := by decide +kernel
theorem dX2_combine_211 : decode cX2_combine 211 = .ok (.aload_n 0, 1) := by decide +kernel
theorem dX2_combine_212 : decode cX2_combine 212 = .ok (.getfield 33, 3) := by decide +kernel
theorem dX2_combine_215 : decode cX2_combine 215 = .ok (.iload 8, 2) := by decide +kernel
theorem dX2_combine_217 : decode cX2_combine 217 = .ok (.laload, 1) := by decide +kernel
theorem dX2_combine_218 : decode cX2_combine 218 = .ok (.lneg, 1) := by decide +kernel
theorem dX2_combine_219 : decode cX2_combine 219 = .ok (.goto 10, 3) := by decide +kernel
theorem dX2_combine_222 : decode cX2_combine 222 = .ok (.aload_n 0, 1) := by decide +kernel
theorem dX2_combine_223 : decode cX2_combine 223 = .ok (.getfield 33, 3) := by decide +kernel
theorem dX2_combine_226 : decode cX2_combine 226 = .ok (.iload 8, 2) := by decide +kernel
theorem dX2_combine_228 : decode cX2_combine 228 = .ok (.laload, 1) := by decide +kernel
theorem dX2_combine_229 : decode cX2_combine 229 = .ok (.lstore 10, 2) := by decide +kernel
theorem dX2_combine_231 : decode cX2_combine 231 = .ok (.iload 9, 2) := by decide +kernel
theorem dX2_combine_233 : decode cX2_combine 233 = .ok (.ifCond .ne 13, 3) := by decide +kernel
theorem dX2_combine_236 : decode cX2_combine 236 = .ok (.aload_n 0, 1) := by decide +kernel
theorem dX2_combine_237 : decode cX2_combine 237 = .ok (.getfield 30, 3) := by decide +kernel
theorem dX2_combine_240 : decode cX2_combine 240 = .ok (.iload 8, 2) := by decide +kernel
theorem dX2_combine_242 : decode cX2_combine 242 = .ok (.laload, 1) := by decide +kernel
theorem dX2_combine_243 : decode cX2_combine 243 = .ok (.goto 24, 3) := by decide +kernel
theorem dX2_combine_246 : decode cX2_combine 246 = .ok (.aload_n 0, 1) := by decide +kernel
theorem dX2_combine_247 : decode cX2_combine 247 = .ok (.getfield 30, 3) := by decide +kernel
theorem dX2_combine_250 : decode cX2_combine 250 = .ok (.iload 8, 2) := by decide +kernel
theorem dX2_combine_252 : decode cX2_combine 252 = .ok (.laload, 1) := by decide +kernel
theorem dX2_combine_253 : decode cX2_combine 253 = .ok (.lneg, 1) := by decide +kernel
theorem dX2_combine_254 : decode cX2_combine 254 = .ok (.lload 10, 2) := by decide +kernel
theorem dX2_combine_256 : decode cX2_combine 256 = .ok (.lconst 0, 1) := by decide +kernel
theorem dX2_combine_257 : decode cX2_combine 257 = .ok (.lcmp, 1) := by decide +kernel
theorem dX2_combine_258 : decode cX2_combine 258 = .ok (.ifCond .eq 7, 3) := by decide +kernel
theorem dX2_combine_261 : decode cX2_combine 261 = .ok (.lconst 1, 1) := by decide +kernel
theorem dX2_combine_262 : decode cX2_combine 262 = .ok (.goto 4, 3) := by decide +kernel
theorem dX2_combine_265 : decode cX2_combine 265 = .ok (.lconst 0, 1) := by decide +kernel
theorem dX2_combine_266 : decode cX2_combine 266 = .ok (.lsub, 1) := by decide +kernel
theorem dX2_combine_267 : decode cX2_combine 267 = .ok (.lstore 12, 2) := by decide +kernel
theorem dX2_combine_269 : decode cX2_combine 269 = .ok (.lload 12, 2) := by decide +kernel
theorem dX2_combine_271 : decode cX2_combine 271 = .ok (.lconst 0, 1) := by decide +kernel
theorem dX2_combine_272 : decode cX2_combine 272 = .ok (.lcmp, 1) := by decide +kernel
theorem dX2_combine_273 : decode cX2_combine 273 = .ok (.ifCond .ne 14, 3) := by decide +kernel
theorem dX2_combine_276 : decode cX2_combine 276 = .ok (.lload 10, 2) := by decide +kernel
theorem dX2_combine_278 : decode cX2_combine 278 = .ok (.lconst 0, 1) := by decide +kernel
theorem dX2_combine_279 : decode cX2_combine 279 = .ok (.lcmp, 1) := by decide +kernel
theorem dX2_combine_280 : decode cX2_combine 280 = .ok (.ifCond .ne 7, 3) := by decide +kernel
theorem dX2_combine_283 : decode cX2_combine 283 = .ok (.iconst 1, 1) := by decide +kernel
theorem dX2_combine_284 : decode cX2_combine 284 = .ok (.goto 4, 3) := by decide +kernel
theorem dX2_combine_287 : decode cX2_combine 287 = .ok (.iconst 0, 1) := by decide +kernel
theorem dX2_combine_288 : decode cX2_combine 288 = .ok (.istore 14, 2) := by decide +kernel
theorem dX2_combine_290 : decode cX2_combine 290 = .ok (.iload 14, 2) := by decide +kernel
theorem dX2_combine_292 : decode cX2_combine 292 = .ok (.ifCond .eq 7, 3) := by decide +kernel
theorem dX2_combine_295 : decode cX2_combine 295 = .ok (.lconst 0, 1) := by decide +kernel
theorem dX2_combine_296 : decode cX2_combine 296 = .ok (.goto 11, 3) := by decide +kernel
theorem dX2_combine_299 : decode cX2_combine 299 = .ok (.aload_n 0, 1) := by decide +kernel
theorem dX2_combine_300 : decode cX2_combine 300 = .ok (.lload 12, 2) := by decide +kernel
theorem dX2_combine_302 : decode cX2_combine 302 = .ok (.lload 10, 2) := by decide +kernel
theorem dX2_combine_304 : decode cX2_combine 304 = .ok (.invokevirtual 80, 3) := by decide +kernel
theorem dX2_combine_307 : decode cX2_combine 307 = .ok (.lstore 15, 2) := by decide +kernel
theorem dX2_combine_309 : decode cX2_combine 309 = .ok (.aload_n 0, 1) := by decide +kernel
theorem dX2_combine_310 : decode cX2_combine 310 = .ok (.getfield 21, 3) := by decide +kernel
theorem dX2_combine_313 : decode cX2_combine 313 = .ok (.bipush 11, 2) := by decide +kernel
theorem dX2_combine_315 : decode cX2_combine 315 = .ok (.aload_n 0, 1) := by decide +kernel
theorem dX2_combine_316 : decode cX2_combine 316 = .ok (.getfield 83, 3) := by decide +kernel
theorem dX2_combine_319 : decode cX2_combine 319 = .ok (.imul, 1) := by decide +kernel
theorem dX2_combine_320 : decode cX2_combine 320 = .ok (.iload 8, 2) := by decide +kernel
theorem dX2_combine_322 : decode cX2_combine 322 = .ok (.iadd, 1) := by decide +kernel
theorem dX2_combine_323 : decode cX2_combine 323 = .ok (.iload 9, 2) := by decide +kernel
theorem dX2_combine_325 : decode cX2_combine 325 = .ok (.ifCond .eq 9, 3) := by decide +kernel
theorem dX2_combine_328 : decode cX2_combine 328 = .ok (.lload 15, 2) := by decide +kernel
theorem dX2_combine_330 : decode cX2_combine 330 = .ok (.lneg, 1) := by decide +kernel
theorem dX2_combine_331 : decode cX2_combine 331 = .ok (.goto 5, 3) := by decide +kernel
theorem dX2_combine_334 : decode cX2_combine 334 = .ok (.lload 15, 2) := by decide +kernel
theorem dX2_combine_336 : decode cX2_combine 336 = .ok (.lastore, 1) := by decide +kernel
theorem dX2_combine_337 : decode cX2_combine 337 = .ok (.iinc 8 1, 3) := by decide +kernel
theorem dX2_combine_340 : decode cX2_combine 340 = .ok (.goto (-160), 3) := by decide +kernel
theorem dX2_combine_343 : decode cX2_combine 343 = .ok (.aload_n 0, 1) := by decide +kernel
theorem dX2_combine_344 : decode cX2_combine 344 = .ok (.getfield 27, 3) := by decide +kernel
theorem dX2_combine_347 : decode cX2_combine 347 = .ok (.aload_n 0, 1) := by decide +kernel
theorem dX2_combine_348 : decode cX2_combine 348 = .ok (.getfield 83, 3) := by decide +kernel
theorem dX2_combine_351 : decode cX2_combine 351 = .ok (.aload_n 0, 1) := by decide +kernel
theorem dX2_combine_352 : decode cX2_combine 352 = .ok (.getfield 24, 3) := by decide +kernel
theorem dX2_combine_355 : decode cX2_combine 355 = .ok (.iload_n 1, 1) := by decide +kernel
theorem dX2_combine_356 : decode cX2_combine 356 = .ok (.iaload, 1) := by decide +kernel
theorem dX2_combine_357 : decode cX2_combine 357 = .ok (.aload_n 0, 1) := by decide +kernel
theorem dX2_combine_358 : decode cX2_combine 358 = .ok (.getfield 24, 3) := by decide +kernel
theorem dX2_combine_361 : decode cX2_combine 361 = .ok (.iload_n 2, 1) := by decide +kernel
theorem dX2_combine_362 : decode cX2_combine 362 = .ok (.iaload, 1) := by decide +kernel
theorem dX2_combine_363 : decode cX2_combine 363 = .ok (.ior, 1) := by decide +kernel
theorem dX2_combine_364 : decode cX2_combine 364 = .ok (.iastore, 1) := by decide +kernel
theorem dX2_combine_365 : decode cX2_combine 365 = .ok (.aload_n 0, 1) := by decide +kernel
theorem dX2_combine_366 : decode cX2_combine 366 = .ok (.dup, 1) := by decide +kernel
theorem dX2_combine_367 : decode cX2_combine 367 = .ok (.getfield 83, 3) := by decide +kernel
theorem dX2_combine_370 : decode cX2_combine 370 = .ok (.iconst 1, 1) := by decide +kernel
theorem dX2_combine_371 : decode cX2_combine 371 = .ok (.iadd, 1) := by decide +kernel
theorem dX2_combine_372 : decode cX2_combine 372 = .ok (.putfield 83, 3) := by decide +kernel
theorem dX2_combine_375 : decode cX2_combine 375 = .ok (.return_, 1) := by decide +kernel
theorem dX2_carry_0 : decode cX2_carry 0 = .ok (.iconst 0, 1) := by decide +kernel
theorem dX2_carry_1 : decode cX2_carry 1 = .ok (.istore_n 2, 1) := by decide +kernel
theorem dX2_carry_2 : decode cX2_carry 2 = .ok (.iload_n 2, 1) := by decide +kernel
theorem dX2_carry_3 : decode cX2_carry 3 = .ok (.bipush 11, 2) := by decide +kernel
theorem dX2_carry_5 : decode cX2_carry 5 = .ok (.if_icmp .ge 34, 3) := by decide +kernel
theorem dX2_carry_8 : decode cX2_carry 8 = .ok (.aload_n 0, 1) := by decide +kernel
theorem dX2_carry_9 : decode cX2_carry 9 = .ok (.getfield 21, 3) := by decide +kernel
theorem dX2_carry_12 : decode cX2_carry 12 = .ok (.bipush 11, 2) := by decide +kernel
theorem dX2_carry_14 : decode cX2_carry 14 = .ok (.aload_n 0, 1) := by decide +kernel
theorem dX2_carry_15 : decode cX2_carry 15 = .ok (.getfield 83, 3) := by decide +kernel
theorem dX2_carry_18 : decode cX2_carry 18 = .ok (.imul, 1) := by decide +kernel
theorem dX2_carry_19 : decode cX2_carry 19 = .ok (.iload_n 2, 1) := by decide +kernel
theorem dX2_carry_20 : decode cX2_carry 20 = .ok (.iadd, 1) := by decide +kernel
theorem dX2_carry_21 : decode cX2_carry 21 = .ok (.aload_n 0, 1) := by decide +kernel
theorem dX2_carry_22 : decode cX2_carry 22 = .ok (.getfield 17, 3) := by decide +kernel
theorem dX2_carry_25 : decode cX2_carry 25 = .ok (.bipush 11, 2) := by decide +kernel
theorem dX2_carry_27 : decode cX2_carry 27 = .ok (.iload_n 1, 1) := by decide +kernel
theorem dX2_carry_28 : decode cX2_carry 28 = .ok (.imul, 1) := by decide +kernel
theorem dX2_carry_29 : decode cX2_carry 29 = .ok (.iload_n 2, 1) := by decide +kernel
theorem dX2_carry_30 : decode cX2_carry 30 = .ok (.iadd, 1) := by decide +kernel
theorem dX2_carry_31 : decode cX2_carry 31 = .ok (.laload, 1) := by decide +kernel
theorem dX2_carry_32 : decode cX2_carry 32 = .ok (.lastore, 1) := by decide +kernel
theorem dX2_carry_33 : decode cX2_carry 33 = .ok (.iinc 2 1, 3) := by decide +kernel
theorem dX2_carry_36 : decode cX2_carry 36 = .ok (.goto (-34), 3) := by decide +kernel
theorem dX2_carry_39 : decode cX2_carry 39 = .ok (.aload_n 0, 1) := by decide +kernel
theorem dX2_carry_40 : decode cX2_carry 40 = .ok (.getfield 27, 3) := by decide +kernel
theorem dX2_carry_43 : decode cX2_carry 43 = .ok (.aload_n 0, 1) := by decide +kernel
theorem dX2_carry_44 : decode cX2_carry 44 = .ok (.getfield 83, 3) := by decide +kernel
theorem dX2_carry_47 : decode cX2_carry 47 = .ok (.aload_n 0, 1) := by decide +kernel
theorem dX2_carry_48 : decode cX2_carry 48 = .ok (.getfield 24, 3) := by decide +kernel
theorem dX2_carry_51 : decode cX2_carry 51 = .ok (.iload_n 1, 1) := by decide +kernel
theorem dX2_carry_52 : decode cX2_carry 52 = .ok (.iaload, 1) := by decide +kernel
theorem dX2_carry_53 : decode cX2_carry 53 = .ok (.iastore, 1) := by decide +kernel
theorem dX2_carry_54 : decode cX2_carry 54 = .ok (.aload_n 0, 1) := by decide +kernel
theorem dX2_carry_55 : decode cX2_carry 55 = .ok (.dup, 1) := by decide +kernel
theorem dX2_carry_56 : decode cX2_carry 56 = .ok (.getfield 83, 3) := by decide +kernel
theorem dX2_carry_59 : decode cX2_carry 59 = .ok (.iconst 1, 1) := by decide +kernel
theorem dX2_carry_60 : decode cX2_carry 60 = .ok (.iadd, 1) := by decide +kernel
theorem dX2_carry_61 : decode cX2_carry 61 = .ok (.putfield 83, 3) := by decide +kernel
theorem dX2_carry_64 : decode cX2_carry 64 = .ok (.return_, 1) := by decide +kernel
theorem dX2_eliminate_0 : decode cX2_eliminate 0 = .ok (.aload_n 0, 1) := by decide +kernel
theorem dX2_eliminate_1 : decode cX2_eliminate 1 = .ok (.iconst 0, 1) := by decide +kernel
theorem dX2_eliminate_2 : decode cX2_eliminate 2 = .ok (.putfield 83, 3) := by decide +kernel
theorem dX2_eliminate_5 : decode cX2_eliminate 5 = .ok (.iconst 0, 1) := by decide +kernel
theorem dX2_eliminate_6 : decode cX2_eliminate 6 = .ok (.istore_n 3, 1) := by decide +kernel
theorem dX2_eliminate_7 : decode cX2_eliminate 7 = .ok (.iload_n 3, 1) := by decide +kernel
theorem dX2_eliminate_8 : decode cX2_eliminate 8 = .ok (.aload_n 0, 1) := by decide +kernel
theorem dX2_eliminate_9 : decode cX2_eliminate 9 = .ok (.getfield 46, 3) := by decide +kernel
theorem dX2_eliminate_12 : decode cX2_eliminate 12 = .ok (.if_icmp .ge 129, 3) := by decide +kernel
theorem dX2_eliminate_15 : decode cX2_eliminate 15 = .ok (.aload_n 0, 1) := by decide +kernel
theorem dX2_eliminate_16 : decode cX2_eliminate 16 = .ok (.getfield 17, 3) := by decide +kernel
theorem dX2_eliminate_19 : decode cX2_eliminate 19 = .ok (.bipush 11, 2) := by decide +kernel
theorem dX2_eliminate_21 : decode cX2_eliminate 21 = .ok (.iload_n 3, 1) := by decide +kernel
theorem dX2_eliminate_22 : decode cX2_eliminate 22 = .ok (.imul, 1) := by decide +kernel
theorem dX2_eliminate_23 : decode cX2_eliminate 23 = .ok (.iload_n 1, 1) := by decide +kernel
theorem dX2_eliminate_24 : decode cX2_eliminate 24 = .ok (.iadd, 1) := by decide +kernel
theorem dX2_eliminate_25 : decode cX2_eliminate 25 = .ok (.laload, 1) := by decide +kernel
theorem dX2_eliminate_26 : decode cX2_eliminate 26 = .ok (.lstore 4, 2) := by decide +kernel
theorem dX2_eliminate_28 : decode cX2_eliminate 28 = .ok (.lload 4, 2) := by decide +kernel
theorem dX2_eliminate_30 : decode cX2_eliminate 30 = .ok (.lconst 0, 1) := by decide +kernel
theorem dX2_eliminate_31 : decode cX2_eliminate 31 = .ok (.lcmp, 1) := by decide +kernel
theorem dX2_eliminate_32 : decode cX2_eliminate 32 = .ok (.ifCond .ne 8, 3) := by decide +kernel
theorem dX2_eliminate_35 : decode cX2_eliminate 35 = .ok (.aload_n 0, 1) := by decide +kernel
theorem dX2_eliminate_36 : decode cX2_eliminate 36 = .ok (.iload_n 3, 1) := by decide +kernel
theorem dX2_eliminate_37 : decode cX2_eliminate 37 = .ok (.invokevirtual 86, 3) := by decide +kernel
theorem dX2_eliminate_40 : decode cX2_eliminate 40 = .ok (.iconst 0, 1) := by decide +kernel
theorem dX2_eliminate_41 : decode cX2_eliminate 41 = .ok (.istore 6, 2) := by decide +kernel
theorem dX2_eliminate_43 : decode cX2_eliminate 43 = .ok (.iload 6, 2) := by decide +kernel
theorem dX2_eliminate_45 : decode cX2_eliminate 45 = .ok (.aload_n 0, 1) := by decide +kernel
theorem dX2_eliminate_46 : decode cX2_eliminate 46 = .ok (.getfield 46, 3) := by decide +kernel
theorem dX2_eliminate_49 : decode cX2_eliminate 49 = .ok (.if_icmp .ge 86, 3) := by decide +kernel
theorem dX2_eliminate_52 : decode cX2_eliminate 52 = .ok (.lload 4, 2) := by decide +kernel
theorem dX2_eliminate_54 : decode cX2_eliminate 54 = .ok (.lconst 0, 1) := by decide +kernel
theorem dX2_eliminate_55 : decode cX2_eliminate 55 = .ok (.lcmp, 1) := by decide +kernel
theorem dX2_eliminate_56 : decode cX2_eliminate 56 = .ok (.ifCond .le 79, 3) := by decide +kernel
theorem dX2_eliminate_59 : decode cX2_eliminate 59 = .ok (.aload_n 0, 1) := by decide +kernel
theorem dX2_eliminate_60 : decode cX2_eliminate 60 = .ok (.getfield 17, 3) := by decide +kernel
theorem dX2_eliminate_63 : decode cX2_eliminate 63 = .ok (.bipush 11, 2) := by decide +kernel
theorem dX2_eliminate_65 : decode cX2_eliminate 65 = .ok (.iload 6, 2) := by decide +kernel
theorem dX2_eliminate_67 : decode cX2_eliminate 67 = .ok (.imul, 1) := by decide +kernel
theorem dX2_eliminate_68 : decode cX2_eliminate 68 = .ok (.iload_n 1, 1) := by decide +kernel
theorem dX2_eliminate_69 : decode cX2_eliminate 69 = .ok (.iadd, 1) := by decide +kernel
theorem dX2_eliminate_70 : decode cX2_eliminate 70 = .ok (.laload, 1) := by decide +kernel
theorem dX2_eliminate_71 : decode cX2_eliminate 71 = .ok (.lconst 0, 1) := by decide +kernel
theorem dX2_eliminate_72 : decode cX2_eliminate 72 = .ok (.lcmp, 1) := by decide +kernel
theorem dX2_eliminate_73 : decode cX2_eliminate 73 = .ok (.ifCond .ge 7, 3) := by decide +kernel
theorem dX2_eliminate_76 : decode cX2_eliminate 76 = .ok (.iconst 1, 1) := by decide +kernel
theorem dX2_eliminate_77 : decode cX2_eliminate 77 = .ok (.goto 4, 3) := by decide +kernel
theorem dX2_eliminate_80 : decode cX2_eliminate 80 = .ok (.iconst 0, 1) := by decide +kernel
theorem dX2_eliminate_81 : decode cX2_eliminate 81 = .ok (.istore 7, 2) := by decide +kernel
theorem dX2_eliminate_83 : decode cX2_eliminate 83 = .ok (.iload 7, 2) := by decide +kernel
theorem dX2_eliminate_85 : decode cX2_eliminate 85 = .ok (.ifCond .eq 44, 3) := by decide +kernel
theorem dX2_eliminate_88 : decode cX2_eliminate 88 = .ok (.aload_n 0, 1) := by decide +kernel
theorem dX2_eliminate_89 : decode cX2_eliminate 89 = .ok (.getfield 24, 3) := by decide +kernel
theorem dX2_eliminate_92 : decode cX2_eliminate 92 = .ok (.iload_n 3, 1) := by decide +kernel
theorem dX2_eliminate_93 : decode cX2_eliminate 93 = .ok (.iaload, 1) := by decide +kernel
theorem dX2_eliminate_94 : decode cX2_eliminate 94 = .ok (.aload_n 0, 1) := by decide +kernel
theorem dX2_eliminate_95 : decode cX2_eliminate 95 = .ok (.getfield 24, 3) := by decide +kernel
theorem dX2_eliminate_98 : decode cX2_eliminate 98 = .ok (.iload 6, 2) := by decide +kernel
theorem dX2_eliminate_100 : decode cX2_eliminate 100 = .ok (.iaload, 1) := by decide +kernel
theorem dX2_eliminate_101 : decode cX2_eliminate 101 = .ok (.ior, 1) := by decide +kernel
theorem dX2_eliminate_102 : decode cX2_eliminate 102 = .ok (.invokestatic 90, 3) := by decide +kernel
theorem dX2_eliminate_105 : decode cX2_eliminate 105 = .ok (.iload_n 2, 1) := by decide +kernel
theorem dX2_eliminate_106 : decode cX2_eliminate 106 = .ok (.iconst 2, 1) := by decide +kernel
theorem dX2_eliminate_107 : decode cX2_eliminate 107 = .ok (.iadd, 1) := by decide +kernel
theorem dX2_eliminate_108 : decode cX2_eliminate 108 = .ok (.if_icmp .gt 21, 3) := by decide +kernel
theorem dX2_eliminate_111 : decode cX2_eliminate 111 = .ok (.aload_n 0, 1) := by decide +kernel
theorem dX2_eliminate_112 : decode cX2_eliminate 112 = .ok (.iload_n 3, 1) := by decide +kernel
theorem dX2_eliminate_113 : decode cX2_eliminate 113 = .ok (.iload 6, 2) := by decide +kernel
theorem dX2_eliminate_115 : decode cX2_eliminate 115 = .ok (.invokevirtual 94, 3) := by decide +kernel
theorem dX2_eliminate_118 : decode cX2_eliminate 118 = .ok (.ifCond .eq 11, 3) := by decide +kernel
theorem dX2_eliminate_121 : decode cX2_eliminate 121 = .ok (.aload_n 0, 1) := by decide +kernel
theorem dX2_eliminate_122 : decode cX2_eliminate 122 = .ok (.iload_n 3, 1) := by decide +kernel
theorem dX2_eliminate_123 : decode cX2_eliminate 123 = .ok (.iload 6, 2) := by decide +kernel
theorem dX2_eliminate_125 : decode cX2_eliminate 125 = .ok (.iload_n 1, 1) := by decide +kernel
theorem dX2_eliminate_126 : decode cX2_eliminate 126 = .ok (.invokevirtual 97, 3) := by decide +kernel
theorem dX2_eliminate_129 : decode cX2_eliminate 129 = .ok (.iinc 6 1, 3) := by decide +kernel
theorem dX2_eliminate_132 : decode cX2_eliminate 132 = .ok (.goto (-89), 3) := by decide +kernel
theorem dX2_eliminate_135 : decode cX2_eliminate 135 = .ok (.iinc 3 1, 3) := by decide +kernel
theorem dX2_eliminate_138 : decode cX2_eliminate 138 = .ok (.goto (-131), 3) := by decide +kernel
theorem dX2_eliminate_141 : decode cX2_eliminate 141 = .ok (.aload_n 0, 1) := by decide +kernel
theorem dX2_eliminate_142 : decode cX2_eliminate 142 = .ok (.aload_n 0, 1) := by decide +kernel
theorem dX2_eliminate_143 : decode cX2_eliminate 143 = .ok (.getfield 83, 3) := by decide +kernel
theorem dX2_eliminate_146 : decode cX2_eliminate 146 = .ok (.putfield 46, 3) := by decide +kernel
theorem dX2_eliminate_149 : decode cX2_eliminate 149 = .ok (.iconst 0, 1) := by decide +kernel
theorem dX2_eliminate_150 : decode cX2_eliminate 150 = .ok (.istore_n 3, 1) := by decide +kernel
theorem dX2_eliminate_151 : decode cX2_eliminate 151 = .ok (.iload_n 3, 1) := by decide +kernel
theorem dX2_eliminate_152 : decode cX2_eliminate 152 = .ok (.bipush 11, 2) := by decide +kernel
theorem dX2_eliminate_154 : decode cX2_eliminate 154 = .ok (.aload_n 0, 1) := by decide +kernel
theorem dX2_eliminate_155 : decode cX2_eliminate 155 = .ok (.getfield 46, 3) := by decide +kernel
theorem dX2_eliminate_158 : decode cX2_eliminate 158 = .ok (.imul, 1) := by decide +kernel
theorem dX2_eliminate_159 : decode cX2_eliminate 159 = .ok (.if_icmp .ge 21, 3) := by decide +kernel
theorem dX2_eliminate_162 : decode cX2_eliminate 162 = .ok (.aload_n 0, 1) := by decide +kernel
theorem dX2_eliminate_163 : decode cX2_eliminate 163 = .ok (.getfield 17, 3) := by decide +kernel
theorem dX2_eliminate_166 : decode cX2_eliminate 166 = .ok (.iload_n 3, 1) := by decide +kernel
theorem dX2_eliminate_167 : decode cX2_eliminate 167 = .ok (.aload_n 0, 1) := by decide +kernel
theorem dX2_eliminate_168 : decode cX2_eliminate 168 = .ok (.getfield 21, 3) := by decide +kernel
theorem dX2_eliminate_171 : decode cX2_eliminate 171 = .ok (.iload_n 3, 1) := by decide +kernel
theorem dX2_eliminate_172 : decode cX2_eliminate 172 = .ok (.laload, 1) := by decide +kernel
theorem dX2_eliminate_173 : decode cX2_eliminate 173 = .ok (.lastore, 1) := by decide +kernel
theorem dX2_eliminate_174 : decode cX2_eliminate 174 = .ok (.iinc 3 1, 3) := by decide +kernel
theorem dX2_eliminate_177 : decode cX2_eliminate 177 = .ok (.goto (-26), 3) := by decide +kernel
theorem dX2_eliminate_180 : decode cX2_eliminate 180 = .ok (.iconst 0, 1) := by decide +kernel
theorem dX2_eliminate_181 : decode cX2_eliminate 181 = .ok (.istore_n 3, 1) := by decide +kernel
theorem dX2_eliminate_182 : decode cX2_eliminate 182 = .ok (.iload_n 3, 1) := by decide +kernel
theorem dX2_eliminate_183 : decode cX2_eliminate 183 = .ok (.aload_n 0, 1) := by decide +kernel
theorem dX2_eliminate_184 : decode cX2_eliminate 184 = .ok (.getfield 46, 3) := by decide +kernel
theorem dX2_eliminate_187 : decode cX2_eliminate 187 = .ok (.if_icmp .ge 21, 3) := by decide +kernel
theorem dX2_eliminate_190 : decode cX2_eliminate 190 = .ok (.aload_n 0, 1) := by decide +kernel
theorem dX2_eliminate_191 : decode cX2_eliminate 191 = .ok (.getfield 24, 3) := by decide +kernel
theorem dX2_eliminate_194 : decode cX2_eliminate 194 = .ok (.iload_n 3, 1) := by decide +kernel
theorem dX2_eliminate_195 : decode cX2_eliminate 195 = .ok (.aload_n 0, 1) := by decide +kernel
theorem dX2_eliminate_196 : decode cX2_eliminate 196 = .ok (.getfield 27, 3) := by decide +kernel
theorem dX2_eliminate_199 : decode cX2_eliminate 199 = .ok (.iload_n 3, 1) := by decide +kernel
theorem dX2_eliminate_200 : decode cX2_eliminate 200 = .ok (.iaload, 1) := by decide +kernel
theorem dX2_eliminate_201 : decode cX2_eliminate 201 = .ok (.iastore, 1) := by decide +kernel
theorem dX2_eliminate_202 : decode cX2_eliminate 202 = .ok (.iinc 3 1, 3) := by decide +kernel
theorem dX2_eliminate_205 : decode cX2_eliminate 205 = .ok (.goto (-23), 3) := by decide +kernel
theorem dX2_eliminate_208 : decode cX2_eliminate 208 = .ok (.return_, 1) := by decide +kernel
theorem dX2_eliminateAll_0 : decode cX2_eliminateAll 0 = .ok (.iconst 0, 1) := by decide +kernel
theorem dX2_eliminateAll_1 : decode cX2_eliminateAll 1 = .ok (.istore_n 1, 1) := by decide +kernel
theorem dX2_eliminateAll_2 : decode cX2_eliminateAll 2 = .ok (.iload_n 1, 1) := by decide +kernel
theorem dX2_eliminateAll_3 : decode cX2_eliminateAll 3 = .ok (.bipush 9, 2) := by decide +kernel
theorem dX2_eliminateAll_5 : decode cX2_eliminateAll 5 = .ok (.if_icmp .ge 15, 3) := by decide +kernel
theorem dX2_eliminateAll_8 : decode cX2_eliminateAll 8 = .ok (.aload_n 0, 1) := by decide +kernel
theorem dX2_eliminateAll_9 : decode cX2_eliminateAll 9 = .ok (.iload_n 1, 1) := by decide +kernel
theorem dX2_eliminateAll_10 : decode cX2_eliminateAll 10 = .ok (.iload_n 1, 1) := by decide +kernel
theorem dX2_eliminateAll_11 : decode cX2_eliminateAll 11 = .ok (.invokevirtual 101, 3) := by decide +kernel
theorem dX2_eliminateAll_14 : decode cX2_eliminateAll 14 = .ok (.iinc 1 1, 3) := by decide +kernel
theorem dX2_eliminateAll_17 : decode cX2_eliminateAll 17 = .ok (.goto (-15), 3) := by decide +kernel
theorem dX2_eliminateAll_20 : decode cX2_eliminateAll 20 = .ok (.return_, 1) := by decide +kernel
theorem dX2_isPossible_0 : decode cX2_isPossible 0 = .ok (.iconst 1, 1) := by decide +kernel
theorem dX2_isPossible_1 : decode cX2_isPossible 1 = .ok (.istore_n 1, 1) := by decide +kernel
theorem dX2_isPossible_2 : decode cX2_isPossible 2 = .ok (.iconst 0, 1) := by decide +kernel
theorem dX2_isPossible_3 : decode cX2_isPossible 3 = .ok (.istore_n 2, 1) := by decide +kernel
theorem dX2_isPossible_4 : decode cX2_isPossible 4 = .ok (.iload_n 2, 1) := by decide +kernel
theorem dX2_isPossible_5 : decode cX2_isPossible 5 = .ok (.aload_n 0, 1) := by decide +kernel
theorem dX2_isPossible_6 : decode cX2_isPossible 6 = .ok (.getfield 46, 3) := by decide +kernel
theorem dX2_isPossible_9 : decode cX2_isPossible 9 = .ok (.if_icmp .ge 53, 3) := by decide +kernel
theorem dX2_isPossible_12 : decode cX2_isPossible 12 = .ok (.iload_n 1, 1) := by decide +kernel
theorem dX2_isPossible_13 : decode cX2_isPossible 13 = .ok (.ifCond .eq 41, 3) := by decide +kernel
theorem dX2_isPossible_16 : decode cX2_isPossible 16 = .ok (.aload_n 0, 1) := by decide +kernel
theorem dX2_isPossible_17 : decode cX2_isPossible 17 = .ok (.getfield 17, 3) := by decide +kernel
theorem dX2_isPossible_20 : decode cX2_isPossible 20 = .ok (.bipush 11, 2) := by decide +kernel
theorem dX2_isPossible_22 : decode cX2_isPossible 22 = .ok (.iload_n 2, 1) := by decide +kernel
theorem dX2_isPossible_23 : decode cX2_isPossible 23 = .ok (.imul, 1) := by decide +kernel
theorem dX2_isPossible_24 : decode cX2_isPossible 24 = .ok (.bipush 9, 2) := by decide +kernel
theorem dX2_isPossible_26 : decode cX2_isPossible 26 = .ok (.iadd, 1) := by decide +kernel
theorem dX2_isPossible_27 : decode cX2_isPossible 27 = .ok (.laload, 1) := by decide +kernel
theorem dX2_isPossible_28 : decode cX2_isPossible 28 = .ok (.lconst 0, 1) := by decide +kernel
theorem dX2_isPossible_29 : decode cX2_isPossible 29 = .ok (.lcmp, 1) := by decide +kernel
theorem dX2_isPossible_30 : decode cX2_isPossible 30 = .ok (.ifCond .ne 20, 3) := by decide +kernel
theorem dX2_isPossible_33 : decode cX2_isPossible 33 = .ok (.aload_n 0, 1) := by decide +kernel
theorem dX2_isPossible_34 : decode cX2_isPossible 34 = .ok (.getfield 17, 3) := by decide +kernel
theorem dX2_isPossible_37 : decode cX2_isPossible 37 = .ok (.bipush 11, 2) := by decide +kernel
theorem dX2_isPossible_39 : decode cX2_isPossible 39 = .ok (.iload_n 2, 1) := by decide +kernel
theorem dX2_isPossible_40 : decode cX2_isPossible 40 = .ok (.imul, 1) := by decide +kernel
theorem dX2_isPossible_41 : decode cX2_isPossible 41 = .ok (.bipush 10, 2) := by decide +kernel
theorem dX2_isPossible_43 : decode cX2_isPossible 43 = .ok (.iadd, 1) := by decide +kernel
theorem dX2_isPossible_44 : decode cX2_isPossible 44 = .ok (.laload, 1) := by decide +kernel
theorem dX2_isPossible_45 : decode cX2_isPossible 45 = .ok (.lconst 0, 1) := by decide +kernel
theorem dX2_isPossible_46 : decode cX2_isPossible 46 = .ok (.lcmp, 1) := by decide +kernel
theorem dX2_isPossible_47 : decode cX2_isPossible 47 = .ok (.ifCond .lt 7, 3) := by decide +kernel
theorem dX2_isPossible_50 : decode cX2_isPossible 50 = .ok (.iconst 1, 1) := by decide +kernel
theorem dX2_isPossible_51 : decode cX2_isPossible 51 = .ok (.goto 4, 3) := by decide +kernel
theorem dX2_isPossible_54 : decode cX2_isPossible 54 = .ok (.iconst 0, 1) := by decide +kernel
theorem dX2_isPossible_55 : decode cX2_isPossible 55 = .ok (.istore_n 1, 1) := by decide +kernel
theorem dX2_isPossible_56 : decode cX2_isPossible 56 = .ok (.iinc 2 1, 3) := by decide +kernel
theorem dX2_isPossible_59 : decode cX2_isPossible 59 = .ok (.goto (-55), 3) := by decide +kernel
theorem dX2_isPossible_62 : decode cX2_isPossible 62 = .ok (.iload_n 1, 1) := by decide +kernel
theorem dX2_isPossible_63 : decode cX2_isPossible 63 = .ok (.ireturn, 1) := by decide +kernel
theorem dX2_hasTurn_0 : decode cX2_hasTurn 0 = .ok (.aload_n 0, 1) := by decide +kernel
theorem dX2_hasTurn_1 : decode cX2_hasTurn 1 = .ok (.invokevirtual 105, 3) := by decide +kernel
theorem dX2_hasTurn_4 : decode cX2_hasTurn 4 = .ok (.aload_n 0, 1) := by decide +kernel
theorem dX2_hasTurn_5 : decode cX2_hasTurn 5 = .ok (.invokevirtual 108, 3) := by decide +kernel
theorem dX2_hasTurn_8 : decode cX2_hasTurn 8 = .ok (.aload_n 0, 1) := by decide +kernel
theorem dX2_hasTurn_9 : decode cX2_hasTurn 9 = .ok (.invokevirtual 111, 3) := by decide +kernel
theorem dX2_hasTurn_12 : decode cX2_hasTurn 12 = .ok (.ireturn, 1) := by decide +kernel
theorem dX2_ranked_0 : decode cX2_ranked 0 = .ok (.aload_n 0, 1) := by decide +kernel
theorem dX2_ranked_1 : decode cX2_ranked 1 = .ok (.invokevirtual 115, 3) := by decide +kernel
theorem dX2_ranked_4 : decode cX2_ranked 4 = .ok (.ifCond .ne 5, 3) := by decide +kernel
theorem dX2_ranked_7 : decode cX2_ranked 7 = .ok (.iconst 1, 1) := by decide +kernel
theorem dX2_ranked_8 : decode cX2_ranked 8 = .ok (.ireturn, 1) := by decide +kernel
theorem dX2_ranked_9 : decode cX2_ranked 9 = .ok (.aload_n 0, 1) := by decide +kernel
theorem dX2_ranked_10 : decode cX2_ranked 10 = .ok (.invokevirtual 105, 3) := by decide +kernel
theorem dX2_ranked_13 : decode cX2_ranked 13 = .ok (.iconst 0, 1) := by decide +kernel
theorem dX2_ranked_14 : decode cX2_ranked 14 = .ok (.istore_n 1, 1) := by decide +kernel
theorem dX2_ranked_15 : decode cX2_ranked 15 = .ok (.iload_n 1, 1) := by decide +kernel
theorem dX2_ranked_16 : decode cX2_ranked 16 = .ok (.aload_n 0, 1) := by decide +kernel
theorem dX2_ranked_17 : decode cX2_ranked 17 = .ok (.getfield 39, 3) := by decide +kernel
theorem dX2_ranked_20 : decode cX2_ranked 20 = .ok (.if_icmp .ge 98, 3) := by decide +kernel
theorem dX2_ranked_23 : decode cX2_ranked 23 = .ok (.aload_n 0, 1) := by decide +kernel
theorem dX2_ranked_24 : decode cX2_ranked 24 = .ok (.invokevirtual 49, 3) := by decide +kernel
theorem dX2_ranked_27 : decode cX2_ranked 27 = .ok (.istore_n 2, 1) := by decide +kernel
theorem dX2_ranked_28 : decode cX2_ranked 28 = .ok (.iconst 0, 1) := by decide +kernel
theorem dX2_ranked_29 : decode cX2_ranked 29 = .ok (.istore_n 3, 1) := by decide +kernel
theorem dX2_ranked_30 : decode cX2_ranked 30 = .ok (.iload_n 3, 1) := by decide +kernel
theorem dX2_ranked_31 : decode cX2_ranked 31 = .ok (.aload_n 0, 1) := by decide +kernel
theorem dX2_ranked_32 : decode cX2_ranked 32 = .ok (.getfield 7, 3) := by decide +kernel
theorem dX2_ranked_35 : decode cX2_ranked 35 = .ok (.if_icmp .ge 77, 3) := by decide +kernel
theorem dX2_ranked_38 : decode cX2_ranked 38 = .ok (.aload_n 0, 1) := by decide +kernel
theorem dX2_ranked_39 : decode cX2_ranked 39 = .ok (.getfield 17, 3) := by decide +kernel
theorem dX2_ranked_42 : decode cX2_ranked 42 = .ok (.iload_n 2, 1) := by decide +kernel
theorem dX2_ranked_43 : decode cX2_ranked 43 = .ok (.iload_n 3, 1) := by decide +kernel
theorem dX2_ranked_44 : decode cX2_ranked 44 = .ok (.iadd, 1) := by decide +kernel
theorem dX2_ranked_45 : decode cX2_ranked 45 = .ok (.aload_n 0, 1) := by decide +kernel
theorem dX2_ranked_46 : decode cX2_ranked 46 = .ok (.getfield 13, 3) := by decide +kernel
theorem dX2_ranked_49 : decode cX2_ranked 49 = .ok (.bipush 7, 2) := by decide +kernel
theorem dX2_ranked_51 : decode cX2_ranked 51 = .ok (.iload_n 1, 1) := by decide +kernel
theorem dX2_ranked_52 : decode cX2_ranked 52 = .ok (.imul, 1) := by decide +kernel
theorem dX2_ranked_53 : decode cX2_ranked 53 = .ok (.iload_n 3, 1) := by decide +kernel
theorem dX2_ranked_54 : decode cX2_ranked 54 = .ok (.iadd, 1) := by decide +kernel
theorem dX2_ranked_55 : decode cX2_ranked 55 = .ok (.iaload, 1) := by decide +kernel
theorem dX2_ranked_56 : decode cX2_ranked 56 = .ok (.ineg, 1) := by decide +kernel
theorem dX2_ranked_57 : decode cX2_ranked 57 = .ok (.i2l, 1) := by decide +kernel
theorem dX2_ranked_58 : decode cX2_ranked 58 = .ok (.lastore, 1) := by decide +kernel
theorem dX2_ranked_59 : decode cX2_ranked 59 = .ok (.aload_n 0, 1) := by decide +kernel
theorem dX2_ranked_60 : decode cX2_ranked 60 = .ok (.getfield 17, 3) := by decide +kernel
theorem dX2_ranked_63 : decode cX2_ranked 63 = .ok (.iload_n 2, 1) := by decide +kernel
theorem dX2_ranked_64 : decode cX2_ranked 64 = .ok (.iconst 3, 1) := by decide +kernel
theorem dX2_ranked_65 : decode cX2_ranked 65 = .ok (.iadd, 1) := by decide +kernel
theorem dX2_ranked_66 : decode cX2_ranked 66 = .ok (.iload_n 3, 1) := by decide +kernel
theorem dX2_ranked_67 : decode cX2_ranked 67 = .ok (.iadd, 1) := by decide +kernel
theorem dX2_ranked_68 : decode cX2_ranked 68 = .ok (.aload_n 0, 1) := by decide +kernel
theorem dX2_ranked_69 : decode cX2_ranked 69 = .ok (.getfield 13, 3) := by decide +kernel
theorem dX2_ranked_72 : decode cX2_ranked 72 = .ok (.bipush 7, 2) := by decide +kernel
theorem dX2_ranked_74 : decode cX2_ranked 74 = .ok (.iload_n 1, 1) := by decide +kernel
theorem dX2_ranked_75 : decode cX2_ranked 75 = .ok (.imul, 1) := by decide +kernel
theorem dX2_ranked_76 : decode cX2_ranked 76 = .ok (.iload_n 3, 1) := by decide +kernel
theorem dX2_ranked_77 : decode cX2_ranked 77 = .ok (.iadd, 1) := by decide +kernel
theorem dX2_ranked_78 : decode cX2_ranked 78 = .ok (.iaload, 1) := by decide +kernel
theorem dX2_ranked_79 : decode cX2_ranked 79 = .ok (.i2l, 1) := by decide +kernel
theorem dX2_ranked_80 : decode cX2_ranked 80 = .ok (.lastore, 1) := by decide +kernel
theorem dX2_ranked_81 : decode cX2_ranked 81 = .ok (.aload_n 0, 1) := by decide +kernel
theorem dX2_ranked_82 : decode cX2_ranked 82 = .ok (.getfield 17, 3) := by decide +kernel
theorem dX2_ranked_85 : decode cX2_ranked 85 = .ok (.iload_n 2, 1) := by decide +kernel
theorem dX2_ranked_86 : decode cX2_ranked 86 = .ok (.bipush 6, 2) := by decide +kernel
theorem dX2_ranked_88 : decode cX2_ranked 88 = .ok (.iadd, 1) := by decide +kernel
theorem dX2_ranked_89 : decode cX2_ranked 89 = .ok (.iload_n 3, 1) := by decide +kernel
theorem dX2_ranked_90 : decode cX2_ranked 90 = .ok (.iadd, 1) := by decide +kernel
theorem dX2_ranked_91 : decode cX2_ranked 91 = .ok (.aload_n 0, 1) := by decide +kernel
theorem dX2_ranked_92 : decode cX2_ranked 92 = .ok (.getfield 13, 3) := by decide +kernel
theorem dX2_ranked_95 : decode cX2_ranked 95 = .ok (.bipush 7, 2) := by decide +kernel
theorem dX2_ranked_97 : decode cX2_ranked 97 = .ok (.iload_n 1, 1) := by decide +kernel
theorem dX2_ranked_98 : decode cX2_ranked 98 = .ok (.imul, 1) := by decide +kernel
theorem dX2_ranked_99 : decode cX2_ranked 99 = .ok (.iconst 3, 1) := by decide +kernel
theorem dX2_ranked_100 : decode cX2_ranked 100 = .ok (.iadd, 1) := by decide +kernel
theorem dX2_ranked_101 : decode cX2_ranked 101 = .ok (.iload_n 3, 1) := by decide +kernel
theorem dX2_ranked_102 : decode cX2_ranked 102 = .ok (.iadd, 1) := by decide +kernel
theorem dX2_ranked_103 : decode cX2_ranked 103 = .ok (.iaload, 1) := by decide +kernel
theorem dX2_ranked_104 : decode cX2_ranked 104 = .ok (.i2l, 1) := by decide +kernel
theorem dX2_ranked_105 : decode cX2_ranked 105 = .ok (.lastore, 1) := by decide +kernel
theorem dX2_ranked_106 : decode cX2_ranked 106 = .ok (.iinc 3 1, 3) := by decide +kernel
theorem dX2_ranked_109 : decode cX2_ranked 109 = .ok (.goto (-79), 3) := by decide +kernel
theorem dX2_ranked_112 : decode cX2_ranked 112 = .ok (.iinc 1 1, 3) := by decide +kernel
theorem dX2_ranked_115 : decode cX2_ranked 115 = .ok (.goto (-100), 3) := by decide +kernel
theorem dX2_ranked_118 : decode cX2_ranked 118 = .ok (.aload_n 0, 1) := by decide +kernel
theorem dX2_ranked_119 : decode cX2_ranked 119 = .ok (.invokevirtual 108, 3) := by decide +kernel
theorem dX2_ranked_122 : decode cX2_ranked 122 = .ok (.aload_n 0, 1) := by decide +kernel
theorem dX2_ranked_123 : decode cX2_ranked 123 = .ok (.invokevirtual 111, 3) := by decide +kernel
theorem dX2_ranked_126 : decode cX2_ranked 126 = .ok (.ifCond .ne 7, 3) := by decide +kernel
theorem dX2_ranked_129 : decode cX2_ranked 129 = .ok (.iconst 1, 1) := by decide +kernel
theorem dX2_ranked_130 : decode cX2_ranked 130 = .ok (.goto 4, 3) := by decide +kernel
theorem dX2_ranked_133 : decode cX2_ranked 133 = .ok (.iconst 0, 1) := by decide +kernel
theorem dX2_ranked_134 : decode cX2_ranked 134 = .ok (.ireturn, 1) := by decide +kernel
theorem dX2_search_0 : decode cX2_search 0 = .ok (.aload_n 0, 1) := by decide +kernel
theorem dX2_search_1 : decode cX2_search 1 = .ok (.invokevirtual 105, 3) := by decide +kernel
theorem dX2_search_4 : decode cX2_search 4 = .ok (.aload_n 0, 1) := by decide +kernel
theorem dX2_search_5 : decode cX2_search 5 = .ok (.invokevirtual 49, 3) := by decide +kernel
theorem dX2_search_8 : decode cX2_search 8 = .ok (.istore_n 1, 1) := by decide +kernel
theorem dX2_search_9 : decode cX2_search 9 = .ok (.iconst 0, 1) := by decide +kernel
theorem dX2_search_10 : decode cX2_search 10 = .ok (.istore_n 2, 1) := by decide +kernel
theorem dX2_search_11 : decode cX2_search 11 = .ok (.iload_n 2, 1) := by decide +kernel
theorem dX2_search_12 : decode cX2_search 12 = .ok (.aload_n 0, 1) := by decide +kernel
theorem dX2_search_13 : decode cX2_search 13 = .ok (.getfield 7, 3) := by decide +kernel
theorem dX2_search_16 : decode cX2_search 16 = .ok (.if_icmp .ge 43, 3) := by decide +kernel
theorem dX2_search_19 : decode cX2_search 19 = .ok (.aload_n 0, 1) := by decide +kernel
theorem dX2_search_20 : decode cX2_search 20 = .ok (.getfield 17, 3) := by decide +kernel
theorem dX2_search_23 : decode cX2_search 23 = .ok (.iload_n 1, 1) := by decide +kernel
theorem dX2_search_24 : decode cX2_search 24 = .ok (.iload_n 2, 1) := by decide +kernel
theorem dX2_search_25 : decode cX2_search 25 = .ok (.iadd, 1) := by decide +kernel
theorem dX2_search_26 : decode cX2_search 26 = .ok (.aload_n 0, 1) := by decide +kernel
theorem dX2_search_27 : decode cX2_search 27 = .ok (.getfield 36, 3) := by decide +kernel
theorem dX2_search_30 : decode cX2_search 30 = .ok (.iload_n 2, 1) := by decide +kernel
theorem dX2_search_31 : decode cX2_search 31 = .ok (.iaload, 1) := by decide +kernel
theorem dX2_search_32 : decode cX2_search 32 = .ok (.i2l, 1) := by decide +kernel
theorem dX2_search_33 : decode cX2_search 33 = .ok (.lastore, 1) := by decide +kernel
theorem dX2_search_34 : decode cX2_search 34 = .ok (.aload_n 0, 1) := by decide +kernel
theorem dX2_search_35 : decode cX2_search 35 = .ok (.getfield 17, 3) := by decide +kernel
theorem dX2_search_38 : decode cX2_search 38 = .ok (.iload_n 1, 1) := by decide +kernel
theorem dX2_search_39 : decode cX2_search 39 = .ok (.iconst 3, 1) := by decide +kernel
theorem dX2_search_40 : decode cX2_search 40 = .ok (.iadd, 1) := by decide +kernel
theorem dX2_search_41 : decode cX2_search 41 = .ok (.iload_n 2, 1) := by decide +kernel
theorem dX2_search_42 : decode cX2_search 42 = .ok (.iadd, 1) := by decide +kernel
theorem dX2_search_43 : decode cX2_search 43 = .ok (.aload_n 0, 1) := by decide +kernel
theorem dX2_search_44 : decode cX2_search 44 = .ok (.getfield 36, 3) := by decide +kernel
theorem dX2_search_47 : decode cX2_search 47 = .ok (.iconst 3, 1) := by decide +kernel
theorem dX2_search_48 : decode cX2_search 48 = .ok (.iload_n 2, 1) := by decide +kernel
theorem dX2_search_49 : decode cX2_search 49 = .ok (.iadd, 1) := by decide +kernel
theorem dX2_search_50 : decode cX2_search 50 = .ok (.iaload, 1) := by decide +kernel
theorem dX2_search_51 : decode cX2_search 51 = .ok (.i2l, 1) := by decide +kernel
theorem dX2_search_52 : decode cX2_search 52 = .ok (.lastore, 1) := by decide +kernel
theorem dX2_search_53 : decode cX2_search 53 = .ok (.iinc 2 1, 3) := by decide +kernel
theorem dX2_search_56 : decode cX2_search 56 = .ok (.goto (-45), 3) := by decide +kernel
theorem dX2_search_59 : decode cX2_search 59 = .ok (.aload_n 0, 1) := by decide +kernel
theorem dX2_search_60 : decode cX2_search 60 = .ok (.getfield 17, 3) := by decide +kernel
theorem dX2_search_63 : decode cX2_search 63 = .ok (.iload_n 1, 1) := by decide +kernel
theorem dX2_search_64 : decode cX2_search 64 = .ok (.bipush 9, 2) := by decide +kernel
theorem dX2_search_66 : decode cX2_search 66 = .ok (.iadd, 1) := by decide +kernel
theorem dX2_search_67 : decode cX2_search 67 = .ok (.ldc2_w 118, 3) := by decide +kernel
theorem dX2_search_70 : decode cX2_search 70 = .ok (.lastore, 1) := by decide +kernel
theorem dX2_search_71 : decode cX2_search 71 = .ok (.aload_n 0, 1) := by decide +kernel
theorem dX2_search_72 : decode cX2_search 72 = .ok (.invokevirtual 108, 3) := by decide +kernel
theorem dX2_search_75 : decode cX2_search 75 = .ok (.aload_n 0, 1) := by decide +kernel
theorem dX2_search_76 : decode cX2_search 76 = .ok (.invokevirtual 111, 3) := by decide +kernel
theorem dX2_search_79 : decode cX2_search 79 = .ok (.ifCond .ne 5, 3) := by decide +kernel
theorem dX2_search_82 : decode cX2_search 82 = .ok (.iconst 0, 1) := by decide +kernel
theorem dX2_search_83 : decode cX2_search 83 = .ok (.ireturn, 1) := by decide +kernel
theorem dX2_search_84 : decode cX2_search 84 = .ok (.iconst (-1), 1) := by decide +kernel
theorem dX2_search_85 : decode cX2_search 85 = .ok (.istore_n 2, 1) := by decide +kernel
theorem dX2_search_86 : decode cX2_search 86 = .ok (.iconst 0, 1) := by decide +kernel
theorem dX2_search_87 : decode cX2_search 87 = .ok (.istore_n 3, 1) := by decide +kernel
theorem dX2_search_88 : decode cX2_search 88 = .ok (.iload_n 3, 1) := by decide +kernel
theorem dX2_search_89 : decode cX2_search 89 = .ok (.aload_n 0, 1) := by decide +kernel
theorem dX2_search_90 : decode cX2_search 90 = .ok (.getfield 46, 3) := by decide +kernel
theorem dX2_search_93 : decode cX2_search 93 = .ok (.if_icmp .ge 41, 3) := by decide +kernel
theorem dX2_search_96 : decode cX2_search 96 = .ok (.aload_n 0, 1) := by decide +kernel
theorem dX2_search_97 : decode cX2_search 97 = .ok (.getfield 17, 3) := by decide +kernel
theorem dX2_search_100 : decode cX2_search 100 = .ok (.bipush 11, 2) := by decide +kernel
theorem dX2_search_102 : decode cX2_search 102 = .ok (.iload_n 3, 1) := by decide +kernel
theorem dX2_search_103 : decode cX2_search 103 = .ok (.imul, 1) := by decide +kernel
theorem dX2_search_104 : decode cX2_search 104 = .ok (.bipush 9, 2) := by decide +kernel
theorem dX2_search_106 : decode cX2_search 106 = .ok (.iadd, 1) := by decide +kernel
theorem dX2_search_107 : decode cX2_search 107 = .ok (.laload, 1) := by decide +kernel
theorem dX2_search_108 : decode cX2_search 108 = .ok (.lconst 0, 1) := by decide +kernel
theorem dX2_search_109 : decode cX2_search 109 = .ok (.lcmp, 1) := by decide +kernel
theorem dX2_search_110 : decode cX2_search 110 = .ok (.ifCond .ge 18, 3) := by decide +kernel
theorem dX2_search_113 : decode cX2_search 113 = .ok (.iload_n 2, 1) := by decide +kernel
theorem dX2_search_114 : decode cX2_search 114 = .ok (.ifCond .lt 12, 3) := by decide +kernel
theorem dX2_search_117 : decode cX2_search 117 = .ok (.aload_n 0, 1) := by decide +kernel
theorem dX2_search_118 : decode cX2_search 118 = .ok (.iload_n 3, 1) := by decide +kernel
theorem dX2_search_119 : decode cX2_search 119 = .ok (.iload_n 2, 1) := by decide +kernel
theorem dX2_search_120 : decode cX2_search 120 = .ok (.invokevirtual 120, 3) := by decide +kernel
theorem dX2_search_123 : decode cX2_search 123 = .ok (.ifCond .eq 5, 3) := by decide +kernel
theorem dX2_search_126 : decode cX2_search 126 = .ok (.iload_n 3, 1) := by decide +kernel
theorem dX2_search_127 : decode cX2_search 127 = .ok (.istore_n 2, 1) := by decide +kernel
theorem dX2_search_128 : decode cX2_search 128 = .ok (.iinc 3 1, 3) := by decide +kernel
theorem dX2_search_131 : decode cX2_search 131 = .ok (.goto (-43), 3) := by decide +kernel
theorem dX2_search_134 : decode cX2_search 134 = .ok (.iload_n 2, 1) := by decide +kernel
theorem dX2_search_135 : decode cX2_search 135 = .ok (.ifCond .ge 5, 3) := by decide +kernel
theorem dX2_search_138 : decode cX2_search 138 = .ok (.iconst 1, 1) := by decide +kernel
theorem dX2_search_139 : decode cX2_search 139 = .ok (.ireturn, 1) := by decide +kernel
theorem dX2_search_140 : decode cX2_search 140 = .ok (.aload_n 0, 1) := by decide +kernel
theorem dX2_search_141 : decode cX2_search 141 = .ok (.getfield 17, 3) := by decide +kernel
theorem dX2_search_144 : decode cX2_search 144 = .ok (.bipush 11, 2) := by decide +kernel
theorem dX2_search_146 : decode cX2_search 146 = .ok (.iload_n 2, 1) := by decide +kernel
theorem dX2_search_147 : decode cX2_search 147 = .ok (.imul, 1) := by decide +kernel
theorem dX2_search_148 : decode cX2_search 148 = .ok (.bipush 10, 2) := by decide +kernel
theorem dX2_search_150 : decode cX2_search 150 = .ok (.iadd, 1) := by decide +kernel
theorem dX2_search_151 : decode cX2_search 151 = .ok (.laload, 1) := by decide +kernel
theorem dX2_search_152 : decode cX2_search 152 = .ok (.lconst 0, 1) := by decide +kernel
theorem dX2_search_153 : decode cX2_search 153 = .ok (.lcmp, 1) := by decide +kernel
theorem dX2_search_154 : decode cX2_search 154 = .ok (.ifCond .ge 19, 3) := by decide +kernel
theorem dX2_search_157 : decode cX2_search 157 = .ok (.aload_n 0, 1) := by decide +kernel
theorem dX2_search_158 : decode cX2_search 158 = .ok (.getfield 17, 3) := by decide +kernel
theorem dX2_search_161 : decode cX2_search 161 = .ok (.bipush 11, 2) := by decide +kernel
theorem dX2_search_163 : decode cX2_search 163 = .ok (.iload_n 2, 1) := by decide +kernel
theorem dX2_search_164 : decode cX2_search 164 = .ok (.imul, 1) := by decide +kernel
theorem dX2_search_165 : decode cX2_search 165 = .ok (.bipush 10, 2) := by decide +kernel
theorem dX2_search_167 : decode cX2_search 167 = .ok (.iadd, 1) := by decide +kernel
theorem dX2_search_168 : decode cX2_search 168 = .ok (.laload, 1) := by decide +kernel
theorem dX2_search_169 : decode cX2_search 169 = .ok (.lneg, 1) := by decide +kernel
theorem dX2_search_170 : decode cX2_search 170 = .ok (.goto 15, 3) := by decide +kernel
theorem dX2_search_173 : decode cX2_search 173 = .ok (.aload_n 0, 1) := by decide +kernel
theorem dX2_search_174 : decode cX2_search 174 = .ok (.getfield 17, 3) := by decide +kernel
theorem dX2_search_177 : decode cX2_search 177 = .ok (.bipush 11, 2) := by decide +kernel
theorem dX2_search_179 : decode cX2_search 179 = .ok (.iload_n 2, 1) := by decide +kernel
theorem dX2_search_180 : decode cX2_search 180 = .ok (.imul, 1) := by decide +kernel
theorem dX2_search_181 : decode cX2_search 181 = .ok (.bipush 10, 2) := by decide +kernel
theorem dX2_search_183 : decode cX2_search 183 = .ok (.iadd, 1) := by decide +kernel
theorem dX2_search_184 : decode cX2_search 184 = .ok (.laload, 1) := by decide +kernel
theorem dX2_search_185 : decode cX2_search 185 = .ok (.lstore_n 3, 1) := by decide +kernel
theorem dX2_search_186 : decode cX2_search 186 = .ok (.aload_n 0, 1) := by decide +kernel
theorem dX2_search_187 : decode cX2_search 187 = .ok (.getfield 17, 3) := by decide +kernel
theorem dX2_search_190 : decode cX2_search 190 = .ok (.bipush 11, 2) := by decide +kernel
theorem dX2_search_192 : decode cX2_search 192 = .ok (.iload_n 2, 1) := by decide +kernel
theorem dX2_search_193 : decode cX2_search 193 = .ok (.imul, 1) := by decide +kernel
theorem dX2_search_194 : decode cX2_search 194 = .ok (.bipush 9, 2) := by decide +kernel
theorem dX2_search_196 : decode cX2_search 196 = .ok (.iadd, 1) := by decide +kernel
theorem dX2_search_197 : decode cX2_search 197 = .ok (.laload, 1) := by decide +kernel
theorem dX2_search_198 : decode cX2_search 198 = .ok (.lneg, 1) := by decide +kernel
theorem dX2_search_199 : decode cX2_search 199 = .ok (.lstore 5, 2) := by decide +kernel
theorem dX2_search_201 : decode cX2_search 201 = .ok (.lload_n 3, 1) := by decide +kernel
theorem dX2_search_202 : decode cX2_search 202 = .ok (.lconst 0, 1) := by decide +kernel
theorem dX2_search_203 : decode cX2_search 203 = .ok (.lcmp, 1) := by decide +kernel
theorem dX2_search_204 : decode cX2_search 204 = .ok (.ifCond .le 18, 3) := by decide +kernel
theorem dX2_search_207 : decode cX2_search 207 = .ok (.lload 5, 2) := by decide +kernel
theorem dX2_search_209 : decode cX2_search 209 = .ok (.lload_n 3, 1) := by decide +kernel
theorem dX2_search_210 : decode cX2_search 210 = .ok (.lrem, 1) := by decide +kernel
theorem dX2_search_211 : decode cX2_search 211 = .ok (.lstore 7, 2) := by decide +kernel
theorem dX2_search_213 : decode cX2_search 213 = .ok (.lload_n 3, 1) := by decide +kernel
theorem dX2_search_214 : decode cX2_search 214 = .ok (.lstore 5, 2) := by decide +kernel
theorem dX2_search_216 : decode cX2_search 216 = .ok (.lload 7, 2) := by decide +kernel
theorem dX2_search_218 : decode cX2_search 218 = .ok (.lstore_n 3, 1) := by decide +kernel
theorem dX2_search_219 : decode cX2_search 219 = .ok (.goto (-18), 3) := by decide +kernel
theorem dX2_search_222 : decode cX2_search 222 = .ok (.aload_n 0, 1) := by decide +kernel
theorem dX2_search_223 : decode cX2_search 223 = .ok (.aload_n 0, 1) := by decide +kernel
theorem dX2_search_224 : decode cX2_search 224 = .ok (.getfield 17, 3) := by decide +kernel
theorem dX2_search_227 : decode cX2_search 227 = .ok (.bipush 11, 2) := by decide +kernel
theorem dX2_search_229 : decode cX2_search 229 = .ok (.iload_n 2, 1) := by decide +kernel
theorem dX2_search_230 : decode cX2_search 230 = .ok (.imul, 1) := by decide +kernel
theorem dX2_search_231 : decode cX2_search 231 = .ok (.bipush 10, 2) := by decide +kernel
theorem dX2_search_233 : decode cX2_search 233 = .ok (.iadd, 1) := by decide +kernel
theorem dX2_search_234 : decode cX2_search 234 = .ok (.laload, 1) := by decide +kernel
theorem dX2_search_235 : decode cX2_search 235 = .ok (.lneg, 1) := by decide +kernel
theorem dX2_search_236 : decode cX2_search 236 = .ok (.lload 5, 2) := by decide +kernel
theorem dX2_search_238 : decode cX2_search 238 = .ok (.ldiv, 1) := by decide +kernel
theorem dX2_search_239 : decode cX2_search 239 = .ok (.putfield 123, 3) := by decide +kernel
theorem dX2_search_242 : decode cX2_search 242 = .ok (.aload_n 0, 1) := by decide +kernel
theorem dX2_search_243 : decode cX2_search 243 = .ok (.aload_n 0, 1) := by decide +kernel
theorem dX2_search_244 : decode cX2_search 244 = .ok (.getfield 17, 3) := by decide +kernel
theorem dX2_search_247 : decode cX2_search 247 = .ok (.bipush 11, 2) := by decide +kernel
theorem dX2_search_249 : decode cX2_search 249 = .ok (.iload_n 2, 1) := by decide +kernel
theorem dX2_search_250 : decode cX2_search 250 = .ok (.imul, 1) := by decide +kernel
theorem dX2_search_251 : decode cX2_search 251 = .ok (.bipush 9, 2) := by decide +kernel
theorem dX2_search_253 : decode cX2_search 253 = .ok (.iadd, 1) := by decide +kernel
theorem dX2_search_254 : decode cX2_search 254 = .ok (.laload, 1) := by decide +kernel
theorem dX2_search_255 : decode cX2_search 255 = .ok (.lneg, 1) := by decide +kernel
theorem dX2_search_256 : decode cX2_search 256 = .ok (.lload 5, 2) := by decide +kernel
theorem dX2_search_258 : decode cX2_search 258 = .ok (.ldiv, 1) := by decide +kernel
theorem dX2_search_259 : decode cX2_search 259 = .ok (.putfield 126, 3) := by decide +kernel
theorem dX2_search_262 : decode cX2_search 262 = .ok (.iconst 2, 1) := by decide +kernel
theorem dX2_search_263 : decode cX2_search 263 = .ok (.ireturn, 1) := by decide +kernel
theorem dX2_isGreater_0 : decode cX2_isGreater 0 = .ok (.aload_n 0, 1) := by decide +kernel
theorem dX2_isGreater_1 : decode cX2_isGreater 1 = .ok (.iconst 0, 1) := by decide +kernel
theorem dX2_isGreater_2 : decode cX2_isGreater 2 = .ok (.aload_n 0, 1) := by decide +kernel
theorem dX2_isGreater_3 : decode cX2_isGreater 3 = .ok (.getfield 17, 3) := by decide +kernel
theorem dX2_isGreater_6 : decode cX2_isGreater 6 = .ok (.bipush 11, 2) := by decide +kernel
theorem dX2_isGreater_8 : decode cX2_isGreater 8 = .ok (.iload_n 1, 1) := by decide +kernel
theorem dX2_isGreater_9 : decode cX2_isGreater 9 = .ok (.imul, 1) := by decide +kernel
theorem dX2_isGreater_10 : decode cX2_isGreater 10 = .ok (.bipush 10, 2) := by decide +kernel
theorem dX2_isGreater_12 : decode cX2_isGreater 12 = .ok (.iadd, 1) := by decide +kernel
theorem dX2_isGreater_13 : decode cX2_isGreater 13 = .ok (.laload, 1) := by decide +kernel
theorem dX2_isGreater_14 : decode cX2_isGreater 14 = .ok (.aload_n 0, 1) := by decide +kernel
theorem dX2_isGreater_15 : decode cX2_isGreater 15 = .ok (.getfield 17, 3) := by decide +kernel
theorem dX2_isGreater_18 : decode cX2_isGreater 18 = .ok (.bipush 11, 2) := by decide +kernel
theorem dX2_isGreater_20 : decode cX2_isGreater 20 = .ok (.iload_n 2, 1) := by decide +kernel
theorem dX2_isGreater_21 : decode cX2_isGreater 21 = .ok (.imul, 1) := by decide +kernel
theorem dX2_isGreater_22 : decode cX2_isGreater 22 = .ok (.bipush 9, 2) := by decide +kernel
theorem dX2_isGreater_24 : decode cX2_isGreater 24 = .ok (.iadd, 1) := by decide +kernel
theorem dX2_isGreater_25 : decode cX2_isGreater 25 = .ok (.laload, 1) := by decide +kernel
theorem dX2_isGreater_26 : decode cX2_isGreater 26 = .ok (.aload_n 0, 1) := by decide +kernel
theorem dX2_isGreater_27 : decode cX2_isGreater 27 = .ok (.getfield 17, 3) := by decide +kernel
theorem dX2_isGreater_30 : decode cX2_isGreater 30 = .ok (.bipush 11, 2) := by decide +kernel
theorem dX2_isGreater_32 : decode cX2_isGreater 32 = .ok (.iload_n 2, 1) := by decide +kernel
theorem dX2_isGreater_33 : decode cX2_isGreater 33 = .ok (.imul, 1) := by decide +kernel
theorem dX2_isGreater_34 : decode cX2_isGreater 34 = .ok (.bipush 10, 2) := by decide +kernel
theorem dX2_isGreater_36 : decode cX2_isGreater 36 = .ok (.iadd, 1) := by decide +kernel
theorem dX2_isGreater_37 : decode cX2_isGreater 37 = .ok (.laload, 1) := by decide +kernel
theorem dX2_isGreater_38 : decode cX2_isGreater 38 = .ok (.lneg, 1) := by decide +kernel
theorem dX2_isGreater_39 : decode cX2_isGreater 39 = .ok (.aload_n 0, 1) := by decide +kernel
theorem dX2_isGreater_40 : decode cX2_isGreater 40 = .ok (.getfield 17, 3) := by decide +kernel
theorem dX2_isGreater_43 : decode cX2_isGreater 43 = .ok (.bipush 11, 2) := by decide +kernel
theorem dX2_isGreater_45 : decode cX2_isGreater 45 = .ok (.iload_n 1, 1) := by decide +kernel
theorem dX2_isGreater_46 : decode cX2_isGreater 46 = .ok (.imul, 1) := by decide +kernel
theorem dX2_isGreater_47 : decode cX2_isGreater 47 = .ok (.bipush 9, 2) := by decide +kernel
theorem dX2_isGreater_49 : decode cX2_isGreater 49 = .ok (.iadd, 1) := by decide +kernel
theorem dX2_isGreater_50 : decode cX2_isGreater 50 = .ok (.laload, 1) := by decide +kernel
theorem dX2_isGreater_51 : decode cX2_isGreater 51 = .ok (.invokevirtual 72, 3) := by decide +kernel
theorem dX2_isGreater_54 : decode cX2_isGreater 54 = .ok (.aload_n 0, 1) := by decide +kernel
theorem dX2_isGreater_55 : decode cX2_isGreater 55 = .ok (.getfield 30, 3) := by decide +kernel
theorem dX2_isGreater_58 : decode cX2_isGreater 58 = .ok (.iconst 0, 1) := by decide +kernel
theorem dX2_isGreater_59 : decode cX2_isGreater 59 = .ok (.laload, 1) := by decide +kernel
theorem dX2_isGreater_60 : decode cX2_isGreater 60 = .ok (.lconst 0, 1) := by decide +kernel
theorem dX2_isGreater_61 : decode cX2_isGreater 61 = .ok (.lcmp, 1) := by decide +kernel
theorem dX2_isGreater_62 : decode cX2_isGreater 62 = .ok (.ifCond .gt 25, 3) := by decide +kernel
theorem dX2_isGreater_65 : decode cX2_isGreater 65 = .ok (.aload_n 0, 1) := by decide +kernel
theorem dX2_isGreater_66 : decode cX2_isGreater 66 = .ok (.getfield 30, 3) := by decide +kernel
theorem dX2_isGreater_69 : decode cX2_isGreater 69 = .ok (.iconst 0, 1) := by decide +kernel
theorem dX2_isGreater_70 : decode cX2_isGreater 70 = .ok (.laload, 1) := by decide +kernel
theorem dX2_isGreater_71 : decode cX2_isGreater 71 = .ok (.lconst 0, 1) := by decide +kernel
theorem dX2_isGreater_72 : decode cX2_isGreater 72 = .ok (.lcmp, 1) := by decide +kernel
theorem dX2_isGreater_73 : decode cX2_isGreater 73 = .ok (.ifCond .ne 18, 3) := by decide +kernel
theorem dX2_isGreater_76 : decode cX2_isGreater 76 = .ok (.aload_n 0, 1) := by decide +kernel
theorem dX2_isGreater_77 : decode cX2_isGreater 77 = .ok (.getfield 33, 3) := by decide +kernel
theorem dX2_isGreater_80 : decode cX2_isGreater 80 = .ok (.iconst 0, 1) := by decide +kernel
theorem dX2_isGreater_81 : decode cX2_isGreater 81 = .ok (.laload, 1) := by decide +kernel
theorem dX2_isGreater_82 : decode cX2_isGreater 82 = .ok (.lconst 0, 1) := by decide +kernel
theorem dX2_isGreater_83 : decode cX2_isGreater 83 = .ok (.lcmp, 1) := by decide +kernel
theorem dX2_isGreater_84 : decode cX2_isGreater 84 = .ok (.ifCond .eq 7, 3) := by decide +kernel
theorem dX2_isGreater_87 : decode cX2_isGreater 87 = .ok (.iconst 1, 1) := by decide +kernel
theorem dX2_isGreater_88 : decode cX2_isGreater 88 = .ok (.goto 4, 3) := by decide +kernel
theorem dX2_isGreater_91 : decode cX2_isGreater 91 = .ok (.iconst 0, 1) := by decide +kernel
theorem dX2_isGreater_92 : decode cX2_isGreater 92 = .ok (.ireturn, 1) := by decide +kernel
theorem dX2_ranks_0 : decode cX2_ranks 0 = .ok (.iload_n 1, 1) := by decide +kernel
theorem dX2_ranks_1 : decode cX2_ranks 1 = .ok (.sipush 999, 3) := by decide +kernel
theorem dX2_ranks_4 : decode cX2_ranks 4 = .ok (.invokestatic 42, 3) := by decide +kernel
theorem dX2_ranks_7 : decode cX2_ranks 7 = .ok (.ifCond .eq 34, 3) := by decide +kernel
theorem dX2_ranks_10 : decode cX2_ranks 10 = .ok (.iload_n 2, 1) := by decide +kernel
theorem dX2_ranks_11 : decode cX2_ranks 11 = .ok (.sipush 999, 3) := by decide +kernel
theorem dX2_ranks_14 : decode cX2_ranks 14 = .ok (.invokestatic 42, 3) := by decide +kernel
theorem dX2_ranks_17 : decode cX2_ranks 17 = .ok (.ifCond .eq 24, 3) := by decide +kernel
theorem dX2_ranks_20 : decode cX2_ranks 20 = .ok (.iload_n 3, 1) := by decide +kernel
theorem dX2_ranks_21 : decode cX2_ranks 21 = .ok (.sipush 999, 3) := by decide +kernel
theorem dX2_ranks_24 : decode cX2_ranks 24 = .ok (.invokestatic 42, 3) := by decide +kernel
theorem dX2_ranks_27 : decode cX2_ranks 27 = .ok (.ifCond .eq 14, 3) := by decide +kernel
theorem dX2_ranks_30 : decode cX2_ranks 30 = .ok (.iload 4, 2) := by decide +kernel
theorem dX2_ranks_32 : decode cX2_ranks 32 = .ok (.sipush 999, 3) := by decide +kernel
theorem dX2_ranks_35 : decode cX2_ranks 35 = .ok (.invokestatic 42, 3) := by decide +kernel
theorem dX2_ranks_38 : decode cX2_ranks 38 = .ok (.ifCond .ne 5, 3) := by decide +kernel
theorem dX2_ranks_41 : decode cX2_ranks 41 = .ok (.iconst 0, 1) := by decide +kernel
theorem dX2_ranks_42 : decode cX2_ranks 42 = .ok (.ireturn, 1) := by decide +kernel
theorem dX2_ranks_43 : decode cX2_ranks 43 = .ok (.iconst 0, 1) := by decide +kernel
theorem dX2_ranks_44 : decode cX2_ranks 44 = .ok (.istore 5, 2) := by decide +kernel
theorem dX2_ranks_46 : decode cX2_ranks 46 = .ok (.iload 5, 2) := by decide +kernel
theorem dX2_ranks_48 : decode cX2_ranks 48 = .ok (.iconst 2, 1) := by decide +kernel
theorem dX2_ranks_49 : decode cX2_ranks 49 = .ok (.if_icmp .ge 127, 3) := by decide +kernel
theorem dX2_ranks_52 : decode cX2_ranks 52 = .ok (.iconst 0, 1) := by decide +kernel
theorem dX2_ranks_53 : decode cX2_ranks 53 = .ok (.istore 6, 2) := by decide +kernel
theorem dX2_ranks_55 : decode cX2_ranks 55 = .ok (.iload 6, 2) := by decide +kernel
theorem dX2_ranks_57 : decode cX2_ranks 57 = .ok (.iconst 3, 1) := by decide +kernel
theorem dX2_ranks_58 : decode cX2_ranks 58 = .ok (.if_icmp .ge 61, 3) := by decide +kernel
theorem dX2_ranks_61 : decode cX2_ranks 61 = .ok (.iload 6, 2) := by decide +kernel
theorem dX2_ranks_63 : decode cX2_ranks 63 = .ok (.ifCond .ne 7, 3) := by decide +kernel
theorem dX2_ranks_66 : decode cX2_ranks 66 = .ok (.iload_n 1, 1) := by decide +kernel
theorem dX2_ranks_67 : decode cX2_ranks 67 = .ok (.goto 14, 3) := by decide +kernel
theorem dX2_ranks_70 : decode cX2_ranks 70 = .ok (.iload 6, 2) := by decide +kernel
theorem dX2_ranks_72 : decode cX2_ranks 72 = .ok (.iconst 1, 1) := by decide +kernel
theorem dX2_ranks_73 : decode cX2_ranks 73 = .ok (.if_icmp .ne 7, 3) := by decide +kernel
theorem dX2_ranks_76 : decode cX2_ranks 76 = .ok (.iload_n 2, 1) := by decide +kernel
theorem dX2_ranks_77 : decode cX2_ranks 77 = .ok (.goto 4, 3) := by decide +kernel
theorem dX2_ranks_80 : decode cX2_ranks 80 = .ok (.iload_n 3, 1) := by decide +kernel
theorem dX2_ranks_81 : decode cX2_ranks 81 = .ok (.istore 7, 2) := by decide +kernel
theorem dX2_ranks_83 : decode cX2_ranks 83 = .ok (.aload_n 0, 1) := by decide +kernel
theorem dX2_ranks_84 : decode cX2_ranks 84 = .ok (.getfield 36, 3) := by decide +kernel
theorem dX2_ranks_87 : decode cX2_ranks 87 = .ok (.iload 6, 2) := by decide +kernel
theorem dX2_ranks_89 : decode cX2_ranks 89 = .ok (.iload 7, 2) := by decide +kernel
theorem dX2_ranks_91 : decode cX2_ranks 91 = .ok (.iastore, 1) := by decide +kernel
theorem dX2_ranks_92 : decode cX2_ranks 92 = .ok (.aload_n 0, 1) := by decide +kernel
theorem dX2_ranks_93 : decode cX2_ranks 93 = .ok (.getfield 36, 3) := by decide +kernel
theorem dX2_ranks_96 : decode cX2_ranks 96 = .ok (.iconst 3, 1) := by decide +kernel
theorem dX2_ranks_97 : decode cX2_ranks 97 = .ok (.iload 6, 2) := by decide +kernel
theorem dX2_ranks_99 : decode cX2_ranks 99 = .ok (.iadd, 1) := by decide +kernel
theorem dX2_ranks_100 : decode cX2_ranks 100 = .ok (.iload 5, 2) := by decide +kernel
theorem dX2_ranks_102 : decode cX2_ranks 102 = .ok (.ifCond .ne 7, 3) := by decide +kernel
theorem dX2_ranks_105 : decode cX2_ranks 105 = .ok (.iconst 0, 1) := by decide +kernel
theorem dX2_ranks_106 : decode cX2_ranks 106 = .ok (.goto 6, 3) := by decide +kernel
theorem dX2_ranks_109 : decode cX2_ranks 109 = .ok (.iload 7, 2) := by decide +kernel
theorem dX2_ranks_111 : decode cX2_ranks 111 = .ok (.ineg, 1) := by decide +kernel
theorem dX2_ranks_112 : decode cX2_ranks 112 = .ok (.iastore, 1) := by decide +kernel
theorem dX2_ranks_113 : decode cX2_ranks 113 = .ok (.iinc 6 1, 3) := by decide +kernel
theorem dX2_ranks_116 : decode cX2_ranks 116 = .ok (.goto (-61), 3) := by decide +kernel
theorem dX2_ranks_119 : decode cX2_ranks 119 = .ok (.aload_n 0, 1) := by decide +kernel
theorem dX2_ranks_120 : decode cX2_ranks 120 = .ok (.invokevirtual 129, 3) := by decide +kernel
theorem dX2_ranks_123 : decode cX2_ranks 123 = .ok (.istore 6, 2) := by decide +kernel
theorem dX2_ranks_125 : decode cX2_ranks 125 = .ok (.iload 6, 2) := by decide +kernel
theorem dX2_ranks_127 : decode cX2_ranks 127 = .ok (.ifCond .ne 5, 3) := by decide +kernel
theorem dX2_ranks_130 : decode cX2_ranks 130 = .ok (.iconst 1, 1) := by decide +kernel
theorem dX2_ranks_131 : decode cX2_ranks 131 = .ok (.ireturn, 1) := by decide +kernel
theorem dX2_ranks_132 : decode cX2_ranks 132 = .ok (.iload 5, 2) := by decide +kernel
theorem dX2_ranks_134 : decode cX2_ranks 134 = .ok (.ifCond .ne 10, 3) := by decide +kernel
theorem dX2_ranks_137 : decode cX2_ranks 137 = .ok (.iload 4, 2) := by decide +kernel
theorem dX2_ranks_139 : decode cX2_ranks 139 = .ok (.ineg, 1) := by decide +kernel
theorem dX2_ranks_140 : decode cX2_ranks 140 = .ok (.i2l, 1) := by decide +kernel
theorem dX2_ranks_141 : decode cX2_ranks 141 = .ok (.goto 4, 3) := by decide +kernel
theorem dX2_ranks_144 : decode cX2_ranks 144 = .ok (.lconst 1, 1) := by decide +kernel
theorem dX2_ranks_145 : decode cX2_ranks 145 = .ok (.lstore 7, 2) := by decide +kernel
theorem dX2_ranks_147 : decode cX2_ranks 147 = .ok (.iload 6, 2) := by decide +kernel
theorem dX2_ranks_149 : decode cX2_ranks 149 = .ok (.iconst 1, 1) := by decide +kernel
theorem dX2_ranks_150 : decode cX2_ranks 150 = .ok (.if_icmp .eq 18, 3) := by decide +kernel
theorem dX2_ranks_153 : decode cX2_ranks 153 = .ok (.aload_n 0, 1) := by decide +kernel
theorem dX2_ranks_154 : decode cX2_ranks 154 = .ok (.getfield 123, 3) := by decide +kernel
theorem dX2_ranks_157 : decode cX2_ranks 157 = .ok (.lload 7, 2) := by decide +kernel
theorem dX2_ranks_159 : decode cX2_ranks 159 = .ok (.aload_n 0, 1) := by decide +kernel
theorem dX2_ranks_160 : decode cX2_ranks 160 = .ok (.getfield 126, 3) := by decide +kernel
theorem dX2_ranks_163 : decode cX2_ranks 163 = .ok (.lmul, 1) := by decide +kernel
theorem dX2_ranks_164 : decode cX2_ranks 164 = .ok (.lcmp, 1) := by decide +kernel
theorem dX2_ranks_165 : decode cX2_ranks 165 = .ok (.ifCond .ge 5, 3) := by decide +kernel
theorem dX2_ranks_168 : decode cX2_ranks 168 = .ok (.iconst 0, 1) := by decide +kernel
theorem dX2_ranks_169 : decode cX2_ranks 169 = .ok (.ireturn, 1) := by decide +kernel
theorem dX2_ranks_170 : decode cX2_ranks 170 = .ok (.iinc 5 1, 3) := by decide +kernel
theorem dX2_ranks_173 : decode cX2_ranks 173 = .ok (.goto (-127), 3) := by decide +kernel
theorem dX2_ranks_176 : decode cX2_ranks 176 = .ok (.iconst 1, 1) := by decide +kernel
theorem dX2_ranks_177 : decode cX2_ranks 177 = .ok (.ireturn, 1) := by decide +kernel
theorem dX2_least_0 : decode cX2_least 0 = .ok (.iload_n 1, 1) := by decide +kernel
theorem dX2_least_1 : decode cX2_least 1 = .ok (.bipush 99, 2) := by decide +kernel
theorem dX2_least_3 : decode cX2_least 3 = .ok (.invokestatic 42, 3) := by decide +kernel
theorem dX2_least_6 : decode cX2_least 6 = .ok (.ifCond .eq 55, 3) := by decide +kernel
theorem dX2_least_9 : decode cX2_least 9 = .ok (.iload_n 2, 1) := by decide +kernel
theorem dX2_least_10 : decode cX2_least 10 = .ok (.bipush 99, 2) := by decide +kernel
theorem dX2_least_12 : decode cX2_least 12 = .ok (.invokestatic 42, 3) := by decide +kernel
theorem dX2_least_15 : decode cX2_least 15 = .ok (.ifCond .eq 46, 3) := by decide +kernel
theorem dX2_least_18 : decode cX2_least 18 = .ok (.iload_n 3, 1) := by decide +kernel
theorem dX2_least_19 : decode cX2_least 19 = .ok (.bipush 99, 2) := by decide +kernel
theorem dX2_least_21 : decode cX2_least 21 = .ok (.invokestatic 42, 3) := by decide +kernel
theorem dX2_least_24 : decode cX2_least 24 = .ok (.ifCond .eq 37, 3) := by decide +kernel
theorem dX2_least_27 : decode cX2_least 27 = .ok (.iload 4, 2) := by decide +kernel
theorem dX2_least_29 : decode cX2_least 29 = .ok (.bipush 99, 2) := by decide +kernel
theorem dX2_least_31 : decode cX2_least 31 = .ok (.invokestatic 42, 3) := by decide +kernel
theorem dX2_least_34 : decode cX2_least 34 = .ok (.ifCond .eq 27, 3) := by decide +kernel
theorem dX2_least_37 : decode cX2_least 37 = .ok (.iload 5, 2) := by decide +kernel
theorem dX2_least_39 : decode cX2_least 39 = .ok (.bipush 99, 2) := by decide +kernel
theorem dX2_least_41 : decode cX2_least 41 = .ok (.invokestatic 42, 3) := by decide +kernel
theorem dX2_least_44 : decode cX2_least 44 = .ok (.ifCond .eq 17, 3) := by decide +kernel
theorem dX2_least_47 : decode cX2_least 47 = .ok (.iload 6, 2) := by decide +kernel
theorem dX2_least_49 : decode cX2_least 49 = .ok (.bipush 99, 2) := by decide +kernel
theorem dX2_least_51 : decode cX2_least 51 = .ok (.invokestatic 42, 3) := by decide +kernel
theorem dX2_least_54 : decode cX2_least 54 = .ok (.ifCond .eq 7, 3) := by decide +kernel
theorem dX2_least_57 : decode cX2_least 57 = .ok (.iconst 1, 1) := by decide +kernel
theorem dX2_least_58 : decode cX2_least 58 = .ok (.goto 4, 3) := by decide +kernel
theorem dX2_least_61 : decode cX2_least 61 = .ok (.iconst 0, 1) := by decide +kernel
theorem dX2_least_62 : decode cX2_least 62 = .ok (.istore 7, 2) := by decide +kernel
theorem dX2_least_64 : decode cX2_least 64 = .ok (.iload 7, 2) := by decide +kernel
theorem dX2_least_66 : decode cX2_least 66 = .ok (.ifCond .ne 5, 3) := by decide +kernel
theorem dX2_least_69 : decode cX2_least 69 = .ok (.iconst (-1), 1) := by decide +kernel
theorem dX2_least_70 : decode cX2_least 70 = .ok (.ireturn, 1) := by decide +kernel
theorem dX2_least_71 : decode cX2_least 71 = .ok (.aload_n 0, 1) := by decide +kernel
theorem dX2_least_72 : decode cX2_least 72 = .ok (.getfield 36, 3) := by decide +kernel
theorem dX2_least_75 : decode cX2_least 75 = .ok (.iconst 0, 1) := by decide +kernel
theorem dX2_least_76 : decode cX2_least 76 = .ok (.iload_n 1, 1) := by decide +kernel
theorem dX2_least_77 : decode cX2_least 77 = .ok (.iastore, 1) := by decide +kernel
theorem dX2_least_78 : decode cX2_least 78 = .ok (.aload_n 0, 1) := by decide +kernel
theorem dX2_least_79 : decode cX2_least 79 = .ok (.getfield 36, 3) := by decide +kernel
theorem dX2_least_82 : decode cX2_least 82 = .ok (.iconst 1, 1) := by decide +kernel
theorem dX2_least_83 : decode cX2_least 83 = .ok (.iload_n 2, 1) := by decide +kernel
theorem dX2_least_84 : decode cX2_least 84 = .ok (.iastore, 1) := by decide +kernel
theorem dX2_least_85 : decode cX2_least 85 = .ok (.aload_n 0, 1) := by decide +kernel
theorem dX2_least_86 : decode cX2_least 86 = .ok (.getfield 36, 3) := by decide +kernel
theorem dX2_least_89 : decode cX2_least 89 = .ok (.iconst 2, 1) := by decide +kernel
theorem dX2_least_90 : decode cX2_least 90 = .ok (.iload_n 3, 1) := by decide +kernel
theorem dX2_least_91 : decode cX2_least 91 = .ok (.iastore, 1) := by decide +kernel
theorem dX2_least_92 : decode cX2_least 92 = .ok (.aload_n 0, 1) := by decide +kernel
theorem dX2_least_93 : decode cX2_least 93 = .ok (.getfield 36, 3) := by decide +kernel
theorem dX2_least_96 : decode cX2_least 96 = .ok (.iconst 3, 1) := by decide +kernel
theorem dX2_least_97 : decode cX2_least 97 = .ok (.iload 4, 2) := by decide +kernel
theorem dX2_least_99 : decode cX2_least 99 = .ok (.iastore, 1) := by decide +kernel
theorem dX2_least_100 : decode cX2_least 100 = .ok (.aload_n 0, 1) := by decide +kernel
theorem dX2_least_101 : decode cX2_least 101 = .ok (.getfield 36, 3) := by decide +kernel
theorem dX2_least_104 : decode cX2_least 104 = .ok (.iconst 4, 1) := by decide +kernel
theorem dX2_least_105 : decode cX2_least 105 = .ok (.iload 5, 2) := by decide +kernel
theorem dX2_least_107 : decode cX2_least 107 = .ok (.iastore, 1) := by decide +kernel
theorem dX2_least_108 : decode cX2_least 108 = .ok (.aload_n 0, 1) := by decide +kernel
theorem dX2_least_109 : decode cX2_least 109 = .ok (.getfield 36, 3) := by decide +kernel
theorem dX2_least_112 : decode cX2_least 112 = .ok (.iconst 5, 1) := by decide +kernel
theorem dX2_least_113 : decode cX2_least 113 = .ok (.iload 6, 2) := by decide +kernel
theorem dX2_least_115 : decode cX2_least 115 = .ok (.iastore, 1) := by decide +kernel
theorem dX2_least_116 : decode cX2_least 116 = .ok (.aload_n 0, 1) := by decide +kernel
theorem dX2_least_117 : decode cX2_least 117 = .ok (.aload_n 0, 1) := by decide +kernel
theorem dX2_least_118 : decode cX2_least 118 = .ok (.invokevirtual 129, 3) := by decide +kernel
theorem dX2_least_121 : decode cX2_least 121 = .ok (.putfield 132, 3) := by decide +kernel
theorem dX2_least_124 : decode cX2_least 124 = .ok (.aload_n 0, 1) := by decide +kernel
theorem dX2_least_125 : decode cX2_least 125 = .ok (.aload_n 0, 1) := by decide +kernel
theorem dX2_least_126 : decode cX2_least 126 = .ok (.getfield 132, 3) := by decide +kernel
theorem dX2_least_129 : decode cX2_least 129 = .ok (.iconst 2, 1) := by decide +kernel
theorem dX2_least_130 : decode cX2_least 130 = .ok (.if_icmp .ne 10, 3) := by decide +kernel
theorem dX2_least_133 : decode cX2_least 133 = .ok (.aload_n 0, 1) := by decide +kernel
theorem dX2_least_134 : decode cX2_least 134 = .ok (.getfield 123, 3) := by decide +kernel
theorem dX2_least_137 : decode cX2_least 137 = .ok (.goto 4, 3) := by decide +kernel
theorem dX2_least_140 : decode cX2_least 140 = .ok (.lconst 0, 1) := by decide +kernel
theorem dX2_least_141 : decode cX2_least 141 = .ok (.putfield 135, 3) := by decide +kernel
theorem dX2_least_144 : decode cX2_least 144 = .ok (.aload_n 0, 1) := by decide +kernel
theorem dX2_least_145 : decode cX2_least 145 = .ok (.aload_n 0, 1) := by decide +kernel
theorem dX2_least_146 : decode cX2_least 146 = .ok (.getfield 132, 3) := by decide +kernel
theorem dX2_least_149 : decode cX2_least 149 = .ok (.iconst 2, 1) := by decide +kernel
theorem dX2_least_150 : decode cX2_least 150 = .ok (.if_icmp .ne 10, 3) := by decide +kernel
theorem dX2_least_153 : decode cX2_least 153 = .ok (.aload_n 0, 1) := by decide +kernel
theorem dX2_least_154 : decode cX2_least 154 = .ok (.getfield 126, 3) := by decide +kernel
theorem dX2_least_157 : decode cX2_least 157 = .ok (.goto 4, 3) := by decide +kernel
theorem dX2_least_160 : decode cX2_least 160 = .ok (.lconst 0, 1) := by decide +kernel
theorem dX2_least_161 : decode cX2_least 161 = .ok (.putfield 138, 3) := by decide +kernel
theorem dX2_least_164 : decode cX2_least 164 = .ok (.aload_n 0, 1) := by decide +kernel
theorem dX2_least_165 : decode cX2_least 165 = .ok (.getfield 132, 3) := by decide +kernel
theorem dX2_least_168 : decode cX2_least 168 = .ok (.ireturn, 1) := by decide +kernel
theorem dX2_top_0 : decode cX2_top 0 = .ok (.aload_n 0, 1) := by decide +kernel
theorem dX2_top_1 : decode cX2_top 1 = .ok (.getfield 135, 3) := by decide +kernel
theorem dX2_top_4 : decode cX2_top 4 = .ok (.lreturn, 1) := by decide +kernel
theorem dX2_bottom_0 : decode cX2_bottom 0 = .ok (.aload_n 0, 1) := by decide +kernel
theorem dX2_bottom_1 : decode cX2_bottom 1 = .ok (.getfield 138, 3) := by decide +kernel
theorem dX2_bottom_4 : decode cX2_bottom 4 = .ok (.lreturn, 1) := by decide +kernel
