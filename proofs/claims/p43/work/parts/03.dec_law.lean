theorem dL_cell_0 : decode cL_cell 0 = .ok (.iload_n 1, 1) := by decide +kernel
theorem dL_cell_1 : decode cL_cell 1 = .ok (.aload_n 0, 1) := by decide +kernel
theorem dL_cell_2 : decode cL_cell 2 = .ok (.arraylength, 1) := by decide +kernel
theorem dL_cell_3 : decode cL_cell 3 = .ok (.if_icmp .ge 9, 3) := by decide +kernel
theorem dL_cell_6 : decode cL_cell 6 = .ok (.aload_n 0, 1) := by decide +kernel
theorem dL_cell_7 : decode cL_cell 7 = .ok (.iload_n 1, 1) := by decide +kernel
theorem dL_cell_8 : decode cL_cell 8 = .ok (.iaload, 1) := by decide +kernel
theorem dL_cell_9 : decode cL_cell 9 = .ok (.goto 4, 3) := by decide +kernel
theorem dL_cell_12 : decode cL_cell 12 = .ok (.iconst 0, 1) := by decide +kernel
theorem dL_cell_13 : decode cL_cell 13 = .ok (.ireturn, 1) := by decide +kernel
theorem dL_hasPhone_0 : decode cL_hasPhone 0 = .ok (.aload_n 0, 1) := by decide +kernel
theorem dL_hasPhone_1 : decode cL_hasPhone 1 = .ok (.iconst 2, 1) := by decide +kernel
theorem dL_hasPhone_2 : decode cL_hasPhone 2 = .ok (.invokevirtual 7, 3) := by decide +kernel
theorem dL_hasPhone_5 : decode cL_hasPhone 5 = .ok (.istore_n 1, 1) := by decide +kernel
theorem dL_hasPhone_6 : decode cL_hasPhone 6 = .ok (.aload_n 0, 1) := by decide +kernel
theorem dL_hasPhone_7 : decode cL_hasPhone 7 = .ok (.iconst 3, 1) := by decide +kernel
theorem dL_hasPhone_8 : decode cL_hasPhone 8 = .ok (.invokevirtual 7, 3) := by decide +kernel
theorem dL_hasPhone_11 : decode cL_hasPhone 11 = .ok (.istore_n 2, 1) := by decide +kernel
theorem dL_hasPhone_12 : decode cL_hasPhone 12 = .ok (.iconst 0, 1) := by decide +kernel
theorem dL_hasPhone_13 : decode cL_hasPhone 13 = .ok (.istore_n 3, 1) := by decide +kernel
theorem dL_hasPhone_14 : decode cL_hasPhone 14 = .ok (.iconst 0, 1) := by decide +kernel
theorem dL_hasPhone_15 : decode cL_hasPhone 15 = .ok (.istore 4, 2) := by decide +kernel
theorem dL_hasPhone_17 : decode cL_hasPhone 17 = .ok (.iconst 0, 1) := by decide +kernel
theorem dL_hasPhone_18 : decode cL_hasPhone 18 = .ok (.istore 5, 2) := by decide +kernel
theorem dL_hasPhone_20 : decode cL_hasPhone 20 = .ok (.iconst 0, 1) := by decide +kernel
theorem dL_hasPhone_21 : decode cL_hasPhone 21 = .ok (.istore 6, 2) := by decide +kernel
theorem dL_hasPhone_23 : decode cL_hasPhone 23 = .ok (.iload 6, 2) := by decide +kernel
theorem dL_hasPhone_25 : decode cL_hasPhone 25 = .ok (.aload_n 0, 1) := by decide +kernel
theorem dL_hasPhone_26 : decode cL_hasPhone 26 = .ok (.iconst 0, 1) := by decide +kernel
theorem dL_hasPhone_27 : decode cL_hasPhone 27 = .ok (.invokevirtual 7, 3) := by decide +kernel
theorem dL_hasPhone_30 : decode cL_hasPhone 30 = .ok (.if_icmp .ge 256, 3) := by decide +kernel
theorem dL_hasPhone_33 : decode cL_hasPhone 33 = .ok (.aload_n 0, 1) := by decide +kernel
theorem dL_hasPhone_34 : decode cL_hasPhone 34 = .ok (.iload 6, 2) := by decide +kernel
theorem dL_hasPhone_36 : decode cL_hasPhone 36 = .ok (.iconst 2, 1) := by decide +kernel
theorem dL_hasPhone_37 : decode cL_hasPhone 37 = .ok (.invokevirtual 13, 3) := by decide +kernel
theorem dL_hasPhone_40 : decode cL_hasPhone 40 = .ok (.istore 7, 2) := by decide +kernel
theorem dL_hasPhone_42 : decode cL_hasPhone 42 = .ok (.aload_n 0, 1) := by decide +kernel
theorem dL_hasPhone_43 : decode cL_hasPhone 43 = .ok (.iload 6, 2) := by decide +kernel
theorem dL_hasPhone_45 : decode cL_hasPhone 45 = .ok (.iconst 5, 1) := by decide +kernel
theorem dL_hasPhone_46 : decode cL_hasPhone 46 = .ok (.invokevirtual 13, 3) := by decide +kernel
theorem dL_hasPhone_49 : decode cL_hasPhone 49 = .ok (.istore 8, 2) := by decide +kernel
theorem dL_hasPhone_51 : decode cL_hasPhone 51 = .ok (.iload_n 3, 1) := by decide +kernel
theorem dL_hasPhone_52 : decode cL_hasPhone 52 = .ok (.iload 7, 2) := by decide +kernel
theorem dL_hasPhone_54 : decode cL_hasPhone 54 = .ok (.iconst 3, 1) := by decide +kernel
theorem dL_hasPhone_55 : decode cL_hasPhone 55 = .ok (.if_icmp .ne 7, 3) := by decide +kernel
theorem dL_hasPhone_58 : decode cL_hasPhone 58 = .ok (.iconst 1, 1) := by decide +kernel
theorem dL_hasPhone_59 : decode cL_hasPhone 59 = .ok (.goto 4, 3) := by decide +kernel
theorem dL_hasPhone_62 : decode cL_hasPhone 62 = .ok (.iconst 0, 1) := by decide +kernel
theorem dL_hasPhone_63 : decode cL_hasPhone 63 = .ok (.iadd, 1) := by decide +kernel
theorem dL_hasPhone_64 : decode cL_hasPhone 64 = .ok (.istore_n 3, 1) := by decide +kernel
theorem dL_hasPhone_65 : decode cL_hasPhone 65 = .ok (.iload 4, 2) := by decide +kernel
theorem dL_hasPhone_67 : decode cL_hasPhone 67 = .ok (.iload 7, 2) := by decide +kernel
theorem dL_hasPhone_69 : decode cL_hasPhone 69 = .ok (.iconst 1, 1) := by decide +kernel
theorem dL_hasPhone_70 : decode cL_hasPhone 70 = .ok (.if_icmp .ne 7, 3) := by decide +kernel
theorem dL_hasPhone_73 : decode cL_hasPhone 73 = .ok (.iconst 1, 1) := by decide +kernel
theorem dL_hasPhone_74 : decode cL_hasPhone 74 = .ok (.goto 4, 3) := by decide +kernel
theorem dL_hasPhone_77 : decode cL_hasPhone 77 = .ok (.iconst 0, 1) := by decide +kernel
theorem dL_hasPhone_78 : decode cL_hasPhone 78 = .ok (.iadd, 1) := by decide +kernel
theorem dL_hasPhone_79 : decode cL_hasPhone 79 = .ok (.istore 4, 2) := by decide +kernel
theorem dL_hasPhone_81 : decode cL_hasPhone 81 = .ok (.iload 5, 2) := by decide +kernel
theorem dL_hasPhone_83 : decode cL_hasPhone 83 = .ok (.iload 7, 2) := by decide +kernel
theorem dL_hasPhone_85 : decode cL_hasPhone 85 = .ok (.iconst 2, 1) := by decide +kernel
theorem dL_hasPhone_86 : decode cL_hasPhone 86 = .ok (.if_icmp .ne 7, 3) := by decide +kernel
theorem dL_hasPhone_89 : decode cL_hasPhone 89 = .ok (.iconst 1, 1) := by decide +kernel
theorem dL_hasPhone_90 : decode cL_hasPhone 90 = .ok (.goto 4, 3) := by decide +kernel
theorem dL_hasPhone_93 : decode cL_hasPhone 93 = .ok (.iconst 0, 1) := by decide +kernel
theorem dL_hasPhone_94 : decode cL_hasPhone 94 = .ok (.iadd, 1) := by decide +kernel
theorem dL_hasPhone_95 : decode cL_hasPhone 95 = .ok (.istore 5, 2) := by decide +kernel
theorem dL_hasPhone_97 : decode cL_hasPhone 97 = .ok (.iload 7, 2) := by decide +kernel
theorem dL_hasPhone_99 : decode cL_hasPhone 99 = .ok (.ifCond .lt 80, 3) := by decide +kernel
theorem dL_hasPhone_102 : decode cL_hasPhone 102 = .ok (.iload 7, 2) := by decide +kernel
theorem dL_hasPhone_104 : decode cL_hasPhone 104 = .ok (.iconst 3, 1) := by decide +kernel
theorem dL_hasPhone_105 : decode cL_hasPhone 105 = .ok (.if_icmp .gt 74, 3) := by decide +kernel
theorem dL_hasPhone_108 : decode cL_hasPhone 108 = .ok (.iload 7, 2) := by decide +kernel
theorem dL_hasPhone_110 : decode cL_hasPhone 110 = .ok (.iconst 1, 1) := by decide +kernel
theorem dL_hasPhone_111 : decode cL_hasPhone 111 = .ok (.if_icmp .ne 7, 3) := by decide +kernel
theorem dL_hasPhone_114 : decode cL_hasPhone 114 = .ok (.iconst 1, 1) := by decide +kernel
theorem dL_hasPhone_115 : decode cL_hasPhone 115 = .ok (.goto 4, 3) := by decide +kernel
theorem dL_hasPhone_118 : decode cL_hasPhone 118 = .ok (.iconst 0, 1) := by decide +kernel
theorem dL_hasPhone_119 : decode cL_hasPhone 119 = .ok (.aload_n 0, 1) := by decide +kernel
theorem dL_hasPhone_120 : decode cL_hasPhone 120 = .ok (.iload 6, 2) := by decide +kernel
theorem dL_hasPhone_122 : decode cL_hasPhone 122 = .ok (.iconst 3, 1) := by decide +kernel
theorem dL_hasPhone_123 : decode cL_hasPhone 123 = .ok (.invokevirtual 13, 3) := by decide +kernel
theorem dL_hasPhone_126 : decode cL_hasPhone 126 = .ok (.ifCond .le 7, 3) := by decide +kernel
theorem dL_hasPhone_129 : decode cL_hasPhone 129 = .ok (.iconst 1, 1) := by decide +kernel
theorem dL_hasPhone_130 : decode cL_hasPhone 130 = .ok (.goto 4, 3) := by decide +kernel
theorem dL_hasPhone_133 : decode cL_hasPhone 133 = .ok (.iconst 0, 1) := by decide +kernel
theorem dL_hasPhone_134 : decode cL_hasPhone 134 = .ok (.if_icmp .ne 45, 3) := by decide +kernel
theorem dL_hasPhone_137 : decode cL_hasPhone 137 = .ok (.iload 7, 2) := by decide +kernel
theorem dL_hasPhone_139 : decode cL_hasPhone 139 = .ok (.iconst 2, 1) := by decide +kernel
theorem dL_hasPhone_140 : decode cL_hasPhone 140 = .ok (.if_icmp .ne 7, 3) := by decide +kernel
theorem dL_hasPhone_143 : decode cL_hasPhone 143 = .ok (.iconst 1, 1) := by decide +kernel
theorem dL_hasPhone_144 : decode cL_hasPhone 144 = .ok (.goto 4, 3) := by decide +kernel
theorem dL_hasPhone_147 : decode cL_hasPhone 147 = .ok (.iconst 0, 1) := by decide +kernel
theorem dL_hasPhone_148 : decode cL_hasPhone 148 = .ok (.iload 8, 2) := by decide +kernel
theorem dL_hasPhone_150 : decode cL_hasPhone 150 = .ok (.iconst (-1), 1) := by decide +kernel
theorem dL_hasPhone_151 : decode cL_hasPhone 151 = .ok (.if_icmp .eq 7, 3) := by decide +kernel
theorem dL_hasPhone_154 : decode cL_hasPhone 154 = .ok (.iconst 1, 1) := by decide +kernel
theorem dL_hasPhone_155 : decode cL_hasPhone 155 = .ok (.goto 4, 3) := by decide +kernel
theorem dL_hasPhone_158 : decode cL_hasPhone 158 = .ok (.iconst 0, 1) := by decide +kernel
theorem dL_hasPhone_159 : decode cL_hasPhone 159 = .ok (.if_icmp .ne 20, 3) := by decide +kernel
theorem dL_hasPhone_162 : decode cL_hasPhone 162 = .ok (.iload 8, 2) := by decide +kernel
theorem dL_hasPhone_164 : decode cL_hasPhone 164 = .ok (.iconst (-1), 1) := by decide +kernel
theorem dL_hasPhone_165 : decode cL_hasPhone 165 = .ok (.if_icmp .eq 16, 3) := by decide +kernel
theorem dL_hasPhone_168 : decode cL_hasPhone 168 = .ok (.aload_n 0, 1) := by decide +kernel
theorem dL_hasPhone_169 : decode cL_hasPhone 169 = .ok (.iload 8, 2) := by decide +kernel
theorem dL_hasPhone_171 : decode cL_hasPhone 171 = .ok (.invokevirtual 17, 3) := by decide +kernel
theorem dL_hasPhone_174 : decode cL_hasPhone 174 = .ok (.iload 6, 2) := by decide +kernel
theorem dL_hasPhone_176 : decode cL_hasPhone 176 = .ok (.if_icmp .eq 5, 3) := by decide +kernel
theorem dL_hasPhone_179 : decode cL_hasPhone 179 = .ok (.iconst 0, 1) := by decide +kernel
theorem dL_hasPhone_180 : decode cL_hasPhone 180 = .ok (.ireturn, 1) := by decide +kernel
theorem dL_hasPhone_181 : decode cL_hasPhone 181 = .ok (.iload 7, 2) := by decide +kernel
theorem dL_hasPhone_183 : decode cL_hasPhone 183 = .ok (.iconst 3, 1) := by decide +kernel
theorem dL_hasPhone_184 : decode cL_hasPhone 184 = .ok (.if_icmp .ne 14, 3) := by decide +kernel
theorem dL_hasPhone_187 : decode cL_hasPhone 187 = .ok (.iload_n 1, 1) := by decide +kernel
theorem dL_hasPhone_188 : decode cL_hasPhone 188 = .ok (.iconst 2, 1) := by decide +kernel
theorem dL_hasPhone_189 : decode cL_hasPhone 189 = .ok (.if_icmp .ne 47, 3) := by decide +kernel
theorem dL_hasPhone_192 : decode cL_hasPhone 192 = .ok (.iload_n 2, 1) := by decide +kernel
theorem dL_hasPhone_193 : decode cL_hasPhone 193 = .ok (.iload 6, 2) := by decide +kernel
theorem dL_hasPhone_195 : decode cL_hasPhone 195 = .ok (.if_icmp .ne 41, 3) := by decide +kernel
theorem dL_hasPhone_198 : decode cL_hasPhone 198 = .ok (.iload 7, 2) := by decide +kernel
theorem dL_hasPhone_200 : decode cL_hasPhone 200 = .ok (.ifCond .eq 9, 3) := by decide +kernel
theorem dL_hasPhone_203 : decode cL_hasPhone 203 = .ok (.iload 7, 2) := by decide +kernel
theorem dL_hasPhone_205 : decode cL_hasPhone 205 = .ok (.iconst 3, 1) := by decide +kernel
theorem dL_hasPhone_206 : decode cL_hasPhone 206 = .ok (.if_icmp .ne 13, 3) := by decide +kernel
theorem dL_hasPhone_209 : decode cL_hasPhone 209 = .ok (.aload_n 0, 1) := by decide +kernel
theorem dL_hasPhone_210 : decode cL_hasPhone 210 = .ok (.iload 6, 2) := by decide +kernel
theorem dL_hasPhone_212 : decode cL_hasPhone 212 = .ok (.iconst 4, 1) := by decide +kernel
theorem dL_hasPhone_213 : decode cL_hasPhone 213 = .ok (.invokevirtual 13, 3) := by decide +kernel
theorem dL_hasPhone_216 : decode cL_hasPhone 216 = .ok (.ifCond .ne 20, 3) := by decide +kernel
theorem dL_hasPhone_219 : decode cL_hasPhone 219 = .ok (.iload 7, 2) := by decide +kernel
theorem dL_hasPhone_221 : decode cL_hasPhone 221 = .ok (.iconst 2, 1) := by decide +kernel
theorem dL_hasPhone_222 : decode cL_hasPhone 222 = .ok (.if_icmp .ne 16, 3) := by decide +kernel
theorem dL_hasPhone_225 : decode cL_hasPhone 225 = .ok (.aload_n 0, 1) := by decide +kernel
theorem dL_hasPhone_226 : decode cL_hasPhone 226 = .ok (.iload 6, 2) := by decide +kernel
theorem dL_hasPhone_228 : decode cL_hasPhone 228 = .ok (.iconst 4, 1) := by decide +kernel
theorem dL_hasPhone_229 : decode cL_hasPhone 229 = .ok (.invokevirtual 13, 3) := by decide +kernel
theorem dL_hasPhone_232 : decode cL_hasPhone 232 = .ok (.iconst 1, 1) := by decide +kernel
theorem dL_hasPhone_233 : decode cL_hasPhone 233 = .ok (.if_icmp .ge 5, 3) := by decide +kernel
theorem dL_hasPhone_236 : decode cL_hasPhone 236 = .ok (.iconst 0, 1) := by decide +kernel
theorem dL_hasPhone_237 : decode cL_hasPhone 237 = .ok (.ireturn, 1) := by decide +kernel
theorem dL_hasPhone_238 : decode cL_hasPhone 238 = .ok (.iload 7, 2) := by decide +kernel
theorem dL_hasPhone_240 : decode cL_hasPhone 240 = .ok (.iconst 1, 1) := by decide +kernel
theorem dL_hasPhone_241 : decode cL_hasPhone 241 = .ok (.if_icmp .ne 39, 3) := by decide +kernel
theorem dL_hasPhone_244 : decode cL_hasPhone 244 = .ok (.aload_n 0, 1) := by decide +kernel
theorem dL_hasPhone_245 : decode cL_hasPhone 245 = .ok (.iload 6, 2) := by decide +kernel
theorem dL_hasPhone_247 : decode cL_hasPhone 247 = .ok (.iconst 4, 1) := by decide +kernel
theorem dL_hasPhone_248 : decode cL_hasPhone 248 = .ok (.invokevirtual 13, 3) := by decide +kernel
theorem dL_hasPhone_251 : decode cL_hasPhone 251 = .ok (.ifCond .ne 7, 3) := by decide +kernel
theorem dL_hasPhone_254 : decode cL_hasPhone 254 = .ok (.iconst 1, 1) := by decide +kernel
theorem dL_hasPhone_255 : decode cL_hasPhone 255 = .ok (.goto 4, 3) := by decide +kernel
theorem dL_hasPhone_258 : decode cL_hasPhone 258 = .ok (.iconst 0, 1) := by decide +kernel
theorem dL_hasPhone_259 : decode cL_hasPhone 259 = .ok (.iload_n 1, 1) := by decide +kernel
theorem dL_hasPhone_260 : decode cL_hasPhone 260 = .ok (.iconst 1, 1) := by decide +kernel
theorem dL_hasPhone_261 : decode cL_hasPhone 261 = .ok (.if_icmp .ne 13, 3) := by decide +kernel
theorem dL_hasPhone_264 : decode cL_hasPhone 264 = .ok (.iload_n 2, 1) := by decide +kernel
theorem dL_hasPhone_265 : decode cL_hasPhone 265 = .ok (.iload 6, 2) := by decide +kernel
theorem dL_hasPhone_267 : decode cL_hasPhone 267 = .ok (.if_icmp .ne 7, 3) := by decide +kernel
theorem dL_hasPhone_270 : decode cL_hasPhone 270 = .ok (.iconst 1, 1) := by decide +kernel
theorem dL_hasPhone_271 : decode cL_hasPhone 271 = .ok (.goto 4, 3) := by decide +kernel
theorem dL_hasPhone_274 : decode cL_hasPhone 274 = .ok (.iconst 0, 1) := by decide +kernel
theorem dL_hasPhone_275 : decode cL_hasPhone 275 = .ok (.if_icmp .eq 5, 3) := by decide +kernel
theorem dL_hasPhone_278 : decode cL_hasPhone 278 = .ok (.iconst 0, 1) := by decide +kernel
theorem dL_hasPhone_279 : decode cL_hasPhone 279 = .ok (.ireturn, 1) := by decide +kernel
theorem dL_hasPhone_280 : decode cL_hasPhone 280 = .ok (.iinc 6 1, 3) := by decide +kernel
theorem dL_hasPhone_283 : decode cL_hasPhone 283 = .ok (.goto (-260), 3) := by decide +kernel
theorem dL_hasPhone_286 : decode cL_hasPhone 286 = .ok (.iload_n 1, 1) := by decide +kernel
theorem dL_hasPhone_287 : decode cL_hasPhone 287 = .ok (.ifCond .ne 24, 3) := by decide +kernel
theorem dL_hasPhone_290 : decode cL_hasPhone 290 = .ok (.iload_n 3, 1) := by decide +kernel
theorem dL_hasPhone_291 : decode cL_hasPhone 291 = .ok (.ifCond .ne 57, 3) := by decide +kernel
theorem dL_hasPhone_294 : decode cL_hasPhone 294 = .ok (.iload_n 2, 1) := by decide +kernel
theorem dL_hasPhone_295 : decode cL_hasPhone 295 = .ok (.iconst (-1), 1) := by decide +kernel
theorem dL_hasPhone_296 : decode cL_hasPhone 296 = .ok (.if_icmp .ne 52, 3) := by decide +kernel
theorem dL_hasPhone_299 : decode cL_hasPhone 299 = .ok (.aload_n 0, 1) := by decide +kernel
theorem dL_hasPhone_300 : decode cL_hasPhone 300 = .ok (.bipush 6, 2) := by decide +kernel
theorem dL_hasPhone_302 : decode cL_hasPhone 302 = .ok (.invokevirtual 7, 3) := by decide +kernel
theorem dL_hasPhone_305 : decode cL_hasPhone 305 = .ok (.ifCond .eq 45, 3) := by decide +kernel
theorem dL_hasPhone_308 : decode cL_hasPhone 308 = .ok (.goto 40, 3) := by decide +kernel
theorem dL_hasPhone_311 : decode cL_hasPhone 311 = .ok (.iload_n 1, 1) := by decide +kernel
theorem dL_hasPhone_312 : decode cL_hasPhone 312 = .ok (.iconst 1, 1) := by decide +kernel
theorem dL_hasPhone_313 : decode cL_hasPhone 313 = .ok (.if_icmp .ne 30, 3) := by decide +kernel
theorem dL_hasPhone_316 : decode cL_hasPhone 316 = .ok (.iload_n 3, 1) := by decide +kernel
theorem dL_hasPhone_317 : decode cL_hasPhone 317 = .ok (.ifCond .ne 31, 3) := by decide +kernel
theorem dL_hasPhone_320 : decode cL_hasPhone 320 = .ok (.aload_n 0, 1) := by decide +kernel
theorem dL_hasPhone_321 : decode cL_hasPhone 321 = .ok (.iload_n 2, 1) := by decide +kernel
theorem dL_hasPhone_322 : decode cL_hasPhone 322 = .ok (.iconst 2, 1) := by decide +kernel
theorem dL_hasPhone_323 : decode cL_hasPhone 323 = .ok (.invokevirtual 13, 3) := by decide +kernel
theorem dL_hasPhone_326 : decode cL_hasPhone 326 = .ok (.iconst 1, 1) := by decide +kernel
theorem dL_hasPhone_327 : decode cL_hasPhone 327 = .ok (.if_icmp .ne 21, 3) := by decide +kernel
theorem dL_hasPhone_330 : decode cL_hasPhone 330 = .ok (.aload_n 0, 1) := by decide +kernel
theorem dL_hasPhone_331 : decode cL_hasPhone 331 = .ok (.bipush 6, 2) := by decide +kernel
theorem dL_hasPhone_333 : decode cL_hasPhone 333 = .ok (.invokevirtual 7, 3) := by decide +kernel
theorem dL_hasPhone_336 : decode cL_hasPhone 336 = .ok (.iconst 1, 1) := by decide +kernel
theorem dL_hasPhone_337 : decode cL_hasPhone 337 = .ok (.if_icmp .eq 13, 3) := by decide +kernel
theorem dL_hasPhone_340 : decode cL_hasPhone 340 = .ok (.goto 8, 3) := by decide +kernel
theorem dL_hasPhone_343 : decode cL_hasPhone 343 = .ok (.iload_n 3, 1) := by decide +kernel
theorem dL_hasPhone_344 : decode cL_hasPhone 344 = .ok (.iconst 1, 1) := by decide +kernel
theorem dL_hasPhone_345 : decode cL_hasPhone 345 = .ok (.if_icmp .eq 5, 3) := by decide +kernel
theorem dL_hasPhone_348 : decode cL_hasPhone 348 = .ok (.iconst 0, 1) := by decide +kernel
theorem dL_hasPhone_349 : decode cL_hasPhone 349 = .ok (.ireturn, 1) := by decide +kernel
theorem dL_hasPhone_350 : decode cL_hasPhone 350 = .ok (.iload_n 1, 1) := by decide +kernel
theorem dL_hasPhone_351 : decode cL_hasPhone 351 = .ok (.iconst 2, 1) := by decide +kernel
theorem dL_hasPhone_352 : decode cL_hasPhone 352 = .ok (.if_icmp .ne 23, 3) := by decide +kernel
theorem dL_hasPhone_355 : decode cL_hasPhone 355 = .ok (.aload_n 0, 1) := by decide +kernel
theorem dL_hasPhone_356 : decode cL_hasPhone 356 = .ok (.iconst 4, 1) := by decide +kernel
theorem dL_hasPhone_357 : decode cL_hasPhone 357 = .ok (.invokevirtual 7, 3) := by decide +kernel
theorem dL_hasPhone_360 : decode cL_hasPhone 360 = .ok (.ifCond .lt 31, 3) := by decide +kernel
theorem dL_hasPhone_363 : decode cL_hasPhone 363 = .ok (.aload_n 0, 1) := by decide +kernel
theorem dL_hasPhone_364 : decode cL_hasPhone 364 = .ok (.iconst 5, 1) := by decide +kernel
theorem dL_hasPhone_365 : decode cL_hasPhone 365 = .ok (.invokevirtual 7, 3) := by decide +kernel
theorem dL_hasPhone_368 : decode cL_hasPhone 368 = .ok (.iconst 1, 1) := by decide +kernel
theorem dL_hasPhone_369 : decode cL_hasPhone 369 = .ok (.if_icmp .ge 24, 3) := by decide +kernel
theorem dL_hasPhone_372 : decode cL_hasPhone 372 = .ok (.goto 19, 3) := by decide +kernel
theorem dL_hasPhone_375 : decode cL_hasPhone 375 = .ok (.aload_n 0, 1) := by decide +kernel
theorem dL_hasPhone_376 : decode cL_hasPhone 376 = .ok (.iconst 4, 1) := by decide +kernel
theorem dL_hasPhone_377 : decode cL_hasPhone 377 = .ok (.invokevirtual 7, 3) := by decide +kernel
theorem dL_hasPhone_380 : decode cL_hasPhone 380 = .ok (.ifCond .ne 11, 3) := by decide +kernel
theorem dL_hasPhone_383 : decode cL_hasPhone 383 = .ok (.aload_n 0, 1) := by decide +kernel
theorem dL_hasPhone_384 : decode cL_hasPhone 384 = .ok (.iconst 5, 1) := by decide +kernel
theorem dL_hasPhone_385 : decode cL_hasPhone 385 = .ok (.invokevirtual 7, 3) := by decide +kernel
theorem dL_hasPhone_388 : decode cL_hasPhone 388 = .ok (.ifCond .eq 5, 3) := by decide +kernel
theorem dL_hasPhone_391 : decode cL_hasPhone 391 = .ok (.iconst 0, 1) := by decide +kernel
theorem dL_hasPhone_392 : decode cL_hasPhone 392 = .ok (.ireturn, 1) := by decide +kernel
theorem dL_hasPhone_393 : decode cL_hasPhone 393 = .ok (.aload_n 0, 1) := by decide +kernel
theorem dL_hasPhone_394 : decode cL_hasPhone 394 = .ok (.bipush 7, 2) := by decide +kernel
theorem dL_hasPhone_396 : decode cL_hasPhone 396 = .ok (.invokevirtual 7, 3) := by decide +kernel
theorem dL_hasPhone_399 : decode cL_hasPhone 399 = .ok (.iload 5, 2) := by decide +kernel
theorem dL_hasPhone_401 : decode cL_hasPhone 401 = .ok (.if_icmp .ne 37, 3) := by decide +kernel
theorem dL_hasPhone_404 : decode cL_hasPhone 404 = .ok (.aload_n 0, 1) := by decide +kernel
theorem dL_hasPhone_405 : decode cL_hasPhone 405 = .ok (.bipush 8, 2) := by decide +kernel
theorem dL_hasPhone_407 : decode cL_hasPhone 407 = .ok (.invokevirtual 7, 3) := by decide +kernel
theorem dL_hasPhone_410 : decode cL_hasPhone 410 = .ok (.iload 4, 2) := by decide +kernel
theorem dL_hasPhone_412 : decode cL_hasPhone 412 = .ok (.if_icmp .ne 26, 3) := by decide +kernel
theorem dL_hasPhone_415 : decode cL_hasPhone 415 = .ok (.aload_n 0, 1) := by decide +kernel
theorem dL_hasPhone_416 : decode cL_hasPhone 416 = .ok (.iload 5, 2) := by decide +kernel
theorem dL_hasPhone_418 : decode cL_hasPhone 418 = .ok (.invokevirtual 17, 3) := by decide +kernel
theorem dL_hasPhone_421 : decode cL_hasPhone 421 = .ok (.iconst (-1), 1) := by decide +kernel
theorem dL_hasPhone_422 : decode cL_hasPhone 422 = .ok (.if_icmp .ne 16, 3) := by decide +kernel
theorem dL_hasPhone_425 : decode cL_hasPhone 425 = .ok (.aload_n 0, 1) := by decide +kernel
theorem dL_hasPhone_426 : decode cL_hasPhone 426 = .ok (.iconst (-1), 1) := by decide +kernel
theorem dL_hasPhone_427 : decode cL_hasPhone 427 = .ok (.invokevirtual 17, 3) := by decide +kernel
theorem dL_hasPhone_430 : decode cL_hasPhone 430 = .ok (.iconst (-1), 1) := by decide +kernel
theorem dL_hasPhone_431 : decode cL_hasPhone 431 = .ok (.if_icmp .ne 7, 3) := by decide +kernel
theorem dL_hasPhone_434 : decode cL_hasPhone 434 = .ok (.iconst 1, 1) := by decide +kernel
theorem dL_hasPhone_435 : decode cL_hasPhone 435 = .ok (.goto 4, 3) := by decide +kernel
theorem dL_hasPhone_438 : decode cL_hasPhone 438 = .ok (.iconst 0, 1) := by decide +kernel
theorem dL_hasPhone_439 : decode cL_hasPhone 439 = .ok (.ireturn, 1) := by decide +kernel
theorem dL_hasFlats_0 : decode cL_hasFlats 0 = .ok (.iconst 0, 1) := by decide +kernel
theorem dL_hasFlats_1 : decode cL_hasFlats 1 = .ok (.istore_n 1, 1) := by decide +kernel
theorem dL_hasFlats_2 : decode cL_hasFlats 2 = .ok (.iconst 0, 1) := by decide +kernel
theorem dL_hasFlats_3 : decode cL_hasFlats 3 = .ok (.istore_n 2, 1) := by decide +kernel
theorem dL_hasFlats_4 : decode cL_hasFlats 4 = .ok (.iconst 0, 1) := by decide +kernel
theorem dL_hasFlats_5 : decode cL_hasFlats 5 = .ok (.istore_n 3, 1) := by decide +kernel
theorem dL_hasFlats_6 : decode cL_hasFlats 6 = .ok (.iconst 0, 1) := by decide +kernel
theorem dL_hasFlats_7 : decode cL_hasFlats 7 = .ok (.istore 4, 2) := by decide +kernel
theorem dL_hasFlats_9 : decode cL_hasFlats 9 = .ok (.iconst 0, 1) := by decide +kernel
theorem dL_hasFlats_10 : decode cL_hasFlats 10 = .ok (.istore 5, 2) := by decide +kernel
theorem dL_hasFlats_12 : decode cL_hasFlats 12 = .ok (.iconst 0, 1) := by decide +kernel
theorem dL_hasFlats_13 : decode cL_hasFlats 13 = .ok (.istore 6, 2) := by decide +kernel
theorem dL_hasFlats_15 : decode cL_hasFlats 15 = .ok (.iload 6, 2) := by decide +kernel
theorem dL_hasFlats_17 : decode cL_hasFlats 17 = .ok (.aload_n 0, 1) := by decide +kernel
theorem dL_hasFlats_18 : decode cL_hasFlats 18 = .ok (.iconst 0, 1) := by decide +kernel
theorem dL_hasFlats_19 : decode cL_hasFlats 19 = .ok (.invokevirtual 7, 3) := by decide +kernel
theorem dL_hasFlats_22 : decode cL_hasFlats 22 = .ok (.if_icmp .ge 132, 3) := by decide +kernel
theorem dL_hasFlats_25 : decode cL_hasFlats 25 = .ok (.aload_n 0, 1) := by decide +kernel
theorem dL_hasFlats_26 : decode cL_hasFlats 26 = .ok (.iload 6, 2) := by decide +kernel
theorem dL_hasFlats_28 : decode cL_hasFlats 28 = .ok (.bipush 6, 2) := by decide +kernel
theorem dL_hasFlats_30 : decode cL_hasFlats 30 = .ok (.invokevirtual 13, 3) := by decide +kernel
theorem dL_hasFlats_33 : decode cL_hasFlats 33 = .ok (.ifCond .lt 14, 3) := by decide +kernel
theorem dL_hasFlats_36 : decode cL_hasFlats 36 = .ok (.aload_n 0, 1) := by decide +kernel
theorem dL_hasFlats_37 : decode cL_hasFlats 37 = .ok (.iload 6, 2) := by decide +kernel
theorem dL_hasFlats_39 : decode cL_hasFlats 39 = .ok (.iload 6, 2) := by decide +kernel
theorem dL_hasFlats_41 : decode cL_hasFlats 41 = .ok (.invokevirtual 20, 3) := by decide +kernel
theorem dL_hasFlats_44 : decode cL_hasFlats 44 = .ok (.ifCond .eq 5, 3) := by decide +kernel
theorem dL_hasFlats_47 : decode cL_hasFlats 47 = .ok (.iconst 0, 1) := by decide +kernel
theorem dL_hasFlats_48 : decode cL_hasFlats 48 = .ok (.ireturn, 1) := by decide +kernel
theorem dL_hasFlats_49 : decode cL_hasFlats 49 = .ok (.iload_n 1, 1) := by decide +kernel
theorem dL_hasFlats_50 : decode cL_hasFlats 50 = .ok (.aload_n 0, 1) := by decide +kernel
theorem dL_hasFlats_51 : decode cL_hasFlats 51 = .ok (.iload 6, 2) := by decide +kernel
theorem dL_hasFlats_53 : decode cL_hasFlats 53 = .ok (.bipush 6, 2) := by decide +kernel
theorem dL_hasFlats_55 : decode cL_hasFlats 55 = .ok (.invokevirtual 13, 3) := by decide +kernel
theorem dL_hasFlats_58 : decode cL_hasFlats 58 = .ok (.iadd, 1) := by decide +kernel
theorem dL_hasFlats_59 : decode cL_hasFlats 59 = .ok (.istore_n 1, 1) := by decide +kernel
theorem dL_hasFlats_60 : decode cL_hasFlats 60 = .ok (.iload_n 2, 1) := by decide +kernel
theorem dL_hasFlats_61 : decode cL_hasFlats 61 = .ok (.aload_n 0, 1) := by decide +kernel
theorem dL_hasFlats_62 : decode cL_hasFlats 62 = .ok (.iload 6, 2) := by decide +kernel
theorem dL_hasFlats_64 : decode cL_hasFlats 64 = .ok (.bipush 9, 2) := by decide +kernel
theorem dL_hasFlats_66 : decode cL_hasFlats 66 = .ok (.invokevirtual 13, 3) := by decide +kernel
theorem dL_hasFlats_69 : decode cL_hasFlats 69 = .ok (.iadd, 1) := by decide +kernel
theorem dL_hasFlats_70 : decode cL_hasFlats 70 = .ok (.istore_n 2, 1) := by decide +kernel
theorem dL_hasFlats_71 : decode cL_hasFlats 71 = .ok (.iload_n 3, 1) := by decide +kernel
theorem dL_hasFlats_72 : decode cL_hasFlats 72 = .ok (.aload_n 0, 1) := by decide +kernel
theorem dL_hasFlats_73 : decode cL_hasFlats 73 = .ok (.iload 6, 2) := by decide +kernel
theorem dL_hasFlats_75 : decode cL_hasFlats 75 = .ok (.bipush 7, 2) := by decide +kernel
theorem dL_hasFlats_77 : decode cL_hasFlats 77 = .ok (.invokevirtual 13, 3) := by decide +kernel
theorem dL_hasFlats_80 : decode cL_hasFlats 80 = .ok (.iadd, 1) := by decide +kernel
theorem dL_hasFlats_81 : decode cL_hasFlats 81 = .ok (.istore_n 3, 1) := by decide +kernel
theorem dL_hasFlats_82 : decode cL_hasFlats 82 = .ok (.iload 4, 2) := by decide +kernel
theorem dL_hasFlats_84 : decode cL_hasFlats 84 = .ok (.aload_n 0, 1) := by decide +kernel
theorem dL_hasFlats_85 : decode cL_hasFlats 85 = .ok (.iload 6, 2) := by decide +kernel
theorem dL_hasFlats_87 : decode cL_hasFlats 87 = .ok (.bipush 8, 2) := by decide +kernel
theorem dL_hasFlats_89 : decode cL_hasFlats 89 = .ok (.invokevirtual 13, 3) := by decide +kernel
theorem dL_hasFlats_92 : decode cL_hasFlats 92 = .ok (.iadd, 1) := by decide +kernel
theorem dL_hasFlats_93 : decode cL_hasFlats 93 = .ok (.istore 4, 2) := by decide +kernel
theorem dL_hasFlats_95 : decode cL_hasFlats 95 = .ok (.iconst 0, 1) := by decide +kernel
theorem dL_hasFlats_96 : decode cL_hasFlats 96 = .ok (.istore 7, 2) := by decide +kernel
theorem dL_hasFlats_98 : decode cL_hasFlats 98 = .ok (.iload 7, 2) := by decide +kernel
theorem dL_hasFlats_100 : decode cL_hasFlats 100 = .ok (.aload_n 0, 1) := by decide +kernel
theorem dL_hasFlats_101 : decode cL_hasFlats 101 = .ok (.iconst 0, 1) := by decide +kernel
theorem dL_hasFlats_102 : decode cL_hasFlats 102 = .ok (.invokevirtual 7, 3) := by decide +kernel
theorem dL_hasFlats_105 : decode cL_hasFlats 105 = .ok (.if_icmp .ge 43, 3) := by decide +kernel
theorem dL_hasFlats_108 : decode cL_hasFlats 108 = .ok (.iload 5, 2) := by decide +kernel
theorem dL_hasFlats_110 : decode cL_hasFlats 110 = .ok (.aload_n 0, 1) := by decide +kernel
theorem dL_hasFlats_111 : decode cL_hasFlats 111 = .ok (.iload 6, 2) := by decide +kernel
theorem dL_hasFlats_113 : decode cL_hasFlats 113 = .ok (.iload 7, 2) := by decide +kernel
theorem dL_hasFlats_115 : decode cL_hasFlats 115 = .ok (.invokevirtual 20, 3) := by decide +kernel
theorem dL_hasFlats_118 : decode cL_hasFlats 118 = .ok (.iadd, 1) := by decide +kernel
theorem dL_hasFlats_119 : decode cL_hasFlats 119 = .ok (.istore 5, 2) := by decide +kernel
theorem dL_hasFlats_121 : decode cL_hasFlats 121 = .ok (.aload_n 0, 1) := by decide +kernel
theorem dL_hasFlats_122 : decode cL_hasFlats 122 = .ok (.iload 6, 2) := by decide +kernel
theorem dL_hasFlats_124 : decode cL_hasFlats 124 = .ok (.iload 7, 2) := by decide +kernel
theorem dL_hasFlats_126 : decode cL_hasFlats 126 = .ok (.invokevirtual 20, 3) := by decide +kernel
theorem dL_hasFlats_129 : decode cL_hasFlats 129 = .ok (.aload_n 0, 1) := by decide +kernel
theorem dL_hasFlats_130 : decode cL_hasFlats 130 = .ok (.iload 7, 2) := by decide +kernel
theorem dL_hasFlats_132 : decode cL_hasFlats 132 = .ok (.bipush 7, 2) := by decide +kernel
theorem dL_hasFlats_134 : decode cL_hasFlats 134 = .ok (.invokevirtual 13, 3) := by decide +kernel
theorem dL_hasFlats_137 : decode cL_hasFlats 137 = .ok (.if_icmp .le 5, 3) := by decide +kernel
theorem dL_hasFlats_140 : decode cL_hasFlats 140 = .ok (.iconst 0, 1) := by decide +kernel
theorem dL_hasFlats_141 : decode cL_hasFlats 141 = .ok (.ireturn, 1) := by decide +kernel
theorem dL_hasFlats_142 : decode cL_hasFlats 142 = .ok (.iinc 7 1, 3) := by decide +kernel
theorem dL_hasFlats_145 : decode cL_hasFlats 145 = .ok (.goto (-47), 3) := by decide +kernel
theorem dL_hasFlats_148 : decode cL_hasFlats 148 = .ok (.iinc 6 1, 3) := by decide +kernel
theorem dL_hasFlats_151 : decode cL_hasFlats 151 = .ok (.goto (-136), 3) := by decide +kernel
theorem dL_hasFlats_154 : decode cL_hasFlats 154 = .ok (.iconst 0, 1) := by decide +kernel
theorem dL_hasFlats_155 : decode cL_hasFlats 155 = .ok (.istore 6, 2) := by decide +kernel
theorem dL_hasFlats_157 : decode cL_hasFlats 157 = .ok (.iload 6, 2) := by decide +kernel
theorem dL_hasFlats_159 : decode cL_hasFlats 159 = .ok (.aload_n 0, 1) := by decide +kernel
theorem dL_hasFlats_160 : decode cL_hasFlats 160 = .ok (.bipush 9, 2) := by decide +kernel
theorem dL_hasFlats_162 : decode cL_hasFlats 162 = .ok (.invokevirtual 7, 3) := by decide +kernel
theorem dL_hasFlats_165 : decode cL_hasFlats 165 = .ok (.if_icmp .ge 50, 3) := by decide +kernel
theorem dL_hasFlats_168 : decode cL_hasFlats 168 = .ok (.aload_n 0, 1) := by decide +kernel
theorem dL_hasFlats_169 : decode cL_hasFlats 169 = .ok (.iload 6, 2) := by decide +kernel
theorem dL_hasFlats_171 : decode cL_hasFlats 171 = .ok (.iconst 1, 1) := by decide +kernel
theorem dL_hasFlats_172 : decode cL_hasFlats 172 = .ok (.invokevirtual 23, 3) := by decide +kernel
theorem dL_hasFlats_175 : decode cL_hasFlats 175 = .ok (.aload_n 0, 1) := by decide +kernel
theorem dL_hasFlats_176 : decode cL_hasFlats 176 = .ok (.iconst 1, 1) := by decide +kernel
theorem dL_hasFlats_177 : decode cL_hasFlats 177 = .ok (.invokevirtual 7, 3) := by decide +kernel
theorem dL_hasFlats_180 : decode cL_hasFlats 180 = .ok (.if_icmp .gt 27, 3) := by decide +kernel
theorem dL_hasFlats_183 : decode cL_hasFlats 183 = .ok (.iload 6, 2) := by decide +kernel
theorem dL_hasFlats_185 : decode cL_hasFlats 185 = .ok (.ifCond .le 24, 3) := by decide +kernel
theorem dL_hasFlats_188 : decode cL_hasFlats 188 = .ok (.aload_n 0, 1) := by decide +kernel
theorem dL_hasFlats_189 : decode cL_hasFlats 189 = .ok (.iload 6, 2) := by decide +kernel
theorem dL_hasFlats_191 : decode cL_hasFlats 191 = .ok (.iconst 1, 1) := by decide +kernel
theorem dL_hasFlats_192 : decode cL_hasFlats 192 = .ok (.invokevirtual 23, 3) := by decide +kernel
theorem dL_hasFlats_195 : decode cL_hasFlats 195 = .ok (.aload_n 0, 1) := by decide +kernel
theorem dL_hasFlats_196 : decode cL_hasFlats 196 = .ok (.iload 6, 2) := by decide +kernel
theorem dL_hasFlats_198 : decode cL_hasFlats 198 = .ok (.iconst 1, 1) := by decide +kernel
theorem dL_hasFlats_199 : decode cL_hasFlats 199 = .ok (.isub, 1) := by decide +kernel
theorem dL_hasFlats_200 : decode cL_hasFlats 200 = .ok (.iconst 1, 1) := by decide +kernel
theorem dL_hasFlats_201 : decode cL_hasFlats 201 = .ok (.invokevirtual 23, 3) := by decide +kernel
theorem dL_hasFlats_204 : decode cL_hasFlats 204 = .ok (.if_icmp .ge 5, 3) := by decide +kernel
theorem dL_hasFlats_207 : decode cL_hasFlats 207 = .ok (.iconst 0, 1) := by decide +kernel
theorem dL_hasFlats_208 : decode cL_hasFlats 208 = .ok (.ireturn, 1) := by decide +kernel
theorem dL_hasFlats_209 : decode cL_hasFlats 209 = .ok (.iinc 6 1, 3) := by decide +kernel
theorem dL_hasFlats_212 : decode cL_hasFlats 212 = .ok (.goto (-55), 3) := by decide +kernel
theorem dL_hasFlats_215 : decode cL_hasFlats 215 = .ok (.aload_n 0, 1) := by decide +kernel
theorem dL_hasFlats_216 : decode cL_hasFlats 216 = .ok (.bipush 10, 2) := by decide +kernel
theorem dL_hasFlats_218 : decode cL_hasFlats 218 = .ok (.invokevirtual 7, 3) := by decide +kernel
theorem dL_hasFlats_221 : decode cL_hasFlats 221 = .ok (.iload_n 1, 1) := by decide +kernel
theorem dL_hasFlats_222 : decode cL_hasFlats 222 = .ok (.if_icmp .ne 53, 3) := by decide +kernel
theorem dL_hasFlats_225 : decode cL_hasFlats 225 = .ok (.aload_n 0, 1) := by decide +kernel
theorem dL_hasFlats_226 : decode cL_hasFlats 226 = .ok (.bipush 9, 2) := by decide +kernel
theorem dL_hasFlats_228 : decode cL_hasFlats 228 = .ok (.invokevirtual 7, 3) := by decide +kernel
theorem dL_hasFlats_231 : decode cL_hasFlats 231 = .ok (.iload_n 2, 1) := by decide +kernel
theorem dL_hasFlats_232 : decode cL_hasFlats 232 = .ok (.if_icmp .ne 43, 3) := by decide +kernel
theorem dL_hasFlats_235 : decode cL_hasFlats 235 = .ok (.iload_n 2, 1) := by decide +kernel
theorem dL_hasFlats_236 : decode cL_hasFlats 236 = .ok (.bipush 8, 2) := by decide +kernel
theorem dL_hasFlats_238 : decode cL_hasFlats 238 = .ok (.if_icmp .gt 37, 3) := by decide +kernel
theorem dL_hasFlats_241 : decode cL_hasFlats 241 = .ok (.aload_n 0, 1) := by decide +kernel
theorem dL_hasFlats_242 : decode cL_hasFlats 242 = .ok (.iconst 3, 1) := by decide +kernel
theorem dL_hasFlats_243 : decode cL_hasFlats 243 = .ok (.invokevirtual 26, 3) := by decide +kernel
theorem dL_hasFlats_246 : decode cL_hasFlats 246 = .ok (.iload_n 3, 1) := by decide +kernel
theorem dL_hasFlats_247 : decode cL_hasFlats 247 = .ok (.if_icmp .ne 28, 3) := by decide +kernel
theorem dL_hasFlats_250 : decode cL_hasFlats 250 = .ok (.aload_n 0, 1) := by decide +kernel
theorem dL_hasFlats_251 : decode cL_hasFlats 251 = .ok (.iconst 1, 1) := by decide +kernel
theorem dL_hasFlats_252 : decode cL_hasFlats 252 = .ok (.invokevirtual 26, 3) := by decide +kernel
theorem dL_hasFlats_255 : decode cL_hasFlats 255 = .ok (.iload 4, 2) := by decide +kernel
theorem dL_hasFlats_257 : decode cL_hasFlats 257 = .ok (.if_icmp .ne 18, 3) := by decide +kernel
theorem dL_hasFlats_260 : decode cL_hasFlats 260 = .ok (.aload_n 0, 1) := by decide +kernel
theorem dL_hasFlats_261 : decode cL_hasFlats 261 = .ok (.bipush 9, 2) := by decide +kernel
theorem dL_hasFlats_263 : decode cL_hasFlats 263 = .ok (.invokevirtual 26, 3) := by decide +kernel
theorem dL_hasFlats_266 : decode cL_hasFlats 266 = .ok (.iload 5, 2) := by decide +kernel
theorem dL_hasFlats_268 : decode cL_hasFlats 268 = .ok (.if_icmp .ne 7, 3) := by decide +kernel
theorem dL_hasFlats_271 : decode cL_hasFlats 271 = .ok (.iconst 1, 1) := by decide +kernel
theorem dL_hasFlats_272 : decode cL_hasFlats 272 = .ok (.goto 4, 3) := by decide +kernel
theorem dL_hasFlats_275 : decode cL_hasFlats 275 = .ok (.iconst 0, 1) := by decide +kernel
theorem dL_hasFlats_276 : decode cL_hasFlats 276 = .ok (.ireturn, 1) := by decide +kernel
theorem dL_holds_0 : decode cL_holds 0 = .ok (.aload_n 0, 1) := by decide +kernel
theorem dL_holds_1 : decode cL_holds 1 = .ok (.bipush 10, 2) := by decide +kernel
theorem dL_holds_3 : decode cL_holds 3 = .ok (.invokevirtual 26, 3) := by decide +kernel
theorem dL_holds_6 : decode cL_holds 6 = .ok (.ifCond .ne 60, 3) := by decide +kernel
theorem dL_holds_9 : decode cL_holds 9 = .ok (.aload_n 0, 1) := by decide +kernel
theorem dL_holds_10 : decode cL_holds 10 = .ok (.iconst 0, 1) := by decide +kernel
theorem dL_holds_11 : decode cL_holds 11 = .ok (.invokevirtual 26, 3) := by decide +kernel
theorem dL_holds_14 : decode cL_holds 14 = .ok (.aload_n 0, 1) := by decide +kernel
theorem dL_holds_15 : decode cL_holds 15 = .ok (.iconst 1, 1) := by decide +kernel
theorem dL_holds_16 : decode cL_holds 16 = .ok (.invokevirtual 7, 3) := by decide +kernel
theorem dL_holds_19 : decode cL_holds 19 = .ok (.if_icmp .ne 47, 3) := by decide +kernel
theorem dL_holds_22 : decode cL_holds 22 = .ok (.aload_n 0, 1) := by decide +kernel
theorem dL_holds_23 : decode cL_holds 23 = .ok (.iconst 2, 1) := by decide +kernel
theorem dL_holds_24 : decode cL_holds 24 = .ok (.invokevirtual 26, 3) := by decide +kernel
theorem dL_holds_27 : decode cL_holds 27 = .ok (.aload_n 0, 1) := by decide +kernel
theorem dL_holds_28 : decode cL_holds 28 = .ok (.iconst 1, 1) := by decide +kernel
theorem dL_holds_29 : decode cL_holds 29 = .ok (.invokevirtual 26, 3) := by decide +kernel
theorem dL_holds_32 : decode cL_holds 32 = .ok (.if_icmp .gt 34, 3) := by decide +kernel
theorem dL_holds_35 : decode cL_holds 35 = .ok (.aload_n 0, 1) := by decide +kernel
theorem dL_holds_36 : decode cL_holds 36 = .ok (.iconst 3, 1) := by decide +kernel
theorem dL_holds_37 : decode cL_holds 37 = .ok (.invokevirtual 26, 3) := by decide +kernel
theorem dL_holds_40 : decode cL_holds 40 = .ok (.aload_n 0, 1) := by decide +kernel
theorem dL_holds_41 : decode cL_holds 41 = .ok (.iconst 0, 1) := by decide +kernel
theorem dL_holds_42 : decode cL_holds 42 = .ok (.invokevirtual 26, 3) := by decide +kernel
theorem dL_holds_45 : decode cL_holds 45 = .ok (.if_icmp .gt 21, 3) := by decide +kernel
theorem dL_holds_48 : decode cL_holds 48 = .ok (.aload_n 0, 1) := by decide +kernel
theorem dL_holds_49 : decode cL_holds 49 = .ok (.invokestatic 29, 3) := by decide +kernel
theorem dL_holds_52 : decode cL_holds 52 = .ok (.ifCond .eq 14, 3) := by decide +kernel
theorem dL_holds_55 : decode cL_holds 55 = .ok (.aload_n 0, 1) := by decide +kernel
theorem dL_holds_56 : decode cL_holds 56 = .ok (.invokestatic 35, 3) := by decide +kernel
theorem dL_holds_59 : decode cL_holds 59 = .ok (.ifCond .eq 7, 3) := by decide +kernel
theorem dL_holds_62 : decode cL_holds 62 = .ok (.iconst 1, 1) := by decide +kernel
theorem dL_holds_63 : decode cL_holds 63 = .ok (.goto 4, 3) := by decide +kernel
theorem dL_holds_66 : decode cL_holds 66 = .ok (.iconst 0, 1) := by decide +kernel
theorem dL_holds_67 : decode cL_holds 67 = .ok (.ireturn, 1) := by decide +kernel
theorem dL_law_0 : decode cL_law 0 = .ok (.new 8, 3) := by decide +kernel
theorem dL_law_3 : decode cL_law 3 = .ok (.dup, 1) := by decide +kernel
theorem dL_law_4 : decode cL_law 4 = .ok (.invokespecial 38, 3) := by decide +kernel
theorem dL_law_7 : decode cL_law 7 = .ok (.astore_n 1, 1) := by decide +kernel
theorem dL_law_8 : decode cL_law 8 = .ok (.aload_n 1, 1) := by decide +kernel
theorem dL_law_9 : decode cL_law 9 = .ok (.aload_n 0, 1) := by decide +kernel
theorem dL_law_10 : decode cL_law 10 = .ok (.iconst 0, 1) := by decide +kernel
theorem dL_law_11 : decode cL_law 11 = .ok (.invokestatic 39, 3) := by decide +kernel
theorem dL_law_14 : decode cL_law 14 = .ok (.ldc 43, 2) := by decide +kernel
theorem dL_law_16 : decode cL_law 16 = .ok (.iand, 1) := by decide +kernel
theorem dL_law_17 : decode cL_law 17 = .ok (.iconst 3, 1) := by decide +kernel
theorem dL_law_18 : decode cL_law 18 = .ok (.irem, 1) := by decide +kernel
theorem dL_law_19 : decode cL_law 19 = .ok (.invokevirtual 44, 3) := by decide +kernel
theorem dL_law_22 : decode cL_law 22 = .ok (.aload_n 1, 1) := by decide +kernel
theorem dL_law_23 : decode cL_law 23 = .ok (.iconst 0, 1) := by decide +kernel
theorem dL_law_24 : decode cL_law 24 = .ok (.invokevirtual 7, 3) := by decide +kernel
theorem dL_law_27 : decode cL_law 27 = .ok (.if_icmp .ne 10, 3) := by decide +kernel
theorem dL_law_30 : decode cL_law 30 = .ok (.aload_n 1, 1) := by decide +kernel
theorem dL_law_31 : decode cL_law 31 = .ok (.invokestatic 47, 3) := by decide +kernel
theorem dL_law_34 : decode cL_law 34 = .ok (.ifCond .ne 5, 3) := by decide +kernel
theorem dL_law_37 : decode cL_law 37 = .ok (.iconst 0, 1) := by decide +kernel
theorem dL_law_38 : decode cL_law 38 = .ok (.ireturn, 1) := by decide +kernel
theorem dL_law_39 : decode cL_law 39 = .ok (.iconst 0, 1) := by decide +kernel
theorem dL_law_40 : decode cL_law 40 = .ok (.istore_n 2, 1) := by decide +kernel
theorem dL_law_41 : decode cL_law 41 = .ok (.aload_n 1, 1) := by decide +kernel
theorem dL_law_42 : decode cL_law 42 = .ok (.iconst 0, 1) := by decide +kernel
theorem dL_law_43 : decode cL_law 43 = .ok (.invokevirtual 7, 3) := by decide +kernel
theorem dL_law_46 : decode cL_law 46 = .ok (.istore_n 3, 1) := by decide +kernel
theorem dL_law_47 : decode cL_law 47 = .ok (.iconst 1, 1) := by decide +kernel
theorem dL_law_48 : decode cL_law 48 = .ok (.istore 4, 2) := by decide +kernel
theorem dL_law_50 : decode cL_law 50 = .ok (.iload 4, 2) := by decide +kernel
theorem dL_law_52 : decode cL_law 52 = .ok (.bipush 10, 2) := by decide +kernel
theorem dL_law_54 : decode cL_law 54 = .ok (.if_icmp .gt 1055, 3) := by decide +kernel
theorem dL_law_57 : decode cL_law 57 = .ok (.aload_n 0, 1) := by decide +kernel
theorem dL_law_58 : decode cL_law 58 = .ok (.iload 4, 2) := by decide +kernel
theorem dL_law_60 : decode cL_law 60 = .ok (.invokestatic 39, 3) := by decide +kernel
theorem dL_law_63 : decode cL_law 63 = .ok (.istore 5, 2) := by decide +kernel
theorem dL_law_65 : decode cL_law 65 = .ok (.iload 5, 2) := by decide +kernel
theorem dL_law_67 : decode cL_law 67 = .ok (.iconst 4, 1) := by decide +kernel
theorem dL_law_68 : decode cL_law 68 = .ok (.iushr, 1) := by decide +kernel
theorem dL_law_69 : decode cL_law 69 = .ok (.bipush 15, 2) := by decide +kernel
theorem dL_law_71 : decode cL_law 71 = .ok (.iand, 1) := by decide +kernel
theorem dL_law_72 : decode cL_law 72 = .ok (.iload_n 3, 1) := by decide +kernel
theorem dL_law_73 : decode cL_law 73 = .ok (.irem, 1) := by decide +kernel
theorem dL_law_74 : decode cL_law 74 = .ok (.istore 6, 2) := by decide +kernel
theorem dL_law_76 : decode cL_law 76 = .ok (.iload 5, 2) := by decide +kernel
theorem dL_law_78 : decode cL_law 78 = .ok (.bipush 8, 2) := by decide +kernel
theorem dL_law_80 : decode cL_law 80 = .ok (.iushr, 1) := by decide +kernel
theorem dL_law_81 : decode cL_law 81 = .ok (.sipush 1023, 3) := by decide +kernel
theorem dL_law_84 : decode cL_law 84 = .ok (.iand, 1) := by decide +kernel
theorem dL_law_85 : decode cL_law 85 = .ok (.istore 7, 2) := by decide +kernel
theorem dL_law_87 : decode cL_law 87 = .ok (.aload_n 1, 1) := by decide +kernel
theorem dL_law_88 : decode cL_law 88 = .ok (.iload 6, 2) := by decide +kernel
theorem dL_law_90 : decode cL_law 90 = .ok (.iconst 2, 1) := by decide +kernel
theorem dL_law_91 : decode cL_law 91 = .ok (.invokevirtual 13, 3) := by decide +kernel
theorem dL_law_94 : decode cL_law 94 = .ok (.istore 8, 2) := by decide +kernel
theorem dL_law_96 : decode cL_law 96 = .ok (.aload_n 1, 1) := by decide +kernel
theorem dL_law_97 : decode cL_law 97 = .ok (.iconst 3, 1) := by decide +kernel
theorem dL_law_98 : decode cL_law 98 = .ok (.invokevirtual 7, 3) := by decide +kernel
theorem dL_law_101 : decode cL_law 101 = .ok (.istore 9, 2) := by decide +kernel
theorem dL_law_103 : decode cL_law 103 = .ok (.iconst 0, 1) := by decide +kernel
theorem dL_law_104 : decode cL_law 104 = .ok (.istore 10, 2) := by decide +kernel
theorem dL_law_106 : decode cL_law 106 = .ok (.iload 8, 2) := by decide +kernel
theorem dL_law_108 : decode cL_law 108 = .ok (.iconst 1, 1) := by decide +kernel
theorem dL_law_109 : decode cL_law 109 = .ok (.if_icmp .ne 17, 3) := by decide +kernel
theorem dL_law_112 : decode cL_law 112 = .ok (.aload_n 1, 1) := by decide +kernel
theorem dL_law_113 : decode cL_law 113 = .ok (.iload 6, 2) := by decide +kernel
theorem dL_law_115 : decode cL_law 115 = .ok (.iconst 4, 1) := by decide +kernel
theorem dL_law_116 : decode cL_law 116 = .ok (.invokevirtual 13, 3) := by decide +kernel
theorem dL_law_119 : decode cL_law 119 = .ok (.ifCond .ne 7, 3) := by decide +kernel
theorem dL_law_122 : decode cL_law 122 = .ok (.iconst 1, 1) := by decide +kernel
theorem dL_law_123 : decode cL_law 123 = .ok (.goto 4, 3) := by decide +kernel
theorem dL_law_126 : decode cL_law 126 = .ok (.iconst 0, 1) := by decide +kernel
theorem dL_law_127 : decode cL_law 127 = .ok (.istore 11, 2) := by decide +kernel
theorem dL_law_129 : decode cL_law 129 = .ok (.aload_n 1, 1) := by decide +kernel
theorem dL_law_130 : decode cL_law 130 = .ok (.invokevirtual 50, 3) := by decide +kernel
theorem dL_law_133 : decode cL_law 133 = .ok (.lstore 12, 2) := by decide +kernel
theorem dL_law_135 : decode cL_law 135 = .ok (.iload 5, 2) := by decide +kernel
theorem dL_law_137 : decode cL_law 137 = .ok (.bipush 15, 2) := by decide +kernel
theorem dL_law_139 : decode cL_law 139 = .ok (.iand, 1) := by decide +kernel
theorem dL_law_140 : decode cL_law 140 = .ok (.tableswitch 784 0 10 #[60, 60, 60, 146, 209, 326, 326, 326, 514, 567, 641], 60) := by decide +kernel
theorem dL_law_200 : decode cL_law 200 = .ok (.aload_n 1, 1) := by decide +kernel
theorem dL_law_201 : decode cL_law 201 = .ok (.iload 6, 2) := by decide +kernel
theorem dL_law_203 : decode cL_law 203 = .ok (.iconst 1, 1) := by decide +kernel
theorem dL_law_204 : decode cL_law 204 = .ok (.iload 7, 2) := by decide +kernel
theorem dL_law_206 : decode cL_law 206 = .ok (.bipush 99, 2) := by decide +kernel
theorem dL_law_208 : decode cL_law 208 = .ok (.irem, 1) := by decide +kernel
theorem dL_law_209 : decode cL_law 209 = .ok (.iadd, 1) := by decide +kernel
theorem dL_law_210 : decode cL_law 210 = .ok (.invokevirtual 54, 3) := by decide +kernel
theorem dL_law_213 : decode cL_law 213 = .ok (.istore 10, 2) := by decide +kernel
theorem dL_law_215 : decode cL_law 215 = .ok (.iload 10, 2) := by decide +kernel
theorem dL_law_217 : decode cL_law 217 = .ok (.iload 8, 2) := by decide +kernel
theorem dL_law_219 : decode cL_law 219 = .ok (.ifCond .eq 8, 3) := by decide +kernel
theorem dL_law_222 : decode cL_law 222 = .ok (.bipush (-2), 2) := by decide +kernel
theorem dL_law_224 : decode cL_law 224 = .ok (.goto 12, 3) := by decide +kernel
theorem dL_law_227 : decode cL_law 227 = .ok (.iconst 1, 1) := by decide +kernel
theorem dL_law_228 : decode cL_law 228 = .ok (.aload_n 1, 1) := by decide +kernel
theorem dL_law_229 : decode cL_law 229 = .ok (.iload 6, 2) := by decide +kernel
theorem dL_law_231 : decode cL_law 231 = .ok (.iconst 0, 1) := by decide +kernel
theorem dL_law_232 : decode cL_law 232 = .ok (.invokevirtual 13, 3) := by decide +kernel
theorem dL_law_235 : decode cL_law 235 = .ok (.iadd, 1) := by decide +kernel
theorem dL_law_236 : decode cL_law 236 = .ok (.if_icmp .ne 48, 3) := by decide +kernel
theorem dL_law_239 : decode cL_law 239 = .ok (.iload 8, 2) := by decide +kernel
theorem dL_law_241 : decode cL_law 241 = .ok (.ifCond .ne 759, 3) := by decide +kernel
theorem dL_law_244 : decode cL_law 244 = .ok (.aload_n 1, 1) := by decide +kernel
theorem dL_law_245 : decode cL_law 245 = .ok (.iload 6, 2) := by decide +kernel
theorem dL_law_247 : decode cL_law 247 = .ok (.iconst 2, 1) := by decide +kernel
theorem dL_law_248 : decode cL_law 248 = .ok (.invokevirtual 13, 3) := by decide +kernel
theorem dL_law_251 : decode cL_law 251 = .ok (.iconst 1, 1) := by decide +kernel
theorem dL_law_252 : decode cL_law 252 = .ok (.if_icmp .ne 32, 3) := by decide +kernel
theorem dL_law_255 : decode cL_law 255 = .ok (.aload_n 1, 1) := by decide +kernel
theorem dL_law_256 : decode cL_law 256 = .ok (.iload 6, 2) := by decide +kernel
theorem dL_law_258 : decode cL_law 258 = .ok (.iconst 3, 1) := by decide +kernel
theorem dL_law_259 : decode cL_law 259 = .ok (.invokevirtual 13, 3) := by decide +kernel
theorem dL_law_262 : decode cL_law 262 = .ok (.iload 10, 2) := by decide +kernel
theorem dL_law_264 : decode cL_law 264 = .ok (.if_icmp .ne 20, 3) := by decide +kernel
theorem dL_law_267 : decode cL_law 267 = .ok (.aload_n 1, 1) := by decide +kernel
theorem dL_law_268 : decode cL_law 268 = .ok (.iload 6, 2) := by decide +kernel
theorem dL_law_270 : decode cL_law 270 = .ok (.iconst 4, 1) := by decide +kernel
theorem dL_law_271 : decode cL_law 271 = .ok (.invokevirtual 13, 3) := by decide +kernel
theorem dL_law_274 : decode cL_law 274 = .ok (.iconst 1, 1) := by decide +kernel
theorem dL_law_275 : decode cL_law 275 = .ok (.iload 7, 2) := by decide +kernel
theorem dL_law_277 : decode cL_law 277 = .ok (.bipush 99, 2) := by decide +kernel
theorem dL_law_279 : decode cL_law 279 = .ok (.irem, 1) := by decide +kernel
theorem dL_law_280 : decode cL_law 280 = .ok (.iadd, 1) := by decide +kernel
theorem dL_law_281 : decode cL_law 281 = .ok (.if_icmp .eq 719, 3) := by decide +kernel
theorem dL_law_284 : decode cL_law 284 = .ok (.iconst 0, 1) := by decide +kernel
theorem dL_law_285 : decode cL_law 285 = .ok (.ireturn, 1) := by decide +kernel
theorem dL_law_286 : decode cL_law 286 = .ok (.aload_n 1, 1) := by decide +kernel
theorem dL_law_287 : decode cL_law 287 = .ok (.iload 6, 2) := by decide +kernel
theorem dL_law_289 : decode cL_law 289 = .ok (.iconst 4, 1) := by decide +kernel
theorem dL_law_290 : decode cL_law 290 = .ok (.invokevirtual 13, 3) := by decide +kernel
theorem dL_law_293 : decode cL_law 293 = .ok (.istore 14, 2) := by decide +kernel
theorem dL_law_295 : decode cL_law 295 = .ok (.aload_n 1, 1) := by decide +kernel
theorem dL_law_296 : decode cL_law 296 = .ok (.iload 6, 2) := by decide +kernel
theorem dL_law_298 : decode cL_law 298 = .ok (.invokevirtual 57, 3) := by decide +kernel
theorem dL_law_301 : decode cL_law 301 = .ok (.istore 10, 2) := by decide +kernel
theorem dL_law_303 : decode cL_law 303 = .ok (.iload 10, 2) := by decide +kernel
theorem dL_law_305 : decode cL_law 305 = .ok (.iload 8, 2) := by decide +kernel
theorem dL_law_307 : decode cL_law 307 = .ok (.iconst 2, 1) := by decide +kernel
theorem dL_law_308 : decode cL_law 308 = .ok (.if_icmp .eq 14, 3) := by decide +kernel
theorem dL_law_311 : decode cL_law 311 = .ok (.iload 8, 2) := by decide +kernel
theorem dL_law_313 : decode cL_law 313 = .ok (.iconst 1, 1) := by decide +kernel
theorem dL_law_314 : decode cL_law 314 = .ok (.if_icmp .ne 13, 3) := by decide +kernel
theorem dL_law_317 : decode cL_law 317 = .ok (.iload 11, 2) := by decide +kernel
theorem dL_law_319 : decode cL_law 319 = .ok (.ifCond .ne 8, 3) := by decide +kernel
theorem dL_law_322 : decode cL_law 322 = .ok (.iload 14, 2) := by decide +kernel
theorem dL_law_324 : decode cL_law 324 = .ok (.goto 5, 3) := by decide +kernel
theorem dL_law_327 : decode cL_law 327 = .ok (.bipush (-3), 2) := by decide +kernel
theorem dL_law_329 : decode cL_law 329 = .ok (.if_icmp .ne 18, 3) := by decide +kernel
theorem dL_law_332 : decode cL_law 332 = .ok (.iload 10, 2) := by decide +kernel
theorem dL_law_334 : decode cL_law 334 = .ok (.ifCond .lt 666, 3) := by decide +kernel
theorem dL_law_337 : decode cL_law 337 = .ok (.aload_n 1, 1) := by decide +kernel
theorem dL_law_338 : decode cL_law 338 = .ok (.iload 6, 2) := by decide +kernel
theorem dL_law_340 : decode cL_law 340 = .ok (.iconst 2, 1) := by decide +kernel
theorem dL_law_341 : decode cL_law 341 = .ok (.invokevirtual 13, 3) := by decide +kernel
theorem dL_law_344 : decode cL_law 344 = .ok (.ifCond .eq 656, 3) := by decide +kernel
theorem dL_law_347 : decode cL_law 347 = .ok (.iconst 0, 1) := by decide +kernel
theorem dL_law_348 : decode cL_law 348 = .ok (.ireturn, 1) := by decide +kernel
theorem dL_law_349 : decode cL_law 349 = .ok (.aload_n 1, 1) := by decide +kernel
theorem dL_law_350 : decode cL_law 350 = .ok (.iconst 4, 1) := by decide +kernel
theorem dL_law_351 : decode cL_law 351 = .ok (.invokevirtual 7, 3) := by decide +kernel
theorem dL_law_354 : decode cL_law 354 = .ok (.istore 14, 2) := by decide +kernel
theorem dL_law_356 : decode cL_law 356 = .ok (.aload_n 1, 1) := by decide +kernel
theorem dL_law_357 : decode cL_law 357 = .ok (.iload 6, 2) := by decide +kernel
theorem dL_law_359 : decode cL_law 359 = .ok (.bipush 6, 2) := by decide +kernel
theorem dL_law_361 : decode cL_law 361 = .ok (.invokevirtual 13, 3) := by decide +kernel
theorem dL_law_364 : decode cL_law 364 = .ok (.istore 15, 2) := by decide +kernel
theorem dL_law_366 : decode cL_law 366 = .ok (.iload 8, 2) := by decide +kernel
theorem dL_law_368 : decode cL_law 368 = .ok (.iconst 3, 1) := by decide +kernel
theorem dL_law_369 : decode cL_law 369 = .ok (.if_icmp .ne 26, 3) := by decide +kernel
theorem dL_law_372 : decode cL_law 372 = .ok (.aload_n 1, 1) := by decide +kernel
theorem dL_law_373 : decode cL_law 373 = .ok (.bipush 6, 2) := by decide +kernel
theorem dL_law_375 : decode cL_law 375 = .ok (.invokevirtual 7, 3) := by decide +kernel
theorem dL_law_378 : decode cL_law 378 = .ok (.ifCond .ne 17, 3) := by decide +kernel
theorem dL_law_381 : decode cL_law 381 = .ok (.iload 14, 2) := by decide +kernel
theorem dL_law_383 : decode cL_law 383 = .ok (.ifCond .le 12, 3) := by decide +kernel
theorem dL_law_386 : decode cL_law 386 = .ok (.aload_n 1, 1) := by decide +kernel
theorem dL_law_387 : decode cL_law 387 = .ok (.iload 14, 2) := by decide +kernel
theorem dL_law_389 : decode cL_law 389 = .ok (.invokevirtual 60, 3) := by decide +kernel
theorem dL_law_392 : decode cL_law 392 = .ok (.goto 4, 3) := by decide +kernel
theorem dL_law_395 : decode cL_law 395 = .ok (.iconst 0, 1) := by decide +kernel
theorem dL_law_396 : decode cL_law 396 = .ok (.istore 16, 2) := by decide +kernel
theorem dL_law_398 : decode cL_law 398 = .ok (.aload_n 1, 1) := by decide +kernel
theorem dL_law_399 : decode cL_law 399 = .ok (.iload 6, 2) := by decide +kernel
theorem dL_law_401 : decode cL_law 401 = .ok (.invokevirtual 63, 3) := by decide +kernel
theorem dL_law_404 : decode cL_law 404 = .ok (.istore 10, 2) := by decide +kernel
theorem dL_law_406 : decode cL_law 406 = .ok (.iload 10, 2) := by decide +kernel
theorem dL_law_408 : decode cL_law 408 = .ok (.iload 8, 2) := by decide +kernel
theorem dL_law_410 : decode cL_law 410 = .ok (.iconst 3, 1) := by decide +kernel
theorem dL_law_411 : decode cL_law 411 = .ok (.if_icmp .ne 8, 3) := by decide +kernel
theorem dL_law_414 : decode cL_law 414 = .ok (.iload 14, 2) := by decide +kernel
theorem dL_law_416 : decode cL_law 416 = .ok (.goto 5, 3) := by decide +kernel
theorem dL_law_419 : decode cL_law 419 = .ok (.bipush (-4), 2) := by decide +kernel
theorem dL_law_421 : decode cL_law 421 = .ok (.if_icmp .ne 43, 3) := by decide +kernel
theorem dL_law_424 : decode cL_law 424 = .ok (.iload 8, 2) := by decide +kernel
theorem dL_law_426 : decode cL_law 426 = .ok (.iconst 3, 1) := by decide +kernel
theorem dL_law_427 : decode cL_law 427 = .ok (.if_icmp .ne 573, 3) := by decide +kernel
theorem dL_law_430 : decode cL_law 430 = .ok (.aload_n 1, 1) := by decide +kernel
theorem dL_law_431 : decode cL_law 431 = .ok (.iconst 2, 1) := by decide +kernel
theorem dL_law_432 : decode cL_law 432 = .ok (.invokevirtual 7, 3) := by decide +kernel
theorem dL_law_435 : decode cL_law 435 = .ok (.ifCond .ne 29, 3) := by decide +kernel
theorem dL_law_438 : decode cL_law 438 = .ok (.aload_n 1, 1) := by decide +kernel
theorem dL_law_439 : decode cL_law 439 = .ok (.iload 6, 2) := by decide +kernel
theorem dL_law_441 : decode cL_law 441 = .ok (.iconst 2, 1) := by decide +kernel
theorem dL_law_442 : decode cL_law 442 = .ok (.invokevirtual 13, 3) := by decide +kernel
theorem dL_law_445 : decode cL_law 445 = .ok (.ifCond .ne 19, 3) := by decide +kernel
theorem dL_law_448 : decode cL_law 448 = .ok (.aload_n 1, 1) := by decide +kernel
theorem dL_law_449 : decode cL_law 449 = .ok (.iload 6, 2) := by decide +kernel
theorem dL_law_451 : decode cL_law 451 = .ok (.bipush 6, 2) := by decide +kernel
theorem dL_law_453 : decode cL_law 453 = .ok (.invokevirtual 13, 3) := by decide +kernel
theorem dL_law_456 : decode cL_law 456 = .ok (.iload 15, 2) := by decide +kernel
theorem dL_law_458 : decode cL_law 458 = .ok (.iload 16, 2) := by decide +kernel
theorem dL_law_460 : decode cL_law 460 = .ok (.iadd, 1) := by decide +kernel
theorem dL_law_461 : decode cL_law 461 = .ok (.if_icmp .eq 539, 3) := by decide +kernel
theorem dL_law_464 : decode cL_law 464 = .ok (.iconst 0, 1) := by decide +kernel
theorem dL_law_465 : decode cL_law 465 = .ok (.ireturn, 1) := by decide +kernel
theorem dL_law_466 : decode cL_law 466 = .ok (.aload_n 1, 1) := by decide +kernel
theorem dL_law_467 : decode cL_law 467 = .ok (.iload 6, 2) := by decide +kernel
theorem dL_law_469 : decode cL_law 469 = .ok (.invokevirtual 66, 3) := by decide +kernel
theorem dL_law_472 : decode cL_law 472 = .ok (.istore 14, 2) := by decide +kernel
theorem dL_law_474 : decode cL_law 474 = .ok (.aload_n 1, 1) := by decide +kernel
theorem dL_law_475 : decode cL_law 475 = .ok (.bipush 9, 2) := by decide +kernel
theorem dL_law_477 : decode cL_law 477 = .ok (.invokevirtual 7, 3) := by decide +kernel
theorem dL_law_480 : decode cL_law 480 = .ok (.istore 15, 2) := by decide +kernel
theorem dL_law_482 : decode cL_law 482 = .ok (.aload_n 1, 1) := by decide +kernel
theorem dL_law_483 : decode cL_law 483 = .ok (.bipush 8, 2) := by decide +kernel
theorem dL_law_485 : decode cL_law 485 = .ok (.invokevirtual 26, 3) := by decide +kernel
theorem dL_law_488 : decode cL_law 488 = .ok (.istore 16, 2) := by decide +kernel
theorem dL_law_490 : decode cL_law 490 = .ok (.aload_n 1, 1) := by decide +kernel
theorem dL_law_491 : decode cL_law 491 = .ok (.iload 6, 2) := by decide +kernel
theorem dL_law_493 : decode cL_law 493 = .ok (.iconst 1, 1) := by decide +kernel
theorem dL_law_494 : decode cL_law 494 = .ok (.iload 7, 2) := by decide +kernel
theorem dL_law_496 : decode cL_law 496 = .ok (.bipush 99, 2) := by decide +kernel
theorem dL_law_498 : decode cL_law 498 = .ok (.irem, 1) := by decide +kernel
theorem dL_law_499 : decode cL_law 499 = .ok (.iadd, 1) := by decide +kernel
theorem dL_law_500 : decode cL_law 500 = .ok (.invokevirtual 69, 3) := by decide +kernel
theorem dL_law_503 : decode cL_law 503 = .ok (.istore 10, 2) := by decide +kernel
theorem dL_law_505 : decode cL_law 505 = .ok (.iload 10, 2) := by decide +kernel
theorem dL_law_507 : decode cL_law 507 = .ok (.iload 14, 2) := by decide +kernel
theorem dL_law_509 : decode cL_law 509 = .ok (.iconst 5, 1) := by decide +kernel
theorem dL_law_510 : decode cL_law 510 = .ok (.if_icmp .ne 8, 3) := by decide +kernel
theorem dL_law_513 : decode cL_law 513 = .ok (.bipush (-5), 2) := by decide +kernel
theorem dL_law_515 : decode cL_law 515 = .ok (.goto 5, 3) := by decide +kernel
theorem dL_law_518 : decode cL_law 518 = .ok (.iload 14, 2) := by decide +kernel
theorem dL_law_520 : decode cL_law 520 = .ok (.if_icmp .ne 28, 3) := by decide +kernel
theorem dL_law_523 : decode cL_law 523 = .ok (.iload 14, 2) := by decide +kernel
theorem dL_law_525 : decode cL_law 525 = .ok (.iconst 5, 1) := by decide +kernel
theorem dL_law_526 : decode cL_law 526 = .ok (.if_icmp .ne 7, 3) := by decide +kernel
theorem dL_law_529 : decode cL_law 529 = .ok (.iconst 1, 1) := by decide +kernel
theorem dL_law_530 : decode cL_law 530 = .ok (.goto 4, 3) := by decide +kernel
theorem dL_law_533 : decode cL_law 533 = .ok (.iconst 0, 1) := by decide +kernel
theorem dL_law_534 : decode cL_law 534 = .ok (.iload 9, 2) := by decide +kernel
theorem dL_law_536 : decode cL_law 536 = .ok (.iconst (-1), 1) := by decide +kernel
theorem dL_law_537 : decode cL_law 537 = .ok (.if_icmp .eq 7, 3) := by decide +kernel
theorem dL_law_540 : decode cL_law 540 = .ok (.iconst 1, 1) := by decide +kernel
theorem dL_law_541 : decode cL_law 541 = .ok (.goto 4, 3) := by decide +kernel
theorem dL_law_544 : decode cL_law 544 = .ok (.iconst 0, 1) := by decide +kernel
theorem dL_law_545 : decode cL_law 545 = .ok (.if_icmp .eq 5, 3) := by decide +kernel
theorem dL_law_548 : decode cL_law 548 = .ok (.iconst 0, 1) := by decide +kernel
theorem dL_law_549 : decode cL_law 549 = .ok (.ireturn, 1) := by decide +kernel
theorem dL_law_550 : decode cL_law 550 = .ok (.iload 10, 2) := by decide +kernel
theorem dL_law_552 : decode cL_law 552 = .ok (.ifCond .ne 22, 3) := by decide +kernel
theorem dL_law_555 : decode cL_law 555 = .ok (.aload_n 1, 1) := by decide +kernel
theorem dL_law_556 : decode cL_law 556 = .ok (.iconst 2, 1) := by decide +kernel
theorem dL_law_557 : decode cL_law 557 = .ok (.invokevirtual 7, 3) := by decide +kernel
theorem dL_law_560 : decode cL_law 560 = .ok (.iconst 1, 1) := by decide +kernel
theorem dL_law_561 : decode cL_law 561 = .ok (.if_icmp .ne 91, 3) := by decide +kernel
theorem dL_law_564 : decode cL_law 564 = .ok (.aload_n 1, 1) := by decide +kernel
theorem dL_law_565 : decode cL_law 565 = .ok (.iconst 3, 1) := by decide +kernel
theorem dL_law_566 : decode cL_law 566 = .ok (.invokevirtual 7, 3) := by decide +kernel
theorem dL_law_569 : decode cL_law 569 = .ok (.iload 6, 2) := by decide +kernel
theorem dL_law_571 : decode cL_law 571 = .ok (.if_icmp .ne 81, 3) := by decide +kernel
theorem dL_law_574 : decode cL_law 574 = .ok (.iload 10, 2) := by decide +kernel
theorem dL_law_576 : decode cL_law 576 = .ok (.iconst 1, 1) := by decide +kernel
theorem dL_law_577 : decode cL_law 577 = .ok (.if_icmp .ne 37, 3) := by decide +kernel
theorem dL_law_580 : decode cL_law 580 = .ok (.aload_n 1, 1) := by decide +kernel
theorem dL_law_581 : decode cL_law 581 = .ok (.iconst 2, 1) := by decide +kernel
theorem dL_law_582 : decode cL_law 582 = .ok (.invokevirtual 7, 3) := by decide +kernel
theorem dL_law_585 : decode cL_law 585 = .ok (.iconst 2, 1) := by decide +kernel
theorem dL_law_586 : decode cL_law 586 = .ok (.if_icmp .ne 66, 3) := by decide +kernel
theorem dL_law_589 : decode cL_law 589 = .ok (.aload_n 1, 1) := by decide +kernel
theorem dL_law_590 : decode cL_law 590 = .ok (.iconst 3, 1) := by decide +kernel
theorem dL_law_591 : decode cL_law 591 = .ok (.invokevirtual 7, 3) := by decide +kernel
theorem dL_law_594 : decode cL_law 594 = .ok (.iload 6, 2) := by decide +kernel
theorem dL_law_596 : decode cL_law 596 = .ok (.if_icmp .ne 56, 3) := by decide +kernel
theorem dL_law_599 : decode cL_law 599 = .ok (.aload_n 1, 1) := by decide +kernel
theorem dL_law_600 : decode cL_law 600 = .ok (.iconst 5, 1) := by decide +kernel
theorem dL_law_601 : decode cL_law 601 = .ok (.invokevirtual 7, 3) := by decide +kernel
theorem dL_law_604 : decode cL_law 604 = .ok (.iconst 1, 1) := by decide +kernel
theorem dL_law_605 : decode cL_law 605 = .ok (.iload 7, 2) := by decide +kernel
theorem dL_law_607 : decode cL_law 607 = .ok (.bipush 99, 2) := by decide +kernel
theorem dL_law_609 : decode cL_law 609 = .ok (.irem, 1) := by decide +kernel
theorem dL_law_610 : decode cL_law 610 = .ok (.iadd, 1) := by decide +kernel
theorem dL_law_611 : decode cL_law 611 = .ok (.if_icmp .ne 41, 3) := by decide +kernel
theorem dL_law_614 : decode cL_law 614 = .ok (.iload 10, 2) := by decide +kernel
theorem dL_law_616 : decode cL_law 616 = .ok (.iconst 2, 1) := by decide +kernel
theorem dL_law_617 : decode cL_law 617 = .ok (.if_icmp .ne 16, 3) := by decide +kernel
theorem dL_law_620 : decode cL_law 620 = .ok (.aload_n 1, 1) := by decide +kernel
theorem dL_law_621 : decode cL_law 621 = .ok (.bipush 9, 2) := by decide +kernel
theorem dL_law_623 : decode cL_law 623 = .ok (.invokevirtual 7, 3) := by decide +kernel
theorem dL_law_626 : decode cL_law 626 = .ok (.iload 15, 2) := by decide +kernel
theorem dL_law_628 : decode cL_law 628 = .ok (.iconst 1, 1) := by decide +kernel
theorem dL_law_629 : decode cL_law 629 = .ok (.iadd, 1) := by decide +kernel
theorem dL_law_630 : decode cL_law 630 = .ok (.if_icmp .ne 22, 3) := by decide +kernel
theorem dL_law_633 : decode cL_law 633 = .ok (.iload 10, 2) := by decide +kernel
theorem dL_law_635 : decode cL_law 635 = .ok (.iconst 3, 1) := by decide +kernel
theorem dL_law_636 : decode cL_law 636 = .ok (.if_icmp .ne 364, 3) := by decide +kernel
theorem dL_law_639 : decode cL_law 639 = .ok (.aload_n 1, 1) := by decide +kernel
theorem dL_law_640 : decode cL_law 640 = .ok (.bipush 8, 2) := by decide +kernel
theorem dL_law_642 : decode cL_law 642 = .ok (.invokevirtual 26, 3) := by decide +kernel
theorem dL_law_645 : decode cL_law 645 = .ok (.iload 16, 2) := by decide +kernel
theorem dL_law_647 : decode cL_law 647 = .ok (.iconst 1, 1) := by decide +kernel
theorem dL_law_648 : decode cL_law 648 = .ok (.iadd, 1) := by decide +kernel
theorem dL_law_649 : decode cL_law 649 = .ok (.if_icmp .eq 351, 3) := by decide +kernel
theorem dL_law_652 : decode cL_law 652 = .ok (.iconst 0, 1) := by decide +kernel
theorem dL_law_653 : decode cL_law 653 = .ok (.ireturn, 1) := by decide +kernel
theorem dL_law_654 : decode cL_law 654 = .ok (.iconst 1, 1) := by decide +kernel
theorem dL_law_655 : decode cL_law 655 = .ok (.iload 7, 2) := by decide +kernel
theorem dL_law_657 : decode cL_law 657 = .ok (.bipush 40, 2) := by decide +kernel
theorem dL_law_659 : decode cL_law 659 = .ok (.irem, 1) := by decide +kernel
theorem dL_law_660 : decode cL_law 660 = .ok (.iadd, 1) := by decide +kernel
theorem dL_law_661 : decode cL_law 661 = .ok (.istore 14, 2) := by decide +kernel
theorem dL_law_663 : decode cL_law 663 = .ok (.aload_n 1, 1) := by decide +kernel
theorem dL_law_664 : decode cL_law 664 = .ok (.iload 6, 2) := by decide +kernel
theorem dL_law_666 : decode cL_law 666 = .ok (.bipush 6, 2) := by decide +kernel
theorem dL_law_668 : decode cL_law 668 = .ok (.invokevirtual 13, 3) := by decide +kernel
theorem dL_law_671 : decode cL_law 671 = .ok (.istore 15, 2) := by decide +kernel
theorem dL_law_673 : decode cL_law 673 = .ok (.aload_n 1, 1) := by decide +kernel
theorem dL_law_674 : decode cL_law 674 = .ok (.iload 6, 2) := by decide +kernel
theorem dL_law_676 : decode cL_law 676 = .ok (.iload 14, 2) := by decide +kernel
theorem dL_law_678 : decode cL_law 678 = .ok (.invokevirtual 72, 3) := by decide +kernel
theorem dL_law_681 : decode cL_law 681 = .ok (.istore 10, 2) := by decide +kernel
theorem dL_law_683 : decode cL_law 683 = .ok (.iload 10, 2) := by decide +kernel
theorem dL_law_685 : decode cL_law 685 = .ok (.iload 14, 2) := by decide +kernel
theorem dL_law_687 : decode cL_law 687 = .ok (.iload 15, 2) := by decide +kernel
theorem dL_law_689 : decode cL_law 689 = .ok (.if_icmp .le 8, 3) := by decide +kernel
theorem dL_law_692 : decode cL_law 692 = .ok (.bipush (-6), 2) := by decide +kernel
theorem dL_law_694 : decode cL_law 694 = .ok (.goto 8, 3) := by decide +kernel
theorem dL_law_697 : decode cL_law 697 = .ok (.iload 15, 2) := by decide +kernel
theorem dL_law_699 : decode cL_law 699 = .ok (.iload 14, 2) := by decide +kernel
theorem dL_law_701 : decode cL_law 701 = .ok (.isub, 1) := by decide +kernel
theorem dL_law_702 : decode cL_law 702 = .ok (.if_icmp .eq 298, 3) := by decide +kernel
theorem dL_law_705 : decode cL_law 705 = .ok (.iconst 0, 1) := by decide +kernel
theorem dL_law_706 : decode cL_law 706 = .ok (.ireturn, 1) := by decide +kernel
theorem dL_law_707 : decode cL_law 707 = .ok (.aload_n 1, 1) := by decide +kernel
theorem dL_law_708 : decode cL_law 708 = .ok (.iload 6, 2) := by decide +kernel
theorem dL_law_710 : decode cL_law 710 = .ok (.iconst 1, 1) := by decide +kernel
theorem dL_law_711 : decode cL_law 711 = .ok (.invokevirtual 13, 3) := by decide +kernel
theorem dL_law_714 : decode cL_law 714 = .ok (.iconst 1, 1) := by decide +kernel
theorem dL_law_715 : decode cL_law 715 = .ok (.if_icmp .ne 7, 3) := by decide +kernel
theorem dL_law_718 : decode cL_law 718 = .ok (.iconst 1, 1) := by decide +kernel
theorem dL_law_719 : decode cL_law 719 = .ok (.goto 4, 3) := by decide +kernel
theorem dL_law_722 : decode cL_law 722 = .ok (.iconst 0, 1) := by decide +kernel
theorem dL_law_723 : decode cL_law 723 = .ok (.istore 14, 2) := by decide +kernel
theorem dL_law_725 : decode cL_law 725 = .ok (.aload_n 1, 1) := by decide +kernel
theorem dL_law_726 : decode cL_law 726 = .ok (.iload 6, 2) := by decide +kernel
theorem dL_law_728 : decode cL_law 728 = .ok (.iload 7, 2) := by decide +kernel
theorem dL_law_730 : decode cL_law 730 = .ok (.iconst 1, 1) := by decide +kernel
theorem dL_law_731 : decode cL_law 731 = .ok (.iand, 1) := by decide +kernel
theorem dL_law_732 : decode cL_law 732 = .ok (.ifCond .ne 7, 3) := by decide +kernel
theorem dL_law_735 : decode cL_law 735 = .ok (.iconst 1, 1) := by decide +kernel
theorem dL_law_736 : decode cL_law 736 = .ok (.goto 4, 3) := by decide +kernel
theorem dL_law_739 : decode cL_law 739 = .ok (.iconst 0, 1) := by decide +kernel
theorem dL_law_740 : decode cL_law 740 = .ok (.invokevirtual 75, 3) := by decide +kernel
theorem dL_law_743 : decode cL_law 743 = .ok (.iload 14, 2) := by decide +kernel
theorem dL_law_745 : decode cL_law 745 = .ok (.if_icmp .ne 34, 3) := by decide +kernel
theorem dL_law_748 : decode cL_law 748 = .ok (.aload_n 1, 1) := by decide +kernel
theorem dL_law_749 : decode cL_law 749 = .ok (.iload 6, 2) := by decide +kernel
theorem dL_law_751 : decode cL_law 751 = .ok (.iconst 1, 1) := by decide +kernel
theorem dL_law_752 : decode cL_law 752 = .ok (.invokevirtual 13, 3) := by decide +kernel
theorem dL_law_755 : decode cL_law 755 = .ok (.iconst 1, 1) := by decide +kernel
theorem dL_law_756 : decode cL_law 756 = .ok (.if_icmp .ne 7, 3) := by decide +kernel
theorem dL_law_759 : decode cL_law 759 = .ok (.iconst 1, 1) := by decide +kernel
theorem dL_law_760 : decode cL_law 760 = .ok (.goto 4, 3) := by decide +kernel
theorem dL_law_763 : decode cL_law 763 = .ok (.iconst 0, 1) := by decide +kernel
theorem dL_law_764 : decode cL_law 764 = .ok (.iload 7, 2) := by decide +kernel
theorem dL_law_766 : decode cL_law 766 = .ok (.iconst 1, 1) := by decide +kernel
theorem dL_law_767 : decode cL_law 767 = .ok (.iand, 1) := by decide +kernel
theorem dL_law_768 : decode cL_law 768 = .ok (.ifCond .ne 7, 3) := by decide +kernel
theorem dL_law_771 : decode cL_law 771 = .ok (.iconst 1, 1) := by decide +kernel
theorem dL_law_772 : decode cL_law 772 = .ok (.goto 4, 3) := by decide +kernel
theorem dL_law_775 : decode cL_law 775 = .ok (.iconst 0, 1) := by decide +kernel
theorem dL_law_776 : decode cL_law 776 = .ok (.if_icmp .eq 224, 3) := by decide +kernel
theorem dL_law_779 : decode cL_law 779 = .ok (.iconst 0, 1) := by decide +kernel
theorem dL_law_780 : decode cL_law 780 = .ok (.ireturn, 1) := by decide +kernel
theorem dL_law_781 : decode cL_law 781 = .ok (.iload 7, 2) := by decide +kernel
theorem dL_law_783 : decode cL_law 783 = .ok (.bipush 6, 2) := by decide +kernel
theorem dL_law_785 : decode cL_law 785 = .ok (.irem, 1) := by decide +kernel
theorem dL_law_786 : decode cL_law 786 = .ok (.istore 14, 2) := by decide +kernel
theorem dL_law_788 : decode cL_law 788 = .ok (.iload 14, 2) := by decide +kernel
theorem dL_law_790 : decode cL_law 790 = .ok (.ifCond .ne 14, 3) := by decide +kernel
theorem dL_law_793 : decode cL_law 793 = .ok (.iload 7, 2) := by decide +kernel
theorem dL_law_795 : decode cL_law 795 = .ok (.bipush 6, 2) := by decide +kernel
theorem dL_law_797 : decode cL_law 797 = .ok (.idiv, 1) := by decide +kernel
theorem dL_law_798 : decode cL_law 798 = .ok (.bipush 61, 2) := by decide +kernel
theorem dL_law_800 : decode cL_law 800 = .ok (.irem, 1) := by decide +kernel
theorem dL_law_801 : decode cL_law 801 = .ok (.goto 83, 3) := by decide +kernel
theorem dL_law_804 : decode cL_law 804 = .ok (.iload 14, 2) := by decide +kernel
theorem dL_law_806 : decode cL_law 806 = .ok (.iconst 1, 1) := by decide +kernel
theorem dL_law_807 : decode cL_law 807 = .ok (.if_icmp .ne 16, 3) := by decide +kernel
theorem dL_law_810 : decode cL_law 810 = .ok (.iconst 1, 1) := by decide +kernel
theorem dL_law_811 : decode cL_law 811 = .ok (.iload 7, 2) := by decide +kernel
theorem dL_law_813 : decode cL_law 813 = .ok (.bipush 6, 2) := by decide +kernel
theorem dL_law_815 : decode cL_law 815 = .ok (.idiv, 1) := by decide +kernel
theorem dL_law_816 : decode cL_law 816 = .ok (.bipush 30, 2) := by decide +kernel
theorem dL_law_818 : decode cL_law 818 = .ok (.irem, 1) := by decide +kernel
theorem dL_law_819 : decode cL_law 819 = .ok (.iadd, 1) := by decide +kernel
theorem dL_law_820 : decode cL_law 820 = .ok (.goto 64, 3) := by decide +kernel
theorem dL_law_823 : decode cL_law 823 = .ok (.iload 14, 2) := by decide +kernel
theorem dL_law_825 : decode cL_law 825 = .ok (.iconst 2, 1) := by decide +kernel
theorem dL_law_826 : decode cL_law 826 = .ok (.if_icmp .ne 14, 3) := by decide +kernel
theorem dL_law_829 : decode cL_law 829 = .ok (.iload 7, 2) := by decide +kernel
theorem dL_law_831 : decode cL_law 831 = .ok (.bipush 6, 2) := by decide +kernel
theorem dL_law_833 : decode cL_law 833 = .ok (.idiv, 1) := by decide +kernel
theorem dL_law_834 : decode cL_law 834 = .ok (.bipush 100, 2) := by decide +kernel
theorem dL_law_836 : decode cL_law 836 = .ok (.irem, 1) := by decide +kernel
theorem dL_law_837 : decode cL_law 837 = .ok (.goto 47, 3) := by decide +kernel
theorem dL_law_840 : decode cL_law 840 = .ok (.iload 14, 2) := by decide +kernel
theorem dL_law_842 : decode cL_law 842 = .ok (.iconst 3, 1) := by decide +kernel
theorem dL_law_843 : decode cL_law 843 = .ok (.if_icmp .ne 14, 3) := by decide +kernel
theorem dL_law_846 : decode cL_law 846 = .ok (.iload 7, 2) := by decide +kernel
theorem dL_law_848 : decode cL_law 848 = .ok (.bipush 6, 2) := by decide +kernel
theorem dL_law_850 : decode cL_law 850 = .ok (.idiv, 1) := by decide +kernel
theorem dL_law_851 : decode cL_law 851 = .ok (.bipush 10, 2) := by decide +kernel
theorem dL_law_853 : decode cL_law 853 = .ok (.irem, 1) := by decide +kernel
theorem dL_law_854 : decode cL_law 854 = .ok (.goto 30, 3) := by decide +kernel
theorem dL_law_857 : decode cL_law 857 = .ok (.iload 14, 2) := by decide +kernel
theorem dL_law_859 : decode cL_law 859 = .ok (.iconst 4, 1) := by decide +kernel
theorem dL_law_860 : decode cL_law 860 = .ok (.if_icmp .ne 16, 3) := by decide +kernel
theorem dL_law_863 : decode cL_law 863 = .ok (.iconst 1, 1) := by decide +kernel
theorem dL_law_864 : decode cL_law 864 = .ok (.iload 7, 2) := by decide +kernel
theorem dL_law_866 : decode cL_law 866 = .ok (.bipush 6, 2) := by decide +kernel
theorem dL_law_868 : decode cL_law 868 = .ok (.idiv, 1) := by decide +kernel
theorem dL_law_869 : decode cL_law 869 = .ok (.bipush 99, 2) := by decide +kernel
theorem dL_law_871 : decode cL_law 871 = .ok (.irem, 1) := by decide +kernel
theorem dL_law_872 : decode cL_law 872 = .ok (.iadd, 1) := by decide +kernel
theorem dL_law_873 : decode cL_law 873 = .ok (.goto 11, 3) := by decide +kernel
theorem dL_law_876 : decode cL_law 876 = .ok (.iload 7, 2) := by decide +kernel
theorem dL_law_878 : decode cL_law 878 = .ok (.bipush 6, 2) := by decide +kernel
theorem dL_law_880 : decode cL_law 880 = .ok (.idiv, 1) := by decide +kernel
theorem dL_law_881 : decode cL_law 881 = .ok (.bipush 21, 2) := by decide +kernel
theorem dL_law_883 : decode cL_law 883 = .ok (.irem, 1) := by decide +kernel
theorem dL_law_884 : decode cL_law 884 = .ok (.istore 15, 2) := by decide +kernel
theorem dL_law_886 : decode cL_law 886 = .ok (.aload_n 1, 1) := by decide +kernel
theorem dL_law_887 : decode cL_law 887 = .ok (.iload 14, 2) := by decide +kernel
theorem dL_law_889 : decode cL_law 889 = .ok (.invokevirtual 79, 3) := by decide +kernel
theorem dL_law_892 : decode cL_law 892 = .ok (.istore 16, 2) := by decide +kernel
theorem dL_law_894 : decode cL_law 894 = .ok (.aload_n 1, 1) := by decide +kernel
theorem dL_law_895 : decode cL_law 895 = .ok (.iload 14, 2) := by decide +kernel
theorem dL_law_897 : decode cL_law 897 = .ok (.iload 15, 2) := by decide +kernel
theorem dL_law_899 : decode cL_law 899 = .ok (.invokevirtual 82, 3) := by decide +kernel
theorem dL_law_902 : decode cL_law 902 = .ok (.istore 10, 2) := by decide +kernel
theorem dL_law_904 : decode cL_law 904 = .ok (.iload 10, 2) := by decide +kernel
theorem dL_law_906 : decode cL_law 906 = .ok (.iload 16, 2) := by decide +kernel
theorem dL_law_908 : decode cL_law 908 = .ok (.if_icmp .ne 14, 3) := by decide +kernel
theorem dL_law_911 : decode cL_law 911 = .ok (.aload_n 1, 1) := by decide +kernel
theorem dL_law_912 : decode cL_law 912 = .ok (.iload 14, 2) := by decide +kernel
theorem dL_law_914 : decode cL_law 914 = .ok (.invokevirtual 79, 3) := by decide +kernel
theorem dL_law_917 : decode cL_law 917 = .ok (.iload 15, 2) := by decide +kernel
theorem dL_law_919 : decode cL_law 919 = .ok (.if_icmp .eq 81, 3) := by decide +kernel
theorem dL_law_922 : decode cL_law 922 = .ok (.iconst 0, 1) := by decide +kernel
theorem dL_law_923 : decode cL_law 923 = .ok (.ireturn, 1) := by decide +kernel
theorem dL_law_924 : decode cL_law 924 = .ok (.iconst 1, 1) := by decide +kernel
theorem dL_law_925 : decode cL_law 925 = .ok (.iload 7, 2) := by decide +kernel
theorem dL_law_927 : decode cL_law 927 = .ok (.bipush 30, 2) := by decide +kernel
theorem dL_law_929 : decode cL_law 929 = .ok (.irem, 1) := by decide +kernel
theorem dL_law_930 : decode cL_law 930 = .ok (.iadd, 1) := by decide +kernel
theorem dL_law_931 : decode cL_law 931 = .ok (.istore 14, 2) := by decide +kernel
theorem dL_law_933 : decode cL_law 933 = .ok (.aload_n 1, 1) := by decide +kernel
theorem dL_law_934 : decode cL_law 934 = .ok (.iconst 1, 1) := by decide +kernel
theorem dL_law_935 : decode cL_law 935 = .ok (.invokevirtual 7, 3) := by decide +kernel
theorem dL_law_938 : decode cL_law 938 = .ok (.istore 15, 2) := by decide +kernel
theorem dL_law_940 : decode cL_law 940 = .ok (.aload_n 1, 1) := by decide +kernel
theorem dL_law_941 : decode cL_law 941 = .ok (.iconst 1, 1) := by decide +kernel
theorem dL_law_942 : decode cL_law 942 = .ok (.invokevirtual 26, 3) := by decide +kernel
theorem dL_law_945 : decode cL_law 945 = .ok (.istore 16, 2) := by decide +kernel
theorem dL_law_947 : decode cL_law 947 = .ok (.aload_n 1, 1) := by decide +kernel
theorem dL_law_948 : decode cL_law 948 = .ok (.iload 14, 2) := by decide +kernel
theorem dL_law_950 : decode cL_law 950 = .ok (.invokevirtual 85, 3) := by decide +kernel
theorem dL_law_953 : decode cL_law 953 = .ok (.istore 10, 2) := by decide +kernel
theorem dL_law_955 : decode cL_law 955 = .ok (.aload_n 1, 1) := by decide +kernel
theorem dL_law_956 : decode cL_law 956 = .ok (.iconst 1, 1) := by decide +kernel
theorem dL_law_957 : decode cL_law 957 = .ok (.invokevirtual 7, 3) := by decide +kernel
theorem dL_law_960 : decode cL_law 960 = .ok (.iload 15, 2) := by decide +kernel
theorem dL_law_962 : decode cL_law 962 = .ok (.iload 14, 2) := by decide +kernel
theorem dL_law_964 : decode cL_law 964 = .ok (.iadd, 1) := by decide +kernel
theorem dL_law_965 : decode cL_law 965 = .ok (.if_icmp .ne 33, 3) := by decide +kernel
theorem dL_law_968 : decode cL_law 968 = .ok (.iload 10, 2) := by decide +kernel
theorem dL_law_970 : decode cL_law 970 = .ok (.aload_n 1, 1) := by decide +kernel
theorem dL_law_971 : decode cL_law 971 = .ok (.iconst 1, 1) := by decide +kernel
theorem dL_law_972 : decode cL_law 972 = .ok (.invokevirtual 26, 3) := by decide +kernel
theorem dL_law_975 : decode cL_law 975 = .ok (.iload 16, 2) := by decide +kernel
theorem dL_law_977 : decode cL_law 977 = .ok (.isub, 1) := by decide +kernel
theorem dL_law_978 : decode cL_law 978 = .ok (.if_icmp .ne 20, 3) := by decide +kernel
theorem dL_law_981 : decode cL_law 981 = .ok (.aload_n 1, 1) := by decide +kernel
theorem dL_law_982 : decode cL_law 982 = .ok (.iconst 2, 1) := by decide +kernel
theorem dL_law_983 : decode cL_law 983 = .ok (.invokevirtual 7, 3) := by decide +kernel
theorem dL_law_986 : decode cL_law 986 = .ok (.ifCond .ne 14, 3) := by decide +kernel
theorem dL_law_989 : decode cL_law 989 = .ok (.aload_n 1, 1) := by decide +kernel
theorem dL_law_990 : decode cL_law 990 = .ok (.bipush 7, 2) := by decide +kernel
theorem dL_law_992 : decode cL_law 992 = .ok (.invokevirtual 7, 3) := by decide +kernel
theorem dL_law_995 : decode cL_law 995 = .ok (.ifCond .le 5, 3) := by decide +kernel
theorem dL_law_998 : decode cL_law 998 = .ok (.iconst 0, 1) := by decide +kernel
theorem dL_law_999 : decode cL_law 999 = .ok (.ireturn, 1) := by decide +kernel
theorem dL_law_1000 : decode cL_law 1000 = .ok (.iload 10, 2) := by decide +kernel
theorem dL_law_1002 : decode cL_law 1002 = .ok (.ifCond .lt 7, 3) := by decide +kernel
theorem dL_law_1005 : decode cL_law 1005 = .ok (.iconst 1, 1) := by decide +kernel
theorem dL_law_1006 : decode cL_law 1006 = .ok (.goto 4, 3) := by decide +kernel
theorem dL_law_1009 : decode cL_law 1009 = .ok (.iconst 0, 1) := by decide +kernel
theorem dL_law_1010 : decode cL_law 1010 = .ok (.istore 14, 2) := by decide +kernel
theorem dL_law_1012 : decode cL_law 1012 = .ok (.bipush 8, 2) := by decide +kernel
theorem dL_law_1014 : decode cL_law 1014 = .ok (.iload_n 2, 1) := by decide +kernel
theorem dL_law_1015 : decode cL_law 1015 = .ok (.iload 14, 2) := by decide +kernel
theorem dL_law_1017 : decode cL_law 1017 = .ok (.ifCond .eq 7, 3) := by decide +kernel
theorem dL_law_1020 : decode cL_law 1020 = .ok (.iconst 1, 1) := by decide +kernel
theorem dL_law_1021 : decode cL_law 1021 = .ok (.goto 4, 3) := by decide +kernel
theorem dL_law_1024 : decode cL_law 1024 = .ok (.iconst 0, 1) := by decide +kernel
theorem dL_law_1025 : decode cL_law 1025 = .ok (.iadd, 1) := by decide +kernel
theorem dL_law_1026 : decode cL_law 1026 = .ok (.invokestatic 88, 3) := by decide +kernel
theorem dL_law_1029 : decode cL_law 1029 = .ok (.istore_n 2, 1) := by decide +kernel
theorem dL_law_1030 : decode cL_law 1030 = .ok (.aload_n 1, 1) := by decide +kernel
theorem dL_law_1031 : decode cL_law 1031 = .ok (.bipush 11, 2) := by decide +kernel
theorem dL_law_1033 : decode cL_law 1033 = .ok (.invokevirtual 7, 3) := by decide +kernel
theorem dL_law_1036 : decode cL_law 1036 = .ok (.iload_n 2, 1) := by decide +kernel
theorem dL_law_1037 : decode cL_law 1037 = .ok (.if_icmp .ne 25, 3) := by decide +kernel
theorem dL_law_1040 : decode cL_law 1040 = .ok (.aload_n 1, 1) := by decide +kernel
theorem dL_law_1041 : decode cL_law 1041 = .ok (.invokestatic 47, 3) := by decide +kernel
theorem dL_law_1044 : decode cL_law 1044 = .ok (.ifCond .eq 18, 3) := by decide +kernel
theorem dL_law_1047 : decode cL_law 1047 = .ok (.iload 14, 2) := by decide +kernel
theorem dL_law_1049 : decode cL_law 1049 = .ok (.ifCond .ne 15, 3) := by decide +kernel
theorem dL_law_1052 : decode cL_law 1052 = .ok (.aload_n 1, 1) := by decide +kernel
theorem dL_law_1053 : decode cL_law 1053 = .ok (.invokevirtual 50, 3) := by decide +kernel
theorem dL_law_1056 : decode cL_law 1056 = .ok (.lload 12, 2) := by decide +kernel
theorem dL_law_1058 : decode cL_law 1058 = .ok (.lcmp, 1) := by decide +kernel
theorem dL_law_1059 : decode cL_law 1059 = .ok (.ifCond .eq 5, 3) := by decide +kernel
theorem dL_law_1062 : decode cL_law 1062 = .ok (.iconst 0, 1) := by decide +kernel
theorem dL_law_1063 : decode cL_law 1063 = .ok (.ireturn, 1) := by decide +kernel
theorem dL_law_1064 : decode cL_law 1064 = .ok (.iload 14, 2) := by decide +kernel
theorem dL_law_1066 : decode cL_law 1066 = .ok (.ifCond .eq 37, 3) := by decide +kernel
theorem dL_law_1069 : decode cL_law 1069 = .ok (.iload 5, 2) := by decide +kernel
theorem dL_law_1071 : decode cL_law 1071 = .ok (.bipush 29, 2) := by decide +kernel
theorem dL_law_1073 : decode cL_law 1073 = .ok (.iushr, 1) := by decide +kernel
theorem dL_law_1074 : decode cL_law 1074 = .ok (.iconst 3, 1) := by decide +kernel
theorem dL_law_1075 : decode cL_law 1075 = .ok (.iand, 1) := by decide +kernel
theorem dL_law_1076 : decode cL_law 1076 = .ok (.iconst 1, 1) := by decide +kernel
theorem dL_law_1077 : decode cL_law 1077 = .ok (.if_icmp .ne 26, 3) := by decide +kernel
theorem dL_law_1080 : decode cL_law 1080 = .ok (.iinc 2 (-1), 3) := by decide +kernel
theorem dL_law_1083 : decode cL_law 1083 = .ok (.aload_n 1, 1) := by decide +kernel
theorem dL_law_1084 : decode cL_law 1084 = .ok (.invokevirtual 93, 3) := by decide +kernel
theorem dL_law_1087 : decode cL_law 1087 = .ok (.iload_n 2, 1) := by decide +kernel
theorem dL_law_1088 : decode cL_law 1088 = .ok (.if_icmp .ne 13, 3) := by decide +kernel
theorem dL_law_1091 : decode cL_law 1091 = .ok (.aload_n 1, 1) := by decide +kernel
theorem dL_law_1092 : decode cL_law 1092 = .ok (.invokevirtual 50, 3) := by decide +kernel
theorem dL_law_1095 : decode cL_law 1095 = .ok (.lload 12, 2) := by decide +kernel
theorem dL_law_1097 : decode cL_law 1097 = .ok (.lcmp, 1) := by decide +kernel
theorem dL_law_1098 : decode cL_law 1098 = .ok (.ifCond .eq 5, 3) := by decide +kernel
theorem dL_law_1101 : decode cL_law 1101 = .ok (.iconst 0, 1) := by decide +kernel
theorem dL_law_1102 : decode cL_law 1102 = .ok (.ireturn, 1) := by decide +kernel
theorem dL_law_1103 : decode cL_law 1103 = .ok (.iinc 4 1, 3) := by decide +kernel
theorem dL_law_1106 : decode cL_law 1106 = .ok (.goto (-1056), 3) := by decide +kernel
theorem dL_law_1109 : decode cL_law 1109 = .ok (.iconst 1, 1) := by decide +kernel
theorem dL_law_1110 : decode cL_law 1110 = .ok (.ireturn, 1) := by decide +kernel
