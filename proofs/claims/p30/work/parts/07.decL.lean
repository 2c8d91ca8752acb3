theorem dL_cell_0 : decode cL_cell 0 = .ok (.iload_n 1, 1) := by decide +kernel
theorem dL_cell_1 : decode cL_cell 1 = .ok (.aload_n 0, 1) := by decide +kernel
theorem dL_cell_2 : decode cL_cell 2 = .ok (.arraylength, 1) := by decide +kernel
theorem dL_cell_3 : decode cL_cell 3 = .ok (.if_icmp .ge 9, 3) := by decide +kernel
theorem dL_cell_6 : decode cL_cell 6 = .ok (.aload_n 0, 1) := by decide +kernel
theorem dL_cell_7 : decode cL_cell 7 = .ok (.iload_n 1, 1) := by decide +kernel
theorem dL_cell_8 : decode cL_cell 8 = .ok (.iaload, 1) := by decide +kernel
theorem dL_cell_9 : decode cL_cell 9 = .ok (.goto 11, 3) := by decide +kernel
theorem dL_cell_12 : decode cL_cell 12 = .ok (.ldc 7, 2) := by decide +kernel
theorem dL_cell_14 : decode cL_cell 14 = .ok (.iload_n 1, 1) := by decide +kernel
theorem dL_cell_15 : decode cL_cell 15 = .ok (.sipush 1409, 3) := by decide +kernel
theorem dL_cell_18 : decode cL_cell 18 = .ok (.iadd, 1) := by decide +kernel
theorem dL_cell_19 : decode cL_cell 19 = .ok (.imul, 1) := by decide +kernel
theorem dL_cell_20 : decode cL_cell 20 = .ok (.ireturn, 1) := by decide +kernel
theorem dL_up_0 : decode cL_up 0 = .ok (.iload_n 0, 1) := by decide +kernel
theorem dL_up_1 : decode cL_up 1 = .ok (.ldc 8, 2) := by decide +kernel
theorem dL_up_3 : decode cL_up 3 = .ok (.iand, 1) := by decide +kernel
theorem dL_up_4 : decode cL_up 4 = .ok (.iload_n 1, 1) := by decide +kernel
theorem dL_up_5 : decode cL_up 5 = .ok (.irem, 1) := by decide +kernel
theorem dL_up_6 : decode cL_up 6 = .ok (.ireturn, 1) := by decide +kernel
theorem dL_law_0 : decode cL_law 0 = .ok (.new 9, 3) := by decide +kernel
theorem dL_law_3 : decode cL_law 3 = .ok (.dup, 1) := by decide +kernel
theorem dL_law_4 : decode cL_law 4 = .ok (.invokespecial 11, 3) := by decide +kernel
theorem dL_law_7 : decode cL_law 7 = .ok (.astore_n 1, 1) := by decide +kernel
theorem dL_law_8 : decode cL_law 8 = .ok (.iconst 0, 1) := by decide +kernel
theorem dL_law_9 : decode cL_law 9 = .ok (.istore_n 2, 1) := by decide +kernel
theorem dL_law_10 : decode cL_law 10 = .ok (.aload_n 1, 1) := by decide +kernel
theorem dL_law_11 : decode cL_law 11 = .ok (.aload_n 0, 1) := by decide +kernel
theorem dL_law_12 : decode cL_law 12 = .ok (.iload_n 2, 1) := by decide +kernel
theorem dL_law_13 : decode cL_law 13 = .ok (.iinc 2 1, 3) := by decide +kernel
theorem dL_law_16 : decode cL_law 16 = .ok (.invokestatic 12, 3) := by decide +kernel
theorem dL_law_19 : decode cL_law 19 = .ok (.invokestatic 18, 3) := by decide +kernel
theorem dL_law_22 : decode cL_law 22 = .ok (.ifCond .ne 5, 3) := by decide +kernel
theorem dL_law_25 : decode cL_law 25 = .ok (.iconst 0, 1) := by decide +kernel
theorem dL_law_26 : decode cL_law 26 = .ok (.ireturn, 1) := by decide +kernel
theorem dL_law_27 : decode cL_law 27 = .ok (.iconst 1, 1) := by decide +kernel
theorem dL_law_28 : decode cL_law 28 = .ok (.aload_n 0, 1) := by decide +kernel
theorem dL_law_29 : decode cL_law 29 = .ok (.iload_n 2, 1) := by decide +kernel
theorem dL_law_30 : decode cL_law 30 = .ok (.iinc 2 1, 3) := by decide +kernel
theorem dL_law_33 : decode cL_law 33 = .ok (.invokestatic 12, 3) := by decide +kernel
theorem dL_law_36 : decode cL_law 36 = .ok (.iconst 3, 1) := by decide +kernel
theorem dL_law_37 : decode cL_law 37 = .ok (.invokestatic 22, 3) := by decide +kernel
theorem dL_law_40 : decode cL_law 40 = .ok (.iadd, 1) := by decide +kernel
theorem dL_law_41 : decode cL_law 41 = .ok (.istore_n 3, 1) := by decide +kernel
theorem dL_law_42 : decode cL_law 42 = .ok (.iconst 0, 1) := by decide +kernel
theorem dL_law_43 : decode cL_law 43 = .ok (.istore 4, 2) := by decide +kernel
theorem dL_law_45 : decode cL_law 45 = .ok (.iload 4, 2) := by decide +kernel
theorem dL_law_47 : decode cL_law 47 = .ok (.iload_n 3, 1) := by decide +kernel
theorem dL_law_48 : decode cL_law 48 = .ok (.if_icmp .ge 150, 3) := by decide +kernel
theorem dL_law_51 : decode cL_law 51 = .ok (.aload_n 0, 1) := by decide +kernel
theorem dL_law_52 : decode cL_law 52 = .ok (.iload_n 2, 1) := by decide +kernel
theorem dL_law_53 : decode cL_law 53 = .ok (.iinc 2 1, 3) := by decide +kernel
theorem dL_law_56 : decode cL_law 56 = .ok (.invokestatic 12, 3) := by decide +kernel
theorem dL_law_59 : decode cL_law 59 = .ok (.istore 5, 2) := by decide +kernel
theorem dL_law_61 : decode cL_law 61 = .ok (.iload 4, 2) := by decide +kernel
theorem dL_law_63 : decode cL_law 63 = .ok (.ifCond .ne 7, 3) := by decide +kernel
theorem dL_law_66 : decode cL_law 66 = .ok (.iconst 0, 1) := by decide +kernel
theorem dL_law_67 : decode cL_law 67 = .ok (.goto 9, 3) := by decide +kernel
theorem dL_law_70 : decode cL_law 70 = .ok (.iload 5, 2) := by decide +kernel
theorem dL_law_72 : decode cL_law 72 = .ok (.iconst 5, 1) := by decide +kernel
theorem dL_law_73 : decode cL_law 73 = .ok (.invokestatic 22, 3) := by decide +kernel
theorem dL_law_76 : decode cL_law 76 = .ok (.istore 6, 2) := by decide +kernel
theorem dL_law_78 : decode cL_law 78 = .ok (.iload 6, 2) := by decide +kernel
theorem dL_law_80 : decode cL_law 80 = .ok (.iconst 1, 1) := by decide +kernel
theorem dL_law_81 : decode cL_law 81 = .ok (.iadd, 1) := by decide +kernel
theorem dL_law_82 : decode cL_law 82 = .ok (.iload 5, 2) := by decide +kernel
theorem dL_law_84 : decode cL_law 84 = .ok (.iconst 4, 1) := by decide +kernel
theorem dL_law_85 : decode cL_law 85 = .ok (.ishr, 1) := by decide +kernel
theorem dL_law_86 : decode cL_law 86 = .ok (.iconst 4, 1) := by decide +kernel
theorem dL_law_87 : decode cL_law 87 = .ok (.invokestatic 22, 3) := by decide +kernel
theorem dL_law_90 : decode cL_law 90 = .ok (.iadd, 1) := by decide +kernel
theorem dL_law_91 : decode cL_law 91 = .ok (.iconst 5, 1) := by decide +kernel
theorem dL_law_92 : decode cL_law 92 = .ok (.irem, 1) := by decide +kernel
theorem dL_law_93 : decode cL_law 93 = .ok (.istore 7, 2) := by decide +kernel
theorem dL_law_95 : decode cL_law 95 = .ok (.iload 4, 2) := by decide +kernel
theorem dL_law_97 : decode cL_law 97 = .ok (.ifCond .ne 13, 3) := by decide +kernel
theorem dL_law_100 : decode cL_law 100 = .ok (.iload 7, 2) := by decide +kernel
theorem dL_law_102 : decode cL_law 102 = .ok (.iconst 1, 1) := by decide +kernel
theorem dL_law_103 : decode cL_law 103 = .ok (.if_icmp .eq 7, 3) := by decide +kernel
theorem dL_law_106 : decode cL_law 106 = .ok (.iconst 1, 1) := by decide +kernel
theorem dL_law_107 : decode cL_law 107 = .ok (.goto 29, 3) := by decide +kernel
theorem dL_law_110 : decode cL_law 110 = .ok (.iload 7, 2) := by decide +kernel
theorem dL_law_112 : decode cL_law 112 = .ok (.iconst 1, 1) := by decide +kernel
theorem dL_law_113 : decode cL_law 113 = .ok (.iadd, 1) := by decide +kernel
theorem dL_law_114 : decode cL_law 114 = .ok (.iconst 5, 1) := by decide +kernel
theorem dL_law_115 : decode cL_law 115 = .ok (.irem, 1) := by decide +kernel
theorem dL_law_116 : decode cL_law 116 = .ok (.iload 6, 2) := by decide +kernel
theorem dL_law_118 : decode cL_law 118 = .ok (.if_icmp .ne 12, 3) := by decide +kernel
theorem dL_law_121 : decode cL_law 121 = .ok (.iload 7, 2) := by decide +kernel
theorem dL_law_123 : decode cL_law 123 = .ok (.iconst 2, 1) := by decide +kernel
theorem dL_law_124 : decode cL_law 124 = .ok (.iadd, 1) := by decide +kernel
theorem dL_law_125 : decode cL_law 125 = .ok (.iconst 5, 1) := by decide +kernel
theorem dL_law_126 : decode cL_law 126 = .ok (.irem, 1) := by decide +kernel
theorem dL_law_127 : decode cL_law 127 = .ok (.goto 9, 3) := by decide +kernel
theorem dL_law_130 : decode cL_law 130 = .ok (.iload 7, 2) := by decide +kernel
theorem dL_law_132 : decode cL_law 132 = .ok (.iconst 1, 1) := by decide +kernel
theorem dL_law_133 : decode cL_law 133 = .ok (.iadd, 1) := by decide +kernel
theorem dL_law_134 : decode cL_law 134 = .ok (.iconst 5, 1) := by decide +kernel
theorem dL_law_135 : decode cL_law 135 = .ok (.irem, 1) := by decide +kernel
theorem dL_law_136 : decode cL_law 136 = .ok (.istore 8, 2) := by decide +kernel
theorem dL_law_138 : decode cL_law 138 = .ok (.bipush 10, 2) := by decide +kernel
theorem dL_law_140 : decode cL_law 140 = .ok (.iload 5, 2) := by decide +kernel
theorem dL_law_142 : decode cL_law 142 = .ok (.bipush 10, 2) := by decide +kernel
theorem dL_law_144 : decode cL_law 144 = .ok (.ishr, 1) := by decide +kernel
theorem dL_law_145 : decode cL_law 145 = .ok (.bipush 31, 2) := by decide +kernel
theorem dL_law_147 : decode cL_law 147 = .ok (.invokestatic 22, 3) := by decide +kernel
theorem dL_law_150 : decode cL_law 150 = .ok (.iadd, 1) := by decide +kernel
theorem dL_law_151 : decode cL_law 151 = .ok (.istore 9, 2) := by decide +kernel
theorem dL_law_153 : decode cL_law 153 = .ok (.aload_n 1, 1) := by decide +kernel
theorem dL_law_154 : decode cL_law 154 = .ok (.iload 6, 2) := by decide +kernel
theorem dL_law_156 : decode cL_law 156 = .ok (.iload 7, 2) := by decide +kernel
theorem dL_law_158 : decode cL_law 158 = .ok (.iload 8, 2) := by decide +kernel
theorem dL_law_160 : decode cL_law 160 = .ok (.iload 9, 2) := by decide +kernel
theorem dL_law_162 : decode cL_law 162 = .ok (.iload 9, 2) := by decide +kernel
theorem dL_law_164 : decode cL_law 164 = .ok (.iconst 1, 1) := by decide +kernel
theorem dL_law_165 : decode cL_law 165 = .ok (.iadd, 1) := by decide +kernel
theorem dL_law_166 : decode cL_law 166 = .ok (.iload 5, 2) := by decide +kernel
theorem dL_law_168 : decode cL_law 168 = .ok (.bipush 16, 2) := by decide +kernel
theorem dL_law_170 : decode cL_law 170 = .ok (.ishr, 1) := by decide +kernel
theorem dL_law_171 : decode cL_law 171 = .ok (.bipush 100, 2) := by decide +kernel
theorem dL_law_173 : decode cL_law 173 = .ok (.iload 9, 2) := by decide +kernel
theorem dL_law_175 : decode cL_law 175 = .ok (.isub, 1) := by decide +kernel
theorem dL_law_176 : decode cL_law 176 = .ok (.invokestatic 22, 3) := by decide +kernel
theorem dL_law_179 : decode cL_law 179 = .ok (.iadd, 1) := by decide +kernel
theorem dL_law_180 : decode cL_law 180 = .ok (.invokevirtual 26, 3) := by decide +kernel
theorem dL_law_183 : decode cL_law 183 = .ok (.iload 4, 2) := by decide +kernel
theorem dL_law_185 : decode cL_law 185 = .ok (.iconst 1, 1) := by decide +kernel
theorem dL_law_186 : decode cL_law 186 = .ok (.iadd, 1) := by decide +kernel
theorem dL_law_187 : decode cL_law 187 = .ok (.if_icmp .eq 5, 3) := by decide +kernel
theorem dL_law_190 : decode cL_law 190 = .ok (.iconst 0, 1) := by decide +kernel
theorem dL_law_191 : decode cL_law 191 = .ok (.ireturn, 1) := by decide +kernel
theorem dL_law_192 : decode cL_law 192 = .ok (.iinc 4 1, 3) := by decide +kernel
theorem dL_law_195 : decode cL_law 195 = .ok (.goto (-150), 3) := by decide +kernel
theorem dL_law_198 : decode cL_law 198 = .ok (.iconst 0, 1) := by decide +kernel
theorem dL_law_199 : decode cL_law 199 = .ok (.istore 4, 2) := by decide +kernel
theorem dL_law_201 : decode cL_law 201 = .ok (.iconst 3, 1) := by decide +kernel
theorem dL_law_202 : decode cL_law 202 = .ok (.aload_n 0, 1) := by decide +kernel
theorem dL_law_203 : decode cL_law 203 = .ok (.iload_n 2, 1) := by decide +kernel
theorem dL_law_204 : decode cL_law 204 = .ok (.iinc 2 1, 3) := by decide +kernel
theorem dL_law_207 : decode cL_law 207 = .ok (.invokestatic 12, 3) := by decide +kernel
theorem dL_law_210 : decode cL_law 210 = .ok (.iconst 4, 1) := by decide +kernel
theorem dL_law_211 : decode cL_law 211 = .ok (.invokestatic 22, 3) := by decide +kernel
theorem dL_law_214 : decode cL_law 214 = .ok (.iadd, 1) := by decide +kernel
theorem dL_law_215 : decode cL_law 215 = .ok (.istore 5, 2) := by decide +kernel
theorem dL_law_217 : decode cL_law 217 = .ok (.iconst 0, 1) := by decide +kernel
theorem dL_law_218 : decode cL_law 218 = .ok (.istore 6, 2) := by decide +kernel
theorem dL_law_220 : decode cL_law 220 = .ok (.iload 6, 2) := by decide +kernel
theorem dL_law_222 : decode cL_law 222 = .ok (.iload 5, 2) := by decide +kernel
theorem dL_law_224 : decode cL_law 224 = .ok (.if_icmp .ge 141, 3) := by decide +kernel
theorem dL_law_227 : decode cL_law 227 = .ok (.aload_n 0, 1) := by decide +kernel
theorem dL_law_228 : decode cL_law 228 = .ok (.iload_n 2, 1) := by decide +kernel
theorem dL_law_229 : decode cL_law 229 = .ok (.iinc 2 1, 3) := by decide +kernel
theorem dL_law_232 : decode cL_law 232 = .ok (.invokestatic 12, 3) := by decide +kernel
theorem dL_law_235 : decode cL_law 235 = .ok (.istore 7, 2) := by decide +kernel
theorem dL_law_237 : decode cL_law 237 = .ok (.iload 7, 2) := by decide +kernel
theorem dL_law_239 : decode cL_law 239 = .ok (.iconst 5, 1) := by decide +kernel
theorem dL_law_240 : decode cL_law 240 = .ok (.invokestatic 22, 3) := by decide +kernel
theorem dL_law_243 : decode cL_law 243 = .ok (.istore 8, 2) := by decide +kernel
theorem dL_law_245 : decode cL_law 245 = .ok (.iload 7, 2) := by decide +kernel
theorem dL_law_247 : decode cL_law 247 = .ok (.bipush 9, 2) := by decide +kernel
theorem dL_law_249 : decode cL_law 249 = .ok (.ishr, 1) := by decide +kernel
theorem dL_law_250 : decode cL_law 250 = .ok (.iconst 1, 1) := by decide +kernel
theorem dL_law_251 : decode cL_law 251 = .ok (.iand, 1) := by decide +kernel
theorem dL_law_252 : decode cL_law 252 = .ok (.iconst 1, 1) := by decide +kernel
theorem dL_law_253 : decode cL_law 253 = .ok (.if_icmp .ne 7, 3) := by decide +kernel
theorem dL_law_256 : decode cL_law 256 = .ok (.iconst 1, 1) := by decide +kernel
theorem dL_law_257 : decode cL_law 257 = .ok (.goto 4, 3) := by decide +kernel
theorem dL_law_260 : decode cL_law 260 = .ok (.iconst 0, 1) := by decide +kernel
theorem dL_law_261 : decode cL_law 261 = .ok (.istore 9, 2) := by decide +kernel
theorem dL_law_263 : decode cL_law 263 = .ok (.iload 9, 2) := by decide +kernel
theorem dL_law_265 : decode cL_law 265 = .ok (.ifCond .eq 21, 3) := by decide +kernel
theorem dL_law_268 : decode cL_law 268 = .ok (.aload_n 1, 1) := by decide +kernel
theorem dL_law_269 : decode cL_law 269 = .ok (.iconst 1, 1) := by decide +kernel
theorem dL_law_270 : decode cL_law 270 = .ok (.iload 7, 2) := by decide +kernel
theorem dL_law_272 : decode cL_law 272 = .ok (.bipush 10, 2) := by decide +kernel
theorem dL_law_274 : decode cL_law 274 = .ok (.ishr, 1) := by decide +kernel
theorem dL_law_275 : decode cL_law 275 = .ok (.iconst 4, 1) := by decide +kernel
theorem dL_law_276 : decode cL_law 276 = .ok (.invokestatic 22, 3) := by decide +kernel
theorem dL_law_279 : decode cL_law 279 = .ok (.iadd, 1) := by decide +kernel
theorem dL_law_280 : decode cL_law 280 = .ok (.invokevirtual 30, 3) := by decide +kernel
theorem dL_law_283 : decode cL_law 283 = .ok (.goto 24, 3) := by decide +kernel
theorem dL_law_286 : decode cL_law 286 = .ok (.aload_n 1, 1) := by decide +kernel
theorem dL_law_287 : decode cL_law 287 = .ok (.iload 8, 2) := by decide +kernel
theorem dL_law_289 : decode cL_law 289 = .ok (.iload 8, 2) := by decide +kernel
theorem dL_law_291 : decode cL_law 291 = .ok (.iconst 1, 1) := by decide +kernel
theorem dL_law_292 : decode cL_law 292 = .ok (.iadd, 1) := by decide +kernel
theorem dL_law_293 : decode cL_law 293 = .ok (.iload 7, 2) := by decide +kernel
theorem dL_law_295 : decode cL_law 295 = .ok (.iconst 4, 1) := by decide +kernel
theorem dL_law_296 : decode cL_law 296 = .ok (.ishr, 1) := by decide +kernel
theorem dL_law_297 : decode cL_law 297 = .ok (.iconst 4, 1) := by decide +kernel
theorem dL_law_298 : decode cL_law 298 = .ok (.invokestatic 22, 3) := by decide +kernel
theorem dL_law_301 : decode cL_law 301 = .ok (.iadd, 1) := by decide +kernel
theorem dL_law_302 : decode cL_law 302 = .ok (.iconst 5, 1) := by decide +kernel
theorem dL_law_303 : decode cL_law 303 = .ok (.irem, 1) := by decide +kernel
theorem dL_law_304 : decode cL_law 304 = .ok (.invokevirtual 34, 3) := by decide +kernel
theorem dL_law_307 : decode cL_law 307 = .ok (.iload 6, 2) := by decide +kernel
theorem dL_law_309 : decode cL_law 309 = .ok (.if_icmp .eq 5, 3) := by decide +kernel
theorem dL_law_312 : decode cL_law 312 = .ok (.iconst 0, 1) := by decide +kernel
theorem dL_law_313 : decode cL_law 313 = .ok (.ireturn, 1) := by decide +kernel
theorem dL_law_314 : decode cL_law 314 = .ok (.iload 4, 2) := by decide +kernel
theorem dL_law_316 : decode cL_law 316 = .ok (.iload 9, 2) := by decide +kernel
theorem dL_law_318 : decode cL_law 318 = .ok (.ifCond .eq 7, 3) := by decide +kernel
theorem dL_law_321 : decode cL_law 321 = .ok (.iconst 0, 1) := by decide +kernel
theorem dL_law_322 : decode cL_law 322 = .ok (.goto 7, 3) := by decide +kernel
theorem dL_law_325 : decode cL_law 325 = .ok (.iconst 1, 1) := by decide +kernel
theorem dL_law_326 : decode cL_law 326 = .ok (.iload 6, 2) := by decide +kernel
theorem dL_law_328 : decode cL_law 328 = .ok (.ishl, 1) := by decide +kernel
theorem dL_law_329 : decode cL_law 329 = .ok (.ior, 1) := by decide +kernel
theorem dL_law_330 : decode cL_law 330 = .ok (.istore 4, 2) := by decide +kernel
theorem dL_law_332 : decode cL_law 332 = .ok (.aload_n 1, 1) := by decide +kernel
theorem dL_law_333 : decode cL_law 333 = .ok (.iload 6, 2) := by decide +kernel
theorem dL_law_335 : decode cL_law 335 = .ok (.iconst 1, 1) := by decide +kernel
theorem dL_law_336 : decode cL_law 336 = .ok (.iload 7, 2) := by decide +kernel
theorem dL_law_338 : decode cL_law 338 = .ok (.bipush 12, 2) := by decide +kernel
theorem dL_law_340 : decode cL_law 340 = .ok (.ishr, 1) := by decide +kernel
theorem dL_law_341 : decode cL_law 341 = .ok (.sipush 2000, 3) := by decide +kernel
theorem dL_law_344 : decode cL_law 344 = .ok (.invokestatic 22, 3) := by decide +kernel
theorem dL_law_347 : decode cL_law 347 = .ok (.iadd, 1) := by decide +kernel
theorem dL_law_348 : decode cL_law 348 = .ok (.invokevirtual 37, 3) := by decide +kernel
theorem dL_law_351 : decode cL_law 351 = .ok (.sipush 1000, 3) := by decide +kernel
theorem dL_law_354 : decode cL_law 354 = .ok (.if_icmp .eq 5, 3) := by decide +kernel
theorem dL_law_357 : decode cL_law 357 = .ok (.iconst 0, 1) := by decide +kernel
theorem dL_law_358 : decode cL_law 358 = .ok (.ireturn, 1) := by decide +kernel
theorem dL_law_359 : decode cL_law 359 = .ok (.iinc 6 1, 3) := by decide +kernel
theorem dL_law_362 : decode cL_law 362 = .ok (.goto (-142), 3) := by decide +kernel
theorem dL_law_365 : decode cL_law 365 = .ok (.aload_n 1, 1) := by decide +kernel
theorem dL_law_366 : decode cL_law 366 = .ok (.iconst 1, 1) := by decide +kernel
theorem dL_law_367 : decode cL_law 367 = .ok (.invokevirtual 40, 3) := by decide +kernel
theorem dL_law_370 : decode cL_law 370 = .ok (.aload_n 1, 1) := by decide +kernel
theorem dL_law_371 : decode cL_law 371 = .ok (.iload 5, 2) := by decide +kernel
theorem dL_law_373 : decode cL_law 373 = .ok (.invokestatic 44, 3) := by decide +kernel
theorem dL_law_376 : decode cL_law 376 = .ok (.ifCond .eq 10, 3) := by decide +kernel
theorem dL_law_379 : decode cL_law 379 = .ok (.aload_n 1, 1) := by decide +kernel
theorem dL_law_380 : decode cL_law 380 = .ok (.invokestatic 47, 3) := by decide +kernel
theorem dL_law_383 : decode cL_law 383 = .ok (.ifCond .ne 5, 3) := by decide +kernel
theorem dL_law_386 : decode cL_law 386 = .ok (.iconst 0, 1) := by decide +kernel
theorem dL_law_387 : decode cL_law 387 = .ok (.ireturn, 1) := by decide +kernel
theorem dL_law_388 : decode cL_law 388 = .ok (.iconst 0, 1) := by decide +kernel
theorem dL_law_389 : decode cL_law 389 = .ok (.istore 6, 2) := by decide +kernel
theorem dL_law_391 : decode cL_law 391 = .ok (.iload 6, 2) := by decide +kernel
theorem dL_law_393 : decode cL_law 393 = .ok (.bipush 8, 2) := by decide +kernel
theorem dL_law_395 : decode cL_law 395 = .ok (.if_icmp .ge 256, 3) := by decide +kernel
theorem dL_law_398 : decode cL_law 398 = .ok (.aload_n 0, 1) := by decide +kernel
theorem dL_law_399 : decode cL_law 399 = .ok (.iload_n 2, 1) := by decide +kernel
theorem dL_law_400 : decode cL_law 400 = .ok (.iinc 2 1, 3) := by decide +kernel
theorem dL_law_403 : decode cL_law 403 = .ok (.invokestatic 12, 3) := by decide +kernel
theorem dL_law_406 : decode cL_law 406 = .ok (.istore 7, 2) := by decide +kernel
theorem dL_law_408 : decode cL_law 408 = .ok (.aload_n 1, 1) := by decide +kernel
theorem dL_law_409 : decode cL_law 409 = .ok (.invokevirtual 51, 3) := by decide +kernel
theorem dL_law_412 : decode cL_law 412 = .ok (.istore 8, 2) := by decide +kernel
theorem dL_law_414 : decode cL_law 414 = .ok (.iload 7, 2) := by decide +kernel
theorem dL_law_416 : decode cL_law 416 = .ok (.iconst 2, 1) := by decide +kernel
theorem dL_law_417 : decode cL_law 417 = .ok (.invokestatic 22, 3) := by decide +kernel
theorem dL_law_420 : decode cL_law 420 = .ok (.ifCond .ne 15, 3) := by decide +kernel
theorem dL_law_423 : decode cL_law 423 = .ok (.aload_n 1, 1) := by decide +kernel
theorem dL_law_424 : decode cL_law 424 = .ok (.iconst 2, 1) := by decide +kernel
theorem dL_law_425 : decode cL_law 425 = .ok (.invokevirtual 55, 3) := by decide +kernel
theorem dL_law_428 : decode cL_law 428 = .ok (.ifCond .le 7, 3) := by decide +kernel
theorem dL_law_431 : decode cL_law 431 = .ok (.iconst 1, 1) := by decide +kernel
theorem dL_law_432 : decode cL_law 432 = .ok (.goto 4, 3) := by decide +kernel
theorem dL_law_435 : decode cL_law 435 = .ok (.iconst 0, 1) := by decide +kernel
theorem dL_law_436 : decode cL_law 436 = .ok (.istore 9, 2) := by decide +kernel
theorem dL_law_438 : decode cL_law 438 = .ok (.iload 9, 2) := by decide +kernel
theorem dL_law_440 : decode cL_law 440 = .ok (.ifCond .eq 22, 3) := by decide +kernel
theorem dL_law_443 : decode cL_law 443 = .ok (.aload_n 1, 1) := by decide +kernel
theorem dL_law_444 : decode cL_law 444 = .ok (.iload 7, 2) := by decide +kernel
theorem dL_law_446 : decode cL_law 446 = .ok (.iconst 4, 1) := by decide +kernel
theorem dL_law_447 : decode cL_law 447 = .ok (.ishr, 1) := by decide +kernel
theorem dL_law_448 : decode cL_law 448 = .ok (.aload_n 1, 1) := by decide +kernel
theorem dL_law_449 : decode cL_law 449 = .ok (.iconst 2, 1) := by decide +kernel
theorem dL_law_450 : decode cL_law 450 = .ok (.invokevirtual 55, 3) := by decide +kernel
theorem dL_law_453 : decode cL_law 453 = .ok (.invokestatic 22, 3) := by decide +kernel
theorem dL_law_456 : decode cL_law 456 = .ok (.invokevirtual 58, 3) := by decide +kernel
theorem dL_law_459 : decode cL_law 459 = .ok (.goto 14, 3) := by decide +kernel
theorem dL_law_462 : decode cL_law 462 = .ok (.iload 7, 2) := by decide +kernel
theorem dL_law_464 : decode cL_law 464 = .ok (.iconst 4, 1) := by decide +kernel
theorem dL_law_465 : decode cL_law 465 = .ok (.ishr, 1) := by decide +kernel
theorem dL_law_466 : decode cL_law 466 = .ok (.iconst 1, 1) := by decide +kernel
theorem dL_law_467 : decode cL_law 467 = .ok (.iload 5, 2) := by decide +kernel
theorem dL_law_469 : decode cL_law 469 = .ok (.ishl, 1) := by decide +kernel
theorem dL_law_470 : decode cL_law 470 = .ok (.invokestatic 22, 3) := by decide +kernel
theorem dL_law_473 : decode cL_law 473 = .ok (.istore 10, 2) := by decide +kernel
theorem dL_law_475 : decode cL_law 475 = .ok (.aload_n 1, 1) := by decide +kernel
theorem dL_law_476 : decode cL_law 476 = .ok (.iload 10, 2) := by decide +kernel
theorem dL_law_478 : decode cL_law 478 = .ok (.invokevirtual 61, 3) := by decide +kernel
theorem dL_law_481 : decode cL_law 481 = .ok (.iload 8, 2) := by decide +kernel
theorem dL_law_483 : decode cL_law 483 = .ok (.if_icmp .ne 34, 3) := by decide +kernel
theorem dL_law_486 : decode cL_law 486 = .ok (.aload_n 1, 1) := by decide +kernel
theorem dL_law_487 : decode cL_law 487 = .ok (.invokevirtual 64, 3) := by decide +kernel
theorem dL_law_490 : decode cL_law 490 = .ok (.iload 10, 2) := by decide +kernel
theorem dL_law_492 : decode cL_law 492 = .ok (.iload 4, 2) := by decide +kernel
theorem dL_law_494 : decode cL_law 494 = .ok (.iand, 1) := by decide +kernel
theorem dL_law_495 : decode cL_law 495 = .ok (.ifCond .ne 7, 3) := by decide +kernel
theorem dL_law_498 : decode cL_law 498 = .ok (.iconst 1, 1) := by decide +kernel
theorem dL_law_499 : decode cL_law 499 = .ok (.goto 4, 3) := by decide +kernel
theorem dL_law_502 : decode cL_law 502 = .ok (.iconst 0, 1) := by decide +kernel
theorem dL_law_503 : decode cL_law 503 = .ok (.if_icmp .ne 14, 3) := by decide +kernel
theorem dL_law_506 : decode cL_law 506 = .ok (.aload_n 1, 1) := by decide +kernel
theorem dL_law_507 : decode cL_law 507 = .ok (.iload 5, 2) := by decide +kernel
theorem dL_law_509 : decode cL_law 509 = .ok (.iload 4, 2) := by decide +kernel
theorem dL_law_511 : decode cL_law 511 = .ok (.invokestatic 68, 3) := by decide +kernel
theorem dL_law_514 : decode cL_law 514 = .ok (.ifCond .ne 5, 3) := by decide +kernel
theorem dL_law_517 : decode cL_law 517 = .ok (.iconst 0, 1) := by decide +kernel
theorem dL_law_518 : decode cL_law 518 = .ok (.ireturn, 1) := by decide +kernel
theorem dL_law_519 : decode cL_law 519 = .ok (.iload 7, 2) := by decide +kernel
theorem dL_law_521 : decode cL_law 521 = .ok (.bipush 12, 2) := by decide +kernel
theorem dL_law_523 : decode cL_law 523 = .ok (.ishr, 1) := by decide +kernel
theorem dL_law_524 : decode cL_law 524 = .ok (.iload 5, 2) := by decide +kernel
theorem dL_law_526 : decode cL_law 526 = .ok (.invokestatic 22, 3) := by decide +kernel
theorem dL_law_529 : decode cL_law 529 = .ok (.istore 11, 2) := by decide +kernel
theorem dL_law_531 : decode cL_law 531 = .ok (.iload 10, 2) := by decide +kernel
theorem dL_law_533 : decode cL_law 533 = .ok (.iload 11, 2) := by decide +kernel
theorem dL_law_535 : decode cL_law 535 = .ok (.ishr, 1) := by decide +kernel
theorem dL_law_536 : decode cL_law 536 = .ok (.iconst 1, 1) := by decide +kernel
theorem dL_law_537 : decode cL_law 537 = .ok (.iand, 1) := by decide +kernel
theorem dL_law_538 : decode cL_law 538 = .ok (.iconst 1, 1) := by decide +kernel
theorem dL_law_539 : decode cL_law 539 = .ok (.if_icmp .ne 7, 3) := by decide +kernel
theorem dL_law_542 : decode cL_law 542 = .ok (.iconst 1, 1) := by decide +kernel
theorem dL_law_543 : decode cL_law 543 = .ok (.goto 4, 3) := by decide +kernel
theorem dL_law_546 : decode cL_law 546 = .ok (.iconst 0, 1) := by decide +kernel
theorem dL_law_547 : decode cL_law 547 = .ok (.istore 12, 2) := by decide +kernel
theorem dL_law_549 : decode cL_law 549 = .ok (.iload 12, 2) := by decide +kernel
theorem dL_law_551 : decode cL_law 551 = .ok (.ifCond .eq 33, 3) := by decide +kernel
theorem dL_law_554 : decode cL_law 554 = .ok (.aload_n 1, 1) := by decide +kernel
theorem dL_law_555 : decode cL_law 555 = .ok (.iload 11, 2) := by decide +kernel
theorem dL_law_557 : decode cL_law 557 = .ok (.invokevirtual 72, 3) := by decide +kernel
theorem dL_law_560 : decode cL_law 560 = .ok (.ifCond .ne 51, 3) := by decide +kernel
theorem dL_law_563 : decode cL_law 563 = .ok (.aload_n 1, 1) := by decide +kernel
theorem dL_law_564 : decode cL_law 564 = .ok (.iload 11, 2) := by decide +kernel
theorem dL_law_566 : decode cL_law 566 = .ok (.invokevirtual 76, 3) := by decide +kernel
theorem dL_law_569 : decode cL_law 569 = .ok (.ifCond .eq 42, 3) := by decide +kernel
theorem dL_law_572 : decode cL_law 572 = .ok (.aload_n 1, 1) := by decide +kernel
theorem dL_law_573 : decode cL_law 573 = .ok (.iload 11, 2) := by decide +kernel
theorem dL_law_575 : decode cL_law 575 = .ok (.invokevirtual 76, 3) := by decide +kernel
theorem dL_law_578 : decode cL_law 578 = .ok (.ifCond .eq 35, 3) := by decide +kernel
theorem dL_law_581 : decode cL_law 581 = .ok (.goto 30, 3) := by decide +kernel
theorem dL_law_584 : decode cL_law 584 = .ok (.aload_n 1, 1) := by decide +kernel
theorem dL_law_585 : decode cL_law 585 = .ok (.iload 11, 2) := by decide +kernel
theorem dL_law_587 : decode cL_law 587 = .ok (.invokevirtual 76, 3) := by decide +kernel
theorem dL_law_590 : decode cL_law 590 = .ok (.ifCond .ne 21, 3) := by decide +kernel
theorem dL_law_593 : decode cL_law 593 = .ok (.aload_n 1, 1) := by decide +kernel
theorem dL_law_594 : decode cL_law 594 = .ok (.iload 11, 2) := by decide +kernel
theorem dL_law_596 : decode cL_law 596 = .ok (.invokevirtual 72, 3) := by decide +kernel
theorem dL_law_599 : decode cL_law 599 = .ok (.ifCond .eq 12, 3) := by decide +kernel
theorem dL_law_602 : decode cL_law 602 = .ok (.aload_n 1, 1) := by decide +kernel
theorem dL_law_603 : decode cL_law 603 = .ok (.iload 11, 2) := by decide +kernel
theorem dL_law_605 : decode cL_law 605 = .ok (.invokevirtual 72, 3) := by decide +kernel
theorem dL_law_608 : decode cL_law 608 = .ok (.ifCond .eq 5, 3) := by decide +kernel
theorem dL_law_611 : decode cL_law 611 = .ok (.iconst 0, 1) := by decide +kernel
theorem dL_law_612 : decode cL_law 612 = .ok (.ireturn, 1) := by decide +kernel
theorem dL_law_613 : decode cL_law 613 = .ok (.aload_n 1, 1) := by decide +kernel
theorem dL_law_614 : decode cL_law 614 = .ok (.invokevirtual 51, 3) := by decide +kernel
theorem dL_law_617 : decode cL_law 617 = .ok (.iload 10, 2) := by decide +kernel
theorem dL_law_619 : decode cL_law 619 = .ok (.iconst 1, 1) := by decide +kernel
theorem dL_law_620 : decode cL_law 620 = .ok (.iload 11, 2) := by decide +kernel
theorem dL_law_622 : decode cL_law 622 = .ok (.ishl, 1) := by decide +kernel
theorem dL_law_623 : decode cL_law 623 = .ok (.ixor, 1) := by decide +kernel
theorem dL_law_624 : decode cL_law 624 = .ok (.if_icmp .ne 19, 3) := by decide +kernel
theorem dL_law_627 : decode cL_law 627 = .ok (.aload_n 1, 1) := by decide +kernel
theorem dL_law_628 : decode cL_law 628 = .ok (.invokevirtual 79, 3) := by decide +kernel
theorem dL_law_631 : decode cL_law 631 = .ok (.ifCond .eq 12, 3) := by decide +kernel
theorem dL_law_634 : decode cL_law 634 = .ok (.aload_n 1, 1) := by decide +kernel
theorem dL_law_635 : decode cL_law 635 = .ok (.invokevirtual 51, 3) := by decide +kernel
theorem dL_law_638 : decode cL_law 638 = .ok (.iload 10, 2) := by decide +kernel
theorem dL_law_640 : decode cL_law 640 = .ok (.if_icmp .eq 5, 3) := by decide +kernel
theorem dL_law_643 : decode cL_law 643 = .ok (.iconst 0, 1) := by decide +kernel
theorem dL_law_644 : decode cL_law 644 = .ok (.ireturn, 1) := by decide +kernel
theorem dL_law_645 : decode cL_law 645 = .ok (.iinc 6 1, 3) := by decide +kernel
theorem dL_law_648 : decode cL_law 648 = .ok (.goto (-257), 3) := by decide +kernel
theorem dL_law_651 : decode cL_law 651 = .ok (.aload_n 1, 1) := by decide +kernel
theorem dL_law_652 : decode cL_law 652 = .ok (.iload 5, 2) := by decide +kernel
theorem dL_law_654 : decode cL_law 654 = .ok (.invokestatic 82, 3) := by decide +kernel
theorem dL_law_657 : decode cL_law 657 = .ok (.ireturn, 1) := by decide +kernel
theorem dL_hasTorque_0 : decode cL_hasTorque 0 = .ok (.aload_n 0, 1) := by decide +kernel
theorem dL_hasTorque_1 : decode cL_hasTorque 1 = .ok (.iload_n 1, 1) := by decide +kernel
theorem dL_hasTorque_2 : decode cL_hasTorque 2 = .ok (.iconst 0, 1) := by decide +kernel
theorem dL_hasTorque_3 : decode cL_hasTorque 3 = .ok (.invokevirtual 85, 3) := by decide +kernel
theorem dL_hasTorque_6 : decode cL_hasTorque 6 = .ok (.pop2, 1) := by decide +kernel
theorem dL_hasTorque_7 : decode cL_hasTorque 7 = .ok (.iconst 1, 1) := by decide +kernel
theorem dL_hasTorque_8 : decode cL_hasTorque 8 = .ok (.ireturn, 1) := by decide +kernel
theorem dL_hasTorque_9 : decode cL_hasTorque 9 = .ok (.astore_n 2, 1) := by decide +kernel
theorem dL_hasTorque_10 : decode cL_hasTorque 10 = .ok (.iconst 0, 1) := by decide +kernel
theorem dL_hasTorque_11 : decode cL_hasTorque 11 = .ok (.ireturn, 1) := by decide +kernel
theorem dL_powers_0 : decode cL_powers 0 = .ok (.aload_n 0, 1) := by decide +kernel
theorem dL_powers_1 : decode cL_powers 1 = .ok (.invokevirtual 91, 3) := by decide +kernel
theorem dL_powers_4 : decode cL_powers 4 = .ok (.ifCond .eq 5, 3) := by decide +kernel
theorem dL_powers_7 : decode cL_powers 7 = .ok (.iconst 1, 1) := by decide +kernel
theorem dL_powers_8 : decode cL_powers 8 = .ok (.ireturn, 1) := by decide +kernel
theorem dL_powers_9 : decode cL_powers 9 = .ok (.aload_n 0, 1) := by decide +kernel
theorem dL_powers_10 : decode cL_powers 10 = .ok (.iconst 0, 1) := by decide +kernel
theorem dL_powers_11 : decode cL_powers 11 = .ok (.invokevirtual 94, 3) := by decide +kernel
theorem dL_powers_14 : decode cL_powers 14 = .ok (.aload_n 0, 1) := by decide +kernel
theorem dL_powers_15 : decode cL_powers 15 = .ok (.iconst 0, 1) := by decide +kernel
theorem dL_powers_16 : decode cL_powers 16 = .ok (.invokevirtual 98, 3) := by decide +kernel
theorem dL_powers_19 : decode cL_powers 19 = .ok (.lneg, 1) := by decide +kernel
theorem dL_powers_20 : decode cL_powers 20 = .ok (.lcmp, 1) := by decide +kernel
theorem dL_powers_21 : decode cL_powers 21 = .ok (.ifCond .ne 17, 3) := by decide +kernel
theorem dL_powers_24 : decode cL_powers 24 = .ok (.aload_n 0, 1) := by decide +kernel
theorem dL_powers_25 : decode cL_powers 25 = .ok (.iconst 1, 1) := by decide +kernel
theorem dL_powers_26 : decode cL_powers 26 = .ok (.invokevirtual 94, 3) := by decide +kernel
theorem dL_powers_29 : decode cL_powers 29 = .ok (.aload_n 0, 1) := by decide +kernel
theorem dL_powers_30 : decode cL_powers 30 = .ok (.iconst 1, 1) := by decide +kernel
theorem dL_powers_31 : decode cL_powers 31 = .ok (.invokevirtual 98, 3) := by decide +kernel
theorem dL_powers_34 : decode cL_powers 34 = .ok (.lcmp, 1) := by decide +kernel
theorem dL_powers_35 : decode cL_powers 35 = .ok (.ifCond .eq 5, 3) := by decide +kernel
theorem dL_powers_38 : decode cL_powers 38 = .ok (.iconst 0, 1) := by decide +kernel
theorem dL_powers_39 : decode cL_powers 39 = .ok (.ireturn, 1) := by decide +kernel
theorem dL_powers_40 : decode cL_powers 40 = .ok (.aload_n 0, 1) := by decide +kernel
theorem dL_powers_41 : decode cL_powers 41 = .ok (.iconst 0, 1) := by decide +kernel
theorem dL_powers_42 : decode cL_powers 42 = .ok (.invokevirtual 94, 3) := by decide +kernel
theorem dL_powers_45 : decode cL_powers 45 = .ok (.aload_n 0, 1) := by decide +kernel
theorem dL_powers_46 : decode cL_powers 46 = .ok (.iconst 1, 1) := by decide +kernel
theorem dL_powers_47 : decode cL_powers 47 = .ok (.invokevirtual 94, 3) := by decide +kernel
theorem dL_powers_50 : decode cL_powers 50 = .ok (.ladd, 1) := by decide +kernel
theorem dL_powers_51 : decode cL_powers 51 = .ok (.lstore_n 3, 1) := by decide +kernel
theorem dL_powers_52 : decode cL_powers 52 = .ok (.aload_n 0, 1) := by decide +kernel
theorem dL_powers_53 : decode cL_powers 53 = .ok (.iconst 1, 1) := by decide +kernel
theorem dL_powers_54 : decode cL_powers 54 = .ok (.invokevirtual 94, 3) := by decide +kernel
theorem dL_powers_57 : decode cL_powers 57 = .ok (.lstore 5, 2) := by decide +kernel
theorem dL_powers_59 : decode cL_powers 59 = .ok (.iconst 1, 1) := by decide +kernel
theorem dL_powers_60 : decode cL_powers 60 = .ok (.istore 7, 2) := by decide +kernel
theorem dL_powers_62 : decode cL_powers 62 = .ok (.aload_n 0, 1) := by decide +kernel
theorem dL_powers_63 : decode cL_powers 63 = .ok (.sipush 500, 3) := by decide +kernel
theorem dL_powers_66 : decode cL_powers 66 = .ok (.invokevirtual 101, 3) := by decide +kernel
theorem dL_powers_69 : decode cL_powers 69 = .ok (.istore 8, 2) := by decide +kernel
theorem dL_powers_71 : decode cL_powers 71 = .ok (.aload_n 0, 1) := by decide +kernel
theorem dL_powers_72 : decode cL_powers 72 = .ok (.invokevirtual 104, 3) := by decide +kernel
theorem dL_powers_75 : decode cL_powers 75 = .ok (.istore 9, 2) := by decide +kernel
theorem dL_powers_77 : decode cL_powers 77 = .ok (.iconst 0, 1) := by decide +kernel
theorem dL_powers_78 : decode cL_powers 78 = .ok (.istore 10, 2) := by decide +kernel
theorem dL_powers_80 : decode cL_powers 80 = .ok (.iload 10, 2) := by decide +kernel
theorem dL_powers_82 : decode cL_powers 82 = .ok (.iload_n 1, 1) := by decide +kernel
theorem dL_powers_83 : decode cL_powers 83 = .ok (.if_icmp .ge 131, 3) := by decide +kernel
theorem dL_powers_86 : decode cL_powers 86 = .ok (.aload_n 0, 1) := by decide +kernel
theorem dL_powers_87 : decode cL_powers 87 = .ok (.invokevirtual 51, 3) := by decide +kernel
theorem dL_powers_90 : decode cL_powers 90 = .ok (.iload 10, 2) := by decide +kernel
theorem dL_powers_92 : decode cL_powers 92 = .ok (.ishr, 1) := by decide +kernel
theorem dL_powers_93 : decode cL_powers 93 = .ok (.iconst 1, 1) := by decide +kernel
theorem dL_powers_94 : decode cL_powers 94 = .ok (.iand, 1) := by decide +kernel
theorem dL_powers_95 : decode cL_powers 95 = .ok (.ifCond .ne 16, 3) := by decide +kernel
theorem dL_powers_98 : decode cL_powers 98 = .ok (.iload 8, 2) := by decide +kernel
theorem dL_powers_100 : decode cL_powers 100 = .ok (.iload 10, 2) := by decide +kernel
theorem dL_powers_102 : decode cL_powers 102 = .ok (.ishr, 1) := by decide +kernel
theorem dL_powers_103 : decode cL_powers 103 = .ok (.iconst 1, 1) := by decide +kernel
theorem dL_powers_104 : decode cL_powers 104 = .ok (.iand, 1) := by decide +kernel
theorem dL_powers_105 : decode cL_powers 105 = .ok (.iconst 1, 1) := by decide +kernel
theorem dL_powers_106 : decode cL_powers 106 = .ok (.if_icmp .ne 102, 3) := by decide +kernel
theorem dL_powers_109 : decode cL_powers 109 = .ok (.iconst 0, 1) := by decide +kernel
theorem dL_powers_110 : decode cL_powers 110 = .ok (.ireturn, 1) := by decide +kernel
theorem dL_powers_111 : decode cL_powers 111 = .ok (.aload_n 0, 1) := by decide +kernel
theorem dL_powers_112 : decode cL_powers 112 = .ok (.iload 10, 2) := by decide +kernel
theorem dL_powers_114 : decode cL_powers 114 = .ok (.invokestatic 107, 3) := by decide +kernel
theorem dL_powers_117 : decode cL_powers 117 = .ok (.istore 11, 2) := by decide +kernel
theorem dL_powers_119 : decode cL_powers 119 = .ok (.iload 7, 2) := by decide +kernel
theorem dL_powers_121 : decode cL_powers 121 = .ok (.ifCond .eq 12, 3) := by decide +kernel
theorem dL_powers_124 : decode cL_powers 124 = .ok (.iload 11, 2) := by decide +kernel
theorem dL_powers_126 : decode cL_powers 126 = .ok (.ifCond .eq 7, 3) := by decide +kernel
theorem dL_powers_129 : decode cL_powers 129 = .ok (.iconst 1, 1) := by decide +kernel
theorem dL_powers_130 : decode cL_powers 130 = .ok (.goto 4, 3) := by decide +kernel
theorem dL_powers_133 : decode cL_powers 133 = .ok (.iconst 0, 1) := by decide +kernel
theorem dL_powers_134 : decode cL_powers 134 = .ok (.istore 7, 2) := by decide +kernel
theorem dL_powers_136 : decode cL_powers 136 = .ok (.iload 11, 2) := by decide +kernel
theorem dL_powers_138 : decode cL_powers 138 = .ok (.ifCond .eq 70, 3) := by decide +kernel
theorem dL_powers_141 : decode cL_powers 141 = .ok (.iload_n 2, 1) := by decide +kernel
theorem dL_powers_142 : decode cL_powers 142 = .ok (.iload 10, 2) := by decide +kernel
theorem dL_powers_144 : decode cL_powers 144 = .ok (.ishr, 1) := by decide +kernel
theorem dL_powers_145 : decode cL_powers 145 = .ok (.iconst 1, 1) := by decide +kernel
theorem dL_powers_146 : decode cL_powers 146 = .ok (.iand, 1) := by decide +kernel
theorem dL_powers_147 : decode cL_powers 147 = .ok (.iconst 1, 1) := by decide +kernel
theorem dL_powers_148 : decode cL_powers 148 = .ok (.if_icmp .ne 6, 3) := by decide +kernel
theorem dL_powers_151 : decode cL_powers 151 = .ok (.goto 57, 3) := by decide +kernel
theorem dL_powers_154 : decode cL_powers 154 = .ok (.aload_n 0, 1) := by decide +kernel
theorem dL_powers_155 : decode cL_powers 155 = .ok (.iload 10, 2) := by decide +kernel
theorem dL_powers_157 : decode cL_powers 157 = .ok (.iconst 0, 1) := by decide +kernel
theorem dL_powers_158 : decode cL_powers 158 = .ok (.invokevirtual 85, 3) := by decide +kernel
theorem dL_powers_161 : decode cL_powers 161 = .ok (.lstore 12, 2) := by decide +kernel
theorem dL_powers_163 : decode cL_powers 163 = .ok (.aload_n 0, 1) := by decide +kernel
theorem dL_powers_164 : decode cL_powers 164 = .ok (.iload 10, 2) := by decide +kernel
theorem dL_powers_166 : decode cL_powers 166 = .ok (.iconst 1, 1) := by decide +kernel
theorem dL_powers_167 : decode cL_powers 167 = .ok (.invokevirtual 85, 3) := by decide +kernel
theorem dL_powers_170 : decode cL_powers 170 = .ok (.lstore 14, 2) := by decide +kernel
theorem dL_powers_172 : decode cL_powers 172 = .ok (.lload 5, 2) := by decide +kernel
theorem dL_powers_174 : decode cL_powers 174 = .ok (.lload 14, 2) := by decide +kernel
theorem dL_powers_176 : decode cL_powers 176 = .ok (.invokestatic 110, 3) := by decide +kernel
theorem dL_powers_179 : decode cL_powers 179 = .ok (.lstore 16, 2) := by decide +kernel
theorem dL_powers_181 : decode cL_powers 181 = .ok (.lload_n 3, 1) := by decide +kernel
theorem dL_powers_182 : decode cL_powers 182 = .ok (.lload 14, 2) := by decide +kernel
theorem dL_powers_184 : decode cL_powers 184 = .ok (.lload 16, 2) := by decide +kernel
theorem dL_powers_186 : decode cL_powers 186 = .ok (.ldiv, 1) := by decide +kernel
theorem dL_powers_187 : decode cL_powers 187 = .ok (.lmul, 1) := by decide +kernel
theorem dL_powers_188 : decode cL_powers 188 = .ok (.lload 12, 2) := by decide +kernel
theorem dL_powers_190 : decode cL_powers 190 = .ok (.lload 5, 2) := by decide +kernel
theorem dL_powers_192 : decode cL_powers 192 = .ok (.lload 16, 2) := by decide +kernel
theorem dL_powers_194 : decode cL_powers 194 = .ok (.ldiv, 1) := by decide +kernel
theorem dL_powers_195 : decode cL_powers 195 = .ok (.lmul, 1) := by decide +kernel
theorem dL_powers_196 : decode cL_powers 196 = .ok (.ladd, 1) := by decide +kernel
theorem dL_powers_197 : decode cL_powers 197 = .ok (.lstore_n 3, 1) := by decide +kernel
theorem dL_powers_198 : decode cL_powers 198 = .ok (.lload 5, 2) := by decide +kernel
theorem dL_powers_200 : decode cL_powers 200 = .ok (.lload 16, 2) := by decide +kernel
theorem dL_powers_202 : decode cL_powers 202 = .ok (.ldiv, 1) := by decide +kernel
theorem dL_powers_203 : decode cL_powers 203 = .ok (.lload 14, 2) := by decide +kernel
theorem dL_powers_205 : decode cL_powers 205 = .ok (.lmul, 1) := by decide +kernel
theorem dL_powers_206 : decode cL_powers 206 = .ok (.lstore 5, 2) := by decide +kernel
theorem dL_powers_208 : decode cL_powers 208 = .ok (.iinc 10 1, 3) := by decide +kernel
theorem dL_powers_211 : decode cL_powers 211 = .ok (.goto (-131), 3) := by decide +kernel
theorem dL_powers_214 : decode cL_powers 214 = .ok (.iload 9, 2) := by decide +kernel
theorem dL_powers_216 : decode cL_powers 216 = .ok (.sipush 10000, 3) := by decide +kernel
theorem dL_powers_219 : decode cL_powers 219 = .ok (.if_icmp .ge 14, 3) := by decide +kernel
theorem dL_powers_222 : decode cL_powers 222 = .ok (.aload_n 0, 1) := by decide +kernel
theorem dL_powers_223 : decode cL_powers 223 = .ok (.iload 9, 2) := by decide +kernel
theorem dL_powers_225 : decode cL_powers 225 = .ok (.iconst 1, 1) := by decide +kernel
theorem dL_powers_226 : decode cL_powers 226 = .ok (.iadd, 1) := by decide +kernel
theorem dL_powers_227 : decode cL_powers 227 = .ok (.invokevirtual 101, 3) := by decide +kernel
theorem dL_powers_230 : decode cL_powers 230 = .ok (.ifCond .eq 43, 3) := by decide +kernel
theorem dL_powers_233 : decode cL_powers 233 = .ok (.iload 9, 2) := by decide +kernel
theorem dL_powers_235 : decode cL_powers 235 = .ok (.ifCond .le 12, 3) := by decide +kernel
theorem dL_powers_238 : decode cL_powers 238 = .ok (.aload_n 0, 1) := by decide +kernel
theorem dL_powers_239 : decode cL_powers 239 = .ok (.iload 9, 2) := by decide +kernel
theorem dL_powers_241 : decode cL_powers 241 = .ok (.invokevirtual 101, 3) := by decide +kernel
theorem dL_powers_244 : decode cL_powers 244 = .ok (.ifCond .ne 29, 3) := by decide +kernel
theorem dL_powers_247 : decode cL_powers 247 = .ok (.iload 8, 2) := by decide +kernel
theorem dL_powers_249 : decode cL_powers 249 = .ok (.ifCond .eq 7, 3) := by decide +kernel
theorem dL_powers_252 : decode cL_powers 252 = .ok (.iconst 1, 1) := by decide +kernel
theorem dL_powers_253 : decode cL_powers 253 = .ok (.goto 4, 3) := by decide +kernel
theorem dL_powers_256 : decode cL_powers 256 = .ok (.iconst 0, 1) := by decide +kernel
theorem dL_powers_257 : decode cL_powers 257 = .ok (.iload 9, 2) := by decide +kernel
theorem dL_powers_259 : decode cL_powers 259 = .ok (.sipush 500, 3) := by decide +kernel
theorem dL_powers_262 : decode cL_powers 262 = .ok (.if_icmp .ge 7, 3) := by decide +kernel
theorem dL_powers_265 : decode cL_powers 265 = .ok (.iconst 1, 1) := by decide +kernel
theorem dL_powers_266 : decode cL_powers 266 = .ok (.goto 4, 3) := by decide +kernel
theorem dL_powers_269 : decode cL_powers 269 = .ok (.iconst 0, 1) := by decide +kernel
theorem dL_powers_270 : decode cL_powers 270 = .ok (.if_icmp .eq 5, 3) := by decide +kernel
theorem dL_powers_273 : decode cL_powers 273 = .ok (.iconst 0, 1) := by decide +kernel
theorem dL_powers_274 : decode cL_powers 274 = .ok (.ireturn, 1) := by decide +kernel
theorem dL_powers_275 : decode cL_powers 275 = .ok (.iload 7, 2) := by decide +kernel
theorem dL_powers_277 : decode cL_powers 277 = .ok (.ifCond .eq 9, 3) := by decide +kernel
theorem dL_powers_280 : decode cL_powers 280 = .ok (.lload_n 3, 1) := by decide +kernel
theorem dL_powers_281 : decode cL_powers 281 = .ok (.lconst 0, 1) := by decide +kernel
theorem dL_powers_282 : decode cL_powers 282 = .ok (.lcmp, 1) := by decide +kernel
theorem dL_powers_283 : decode cL_powers 283 = .ok (.ifCond .ne 7, 3) := by decide +kernel
theorem dL_powers_286 : decode cL_powers 286 = .ok (.iconst 1, 1) := by decide +kernel
theorem dL_powers_287 : decode cL_powers 287 = .ok (.goto 4, 3) := by decide +kernel
theorem dL_powers_290 : decode cL_powers 290 = .ok (.iconst 0, 1) := by decide +kernel
theorem dL_powers_291 : decode cL_powers 291 = .ok (.ireturn, 1) := by decide +kernel
theorem dL_common_0 : decode cL_common 0 = .ok (.lload_n 0, 1) := by decide +kernel
theorem dL_common_1 : decode cL_common 1 = .ok (.lstore 4, 2) := by decide +kernel
theorem dL_common_3 : decode cL_common 3 = .ok (.lload_n 2, 1) := by decide +kernel
theorem dL_common_4 : decode cL_common 4 = .ok (.lstore 6, 2) := by decide +kernel
theorem dL_common_6 : decode cL_common 6 = .ok (.lload 6, 2) := by decide +kernel
theorem dL_common_8 : decode cL_common 8 = .ok (.lconst 0, 1) := by decide +kernel
theorem dL_common_9 : decode cL_common 9 = .ok (.lcmp, 1) := by decide +kernel
theorem dL_common_10 : decode cL_common 10 = .ok (.ifCond .eq 21, 3) := by decide +kernel
theorem dL_common_13 : decode cL_common 13 = .ok (.lload 4, 2) := by decide +kernel
theorem dL_common_15 : decode cL_common 15 = .ok (.lload 6, 2) := by decide +kernel
theorem dL_common_17 : decode cL_common 17 = .ok (.lrem, 1) := by decide +kernel
theorem dL_common_18 : decode cL_common 18 = .ok (.lstore 8, 2) := by decide +kernel
theorem dL_common_20 : decode cL_common 20 = .ok (.lload 6, 2) := by decide +kernel
theorem dL_common_22 : decode cL_common 22 = .ok (.lstore 4, 2) := by decide +kernel
theorem dL_common_24 : decode cL_common 24 = .ok (.lload 8, 2) := by decide +kernel
theorem dL_common_26 : decode cL_common 26 = .ok (.lstore 6, 2) := by decide +kernel
theorem dL_common_28 : decode cL_common 28 = .ok (.goto (-22), 3) := by decide +kernel
theorem dL_common_31 : decode cL_common 31 = .ok (.lload 4, 2) := by decide +kernel
theorem dL_common_33 : decode cL_common 33 = .ok (.lreturn, 1) := by decide +kernel
theorem dL_geared_0 : decode cL_geared 0 = .ok (.aload_n 0, 1) := by decide +kernel
theorem dL_geared_1 : decode cL_geared 1 = .ok (.iconst 2, 1) := by decide +kernel
theorem dL_geared_2 : decode cL_geared 2 = .ok (.invokevirtual 55, 3) := by decide +kernel
theorem dL_geared_5 : decode cL_geared 5 = .ok (.istore_n 2, 1) := by decide +kernel
theorem dL_geared_6 : decode cL_geared 6 = .ok (.aload_n 0, 1) := by decide +kernel
theorem dL_geared_7 : decode cL_geared 7 = .ok (.invokevirtual 51, 3) := by decide +kernel
theorem dL_geared_10 : decode cL_geared 10 = .ok (.istore_n 3, 1) := by decide +kernel
theorem dL_geared_11 : decode cL_geared 11 = .ok (.iconst 0, 1) := by decide +kernel
theorem dL_geared_12 : decode cL_geared 12 = .ok (.istore 4, 2) := by decide +kernel
theorem dL_geared_14 : decode cL_geared 14 = .ok (.iload 4, 2) := by decide +kernel
theorem dL_geared_16 : decode cL_geared 16 = .ok (.iload_n 2, 1) := by decide +kernel
theorem dL_geared_17 : decode cL_geared 17 = .ok (.if_icmp .ge 308, 3) := by decide +kernel
theorem dL_geared_20 : decode cL_geared 20 = .ok (.aload_n 0, 1) := by decide +kernel
theorem dL_geared_21 : decode cL_geared 21 = .ok (.iload 4, 2) := by decide +kernel
theorem dL_geared_23 : decode cL_geared 23 = .ok (.invokevirtual 58, 3) := by decide +kernel
theorem dL_geared_26 : decode cL_geared 26 = .ok (.istore 5, 2) := by decide +kernel
theorem dL_geared_28 : decode cL_geared 28 = .ok (.aload_n 0, 1) := by decide +kernel
theorem dL_geared_29 : decode cL_geared 29 = .ok (.iload 5, 2) := by decide +kernel
theorem dL_geared_31 : decode cL_geared 31 = .ok (.invokevirtual 114, 3) := by decide +kernel
theorem dL_geared_34 : decode cL_geared 34 = .ok (.iload 4, 2) := by decide +kernel
theorem dL_geared_36 : decode cL_geared 36 = .ok (.if_icmp .ne 51, 3) := by decide +kernel
theorem dL_geared_39 : decode cL_geared 39 = .ok (.aload_n 0, 1) := by decide +kernel
theorem dL_geared_40 : decode cL_geared 40 = .ok (.iload 5, 2) := by decide +kernel
theorem dL_geared_42 : decode cL_geared 42 = .ok (.invokevirtual 61, 3) := by decide +kernel
theorem dL_geared_45 : decode cL_geared 45 = .ok (.ifCond .lt 42, 3) := by decide +kernel
theorem dL_geared_48 : decode cL_geared 48 = .ok (.aload_n 0, 1) := by decide +kernel
theorem dL_geared_49 : decode cL_geared 49 = .ok (.invokevirtual 91, 3) := by decide +kernel
theorem dL_geared_52 : decode cL_geared 52 = .ok (.ifCond .ne 35, 3) := by decide +kernel
theorem dL_geared_55 : decode cL_geared 55 = .ok (.aload_n 0, 1) := by decide +kernel
theorem dL_geared_56 : decode cL_geared 56 = .ok (.iconst 0, 1) := by decide +kernel
theorem dL_geared_57 : decode cL_geared 57 = .ok (.invokevirtual 98, 3) := by decide +kernel
theorem dL_geared_60 : decode cL_geared 60 = .ok (.aload_n 0, 1) := by decide +kernel
theorem dL_geared_61 : decode cL_geared 61 = .ok (.iload 4, 2) := by decide +kernel
theorem dL_geared_63 : decode cL_geared 63 = .ok (.iconst 0, 1) := by decide +kernel
theorem dL_geared_64 : decode cL_geared 64 = .ok (.invokevirtual 117, 3) := by decide +kernel
theorem dL_geared_67 : decode cL_geared 67 = .ok (.lcmp, 1) := by decide +kernel
theorem dL_geared_68 : decode cL_geared 68 = .ok (.ifCond .ne 19, 3) := by decide +kernel
theorem dL_geared_71 : decode cL_geared 71 = .ok (.aload_n 0, 1) := by decide +kernel
theorem dL_geared_72 : decode cL_geared 72 = .ok (.iconst 1, 1) := by decide +kernel
theorem dL_geared_73 : decode cL_geared 73 = .ok (.invokevirtual 98, 3) := by decide +kernel
theorem dL_geared_76 : decode cL_geared 76 = .ok (.aload_n 0, 1) := by decide +kernel
theorem dL_geared_77 : decode cL_geared 77 = .ok (.iload 4, 2) := by decide +kernel
theorem dL_geared_79 : decode cL_geared 79 = .ok (.iconst 1, 1) := by decide +kernel
theorem dL_geared_80 : decode cL_geared 80 = .ok (.invokevirtual 117, 3) := by decide +kernel
theorem dL_geared_83 : decode cL_geared 83 = .ok (.lcmp, 1) := by decide +kernel
theorem dL_geared_84 : decode cL_geared 84 = .ok (.ifCond .eq 5, 3) := by decide +kernel
theorem dL_geared_87 : decode cL_geared 87 = .ok (.iconst 0, 1) := by decide +kernel
theorem dL_geared_88 : decode cL_geared 88 = .ok (.ireturn, 1) := by decide +kernel
theorem dL_geared_89 : decode cL_geared 89 = .ok (.iconst 0, 1) := by decide +kernel
theorem dL_geared_90 : decode cL_geared 90 = .ok (.istore 6, 2) := by decide +kernel
theorem dL_geared_92 : decode cL_geared 92 = .ok (.iload 6, 2) := by decide +kernel
theorem dL_geared_94 : decode cL_geared 94 = .ok (.iload_n 1, 1) := by decide +kernel
theorem dL_geared_95 : decode cL_geared 95 = .ok (.if_icmp .ge 50, 3) := by decide +kernel
theorem dL_geared_98 : decode cL_geared 98 = .ok (.iload 5, 2) := by decide +kernel
theorem dL_geared_100 : decode cL_geared 100 = .ok (.iload 6, 2) := by decide +kernel
theorem dL_geared_102 : decode cL_geared 102 = .ok (.ishr, 1) := by decide +kernel
theorem dL_geared_103 : decode cL_geared 103 = .ok (.iconst 1, 1) := by decide +kernel
theorem dL_geared_104 : decode cL_geared 104 = .ok (.iand, 1) := by decide +kernel
theorem dL_geared_105 : decode cL_geared 105 = .ok (.ifCond .ne 6, 3) := by decide +kernel
theorem dL_geared_108 : decode cL_geared 108 = .ok (.goto 31, 3) := by decide +kernel
theorem dL_geared_111 : decode cL_geared 111 = .ok (.aload_n 0, 1) := by decide +kernel
theorem dL_geared_112 : decode cL_geared 112 = .ok (.iload 6, 2) := by decide +kernel
theorem dL_geared_114 : decode cL_geared 114 = .ok (.invokevirtual 76, 3) := by decide +kernel
theorem dL_geared_117 : decode cL_geared 117 = .ok (.ifCond .eq 20, 3) := by decide +kernel
theorem dL_geared_120 : decode cL_geared 120 = .ok (.aload_n 0, 1) := by decide +kernel
theorem dL_geared_121 : decode cL_geared 121 = .ok (.invokevirtual 91, 3) := by decide +kernel
theorem dL_geared_124 : decode cL_geared 124 = .ok (.iconst 2, 1) := by decide +kernel
theorem dL_geared_125 : decode cL_geared 125 = .ok (.if_icmp .ne 12, 3) := by decide +kernel
theorem dL_geared_128 : decode cL_geared 128 = .ok (.aload_n 0, 1) := by decide +kernel
theorem dL_geared_129 : decode cL_geared 129 = .ok (.iload 6, 2) := by decide +kernel
theorem dL_geared_131 : decode cL_geared 131 = .ok (.invokevirtual 72, 3) := by decide +kernel
theorem dL_geared_134 : decode cL_geared 134 = .ok (.ifCond .ne 5, 3) := by decide +kernel
theorem dL_geared_137 : decode cL_geared 137 = .ok (.iconst 0, 1) := by decide +kernel
theorem dL_geared_138 : decode cL_geared 138 = .ok (.ireturn, 1) := by decide +kernel
theorem dL_geared_139 : decode cL_geared 139 = .ok (.iinc 6 1, 3) := by decide +kernel
theorem dL_geared_142 : decode cL_geared 142 = .ok (.goto (-50), 3) := by decide +kernel
theorem dL_geared_145 : decode cL_geared 145 = .ok (.iload 4, 2) := by decide +kernel
theorem dL_geared_147 : decode cL_geared 147 = .ok (.ifCond .ne 6, 3) := by decide +kernel
theorem dL_geared_150 : decode cL_geared 150 = .ok (.goto 169, 3) := by decide +kernel
theorem dL_geared_153 : decode cL_geared 153 = .ok (.aload_n 0, 1) := by decide +kernel
theorem dL_geared_154 : decode cL_geared 154 = .ok (.iload 4, 2) := by decide +kernel
theorem dL_geared_156 : decode cL_geared 156 = .ok (.iconst 0, 1) := by decide +kernel
theorem dL_geared_157 : decode cL_geared 157 = .ok (.invokevirtual 117, 3) := by decide +kernel
theorem dL_geared_160 : decode cL_geared 160 = .ok (.aload_n 0, 1) := by decide +kernel
theorem dL_geared_161 : decode cL_geared 161 = .ok (.iload 4, 2) := by decide +kernel
theorem dL_geared_163 : decode cL_geared 163 = .ok (.iconst 1, 1) := by decide +kernel
theorem dL_geared_164 : decode cL_geared 164 = .ok (.isub, 1) := by decide +kernel
theorem dL_geared_165 : decode cL_geared 165 = .ok (.iconst 1, 1) := by decide +kernel
theorem dL_geared_166 : decode cL_geared 166 = .ok (.invokevirtual 117, 3) := by decide +kernel
theorem dL_geared_169 : decode cL_geared 169 = .ok (.lmul, 1) := by decide +kernel
theorem dL_geared_170 : decode cL_geared 170 = .ok (.aload_n 0, 1) := by decide +kernel
theorem dL_geared_171 : decode cL_geared 171 = .ok (.iload 4, 2) := by decide +kernel
theorem dL_geared_173 : decode cL_geared 173 = .ok (.iconst 1, 1) := by decide +kernel
theorem dL_geared_174 : decode cL_geared 174 = .ok (.isub, 1) := by decide +kernel
theorem dL_geared_175 : decode cL_geared 175 = .ok (.iconst 0, 1) := by decide +kernel
theorem dL_geared_176 : decode cL_geared 176 = .ok (.invokevirtual 117, 3) := by decide +kernel
theorem dL_geared_179 : decode cL_geared 179 = .ok (.aload_n 0, 1) := by decide +kernel
theorem dL_geared_180 : decode cL_geared 180 = .ok (.iload 4, 2) := by decide +kernel
theorem dL_geared_182 : decode cL_geared 182 = .ok (.iconst 1, 1) := by decide +kernel
theorem dL_geared_183 : decode cL_geared 183 = .ok (.invokevirtual 117, 3) := by decide +kernel
theorem dL_geared_186 : decode cL_geared 186 = .ok (.lmul, 1) := by decide +kernel
theorem dL_geared_187 : decode cL_geared 187 = .ok (.lsub, 1) := by decide +kernel
theorem dL_geared_188 : decode cL_geared 188 = .ok (.lstore 6, 2) := by decide +kernel
theorem dL_geared_190 : decode cL_geared 190 = .ok (.lload 6, 2) := by decide +kernel
theorem dL_geared_192 : decode cL_geared 192 = .ok (.lconst 0, 1) := by decide +kernel
theorem dL_geared_193 : decode cL_geared 193 = .ok (.lcmp, 1) := by decide +kernel
theorem dL_geared_194 : decode cL_geared 194 = .ok (.ifCond .lt 23, 3) := by decide +kernel
theorem dL_geared_197 : decode cL_geared 197 = .ok (.lload 6, 2) := by decide +kernel
theorem dL_geared_199 : decode cL_geared 199 = .ok (.lconst 0, 1) := by decide +kernel
theorem dL_geared_200 : decode cL_geared 200 = .ok (.lcmp, 1) := by decide +kernel
theorem dL_geared_201 : decode cL_geared 201 = .ok (.ifCond .ne 18, 3) := by decide +kernel
theorem dL_geared_204 : decode cL_geared 204 = .ok (.aload_n 0, 1) := by decide +kernel
theorem dL_geared_205 : decode cL_geared 205 = .ok (.iload 4, 2) := by decide +kernel
theorem dL_geared_207 : decode cL_geared 207 = .ok (.iconst 1, 1) := by decide +kernel
theorem dL_geared_208 : decode cL_geared 208 = .ok (.isub, 1) := by decide +kernel
theorem dL_geared_209 : decode cL_geared 209 = .ok (.invokevirtual 58, 3) := by decide +kernel
theorem dL_geared_212 : decode cL_geared 212 = .ok (.iload 5, 2) := by decide +kernel
theorem dL_geared_214 : decode cL_geared 214 = .ok (.if_icmp .lt 5, 3) := by decide +kernel
theorem dL_geared_217 : decode cL_geared 217 = .ok (.iconst 0, 1) := by decide +kernel
theorem dL_geared_218 : decode cL_geared 218 = .ok (.ireturn, 1) := by decide +kernel
theorem dL_geared_219 : decode cL_geared 219 = .ok (.lload 6, 2) := by decide +kernel
theorem dL_geared_221 : decode cL_geared 221 = .ok (.lconst 0, 1) := by decide +kernel
theorem dL_geared_222 : decode cL_geared 222 = .ok (.lcmp, 1) := by decide +kernel
theorem dL_geared_223 : decode cL_geared 223 = .ok (.ifCond .le 30, 3) := by decide +kernel
theorem dL_geared_226 : decode cL_geared 226 = .ok (.aload_n 0, 1) := by decide +kernel
theorem dL_geared_227 : decode cL_geared 227 = .ok (.iload 4, 2) := by decide +kernel
theorem dL_geared_229 : decode cL_geared 229 = .ok (.iconst 1, 1) := by decide +kernel
theorem dL_geared_230 : decode cL_geared 230 = .ok (.isub, 1) := by decide +kernel
theorem dL_geared_231 : decode cL_geared 231 = .ok (.iconst 0, 1) := by decide +kernel
theorem dL_geared_232 : decode cL_geared 232 = .ok (.invokevirtual 117, 3) := by decide +kernel
theorem dL_geared_235 : decode cL_geared 235 = .ok (.lconst 0, 1) := by decide +kernel
theorem dL_geared_236 : decode cL_geared 236 = .ok (.lcmp, 1) := by decide +kernel
theorem dL_geared_237 : decode cL_geared 237 = .ok (.ifCond .le 16, 3) := by decide +kernel
theorem dL_geared_240 : decode cL_geared 240 = .ok (.aload_n 0, 1) := by decide +kernel
theorem dL_geared_241 : decode cL_geared 241 = .ok (.iload 4, 2) := by decide +kernel
theorem dL_geared_243 : decode cL_geared 243 = .ok (.iconst 1, 1) := by decide +kernel
theorem dL_geared_244 : decode cL_geared 244 = .ok (.isub, 1) := by decide +kernel
theorem dL_geared_245 : decode cL_geared 245 = .ok (.invokevirtual 120, 3) := by decide +kernel
theorem dL_geared_248 : decode cL_geared 248 = .ok (.fconst 1, 1) := by decide +kernel
theorem dL_geared_249 : decode cL_geared 249 = .ok (.fcmp .g, 1) := by decide +kernel
theorem dL_geared_250 : decode cL_geared 250 = .ok (.ifCond .lt 67, 3) := by decide +kernel
theorem dL_geared_253 : decode cL_geared 253 = .ok (.aload_n 0, 1) := by decide +kernel
theorem dL_geared_254 : decode cL_geared 254 = .ok (.iload 4, 2) := by decide +kernel
theorem dL_geared_256 : decode cL_geared 256 = .ok (.iconst 0, 1) := by decide +kernel
theorem dL_geared_257 : decode cL_geared 257 = .ok (.invokevirtual 117, 3) := by decide +kernel
theorem dL_geared_260 : decode cL_geared 260 = .ok (.lconst 0, 1) := by decide +kernel
theorem dL_geared_261 : decode cL_geared 261 = .ok (.lcmp, 1) := by decide +kernel
theorem dL_geared_262 : decode cL_geared 262 = .ok (.ifCond .ge 16, 3) := by decide +kernel
theorem dL_geared_265 : decode cL_geared 265 = .ok (.aload_n 0, 1) := by decide +kernel
theorem dL_geared_266 : decode cL_geared 266 = .ok (.iload 4, 2) := by decide +kernel
theorem dL_geared_268 : decode cL_geared 268 = .ok (.iconst 1, 1) := by decide +kernel
theorem dL_geared_269 : decode cL_geared 269 = .ok (.isub, 1) := by decide +kernel
theorem dL_geared_270 : decode cL_geared 270 = .ok (.invokevirtual 120, 3) := by decide +kernel
theorem dL_geared_273 : decode cL_geared 273 = .ok (.fconst 1, 1) := by decide +kernel
theorem dL_geared_274 : decode cL_geared 274 = .ok (.fcmp .l, 1) := by decide +kernel
theorem dL_geared_275 : decode cL_geared 275 = .ok (.ifCond .gt 42, 3) := by decide +kernel
theorem dL_geared_278 : decode cL_geared 278 = .ok (.aload_n 0, 1) := by decide +kernel
theorem dL_geared_279 : decode cL_geared 279 = .ok (.iload 4, 2) := by decide +kernel
theorem dL_geared_281 : decode cL_geared 281 = .ok (.iconst 1, 1) := by decide +kernel
theorem dL_geared_282 : decode cL_geared 282 = .ok (.isub, 1) := by decide +kernel
theorem dL_geared_283 : decode cL_geared 283 = .ok (.iconst 0, 1) := by decide +kernel
theorem dL_geared_284 : decode cL_geared 284 = .ok (.invokevirtual 117, 3) := by decide +kernel
theorem dL_geared_287 : decode cL_geared 287 = .ok (.lconst 0, 1) := by decide +kernel
theorem dL_geared_288 : decode cL_geared 288 = .ok (.lcmp, 1) := by decide +kernel
theorem dL_geared_289 : decode cL_geared 289 = .ok (.ifCond .ge 30, 3) := by decide +kernel
theorem dL_geared_292 : decode cL_geared 292 = .ok (.aload_n 0, 1) := by decide +kernel
theorem dL_geared_293 : decode cL_geared 293 = .ok (.iload 4, 2) := by decide +kernel
theorem dL_geared_295 : decode cL_geared 295 = .ok (.iconst 0, 1) := by decide +kernel
theorem dL_geared_296 : decode cL_geared 296 = .ok (.invokevirtual 117, 3) := by decide +kernel
theorem dL_geared_299 : decode cL_geared 299 = .ok (.lconst 0, 1) := by decide +kernel
theorem dL_geared_300 : decode cL_geared 300 = .ok (.lcmp, 1) := by decide +kernel
theorem dL_geared_301 : decode cL_geared 301 = .ok (.ifCond .le 18, 3) := by decide +kernel
theorem dL_geared_304 : decode cL_geared 304 = .ok (.aload_n 0, 1) := by decide +kernel
theorem dL_geared_305 : decode cL_geared 305 = .ok (.iload 4, 2) := by decide +kernel
theorem dL_geared_307 : decode cL_geared 307 = .ok (.iconst 1, 1) := by decide +kernel
theorem dL_geared_308 : decode cL_geared 308 = .ok (.isub, 1) := by decide +kernel
theorem dL_geared_309 : decode cL_geared 309 = .ok (.invokevirtual 120, 3) := by decide +kernel
theorem dL_geared_312 : decode cL_geared 312 = .ok (.fconst 0, 1) := by decide +kernel
theorem dL_geared_313 : decode cL_geared 313 = .ok (.fcmp .l, 1) := by decide +kernel
theorem dL_geared_314 : decode cL_geared 314 = .ok (.ifCond .lt 5, 3) := by decide +kernel
theorem dL_geared_317 : decode cL_geared 317 = .ok (.iconst 0, 1) := by decide +kernel
theorem dL_geared_318 : decode cL_geared 318 = .ok (.ireturn, 1) := by decide +kernel
theorem dL_geared_319 : decode cL_geared 319 = .ok (.iinc 4 1, 3) := by decide +kernel
theorem dL_geared_322 : decode cL_geared 322 = .ok (.goto (-308), 3) := by decide +kernel
theorem dL_geared_325 : decode cL_geared 325 = .ok (.aload_n 0, 1) := by decide +kernel
theorem dL_geared_326 : decode cL_geared 326 = .ok (.iload_n 3, 1) := by decide +kernel
theorem dL_geared_327 : decode cL_geared 327 = .ok (.invokevirtual 61, 3) := by decide +kernel
theorem dL_geared_330 : decode cL_geared 330 = .ok (.ifCond .lt 15, 3) := by decide +kernel
theorem dL_geared_333 : decode cL_geared 333 = .ok (.aload_n 0, 1) := by decide +kernel
theorem dL_geared_334 : decode cL_geared 334 = .ok (.invokevirtual 51, 3) := by decide +kernel
theorem dL_geared_337 : decode cL_geared 337 = .ok (.iload_n 3, 1) := by decide +kernel
theorem dL_geared_338 : decode cL_geared 338 = .ok (.if_icmp .ne 7, 3) := by decide +kernel
theorem dL_geared_341 : decode cL_geared 341 = .ok (.iconst 1, 1) := by decide +kernel
theorem dL_geared_342 : decode cL_geared 342 = .ok (.goto 4, 3) := by decide +kernel
theorem dL_geared_345 : decode cL_geared 345 = .ok (.iconst 0, 1) := by decide +kernel
theorem dL_geared_346 : decode cL_geared 346 = .ok (.ireturn, 1) := by decide +kernel
theorem dL_ones_0 : decode cL_ones 0 = .ok (.iconst 0, 1) := by decide +kernel
theorem dL_ones_1 : decode cL_ones 1 = .ok (.istore_n 1, 1) := by decide +kernel
theorem dL_ones_2 : decode cL_ones 2 = .ok (.iload_n 0, 1) := by decide +kernel
theorem dL_ones_3 : decode cL_ones 3 = .ok (.istore_n 2, 1) := by decide +kernel
theorem dL_ones_4 : decode cL_ones 4 = .ok (.iload_n 2, 1) := by decide +kernel
theorem dL_ones_5 : decode cL_ones 5 = .ok (.ifCond .eq 15, 3) := by decide +kernel
theorem dL_ones_8 : decode cL_ones 8 = .ok (.iinc 1 1, 3) := by decide +kernel
theorem dL_ones_11 : decode cL_ones 11 = .ok (.iload_n 2, 1) := by decide +kernel
theorem dL_ones_12 : decode cL_ones 12 = .ok (.iload_n 2, 1) := by decide +kernel
theorem dL_ones_13 : decode cL_ones 13 = .ok (.iconst 1, 1) := by decide +kernel
theorem dL_ones_14 : decode cL_ones 14 = .ok (.isub, 1) := by decide +kernel
theorem dL_ones_15 : decode cL_ones 15 = .ok (.iand, 1) := by decide +kernel
theorem dL_ones_16 : decode cL_ones 16 = .ok (.istore_n 2, 1) := by decide +kernel
theorem dL_ones_17 : decode cL_ones 17 = .ok (.goto (-13), 3) := by decide +kernel
theorem dL_ones_20 : decode cL_ones 20 = .ok (.iload_n 1, 1) := by decide +kernel
theorem dL_ones_21 : decode cL_ones 21 = .ok (.ireturn, 1) := by decide +kernel
theorem dL_shifts_0 : decode cL_shifts 0 = .ok (.aload_n 0, 1) := by decide +kernel
theorem dL_shifts_1 : decode cL_shifts 1 = .ok (.iconst 2, 1) := by decide +kernel
theorem dL_shifts_2 : decode cL_shifts 2 = .ok (.invokevirtual 55, 3) := by decide +kernel
theorem dL_shifts_5 : decode cL_shifts 5 = .ok (.istore_n 1, 1) := by decide +kernel
theorem dL_shifts_6 : decode cL_shifts 6 = .ok (.iconst 0, 1) := by decide +kernel
theorem dL_shifts_7 : decode cL_shifts 7 = .ok (.istore_n 2, 1) := by decide +kernel
theorem dL_shifts_8 : decode cL_shifts 8 = .ok (.iload_n 2, 1) := by decide +kernel
theorem dL_shifts_9 : decode cL_shifts 9 = .ok (.iload_n 1, 1) := by decide +kernel
theorem dL_shifts_10 : decode cL_shifts 10 = .ok (.if_icmp .ge 283, 3) := by decide +kernel
theorem dL_shifts_13 : decode cL_shifts 13 = .ok (.iconst 0, 1) := by decide +kernel
theorem dL_shifts_14 : decode cL_shifts 14 = .ok (.istore_n 3, 1) := by decide +kernel
theorem dL_shifts_15 : decode cL_shifts 15 = .ok (.iload_n 3, 1) := by decide +kernel
theorem dL_shifts_16 : decode cL_shifts 16 = .ok (.iload_n 1, 1) := by decide +kernel
theorem dL_shifts_17 : decode cL_shifts 17 = .ok (.if_icmp .ge 270, 3) := by decide +kernel
theorem dL_shifts_20 : decode cL_shifts 20 = .ok (.iload_n 3, 1) := by decide +kernel
theorem dL_shifts_21 : decode cL_shifts 21 = .ok (.bipush 6, 2) := by decide +kernel
theorem dL_shifts_23 : decode cL_shifts 23 = .ok (.if_icmp .ge 264, 3) := by decide +kernel
theorem dL_shifts_26 : decode cL_shifts 26 = .ok (.aload_n 0, 1) := by decide +kernel
theorem dL_shifts_27 : decode cL_shifts 27 = .ok (.iload_n 2, 1) := by decide +kernel
theorem dL_shifts_28 : decode cL_shifts 28 = .ok (.iload_n 3, 1) := by decide +kernel
theorem dL_shifts_29 : decode cL_shifts 29 = .ok (.invokevirtual 124, 3) := by decide +kernel
theorem dL_shifts_32 : decode cL_shifts 32 = .ok (.istore 4, 2) := by decide +kernel
theorem dL_shifts_34 : decode cL_shifts 34 = .ok (.iload 4, 2) := by decide +kernel
theorem dL_shifts_36 : decode cL_shifts 36 = .ok (.aload_n 0, 1) := by decide +kernel
theorem dL_shifts_37 : decode cL_shifts 37 = .ok (.iload_n 3, 1) := by decide +kernel
theorem dL_shifts_38 : decode cL_shifts 38 = .ok (.iload_n 2, 1) := by decide +kernel
theorem dL_shifts_39 : decode cL_shifts 39 = .ok (.invokevirtual 124, 3) := by decide +kernel
theorem dL_shifts_42 : decode cL_shifts 42 = .ok (.if_icmp .ne 51, 3) := by decide +kernel
theorem dL_shifts_45 : decode cL_shifts 45 = .ok (.iload 4, 2) := by decide +kernel
theorem dL_shifts_47 : decode cL_shifts 47 = .ok (.ifCond .ne 7, 3) := by decide +kernel
theorem dL_shifts_50 : decode cL_shifts 50 = .ok (.iconst 1, 1) := by decide +kernel
theorem dL_shifts_51 : decode cL_shifts 51 = .ok (.goto 4, 3) := by decide +kernel
theorem dL_shifts_54 : decode cL_shifts 54 = .ok (.iconst 0, 1) := by decide +kernel
theorem dL_shifts_55 : decode cL_shifts 55 = .ok (.iload_n 2, 1) := by decide +kernel
theorem dL_shifts_56 : decode cL_shifts 56 = .ok (.iload_n 3, 1) := by decide +kernel
theorem dL_shifts_57 : decode cL_shifts 57 = .ok (.if_icmp .ne 7, 3) := by decide +kernel
theorem dL_shifts_60 : decode cL_shifts 60 = .ok (.iconst 1, 1) := by decide +kernel
theorem dL_shifts_61 : decode cL_shifts 61 = .ok (.goto 4, 3) := by decide +kernel
theorem dL_shifts_64 : decode cL_shifts 64 = .ok (.iconst 0, 1) := by decide +kernel
theorem dL_shifts_65 : decode cL_shifts 65 = .ok (.if_icmp .ne 28, 3) := by decide +kernel
theorem dL_shifts_68 : decode cL_shifts 68 = .ok (.aload_n 0, 1) := by decide +kernel
theorem dL_shifts_69 : decode cL_shifts 69 = .ok (.iload_n 2, 1) := by decide +kernel
theorem dL_shifts_70 : decode cL_shifts 70 = .ok (.iload_n 3, 1) := by decide +kernel
theorem dL_shifts_71 : decode cL_shifts 71 = .ok (.iload 4, 2) := by decide +kernel
theorem dL_shifts_73 : decode cL_shifts 73 = .ok (.iconst 1, 1) := by decide +kernel
theorem dL_shifts_74 : decode cL_shifts 74 = .ok (.iadd, 1) := by decide +kernel
theorem dL_shifts_75 : decode cL_shifts 75 = .ok (.invokevirtual 127, 3) := by decide +kernel
theorem dL_shifts_78 : decode cL_shifts 78 = .ok (.iconst (-1), 1) := by decide +kernel
theorem dL_shifts_79 : decode cL_shifts 79 = .ok (.if_icmp .ne 14, 3) := by decide +kernel
theorem dL_shifts_82 : decode cL_shifts 82 = .ok (.aload_n 0, 1) := by decide +kernel
theorem dL_shifts_83 : decode cL_shifts 83 = .ok (.iload_n 2, 1) := by decide +kernel
theorem dL_shifts_84 : decode cL_shifts 84 = .ok (.iload_n 3, 1) := by decide +kernel
theorem dL_shifts_85 : decode cL_shifts 85 = .ok (.iconst (-1), 1) := by decide +kernel
theorem dL_shifts_86 : decode cL_shifts 86 = .ok (.invokevirtual 127, 3) := by decide +kernel
theorem dL_shifts_89 : decode cL_shifts 89 = .ok (.iconst (-1), 1) := by decide +kernel
theorem dL_shifts_90 : decode cL_shifts 90 = .ok (.if_icmp .eq 5, 3) := by decide +kernel
theorem dL_shifts_93 : decode cL_shifts 93 = .ok (.iconst 0, 1) := by decide +kernel
theorem dL_shifts_94 : decode cL_shifts 94 = .ok (.ireturn, 1) := by decide +kernel
theorem dL_shifts_95 : decode cL_shifts 95 = .ok (.iconst 0, 1) := by decide +kernel
theorem dL_shifts_96 : decode cL_shifts 96 = .ok (.istore 5, 2) := by decide +kernel
theorem dL_shifts_98 : decode cL_shifts 98 = .ok (.iload 5, 2) := by decide +kernel
theorem dL_shifts_100 : decode cL_shifts 100 = .ok (.iload 4, 2) := by decide +kernel
theorem dL_shifts_102 : decode cL_shifts 102 = .ok (.if_icmp .gt 127, 3) := by decide +kernel
theorem dL_shifts_105 : decode cL_shifts 105 = .ok (.aload_n 0, 1) := by decide +kernel
theorem dL_shifts_106 : decode cL_shifts 106 = .ok (.iload_n 2, 1) := by decide +kernel
theorem dL_shifts_107 : decode cL_shifts 107 = .ok (.iload_n 3, 1) := by decide +kernel
theorem dL_shifts_108 : decode cL_shifts 108 = .ok (.iload 5, 2) := by decide +kernel
theorem dL_shifts_110 : decode cL_shifts 110 = .ok (.invokevirtual 127, 3) := by decide +kernel
theorem dL_shifts_113 : decode cL_shifts 113 = .ok (.istore 6, 2) := by decide +kernel
theorem dL_shifts_115 : decode cL_shifts 115 = .ok (.iload 6, 2) := by decide +kernel
theorem dL_shifts_117 : decode cL_shifts 117 = .ok (.ifCond .lt 42, 3) := by decide +kernel
theorem dL_shifts_120 : decode cL_shifts 120 = .ok (.aload_n 0, 1) := by decide +kernel
theorem dL_shifts_121 : decode cL_shifts 121 = .ok (.iload 6, 2) := by decide +kernel
theorem dL_shifts_123 : decode cL_shifts 123 = .ok (.iload_n 3, 1) := by decide +kernel
theorem dL_shifts_124 : decode cL_shifts 124 = .ok (.invokevirtual 124, 3) := by decide +kernel
theorem dL_shifts_127 : decode cL_shifts 127 = .ok (.iload 4, 2) := by decide +kernel
theorem dL_shifts_129 : decode cL_shifts 129 = .ok (.iload 5, 2) := by decide +kernel
theorem dL_shifts_131 : decode cL_shifts 131 = .ok (.isub, 1) := by decide +kernel
theorem dL_shifts_132 : decode cL_shifts 132 = .ok (.if_icmp .ne 27, 3) := by decide +kernel
theorem dL_shifts_135 : decode cL_shifts 135 = .ok (.iload 5, 2) := by decide +kernel
theorem dL_shifts_137 : decode cL_shifts 137 = .ok (.ifCond .ne 9, 3) := by decide +kernel
theorem dL_shifts_140 : decode cL_shifts 140 = .ok (.iload 6, 2) := by decide +kernel
theorem dL_shifts_142 : decode cL_shifts 142 = .ok (.iload_n 2, 1) := by decide +kernel
theorem dL_shifts_143 : decode cL_shifts 143 = .ok (.if_icmp .ne 16, 3) := by decide +kernel
theorem dL_shifts_146 : decode cL_shifts 146 = .ok (.iload 5, 2) := by decide +kernel
theorem dL_shifts_148 : decode cL_shifts 148 = .ok (.iload 4, 2) := by decide +kernel
theorem dL_shifts_150 : decode cL_shifts 150 = .ok (.if_icmp .ne 11, 3) := by decide +kernel
theorem dL_shifts_153 : decode cL_shifts 153 = .ok (.iload 6, 2) := by decide +kernel
theorem dL_shifts_155 : decode cL_shifts 155 = .ok (.iload_n 3, 1) := by decide +kernel
theorem dL_shifts_156 : decode cL_shifts 156 = .ok (.if_icmp .eq 5, 3) := by decide +kernel
theorem dL_shifts_159 : decode cL_shifts 159 = .ok (.iconst 0, 1) := by decide +kernel
theorem dL_shifts_160 : decode cL_shifts 160 = .ok (.ireturn, 1) := by decide +kernel
theorem dL_shifts_161 : decode cL_shifts 161 = .ok (.iload 5, 2) := by decide +kernel
theorem dL_shifts_163 : decode cL_shifts 163 = .ok (.ifCond .ne 6, 3) := by decide +kernel
theorem dL_shifts_166 : decode cL_shifts 166 = .ok (.goto 57, 3) := by decide +kernel
theorem dL_shifts_169 : decode cL_shifts 169 = .ok (.aload_n 0, 1) := by decide +kernel
theorem dL_shifts_170 : decode cL_shifts 170 = .ok (.aload_n 0, 1) := by decide +kernel
theorem dL_shifts_171 : decode cL_shifts 171 = .ok (.iload_n 2, 1) := by decide +kernel
theorem dL_shifts_172 : decode cL_shifts 172 = .ok (.iload_n 3, 1) := by decide +kernel
theorem dL_shifts_173 : decode cL_shifts 173 = .ok (.iload 5, 2) := by decide +kernel
theorem dL_shifts_175 : decode cL_shifts 175 = .ok (.iconst 1, 1) := by decide +kernel
theorem dL_shifts_176 : decode cL_shifts 176 = .ok (.isub, 1) := by decide +kernel
theorem dL_shifts_177 : decode cL_shifts 177 = .ok (.invokevirtual 127, 3) := by decide +kernel
theorem dL_shifts_180 : decode cL_shifts 180 = .ok (.invokevirtual 58, 3) := by decide +kernel
theorem dL_shifts_183 : decode cL_shifts 183 = .ok (.istore 7, 2) := by decide +kernel
theorem dL_shifts_185 : decode cL_shifts 185 = .ok (.iload 7, 2) := by decide +kernel
theorem dL_shifts_187 : decode cL_shifts 187 = .ok (.aload_n 0, 1) := by decide +kernel
theorem dL_shifts_188 : decode cL_shifts 188 = .ok (.iload 6, 2) := by decide +kernel
theorem dL_shifts_190 : decode cL_shifts 190 = .ok (.invokevirtual 58, 3) := by decide +kernel
theorem dL_shifts_193 : decode cL_shifts 193 = .ok (.iconst (-1), 1) := by decide +kernel
theorem dL_shifts_194 : decode cL_shifts 194 = .ok (.ixor, 1) := by decide +kernel
theorem dL_shifts_195 : decode cL_shifts 195 = .ok (.iand, 1) := by decide +kernel
theorem dL_shifts_196 : decode cL_shifts 196 = .ok (.invokestatic 131, 3) := by decide +kernel
theorem dL_shifts_199 : decode cL_shifts 199 = .ok (.iconst 1, 1) := by decide +kernel
theorem dL_shifts_200 : decode cL_shifts 200 = .ok (.if_icmp .ne 21, 3) := by decide +kernel
theorem dL_shifts_203 : decode cL_shifts 203 = .ok (.aload_n 0, 1) := by decide +kernel
theorem dL_shifts_204 : decode cL_shifts 204 = .ok (.iload 6, 2) := by decide +kernel
theorem dL_shifts_206 : decode cL_shifts 206 = .ok (.invokevirtual 58, 3) := by decide +kernel
theorem dL_shifts_209 : decode cL_shifts 209 = .ok (.iload 7, 2) := by decide +kernel
theorem dL_shifts_211 : decode cL_shifts 211 = .ok (.iconst (-1), 1) := by decide +kernel
theorem dL_shifts_212 : decode cL_shifts 212 = .ok (.ixor, 1) := by decide +kernel
theorem dL_shifts_213 : decode cL_shifts 213 = .ok (.iand, 1) := by decide +kernel
theorem dL_shifts_214 : decode cL_shifts 214 = .ok (.invokestatic 131, 3) := by decide +kernel
theorem dL_shifts_217 : decode cL_shifts 217 = .ok (.iconst 1, 1) := by decide +kernel
theorem dL_shifts_218 : decode cL_shifts 218 = .ok (.if_icmp .eq 5, 3) := by decide +kernel
theorem dL_shifts_221 : decode cL_shifts 221 = .ok (.iconst 0, 1) := by decide +kernel
theorem dL_shifts_222 : decode cL_shifts 222 = .ok (.ireturn, 1) := by decide +kernel
theorem dL_shifts_223 : decode cL_shifts 223 = .ok (.iinc 5 1, 3) := by decide +kernel
theorem dL_shifts_226 : decode cL_shifts 226 = .ok (.goto (-128), 3) := by decide +kernel
theorem dL_shifts_229 : decode cL_shifts 229 = .ok (.iload 4, 2) := by decide +kernel
theorem dL_shifts_231 : decode cL_shifts 231 = .ok (.ifCond .ge 50, 3) := by decide +kernel
theorem dL_shifts_234 : decode cL_shifts 234 = .ok (.iload_n 2, 1) := by decide +kernel
theorem dL_shifts_235 : decode cL_shifts 235 = .ok (.iload_n 3, 1) := by decide +kernel
theorem dL_shifts_236 : decode cL_shifts 236 = .ok (.if_icmp .eq 45, 3) := by decide +kernel
theorem dL_shifts_239 : decode cL_shifts 239 = .ok (.aload_n 0, 1) := by decide +kernel
theorem dL_shifts_240 : decode cL_shifts 240 = .ok (.iload_n 2, 1) := by decide +kernel
theorem dL_shifts_241 : decode cL_shifts 241 = .ok (.invokevirtual 58, 3) := by decide +kernel
theorem dL_shifts_244 : decode cL_shifts 244 = .ok (.aload_n 0, 1) := by decide +kernel
theorem dL_shifts_245 : decode cL_shifts 245 = .ok (.iload_n 3, 1) := by decide +kernel
theorem dL_shifts_246 : decode cL_shifts 246 = .ok (.invokevirtual 58, 3) := by decide +kernel
theorem dL_shifts_249 : decode cL_shifts 249 = .ok (.iconst (-1), 1) := by decide +kernel
theorem dL_shifts_250 : decode cL_shifts 250 = .ok (.ixor, 1) := by decide +kernel
theorem dL_shifts_251 : decode cL_shifts 251 = .ok (.iand, 1) := by decide +kernel
theorem dL_shifts_252 : decode cL_shifts 252 = .ok (.invokestatic 131, 3) := by decide +kernel
theorem dL_shifts_255 : decode cL_shifts 255 = .ok (.iconst 1, 1) := by decide +kernel
theorem dL_shifts_256 : decode cL_shifts 256 = .ok (.if_icmp .ne 25, 3) := by decide +kernel
theorem dL_shifts_259 : decode cL_shifts 259 = .ok (.aload_n 0, 1) := by decide +kernel
theorem dL_shifts_260 : decode cL_shifts 260 = .ok (.iload_n 3, 1) := by decide +kernel
theorem dL_shifts_261 : decode cL_shifts 261 = .ok (.invokevirtual 58, 3) := by decide +kernel
theorem dL_shifts_264 : decode cL_shifts 264 = .ok (.aload_n 0, 1) := by decide +kernel
theorem dL_shifts_265 : decode cL_shifts 265 = .ok (.iload_n 2, 1) := by decide +kernel
theorem dL_shifts_266 : decode cL_shifts 266 = .ok (.invokevirtual 58, 3) := by decide +kernel
theorem dL_shifts_269 : decode cL_shifts 269 = .ok (.iconst (-1), 1) := by decide +kernel
theorem dL_shifts_270 : decode cL_shifts 270 = .ok (.ixor, 1) := by decide +kernel
theorem dL_shifts_271 : decode cL_shifts 271 = .ok (.iand, 1) := by decide +kernel
theorem dL_shifts_272 : decode cL_shifts 272 = .ok (.invokestatic 131, 3) := by decide +kernel
theorem dL_shifts_275 : decode cL_shifts 275 = .ok (.iconst 1, 1) := by decide +kernel
theorem dL_shifts_276 : decode cL_shifts 276 = .ok (.if_icmp .ne 5, 3) := by decide +kernel
theorem dL_shifts_279 : decode cL_shifts 279 = .ok (.iconst 0, 1) := by decide +kernel
theorem dL_shifts_280 : decode cL_shifts 280 = .ok (.ireturn, 1) := by decide +kernel
theorem dL_shifts_281 : decode cL_shifts 281 = .ok (.iinc 3 1, 3) := by decide +kernel
theorem dL_shifts_284 : decode cL_shifts 284 = .ok (.goto (-269), 3) := by decide +kernel
theorem dL_shifts_287 : decode cL_shifts 287 = .ok (.iinc 2 1, 3) := by decide +kernel
theorem dL_shifts_290 : decode cL_shifts 290 = .ok (.goto (-282), 3) := by decide +kernel
theorem dL_shifts_293 : decode cL_shifts 293 = .ok (.iconst 1, 1) := by decide +kernel
theorem dL_shifts_294 : decode cL_shifts 294 = .ok (.ireturn, 1) := by decide +kernel
theorem dL_saved_0 : decode cL_saved 0 = .ok (.aload_n 0, 1) := by decide +kernel
theorem dL_saved_1 : decode cL_saved 1 = .ok (.invokevirtual 51, 3) := by decide +kernel
theorem dL_saved_4 : decode cL_saved 4 = .ok (.istore_n 2, 1) := by decide +kernel
theorem dL_saved_5 : decode cL_saved 5 = .ok (.aload_n 0, 1) := by decide +kernel
theorem dL_saved_6 : decode cL_saved 6 = .ok (.iconst 2, 1) := by decide +kernel
theorem dL_saved_7 : decode cL_saved 7 = .ok (.invokevirtual 55, 3) := by decide +kernel
theorem dL_saved_10 : decode cL_saved 10 = .ok (.istore_n 3, 1) := by decide +kernel
theorem dL_saved_11 : decode cL_saved 11 = .ok (.aload_n 0, 1) := by decide +kernel
theorem dL_saved_12 : decode cL_saved 12 = .ok (.iconst 0, 1) := by decide +kernel
theorem dL_saved_13 : decode cL_saved 13 = .ok (.invokevirtual 40, 3) := by decide +kernel
theorem dL_saved_16 : decode cL_saved 16 = .ok (.aload_n 0, 1) := by decide +kernel
theorem dL_saved_17 : decode cL_saved 17 = .ok (.iload_n 2, 1) := by decide +kernel
theorem dL_saved_18 : decode cL_saved 18 = .ok (.iconst 1, 1) := by decide +kernel
theorem dL_saved_19 : decode cL_saved 19 = .ok (.ixor, 1) := by decide +kernel
theorem dL_saved_20 : decode cL_saved 20 = .ok (.invokevirtual 61, 3) := by decide +kernel
theorem dL_saved_23 : decode cL_saved 23 = .ok (.pop, 1) := by decide +kernel
theorem dL_saved_24 : decode cL_saved 24 = .ok (.aload_n 0, 1) := by decide +kernel
theorem dL_saved_25 : decode cL_saved 25 = .ok (.iconst 0, 1) := by decide +kernel
theorem dL_saved_26 : decode cL_saved 26 = .ok (.sipush 9999, 3) := by decide +kernel
theorem dL_saved_29 : decode cL_saved 29 = .ok (.invokevirtual 37, 3) := by decide +kernel
theorem dL_saved_32 : decode cL_saved 32 = .ok (.pop, 1) := by decide +kernel
theorem dL_saved_33 : decode cL_saved 33 = .ok (.aload_n 0, 1) := by decide +kernel
theorem dL_saved_34 : decode cL_saved 34 = .ok (.iconst 0, 1) := by decide +kernel
theorem dL_saved_35 : decode cL_saved 35 = .ok (.invokevirtual 55, 3) := by decide +kernel
theorem dL_saved_38 : decode cL_saved 38 = .ok (.iconst 3, 1) := by decide +kernel
theorem dL_saved_39 : decode cL_saved 39 = .ok (.if_icmp .ge 15, 3) := by decide +kernel
theorem dL_saved_42 : decode cL_saved 42 = .ok (.aload_n 0, 1) := by decide +kernel
theorem dL_saved_43 : decode cL_saved 43 = .ok (.iconst 1, 1) := by decide +kernel
theorem dL_saved_44 : decode cL_saved 44 = .ok (.iconst 3, 1) := by decide +kernel
theorem dL_saved_45 : decode cL_saved 45 = .ok (.iconst 5, 1) := by decide +kernel
theorem dL_saved_46 : decode cL_saved 46 = .ok (.bipush 12, 2) := by decide +kernel
theorem dL_saved_48 : decode cL_saved 48 = .ok (.bipush 34, 2) := by decide +kernel
theorem dL_saved_50 : decode cL_saved 50 = .ok (.invokevirtual 26, 3) := by decide +kernel
theorem dL_saved_53 : decode cL_saved 53 = .ok (.pop, 1) := by decide +kernel
theorem dL_saved_54 : decode cL_saved 54 = .ok (.iload_n 1, 1) := by decide +kernel
theorem dL_saved_55 : decode cL_saved 55 = .ok (.bipush 6, 2) := by decide +kernel
theorem dL_saved_57 : decode cL_saved 57 = .ok (.if_icmp .ge 9, 3) := by decide +kernel
theorem dL_saved_60 : decode cL_saved 60 = .ok (.aload_n 0, 1) := by decide +kernel
theorem dL_saved_61 : decode cL_saved 61 = .ok (.iconst 5, 1) := by decide +kernel
theorem dL_saved_62 : decode cL_saved 62 = .ok (.invokevirtual 30, 3) := by decide +kernel
theorem dL_saved_65 : decode cL_saved 65 = .ok (.pop, 1) := by decide +kernel
theorem dL_saved_66 : decode cL_saved 66 = .ok (.aload_n 0, 1) := by decide +kernel
theorem dL_saved_67 : decode cL_saved 67 = .ok (.iconst 0, 1) := by decide +kernel
theorem dL_saved_68 : decode cL_saved 68 = .ok (.invokevirtual 134, 3) := by decide +kernel
theorem dL_saved_71 : decode cL_saved 71 = .ok (.aload_n 0, 1) := by decide +kernel
theorem dL_saved_72 : decode cL_saved 72 = .ok (.invokevirtual 51, 3) := by decide +kernel
theorem dL_saved_75 : decode cL_saved 75 = .ok (.iload_n 2, 1) := by decide +kernel
theorem dL_saved_76 : decode cL_saved 76 = .ok (.if_icmp .ne 40, 3) := by decide +kernel
theorem dL_saved_79 : decode cL_saved 79 = .ok (.aload_n 0, 1) := by decide +kernel
theorem dL_saved_80 : decode cL_saved 80 = .ok (.iconst 2, 1) := by decide +kernel
theorem dL_saved_81 : decode cL_saved 81 = .ok (.invokevirtual 55, 3) := by decide +kernel
theorem dL_saved_84 : decode cL_saved 84 = .ok (.iload_n 3, 1) := by decide +kernel
theorem dL_saved_85 : decode cL_saved 85 = .ok (.if_icmp .ne 31, 3) := by decide +kernel
theorem dL_saved_88 : decode cL_saved 88 = .ok (.aload_n 0, 1) := by decide +kernel
theorem dL_saved_89 : decode cL_saved 89 = .ok (.iconst 1, 1) := by decide +kernel
theorem dL_saved_90 : decode cL_saved 90 = .ok (.invokevirtual 55, 3) := by decide +kernel
theorem dL_saved_93 : decode cL_saved 93 = .ok (.iload_n 1, 1) := by decide +kernel
theorem dL_saved_94 : decode cL_saved 94 = .ok (.if_icmp .ne 22, 3) := by decide +kernel
theorem dL_saved_97 : decode cL_saved 97 = .ok (.aload_n 0, 1) := by decide +kernel
theorem dL_saved_98 : decode cL_saved 98 = .ok (.invokevirtual 79, 3) := by decide +kernel
theorem dL_saved_101 : decode cL_saved 101 = .ok (.ifCond .ne 15, 3) := by decide +kernel
theorem dL_saved_104 : decode cL_saved 104 = .ok (.aload_n 0, 1) := by decide +kernel
theorem dL_saved_105 : decode cL_saved 105 = .ok (.iconst 0, 1) := by decide +kernel
theorem dL_saved_106 : decode cL_saved 106 = .ok (.iconst 5, 1) := by decide +kernel
theorem dL_saved_107 : decode cL_saved 107 = .ok (.invokevirtual 37, 3) := by decide +kernel
theorem dL_saved_110 : decode cL_saved 110 = .ok (.sipush 9999, 3) := by decide +kernel
theorem dL_saved_113 : decode cL_saved 113 = .ok (.if_icmp .ne 5, 3) := by decide +kernel
theorem dL_saved_116 : decode cL_saved 116 = .ok (.iconst 0, 1) := by decide +kernel
theorem dL_saved_117 : decode cL_saved 117 = .ok (.ireturn, 1) := by decide +kernel
theorem dL_saved_118 : decode cL_saved 118 = .ok (.aload_n 0, 1) := by decide +kernel
theorem dL_saved_119 : decode cL_saved 119 = .ok (.iconst 1, 1) := by decide +kernel
theorem dL_saved_120 : decode cL_saved 120 = .ok (.invokevirtual 134, 3) := by decide +kernel
theorem dL_saved_123 : decode cL_saved 123 = .ok (.aload_n 0, 1) := by decide +kernel
theorem dL_saved_124 : decode cL_saved 124 = .ok (.invokevirtual 51, 3) := by decide +kernel
theorem dL_saved_127 : decode cL_saved 127 = .ok (.ifCond .ne 31, 3) := by decide +kernel
theorem dL_saved_130 : decode cL_saved 130 = .ok (.aload_n 0, 1) := by decide +kernel
theorem dL_saved_131 : decode cL_saved 131 = .ok (.invokevirtual 91, 3) := by decide +kernel
theorem dL_saved_134 : decode cL_saved 134 = .ok (.iconst 2, 1) := by decide +kernel
theorem dL_saved_135 : decode cL_saved 135 = .ok (.iconst 2, 1) := by decide +kernel
theorem dL_saved_136 : decode cL_saved 136 = .ok (.aload_n 0, 1) := by decide +kernel
theorem dL_saved_137 : decode cL_saved 137 = .ok (.invokestatic 137, 3) := by decide +kernel
theorem dL_saved_140 : decode cL_saved 140 = .ok (.imul, 1) := by decide +kernel
theorem dL_saved_141 : decode cL_saved 141 = .ok (.isub, 1) := by decide +kernel
theorem dL_saved_142 : decode cL_saved 142 = .ok (.if_icmp .ne 16, 3) := by decide +kernel
theorem dL_saved_145 : decode cL_saved 145 = .ok (.aload_n 0, 1) := by decide +kernel
theorem dL_saved_146 : decode cL_saved 146 = .ok (.iconst 2, 1) := by decide +kernel
theorem dL_saved_147 : decode cL_saved 147 = .ok (.invokevirtual 55, 3) := by decide +kernel
theorem dL_saved_150 : decode cL_saved 150 = .ok (.iload_n 3, 1) := by decide +kernel
theorem dL_saved_151 : decode cL_saved 151 = .ok (.if_icmp .ne 7, 3) := by decide +kernel
theorem dL_saved_154 : decode cL_saved 154 = .ok (.iconst 1, 1) := by decide +kernel
theorem dL_saved_155 : decode cL_saved 155 = .ok (.goto 4, 3) := by decide +kernel
theorem dL_saved_158 : decode cL_saved 158 = .ok (.iconst 0, 1) := by decide +kernel
theorem dL_saved_159 : decode cL_saved 159 = .ok (.ireturn, 1) := by decide +kernel
theorem dL_zero_0 : decode cL_zero 0 = .ok (.aload_n 0, 1) := by decide +kernel
theorem dL_zero_1 : decode cL_zero 1 = .ok (.iconst 0, 1) := by decide +kernel
theorem dL_zero_2 : decode cL_zero 2 = .ok (.invokevirtual 114, 3) := by decide +kernel
theorem dL_zero_5 : decode cL_zero 5 = .ok (.ifCond .lt 7, 3) := by decide +kernel
theorem dL_zero_8 : decode cL_zero 8 = .ok (.iconst 1, 1) := by decide +kernel
theorem dL_zero_9 : decode cL_zero 9 = .ok (.goto 4, 3) := by decide +kernel
theorem dL_zero_12 : decode cL_zero 12 = .ok (.iconst 0, 1) := by decide +kernel
theorem dL_zero_13 : decode cL_zero 13 = .ok (.ireturn, 1) := by decide +kernel
theorem dL_noBrake_0 : decode cL_noBrake 0 = .ok (.aload_n 0, 1) := by decide +kernel
theorem dL_noBrake_1 : decode cL_noBrake 1 = .ok (.iload_n 1, 1) := by decide +kernel
theorem dL_noBrake_2 : decode cL_noBrake 2 = .ok (.invokevirtual 30, 3) := by decide +kernel
theorem dL_noBrake_5 : decode cL_noBrake 5 = .ok (.pop, 1) := by decide +kernel
theorem dL_noBrake_6 : decode cL_noBrake 6 = .ok (.iconst 0, 1) := by decide +kernel
theorem dL_noBrake_7 : decode cL_noBrake 7 = .ok (.ireturn, 1) := by decide +kernel
theorem dL_noBrake_8 : decode cL_noBrake 8 = .ok (.astore_n 2, 1) := by decide +kernel
theorem dL_noBrake_9 : decode cL_noBrake 9 = .ok (.iconst 1, 1) := by decide +kernel
theorem dL_noBrake_10 : decode cL_noBrake 10 = .ok (.ireturn, 1) := by decide +kernel
theorem dL_noClutch_0 : decode cL_noClutch 0 = .ok (.aload_n 0, 1) := by decide +kernel
theorem dL_noClutch_1 : decode cL_noClutch 1 = .ok (.iconst 0, 1) := by decide +kernel
theorem dL_noClutch_2 : decode cL_noClutch 2 = .ok (.iload_n 1, 1) := by decide +kernel
theorem dL_noClutch_3 : decode cL_noClutch 3 = .ok (.invokevirtual 34, 3) := by decide +kernel
theorem dL_noClutch_6 : decode cL_noClutch 6 = .ok (.pop, 1) := by decide +kernel
theorem dL_noClutch_7 : decode cL_noClutch 7 = .ok (.iconst 0, 1) := by decide +kernel
theorem dL_noClutch_8 : decode cL_noClutch 8 = .ok (.ireturn, 1) := by decide +kernel
theorem dL_noClutch_9 : decode cL_noClutch 9 = .ok (.astore_n 2, 1) := by decide +kernel
theorem dL_noClutch_10 : decode cL_noClutch 10 = .ok (.iconst 1, 1) := by decide +kernel
theorem dL_noClutch_11 : decode cL_noClutch 11 = .ok (.ireturn, 1) := by decide +kernel
theorem dL_noSet_0 : decode cL_noSet 0 = .ok (.aload_n 0, 1) := by decide +kernel
theorem dL_noSet_1 : decode cL_noSet 1 = .ok (.iconst 0, 1) := by decide +kernel
theorem dL_noSet_2 : decode cL_noSet 2 = .ok (.iconst 1, 1) := by decide +kernel
theorem dL_noSet_3 : decode cL_noSet 3 = .ok (.iconst 2, 1) := by decide +kernel
theorem dL_noSet_4 : decode cL_noSet 4 = .ok (.bipush 10, 2) := by decide +kernel
theorem dL_noSet_6 : decode cL_noSet 6 = .ok (.iload_n 1, 1) := by decide +kernel
theorem dL_noSet_7 : decode cL_noSet 7 = .ok (.invokevirtual 26, 3) := by decide +kernel
theorem dL_noSet_10 : decode cL_noSet 10 = .ok (.pop, 1) := by decide +kernel
theorem dL_noSet_11 : decode cL_noSet 11 = .ok (.iconst 0, 1) := by decide +kernel
theorem dL_noSet_12 : decode cL_noSet 12 = .ok (.ireturn, 1) := by decide +kernel
theorem dL_noSet_13 : decode cL_noSet 13 = .ok (.astore_n 2, 1) := by decide +kernel
theorem dL_noSet_14 : decode cL_noSet 14 = .ok (.iconst 1, 1) := by decide +kernel
theorem dL_noSet_15 : decode cL_noSet 15 = .ok (.ireturn, 1) := by decide +kernel
theorem dL_noSlip_0 : decode cL_noSlip 0 = .ok (.aload_n 0, 1) := by decide +kernel
theorem dL_noSlip_1 : decode cL_noSlip 1 = .ok (.iload_n 1, 1) := by decide +kernel
theorem dL_noSlip_2 : decode cL_noSlip 2 = .ok (.invokevirtual 101, 3) := by decide +kernel
theorem dL_noSlip_5 : decode cL_noSlip 5 = .ok (.pop, 1) := by decide +kernel
theorem dL_noSlip_6 : decode cL_noSlip 6 = .ok (.iconst 0, 1) := by decide +kernel
theorem dL_noSlip_7 : decode cL_noSlip 7 = .ok (.ireturn, 1) := by decide +kernel
theorem dL_noSlip_8 : decode cL_noSlip 8 = .ok (.astore_n 2, 1) := by decide +kernel
theorem dL_noSlip_9 : decode cL_noSlip 9 = .ok (.iconst 1, 1) := by decide +kernel
theorem dL_noSlip_10 : decode cL_noSlip 10 = .ok (.ireturn, 1) := by decide +kernel
theorem dL_noMask_0 : decode cL_noMask 0 = .ok (.aload_n 0, 1) := by decide +kernel
theorem dL_noMask_1 : decode cL_noMask 1 = .ok (.iload_n 1, 1) := by decide +kernel
theorem dL_noMask_2 : decode cL_noMask 2 = .ok (.invokevirtual 61, 3) := by decide +kernel
theorem dL_noMask_5 : decode cL_noMask 5 = .ok (.pop, 1) := by decide +kernel
theorem dL_noMask_6 : decode cL_noMask 6 = .ok (.iconst 0, 1) := by decide +kernel
theorem dL_noMask_7 : decode cL_noMask 7 = .ok (.ireturn, 1) := by decide +kernel
theorem dL_noMask_8 : decode cL_noMask 8 = .ok (.astore_n 2, 1) := by decide +kernel
theorem dL_noMask_9 : decode cL_noMask 9 = .ok (.iconst 1, 1) := by decide +kernel
theorem dL_noMask_10 : decode cL_noMask 10 = .ok (.ireturn, 1) := by decide +kernel
theorem dL_noSpeed_0 : decode cL_noSpeed 0 = .ok (.aload_n 0, 1) := by decide +kernel
theorem dL_noSpeed_1 : decode cL_noSpeed 1 = .ok (.iload_n 1, 1) := by decide +kernel
theorem dL_noSpeed_2 : decode cL_noSpeed 2 = .ok (.iload_n 1, 1) := by decide +kernel
theorem dL_noSpeed_3 : decode cL_noSpeed 3 = .ok (.invokevirtual 145, 3) := by decide +kernel
theorem dL_noSpeed_6 : decode cL_noSpeed 6 = .ok (.pop2, 1) := by decide +kernel
theorem dL_noSpeed_7 : decode cL_noSpeed 7 = .ok (.iconst 0, 1) := by decide +kernel
theorem dL_noSpeed_8 : decode cL_noSpeed 8 = .ok (.ireturn, 1) := by decide +kernel
theorem dL_noSpeed_9 : decode cL_noSpeed 9 = .ok (.astore_n 2, 1) := by decide +kernel
theorem dL_noSpeed_10 : decode cL_noSpeed 10 = .ok (.iconst 1, 1) := by decide +kernel
theorem dL_noSpeed_11 : decode cL_noSpeed 11 = .ok (.ireturn, 1) := by decide +kernel
theorem dL_noGear_0 : decode cL_noGear 0 = .ok (.aload_n 0, 1) := by decide +kernel
theorem dL_noGear_1 : decode cL_noGear 1 = .ok (.iload_n 1, 1) := by decide +kernel
theorem dL_noGear_2 : decode cL_noGear 2 = .ok (.invokevirtual 58, 3) := by decide +kernel
theorem dL_noGear_5 : decode cL_noGear 5 = .ok (.pop, 1) := by decide +kernel
theorem dL_noGear_6 : decode cL_noGear 6 = .ok (.iconst 0, 1) := by decide +kernel
theorem dL_noGear_7 : decode cL_noGear 7 = .ok (.ireturn, 1) := by decide +kernel
theorem dL_noGear_8 : decode cL_noGear 8 = .ok (.astore_n 2, 1) := by decide +kernel
theorem dL_noGear_9 : decode cL_noGear 9 = .ok (.iconst 1, 1) := by decide +kernel
theorem dL_noGear_10 : decode cL_noGear 10 = .ok (.ireturn, 1) := by decide +kernel
theorem dL_noSlot_0 : decode cL_noSlot 0 = .ok (.aload_n 0, 1) := by decide +kernel
theorem dL_noSlot_1 : decode cL_noSlot 1 = .ok (.iload_n 1, 1) := by decide +kernel
theorem dL_noSlot_2 : decode cL_noSlot 2 = .ok (.invokevirtual 134, 3) := by decide +kernel
theorem dL_noSlot_5 : decode cL_noSlot 5 = .ok (.iconst 0, 1) := by decide +kernel
theorem dL_noSlot_6 : decode cL_noSlot 6 = .ok (.ireturn, 1) := by decide +kernel
theorem dL_noSlot_7 : decode cL_noSlot 7 = .ok (.astore_n 2, 1) := by decide +kernel
theorem dL_noSlot_8 : decode cL_noSlot 8 = .ok (.iconst 1, 1) := by decide +kernel
theorem dL_noSlot_9 : decode cL_noSlot 9 = .ok (.ireturn, 1) := by decide +kernel
theorem dL_refused_0 : decode cL_refused 0 = .ok (.iload_n 1, 1) := by decide +kernel
theorem dL_refused_1 : decode cL_refused 1 = .ok (.ifCond .ge 14, 3) := by decide +kernel
theorem dL_refused_4 : decode cL_refused 4 = .ok (.iconst (-1), 1) := by decide +kernel
theorem dL_refused_5 : decode cL_refused 5 = .ok (.iload_n 1, 1) := by decide +kernel
theorem dL_refused_6 : decode cL_refused 6 = .ok (.ldc 148, 2) := by decide +kernel
theorem dL_refused_8 : decode cL_refused 8 = .ok (.invokestatic 22, 3) := by decide +kernel
theorem dL_refused_11 : decode cL_refused 11 = .ok (.isub, 1) := by decide +kernel
theorem dL_refused_12 : decode cL_refused 12 = .ok (.goto 11, 3) := by decide +kernel
theorem dL_refused_15 : decode cL_refused 15 = .ok (.iload_n 1, 1) := by decide +kernel
theorem dL_refused_16 : decode cL_refused 16 = .ok (.ldc 148, 2) := by decide +kernel
theorem dL_refused_18 : decode cL_refused 18 = .ok (.irem, 1) := by decide +kernel
theorem dL_refused_19 : decode cL_refused 19 = .ok (.sipush 20000, 3) := by decide +kernel
theorem dL_refused_22 : decode cL_refused 22 = .ok (.iadd, 1) := by decide +kernel
theorem dL_refused_23 : decode cL_refused 23 = .ok (.istore_n 2, 1) := by decide +kernel
theorem dL_refused_24 : decode cL_refused 24 = .ok (.aload_n 0, 1) := by decide +kernel
theorem dL_refused_25 : decode cL_refused 25 = .ok (.iload_n 2, 1) := by decide +kernel
theorem dL_refused_26 : decode cL_refused 26 = .ok (.invokestatic 149, 3) := by decide +kernel
theorem dL_refused_29 : decode cL_refused 29 = .ok (.ifCond .eq 93, 3) := by decide +kernel
theorem dL_refused_32 : decode cL_refused 32 = .ok (.aload_n 0, 1) := by decide +kernel
theorem dL_refused_33 : decode cL_refused 33 = .ok (.iload_n 2, 1) := by decide +kernel
theorem dL_refused_34 : decode cL_refused 34 = .ok (.invokestatic 152, 3) := by decide +kernel
theorem dL_refused_37 : decode cL_refused 37 = .ok (.ifCond .eq 85, 3) := by decide +kernel
theorem dL_refused_40 : decode cL_refused 40 = .ok (.aload_n 0, 1) := by decide +kernel
theorem dL_refused_41 : decode cL_refused 41 = .ok (.iload_n 2, 1) := by decide +kernel
theorem dL_refused_42 : decode cL_refused 42 = .ok (.invokestatic 155, 3) := by decide +kernel
theorem dL_refused_45 : decode cL_refused 45 = .ok (.ifCond .eq 77, 3) := by decide +kernel
theorem dL_refused_48 : decode cL_refused 48 = .ok (.aload_n 0, 1) := by decide +kernel
theorem dL_refused_49 : decode cL_refused 49 = .ok (.iload_n 2, 1) := by decide +kernel
theorem dL_refused_50 : decode cL_refused 50 = .ok (.invokestatic 158, 3) := by decide +kernel
theorem dL_refused_53 : decode cL_refused 53 = .ok (.ifCond .eq 69, 3) := by decide +kernel
theorem dL_refused_56 : decode cL_refused 56 = .ok (.aload_n 0, 1) := by decide +kernel
theorem dL_refused_57 : decode cL_refused 57 = .ok (.iload_n 2, 1) := by decide +kernel
theorem dL_refused_58 : decode cL_refused 58 = .ok (.invokestatic 161, 3) := by decide +kernel
theorem dL_refused_61 : decode cL_refused 61 = .ok (.ifCond .eq 61, 3) := by decide +kernel
theorem dL_refused_64 : decode cL_refused 64 = .ok (.aload_n 0, 1) := by decide +kernel
theorem dL_refused_65 : decode cL_refused 65 = .ok (.iload_n 2, 1) := by decide +kernel
theorem dL_refused_66 : decode cL_refused 66 = .ok (.invokestatic 164, 3) := by decide +kernel
theorem dL_refused_69 : decode cL_refused 69 = .ok (.ifCond .eq 53, 3) := by decide +kernel
theorem dL_refused_72 : decode cL_refused 72 = .ok (.aload_n 0, 1) := by decide +kernel
theorem dL_refused_73 : decode cL_refused 73 = .ok (.iload_n 2, 1) := by decide +kernel
theorem dL_refused_74 : decode cL_refused 74 = .ok (.invokestatic 167, 3) := by decide +kernel
theorem dL_refused_77 : decode cL_refused 77 = .ok (.ifCond .eq 45, 3) := by decide +kernel
theorem dL_refused_80 : decode cL_refused 80 = .ok (.aload_n 0, 1) := by decide +kernel
theorem dL_refused_81 : decode cL_refused 81 = .ok (.iload_n 2, 1) := by decide +kernel
theorem dL_refused_82 : decode cL_refused 82 = .ok (.invokestatic 170, 3) := by decide +kernel
theorem dL_refused_85 : decode cL_refused 85 = .ok (.ifCond .eq 37, 3) := by decide +kernel
theorem dL_refused_88 : decode cL_refused 88 = .ok (.aload_n 0, 1) := by decide +kernel
theorem dL_refused_89 : decode cL_refused 89 = .ok (.iconst 0, 1) := by decide +kernel
theorem dL_refused_90 : decode cL_refused 90 = .ok (.invokevirtual 55, 3) := by decide +kernel
theorem dL_refused_93 : decode cL_refused 93 = .ok (.ifCond .ne 29, 3) := by decide +kernel
theorem dL_refused_96 : decode cL_refused 96 = .ok (.aload_n 0, 1) := by decide +kernel
theorem dL_refused_97 : decode cL_refused 97 = .ok (.iconst 1, 1) := by decide +kernel
theorem dL_refused_98 : decode cL_refused 98 = .ok (.invokevirtual 55, 3) := by decide +kernel
theorem dL_refused_101 : decode cL_refused 101 = .ok (.ifCond .ne 21, 3) := by decide +kernel
theorem dL_refused_104 : decode cL_refused 104 = .ok (.aload_n 0, 1) := by decide +kernel
theorem dL_refused_105 : decode cL_refused 105 = .ok (.invokevirtual 51, 3) := by decide +kernel
theorem dL_refused_108 : decode cL_refused 108 = .ok (.ifCond .ne 14, 3) := by decide +kernel
theorem dL_refused_111 : decode cL_refused 111 = .ok (.aload_n 0, 1) := by decide +kernel
theorem dL_refused_112 : decode cL_refused 112 = .ok (.invokevirtual 79, 3) := by decide +kernel
theorem dL_refused_115 : decode cL_refused 115 = .ok (.ifCond .ne 7, 3) := by decide +kernel
theorem dL_refused_118 : decode cL_refused 118 = .ok (.iconst 1, 1) := by decide +kernel
theorem dL_refused_119 : decode cL_refused 119 = .ok (.goto 4, 3) := by decide +kernel
theorem dL_refused_122 : decode cL_refused 122 = .ok (.iconst 0, 1) := by decide +kernel
theorem dL_refused_123 : decode cL_refused 123 = .ok (.ireturn, 1) := by decide +kernel
