theorem dL_below_0 : decode cL_below 0 = .ok (.iload_n 0, 1) := by decide +kernel
theorem dL_below_1 : decode cL_below 1 = .ok (.ldc 7, 2) := by decide +kernel
theorem dL_below_3 : decode cL_below 3 = .ok (.iand, 1) := by decide +kernel
theorem dL_below_4 : decode cL_below 4 = .ok (.iload_n 1, 1) := by decide +kernel
theorem dL_below_5 : decode cL_below 5 = .ok (.irem, 1) := by decide +kernel
theorem dL_below_6 : decode cL_below 6 = .ok (.ireturn, 1) := by decide +kernel
theorem dL_cell_0 : decode cL_cell 0 = .ok (.iload_n 1, 1) := by decide +kernel
theorem dL_cell_1 : decode cL_cell 1 = .ok (.aload_n 0, 1) := by decide +kernel
theorem dL_cell_2 : decode cL_cell 2 = .ok (.arraylength, 1) := by decide +kernel
theorem dL_cell_3 : decode cL_cell 3 = .ok (.if_icmp .ge 9, 3) := by decide +kernel
theorem dL_cell_6 : decode cL_cell 6 = .ok (.aload_n 0, 1) := by decide +kernel
theorem dL_cell_7 : decode cL_cell 7 = .ok (.iload_n 1, 1) := by decide +kernel
theorem dL_cell_8 : decode cL_cell 8 = .ok (.iaload, 1) := by decide +kernel
theorem dL_cell_9 : decode cL_cell 9 = .ok (.goto 9, 3) := by decide +kernel
theorem dL_cell_12 : decode cL_cell 12 = .ok (.ldc 8, 2) := by decide +kernel
theorem dL_cell_14 : decode cL_cell 14 = .ok (.iload_n 1, 1) := by decide +kernel
theorem dL_cell_15 : decode cL_cell 15 = .ok (.iconst 3, 1) := by decide +kernel
theorem dL_cell_16 : decode cL_cell 16 = .ok (.iadd, 1) := by decide +kernel
theorem dL_cell_17 : decode cL_cell 17 = .ok (.imul, 1) := by decide +kernel
theorem dL_cell_18 : decode cL_cell 18 = .ok (.ireturn, 1) := by decide +kernel
theorem dL_act_0 : decode cL_act 0 = .ok (.iload_n 2, 1) := by decide +kernel
theorem dL_act_1 : decode cL_act 1 = .ok (.iconst 4, 1) := by decide +kernel
theorem dL_act_2 : decode cL_act 2 = .ok (.ishr, 1) := by decide +kernel
theorem dL_act_3 : decode cL_act 3 = .ok (.bipush 20, 2) := by decide +kernel
theorem dL_act_5 : decode cL_act 5 = .ok (.invokestatic 9, 3) := by decide +kernel
theorem dL_act_8 : decode cL_act 8 = .ok (.istore_n 3, 1) := by decide +kernel
theorem dL_act_9 : decode cL_act 9 = .ok (.iload_n 2, 1) := by decide +kernel
theorem dL_act_10 : decode cL_act 10 = .ok (.bipush 6, 2) := by decide +kernel
theorem dL_act_12 : decode cL_act 12 = .ok (.ishr, 1) := by decide +kernel
theorem dL_act_13 : decode cL_act 13 = .ok (.bipush 20, 2) := by decide +kernel
theorem dL_act_15 : decode cL_act 15 = .ok (.invokestatic 9, 3) := by decide +kernel
theorem dL_act_18 : decode cL_act 18 = .ok (.istore 4, 2) := by decide +kernel
theorem dL_act_20 : decode cL_act 20 = .ok (.iload_n 2, 1) := by decide +kernel
theorem dL_act_21 : decode cL_act 21 = .ok (.iconst 5, 1) := by decide +kernel
theorem dL_act_22 : decode cL_act 22 = .ok (.ishr, 1) := by decide +kernel
theorem dL_act_23 : decode cL_act 23 = .ok (.aload_n 1, 1) := by decide +kernel
theorem dL_act_24 : decode cL_act 24 = .ok (.getfield 15, 3) := by decide +kernel
theorem dL_act_27 : decode cL_act 27 = .ok (.arraylength, 1) := by decide +kernel
theorem dL_act_28 : decode cL_act 28 = .ok (.invokestatic 9, 3) := by decide +kernel
theorem dL_act_31 : decode cL_act 31 = .ok (.istore 5, 2) := by decide +kernel
theorem dL_act_33 : decode cL_act 33 = .ok (.iload_n 2, 1) := by decide +kernel
theorem dL_act_34 : decode cL_act 34 = .ok (.bipush 12, 2) := by decide +kernel
theorem dL_act_36 : decode cL_act 36 = .ok (.invokestatic 9, 3) := by decide +kernel
theorem dL_act_39 : decode cL_act 39 = .ok (.tableswitch 971 0 9 #[53, 321, 377, 377, 377, 433, 558, 764, 764, 764], 53) := by decide +kernel
theorem dL_act_92 : decode cL_act 92 = .ok (.iload_n 2, 1) := by decide +kernel
theorem dL_act_93 : decode cL_act 93 = .ok (.bipush 8, 2) := by decide +kernel
theorem dL_act_95 : decode cL_act 95 = .ok (.ishr, 1) := by decide +kernel
theorem dL_act_96 : decode cL_act 96 = .ok (.iconst 4, 1) := by decide +kernel
theorem dL_act_97 : decode cL_act 97 = .ok (.invokestatic 9, 3) := by decide +kernel
theorem dL_act_100 : decode cL_act 100 = .ok (.istore 8, 2) := by decide +kernel
theorem dL_act_102 : decode cL_act 102 = .ok (.iload_n 2, 1) := by decide +kernel
theorem dL_act_103 : decode cL_act 103 = .ok (.bipush 7, 2) := by decide +kernel
theorem dL_act_105 : decode cL_act 105 = .ok (.ishr, 1) := by decide +kernel
theorem dL_act_106 : decode cL_act 106 = .ok (.bipush 20, 2) := by decide +kernel
theorem dL_act_108 : decode cL_act 108 = .ok (.iload 8, 2) := by decide +kernel
theorem dL_act_110 : decode cL_act 110 = .ok (.iconst 1, 1) := by decide +kernel
theorem dL_act_111 : decode cL_act 111 = .ok (.if_icmp .ne 8, 3) := by decide +kernel
theorem dL_act_114 : decode cL_act 114 = .ok (.iload 4, 2) := by decide +kernel
theorem dL_act_116 : decode cL_act 116 = .ok (.goto 32, 3) := by decide +kernel
theorem dL_act_119 : decode cL_act 119 = .ok (.iload 8, 2) := by decide +kernel
theorem dL_act_121 : decode cL_act 121 = .ok (.ifCond .ne 7, 3) := by decide +kernel
theorem dL_act_124 : decode cL_act 124 = .ok (.iload_n 3, 1) := by decide +kernel
theorem dL_act_125 : decode cL_act 125 = .ok (.goto 23, 3) := by decide +kernel
theorem dL_act_128 : decode cL_act 128 = .ok (.iload_n 3, 1) := by decide +kernel
theorem dL_act_129 : decode cL_act 129 = .ok (.iload 8, 2) := by decide +kernel
theorem dL_act_131 : decode cL_act 131 = .ok (.iconst 2, 1) := by decide +kernel
theorem dL_act_132 : decode cL_act 132 = .ok (.if_icmp .ne 8, 3) := by decide +kernel
theorem dL_act_135 : decode cL_act 135 = .ok (.iload 4, 2) := by decide +kernel
theorem dL_act_137 : decode cL_act 137 = .ok (.goto 8, 3) := by decide +kernel
theorem dL_act_140 : decode cL_act 140 = .ok (.bipush 19, 2) := by decide +kernel
theorem dL_act_142 : decode cL_act 142 = .ok (.iload 4, 2) := by decide +kernel
theorem dL_act_144 : decode cL_act 144 = .ok (.isub, 1) := by decide +kernel
theorem dL_act_145 : decode cL_act 145 = .ok (.invokestatic 21, 3) := by decide +kernel
theorem dL_act_148 : decode cL_act 148 = .ok (.isub, 1) := by decide +kernel
theorem dL_act_149 : decode cL_act 149 = .ok (.invokestatic 9, 3) := by decide +kernel
theorem dL_act_152 : decode cL_act 152 = .ok (.istore 9, 2) := by decide +kernel
theorem dL_act_154 : decode cL_act 154 = .ok (.iload 8, 2) := by decide +kernel
theorem dL_act_156 : decode cL_act 156 = .ok (.iconst 1, 1) := by decide +kernel
theorem dL_act_157 : decode cL_act 157 = .ok (.if_icmp .ne 7, 3) := by decide +kernel
theorem dL_act_160 : decode cL_act 160 = .ok (.iload_n 3, 1) := by decide +kernel
theorem dL_act_161 : decode cL_act 161 = .ok (.goto 7, 3) := by decide +kernel
theorem dL_act_164 : decode cL_act 164 = .ok (.iload_n 3, 1) := by decide +kernel
theorem dL_act_165 : decode cL_act 165 = .ok (.iload 9, 2) := by decide +kernel
theorem dL_act_167 : decode cL_act 167 = .ok (.iadd, 1) := by decide +kernel
theorem dL_act_168 : decode cL_act 168 = .ok (.istore 10, 2) := by decide +kernel
theorem dL_act_170 : decode cL_act 170 = .ok (.iload 8, 2) := by decide +kernel
theorem dL_act_172 : decode cL_act 172 = .ok (.ifCond .ne 8, 3) := by decide +kernel
theorem dL_act_175 : decode cL_act 175 = .ok (.iload 4, 2) := by decide +kernel
theorem dL_act_177 : decode cL_act 177 = .ok (.goto 22, 3) := by decide +kernel
theorem dL_act_180 : decode cL_act 180 = .ok (.iload 8, 2) := by decide +kernel
theorem dL_act_182 : decode cL_act 182 = .ok (.iconst 3, 1) := by decide +kernel
theorem dL_act_183 : decode cL_act 183 = .ok (.if_icmp .ne 11, 3) := by decide +kernel
theorem dL_act_186 : decode cL_act 186 = .ok (.iload 4, 2) := by decide +kernel
theorem dL_act_188 : decode cL_act 188 = .ok (.iload 9, 2) := by decide +kernel
theorem dL_act_190 : decode cL_act 190 = .ok (.isub, 1) := by decide +kernel
theorem dL_act_191 : decode cL_act 191 = .ok (.goto 8, 3) := by decide +kernel
theorem dL_act_194 : decode cL_act 194 = .ok (.iload 4, 2) := by decide +kernel
theorem dL_act_196 : decode cL_act 196 = .ok (.iload 9, 2) := by decide +kernel
theorem dL_act_198 : decode cL_act 198 = .ok (.iadd, 1) := by decide +kernel
theorem dL_act_199 : decode cL_act 199 = .ok (.istore 11, 2) := by decide +kernel
theorem dL_act_201 : decode cL_act 201 = .ok (.iconst 1, 1) := by decide +kernel
theorem dL_act_202 : decode cL_act 202 = .ok (.iload_n 2, 1) := by decide +kernel
theorem dL_act_203 : decode cL_act 203 = .ok (.bipush 9, 2) := by decide +kernel
theorem dL_act_205 : decode cL_act 205 = .ok (.ishr, 1) := by decide +kernel
theorem dL_act_206 : decode cL_act 206 = .ok (.iload_n 2, 1) := by decide +kernel
theorem dL_act_207 : decode cL_act 207 = .ok (.iconst 5, 1) := by decide +kernel
theorem dL_act_208 : decode cL_act 208 = .ok (.ishr, 1) := by decide +kernel
theorem dL_act_209 : decode cL_act 209 = .ok (.iconst 2, 1) := by decide +kernel
theorem dL_act_210 : decode cL_act 210 = .ok (.invokestatic 9, 3) := by decide +kernel
theorem dL_act_213 : decode cL_act 213 = .ok (.ifCond .ne 8, 3) := by decide +kernel
theorem dL_act_216 : decode cL_act 216 = .ok (.bipush 20, 2) := by decide +kernel
theorem dL_act_218 : decode cL_act 218 = .ok (.goto 4, 3) := by decide +kernel
theorem dL_act_221 : decode cL_act 221 = .ok (.iconst 5, 1) := by decide +kernel
theorem dL_act_222 : decode cL_act 222 = .ok (.invokestatic 9, 3) := by decide +kernel
theorem dL_act_225 : decode cL_act 225 = .ok (.iadd, 1) := by decide +kernel
theorem dL_act_226 : decode cL_act 226 = .ok (.istore 12, 2) := by decide +kernel
theorem dL_act_228 : decode cL_act 228 = .ok (.iconst 1, 1) := by decide +kernel
theorem dL_act_229 : decode cL_act 229 = .ok (.iload_n 2, 1) := by decide +kernel
theorem dL_act_230 : decode cL_act 230 = .ok (.iconst 3, 1) := by decide +kernel
theorem dL_act_231 : decode cL_act 231 = .ok (.ishr, 1) := by decide +kernel
theorem dL_act_232 : decode cL_act 232 = .ok (.bipush 9, 2) := by decide +kernel
theorem dL_act_234 : decode cL_act 234 = .ok (.invokestatic 9, 3) := by decide +kernel
theorem dL_act_237 : decode cL_act 237 = .ok (.iadd, 1) := by decide +kernel
theorem dL_act_238 : decode cL_act 238 = .ok (.istore 13, 2) := by decide +kernel
theorem dL_act_240 : decode cL_act 240 = .ok (.iload_n 2, 1) := by decide +kernel
theorem dL_act_241 : decode cL_act 241 = .ok (.bipush 10, 2) := by decide +kernel
theorem dL_act_243 : decode cL_act 243 = .ok (.ishr, 1) := by decide +kernel
theorem dL_act_244 : decode cL_act 244 = .ok (.iconst 2, 1) := by decide +kernel
theorem dL_act_245 : decode cL_act 245 = .ok (.invokestatic 9, 3) := by decide +kernel
theorem dL_act_248 : decode cL_act 248 = .ok (.ifCond .ne 7, 3) := by decide +kernel
theorem dL_act_251 : decode cL_act 251 = .ok (.iconst 1, 1) := by decide +kernel
theorem dL_act_252 : decode cL_act 252 = .ok (.goto 4, 3) := by decide +kernel
theorem dL_act_255 : decode cL_act 255 = .ok (.iconst 0, 1) := by decide +kernel
theorem dL_act_256 : decode cL_act 256 = .ok (.istore 14, 2) := by decide +kernel
theorem dL_act_258 : decode cL_act 258 = .ok (.aload_n 1, 1) := by decide +kernel
theorem dL_act_259 : decode cL_act 259 = .ok (.getfield 26, 3) := by decide +kernel
theorem dL_act_262 : decode cL_act 262 = .ok (.arraylength, 1) := by decide +kernel
theorem dL_act_263 : decode cL_act 263 = .ok (.bipush 6, 2) := by decide +kernel
theorem dL_act_265 : decode cL_act 265 = .ok (.if_icmp .ge 11, 3) := by decide +kernel
theorem dL_act_268 : decode cL_act 268 = .ok (.aload_n 1, 1) := by decide +kernel
theorem dL_act_269 : decode cL_act 269 = .ok (.getfield 26, 3) := by decide +kernel
theorem dL_act_272 : decode cL_act 272 = .ok (.arraylength, 1) := by decide +kernel
theorem dL_act_273 : decode cL_act 273 = .ok (.goto 4, 3) := by decide +kernel
theorem dL_act_276 : decode cL_act 276 = .ok (.iconst (-1), 1) := by decide +kernel
theorem dL_act_277 : decode cL_act 277 = .ok (.istore 7, 2) := by decide +kernel
theorem dL_act_279 : decode cL_act 279 = .ok (.iload 7, 2) := by decide +kernel
theorem dL_act_281 : decode cL_act 281 = .ok (.ifCond .lt 18, 3) := by decide +kernel
theorem dL_act_284 : decode cL_act 284 = .ok (.aload_n 1, 1) := by decide +kernel
theorem dL_act_285 : decode cL_act 285 = .ok (.iload_n 3, 1) := by decide +kernel
theorem dL_act_286 : decode cL_act 286 = .ok (.iload 4, 2) := by decide +kernel
theorem dL_act_288 : decode cL_act 288 = .ok (.iload 10, 2) := by decide +kernel
theorem dL_act_290 : decode cL_act 290 = .ok (.iload 11, 2) := by decide +kernel
theorem dL_act_292 : decode cL_act 292 = .ok (.iload 12, 2) := by decide +kernel
theorem dL_act_294 : decode cL_act 294 = .ok (.iload 13, 2) := by decide +kernel
theorem dL_act_296 : decode cL_act 296 = .ok (.invokevirtual 29, 3) := by decide +kernel
theorem dL_act_299 : decode cL_act 299 = .ok (.iload 14, 2) := by decide +kernel
theorem dL_act_301 : decode cL_act 301 = .ok (.ifCond .eq 21, 3) := by decide +kernel
theorem dL_act_304 : decode cL_act 304 = .ok (.aload_n 0, 1) := by decide +kernel
theorem dL_act_305 : decode cL_act 305 = .ok (.iload 10, 2) := by decide +kernel
theorem dL_act_307 : decode cL_act 307 = .ok (.iload 11, 2) := by decide +kernel
theorem dL_act_309 : decode cL_act 309 = .ok (.iload_n 3, 1) := by decide +kernel
theorem dL_act_310 : decode cL_act 310 = .ok (.iload 4, 2) := by decide +kernel
theorem dL_act_312 : decode cL_act 312 = .ok (.iload 12, 2) := by decide +kernel
theorem dL_act_314 : decode cL_act 314 = .ok (.iload 13, 2) := by decide +kernel
theorem dL_act_316 : decode cL_act 316 = .ok (.invokevirtual 33, 3) := by decide +kernel
theorem dL_act_319 : decode cL_act 319 = .ok (.goto 18, 3) := by decide +kernel
theorem dL_act_322 : decode cL_act 322 = .ok (.aload_n 0, 1) := by decide +kernel
theorem dL_act_323 : decode cL_act 323 = .ok (.iload_n 3, 1) := by decide +kernel
theorem dL_act_324 : decode cL_act 324 = .ok (.iload 4, 2) := by decide +kernel
theorem dL_act_326 : decode cL_act 326 = .ok (.iload 10, 2) := by decide +kernel
theorem dL_act_328 : decode cL_act 328 = .ok (.iload 11, 2) := by decide +kernel
theorem dL_act_330 : decode cL_act 330 = .ok (.iload 12, 2) := by decide +kernel
theorem dL_act_332 : decode cL_act 332 = .ok (.iload 13, 2) := by decide +kernel
theorem dL_act_334 : decode cL_act 334 = .ok (.invokevirtual 33, 3) := by decide +kernel
theorem dL_act_337 : decode cL_act 337 = .ok (.istore 6, 2) := by decide +kernel
theorem dL_act_339 : decode cL_act 339 = .ok (.goto 8, 3) := by decide +kernel
theorem dL_act_342 : decode cL_act 342 = .ok (.astore 15, 2) := by decide +kernel
theorem dL_act_344 : decode cL_act 344 = .ok (.iconst (-1), 1) := by decide +kernel
theorem dL_act_345 : decode cL_act 345 = .ok (.istore 6, 2) := by decide +kernel
theorem dL_act_347 : decode cL_act 347 = .ok (.iload 6, 2) := by decide +kernel
theorem dL_act_349 : decode cL_act 349 = .ok (.iload 7, 2) := by decide +kernel
theorem dL_act_351 : decode cL_act 351 = .ok (.if_icmp .ne 7, 3) := by decide +kernel
theorem dL_act_354 : decode cL_act 354 = .ok (.iconst 1, 1) := by decide +kernel
theorem dL_act_355 : decode cL_act 355 = .ok (.goto 4, 3) := by decide +kernel
theorem dL_act_358 : decode cL_act 358 = .ok (.iconst 0, 1) := by decide +kernel
theorem dL_act_359 : decode cL_act 359 = .ok (.ireturn, 1) := by decide +kernel
theorem dL_act_360 : decode cL_act 360 = .ok (.aload_n 1, 1) := by decide +kernel
theorem dL_act_361 : decode cL_act 361 = .ok (.getfield 40, 3) := by decide +kernel
theorem dL_act_364 : decode cL_act 364 = .ok (.istore 7, 2) := by decide +kernel
theorem dL_act_366 : decode cL_act 366 = .ok (.aload_n 1, 1) := by decide +kernel
theorem dL_act_367 : decode cL_act 367 = .ok (.iconst 1, 1) := by decide +kernel
theorem dL_act_368 : decode cL_act 368 = .ok (.iload_n 2, 1) := by decide +kernel
theorem dL_act_369 : decode cL_act 369 = .ok (.bipush 6, 2) := by decide +kernel
theorem dL_act_371 : decode cL_act 371 = .ok (.ishr, 1) := by decide +kernel
theorem dL_act_372 : decode cL_act 372 = .ok (.iload_n 2, 1) := by decide +kernel
theorem dL_act_373 : decode cL_act 373 = .ok (.bipush 8, 2) := by decide +kernel
theorem dL_act_375 : decode cL_act 375 = .ok (.ishr, 1) := by decide +kernel
theorem dL_act_376 : decode cL_act 376 = .ok (.iconst 3, 1) := by decide +kernel
theorem dL_act_377 : decode cL_act 377 = .ok (.invokestatic 9, 3) := by decide +kernel
theorem dL_act_380 : decode cL_act 380 = .ok (.ifCond .ne 8, 3) := by decide +kernel
theorem dL_act_383 : decode cL_act 383 = .ok (.bipush 30, 2) := by decide +kernel
theorem dL_act_385 : decode cL_act 385 = .ok (.goto 5, 3) := by decide +kernel
theorem dL_act_388 : decode cL_act 388 = .ok (.bipush 8, 2) := by decide +kernel
theorem dL_act_390 : decode cL_act 390 = .ok (.invokestatic 9, 3) := by decide +kernel
theorem dL_act_393 : decode cL_act 393 = .ok (.iadd, 1) := by decide +kernel
theorem dL_act_394 : decode cL_act 394 = .ok (.putfield 40, 3) := by decide +kernel
theorem dL_act_397 : decode cL_act 397 = .ok (.aload_n 0, 1) := by decide +kernel
theorem dL_act_398 : decode cL_act 398 = .ok (.aload_n 1, 1) := by decide +kernel
theorem dL_act_399 : decode cL_act 399 = .ok (.getfield 40, 3) := by decide +kernel
theorem dL_act_402 : decode cL_act 402 = .ok (.invokevirtual 44, 3) := by decide +kernel
theorem dL_act_405 : decode cL_act 405 = .ok (.iload 7, 2) := by decide +kernel
theorem dL_act_407 : decode cL_act 407 = .ok (.if_icmp .ne 7, 3) := by decide +kernel
theorem dL_act_410 : decode cL_act 410 = .ok (.iconst 1, 1) := by decide +kernel
theorem dL_act_411 : decode cL_act 411 = .ok (.goto 4, 3) := by decide +kernel
theorem dL_act_414 : decode cL_act 414 = .ok (.iconst 0, 1) := by decide +kernel
theorem dL_act_415 : decode cL_act 415 = .ok (.ireturn, 1) := by decide +kernel
theorem dL_act_416 : decode cL_act 416 = .ok (.iload_n 2, 1) := by decide +kernel
theorem dL_act_417 : decode cL_act 417 = .ok (.bipush 7, 2) := by decide +kernel
theorem dL_act_419 : decode cL_act 419 = .ok (.ishr, 1) := by decide +kernel
theorem dL_act_420 : decode cL_act 420 = .ok (.bipush 20, 2) := by decide +kernel
theorem dL_act_422 : decode cL_act 422 = .ok (.invokestatic 9, 3) := by decide +kernel
theorem dL_act_425 : decode cL_act 425 = .ok (.istore 8, 2) := by decide +kernel
theorem dL_act_427 : decode cL_act 427 = .ok (.iload_n 2, 1) := by decide +kernel
theorem dL_act_428 : decode cL_act 428 = .ok (.iconst 3, 1) := by decide +kernel
theorem dL_act_429 : decode cL_act 429 = .ok (.ishr, 1) := by decide +kernel
theorem dL_act_430 : decode cL_act 430 = .ok (.bipush 20, 2) := by decide +kernel
theorem dL_act_432 : decode cL_act 432 = .ok (.invokestatic 9, 3) := by decide +kernel
theorem dL_act_435 : decode cL_act 435 = .ok (.istore 9, 2) := by decide +kernel
theorem dL_act_437 : decode cL_act 437 = .ok (.aload_n 0, 1) := by decide +kernel
theorem dL_act_438 : decode cL_act 438 = .ok (.iload 5, 2) := by decide +kernel
theorem dL_act_440 : decode cL_act 440 = .ok (.iload_n 3, 1) := by decide +kernel
theorem dL_act_441 : decode cL_act 441 = .ok (.iload 4, 2) := by decide +kernel
theorem dL_act_443 : decode cL_act 443 = .ok (.iload 8, 2) := by decide +kernel
theorem dL_act_445 : decode cL_act 445 = .ok (.iload 9, 2) := by decide +kernel
theorem dL_act_447 : decode cL_act 447 = .ok (.invokevirtual 48, 3) := by decide +kernel
theorem dL_act_450 : decode cL_act 450 = .ok (.aload_n 1, 1) := by decide +kernel
theorem dL_act_451 : decode cL_act 451 = .ok (.iload 5, 2) := by decide +kernel
theorem dL_act_453 : decode cL_act 453 = .ok (.iload_n 3, 1) := by decide +kernel
theorem dL_act_454 : decode cL_act 454 = .ok (.iload 4, 2) := by decide +kernel
theorem dL_act_456 : decode cL_act 456 = .ok (.iload 8, 2) := by decide +kernel
theorem dL_act_458 : decode cL_act 458 = .ok (.iload 9, 2) := by decide +kernel
theorem dL_act_460 : decode cL_act 460 = .ok (.invokevirtual 52, 3) := by decide +kernel
theorem dL_act_463 : decode cL_act 463 = .ok (.if_icmp .ne 7, 3) := by decide +kernel
theorem dL_act_466 : decode cL_act 466 = .ok (.iconst 1, 1) := by decide +kernel
theorem dL_act_467 : decode cL_act 467 = .ok (.goto 4, 3) := by decide +kernel
theorem dL_act_470 : decode cL_act 470 = .ok (.iconst 0, 1) := by decide +kernel
theorem dL_act_471 : decode cL_act 471 = .ok (.ireturn, 1) := by decide +kernel
theorem dL_act_472 : decode cL_act 472 = .ok (.aload_n 1, 1) := by decide +kernel
theorem dL_act_473 : decode cL_act 473 = .ok (.getfield 53, 3) := by decide +kernel
theorem dL_act_476 : decode cL_act 476 = .ok (.arraylength, 1) := by decide +kernel
theorem dL_act_477 : decode cL_act 477 = .ok (.ifCond .le 43, 3) := by decide +kernel
theorem dL_act_480 : decode cL_act 480 = .ok (.iload_n 2, 1) := by decide +kernel
theorem dL_act_481 : decode cL_act 481 = .ok (.bipush 8, 2) := by decide +kernel
theorem dL_act_483 : decode cL_act 483 = .ok (.ishr, 1) := by decide +kernel
theorem dL_act_484 : decode cL_act 484 = .ok (.iconst 4, 1) := by decide +kernel
theorem dL_act_485 : decode cL_act 485 = .ok (.invokestatic 9, 3) := by decide +kernel
theorem dL_act_488 : decode cL_act 488 = .ok (.ifCond .le 32, 3) := by decide +kernel
theorem dL_act_491 : decode cL_act 491 = .ok (.aload_n 1, 1) := by decide +kernel
theorem dL_act_492 : decode cL_act 492 = .ok (.getfield 53, 3) := by decide +kernel
theorem dL_act_495 : decode cL_act 495 = .ok (.iload_n 2, 1) := by decide +kernel
theorem dL_act_496 : decode cL_act 496 = .ok (.iconst 4, 1) := by decide +kernel
theorem dL_act_497 : decode cL_act 497 = .ok (.ishr, 1) := by decide +kernel
theorem dL_act_498 : decode cL_act 498 = .ok (.aload_n 1, 1) := by decide +kernel
theorem dL_act_499 : decode cL_act 499 = .ok (.getfield 53, 3) := by decide +kernel
theorem dL_act_502 : decode cL_act 502 = .ok (.arraylength, 1) := by decide +kernel
theorem dL_act_503 : decode cL_act 503 = .ok (.invokestatic 9, 3) := by decide +kernel
theorem dL_act_506 : decode cL_act 506 = .ok (.aaload, 1) := by decide +kernel
theorem dL_act_507 : decode cL_act 507 = .ok (.astore 8, 2) := by decide +kernel
theorem dL_act_509 : decode cL_act 509 = .ok (.aload 8, 2) := by decide +kernel
theorem dL_act_511 : decode cL_act 511 = .ok (.iconst 0, 1) := by decide +kernel
theorem dL_act_512 : decode cL_act 512 = .ok (.iaload, 1) := by decide +kernel
theorem dL_act_513 : decode cL_act 513 = .ok (.istore_n 3, 1) := by decide +kernel
theorem dL_act_514 : decode cL_act 514 = .ok (.aload 8, 2) := by decide +kernel
theorem dL_act_516 : decode cL_act 516 = .ok (.iconst 1, 1) := by decide +kernel
theorem dL_act_517 : decode cL_act 517 = .ok (.iaload, 1) := by decide +kernel
theorem dL_act_518 : decode cL_act 518 = .ok (.istore 4, 2) := by decide +kernel
theorem dL_act_520 : decode cL_act 520 = .ok (.aload_n 1, 1) := by decide +kernel
theorem dL_act_521 : decode cL_act 521 = .ok (.iload_n 3, 1) := by decide +kernel
theorem dL_act_522 : decode cL_act 522 = .ok (.iload 4, 2) := by decide +kernel
theorem dL_act_524 : decode cL_act 524 = .ok (.invokevirtual 56, 3) := by decide +kernel
theorem dL_act_527 : decode cL_act 527 = .ok (.istore 8, 2) := by decide +kernel
theorem dL_act_529 : decode cL_act 529 = .ok (.iload 8, 2) := by decide +kernel
theorem dL_act_531 : decode cL_act 531 = .ok (.ifCond .ge 7, 3) := by decide +kernel
theorem dL_act_534 : decode cL_act 534 = .ok (.iconst (-1), 1) := by decide +kernel
theorem dL_act_535 : decode cL_act 535 = .ok (.goto 12, 3) := by decide +kernel
theorem dL_act_538 : decode cL_act 538 = .ok (.aload_n 1, 1) := by decide +kernel
theorem dL_act_539 : decode cL_act 539 = .ok (.getfield 53, 3) := by decide +kernel
theorem dL_act_542 : decode cL_act 542 = .ok (.iload 8, 2) := by decide +kernel
theorem dL_act_544 : decode cL_act 544 = .ok (.aaload, 1) := by decide +kernel
theorem dL_act_545 : decode cL_act 545 = .ok (.iconst 2, 1) := by decide +kernel
theorem dL_act_546 : decode cL_act 546 = .ok (.iaload, 1) := by decide +kernel
theorem dL_act_547 : decode cL_act 547 = .ok (.istore 7, 2) := by decide +kernel
theorem dL_act_549 : decode cL_act 549 = .ok (.iload 8, 2) := by decide +kernel
theorem dL_act_551 : decode cL_act 551 = .ok (.ifCond .lt 16, 3) := by decide +kernel
theorem dL_act_554 : decode cL_act 554 = .ok (.aload_n 1, 1) := by decide +kernel
theorem dL_act_555 : decode cL_act 555 = .ok (.aload_n 1, 1) := by decide +kernel
theorem dL_act_556 : decode cL_act 556 = .ok (.getfield 53, 3) := by decide +kernel
theorem dL_act_559 : decode cL_act 559 = .ok (.iload 8, 2) := by decide +kernel
theorem dL_act_561 : decode cL_act 561 = .ok (.invokestatic 59, 3) := by decide +kernel
theorem dL_act_564 : decode cL_act 564 = .ok (.putfield 53, 3) := by decide +kernel
theorem dL_act_567 : decode cL_act 567 = .ok (.aload_n 0, 1) := by decide +kernel
theorem dL_act_568 : decode cL_act 568 = .ok (.iload_n 3, 1) := by decide +kernel
theorem dL_act_569 : decode cL_act 569 = .ok (.iload 4, 2) := by decide +kernel
theorem dL_act_571 : decode cL_act 571 = .ok (.invokevirtual 63, 3) := by decide +kernel
theorem dL_act_574 : decode cL_act 574 = .ok (.istore 6, 2) := by decide +kernel
theorem dL_act_576 : decode cL_act 576 = .ok (.goto 8, 3) := by decide +kernel
theorem dL_act_579 : decode cL_act 579 = .ok (.astore 9, 2) := by decide +kernel
theorem dL_act_581 : decode cL_act 581 = .ok (.iconst (-1), 1) := by decide +kernel
theorem dL_act_582 : decode cL_act 582 = .ok (.istore 6, 2) := by decide +kernel
theorem dL_act_584 : decode cL_act 584 = .ok (.iload 6, 2) := by decide +kernel
theorem dL_act_586 : decode cL_act 586 = .ok (.iload 7, 2) := by decide +kernel
theorem dL_act_588 : decode cL_act 588 = .ok (.if_icmp .ne 7, 3) := by decide +kernel
theorem dL_act_591 : decode cL_act 591 = .ok (.iconst 1, 1) := by decide +kernel
theorem dL_act_592 : decode cL_act 592 = .ok (.goto 4, 3) := by decide +kernel
theorem dL_act_595 : decode cL_act 595 = .ok (.iconst 0, 1) := by decide +kernel
theorem dL_act_596 : decode cL_act 596 = .ok (.ireturn, 1) := by decide +kernel
theorem dL_act_597 : decode cL_act 597 = .ok (.aload_n 1, 1) := by decide +kernel
theorem dL_act_598 : decode cL_act 598 = .ok (.getfield 26, 3) := by decide +kernel
theorem dL_act_601 : decode cL_act 601 = .ok (.arraylength, 1) := by decide +kernel
theorem dL_act_602 : decode cL_act 602 = .ok (.ifCond .le 74, 3) := by decide +kernel
theorem dL_act_605 : decode cL_act 605 = .ok (.iload_n 2, 1) := by decide +kernel
theorem dL_act_606 : decode cL_act 606 = .ok (.bipush 8, 2) := by decide +kernel
theorem dL_act_608 : decode cL_act 608 = .ok (.ishr, 1) := by decide +kernel
theorem dL_act_609 : decode cL_act 609 = .ok (.iconst 3, 1) := by decide +kernel
theorem dL_act_610 : decode cL_act 610 = .ok (.invokestatic 9, 3) := by decide +kernel
theorem dL_act_613 : decode cL_act 613 = .ok (.ifCond .le 63, 3) := by decide +kernel
theorem dL_act_616 : decode cL_act 616 = .ok (.aload_n 1, 1) := by decide +kernel
theorem dL_act_617 : decode cL_act 617 = .ok (.getfield 26, 3) := by decide +kernel
theorem dL_act_620 : decode cL_act 620 = .ok (.iload_n 2, 1) := by decide +kernel
theorem dL_act_621 : decode cL_act 621 = .ok (.iconst 4, 1) := by decide +kernel
theorem dL_act_622 : decode cL_act 622 = .ok (.ishr, 1) := by decide +kernel
theorem dL_act_623 : decode cL_act 623 = .ok (.aload_n 1, 1) := by decide +kernel
theorem dL_act_624 : decode cL_act 624 = .ok (.getfield 26, 3) := by decide +kernel
theorem dL_act_627 : decode cL_act 627 = .ok (.arraylength, 1) := by decide +kernel
theorem dL_act_628 : decode cL_act 628 = .ok (.invokestatic 9, 3) := by decide +kernel
theorem dL_act_631 : decode cL_act 631 = .ok (.aaload, 1) := by decide +kernel
theorem dL_act_632 : decode cL_act 632 = .ok (.astore 8, 2) := by decide +kernel
theorem dL_act_634 : decode cL_act 634 = .ok (.iload_n 2, 1) := by decide +kernel
theorem dL_act_635 : decode cL_act 635 = .ok (.bipush 6, 2) := by decide +kernel
theorem dL_act_637 : decode cL_act 637 = .ok (.ishr, 1) := by decide +kernel
theorem dL_act_638 : decode cL_act 638 = .ok (.aload 8, 2) := by decide +kernel
theorem dL_act_640 : decode cL_act 640 = .ok (.iconst 4, 1) := by decide +kernel
theorem dL_act_641 : decode cL_act 641 = .ok (.iaload, 1) := by decide +kernel
theorem dL_act_642 : decode cL_act 642 = .ok (.iconst 1, 1) := by decide +kernel
theorem dL_act_643 : decode cL_act 643 = .ok (.iadd, 1) := by decide +kernel
theorem dL_act_644 : decode cL_act 644 = .ok (.invokestatic 9, 3) := by decide +kernel
theorem dL_act_647 : decode cL_act 647 = .ok (.istore 9, 2) := by decide +kernel
theorem dL_act_649 : decode cL_act 649 = .ok (.aload 8, 2) := by decide +kernel
theorem dL_act_651 : decode cL_act 651 = .ok (.iconst 0, 1) := by decide +kernel
theorem dL_act_652 : decode cL_act 652 = .ok (.iaload, 1) := by decide +kernel
theorem dL_act_653 : decode cL_act 653 = .ok (.iload 9, 2) := by decide +kernel
theorem dL_act_655 : decode cL_act 655 = .ok (.aload 8, 2) := by decide +kernel
theorem dL_act_657 : decode cL_act 657 = .ok (.iconst 2, 1) := by decide +kernel
theorem dL_act_658 : decode cL_act 658 = .ok (.iaload, 1) := by decide +kernel
theorem dL_act_659 : decode cL_act 659 = .ok (.imul, 1) := by decide +kernel
theorem dL_act_660 : decode cL_act 660 = .ok (.iadd, 1) := by decide +kernel
theorem dL_act_661 : decode cL_act 661 = .ok (.istore_n 3, 1) := by decide +kernel
theorem dL_act_662 : decode cL_act 662 = .ok (.aload 8, 2) := by decide +kernel
theorem dL_act_664 : decode cL_act 664 = .ok (.iconst 1, 1) := by decide +kernel
theorem dL_act_665 : decode cL_act 665 = .ok (.iaload, 1) := by decide +kernel
theorem dL_act_666 : decode cL_act 666 = .ok (.iload 9, 2) := by decide +kernel
theorem dL_act_668 : decode cL_act 668 = .ok (.aload 8, 2) := by decide +kernel
theorem dL_act_670 : decode cL_act 670 = .ok (.iconst 3, 1) := by decide +kernel
theorem dL_act_671 : decode cL_act 671 = .ok (.iaload, 1) := by decide +kernel
theorem dL_act_672 : decode cL_act 672 = .ok (.imul, 1) := by decide +kernel
theorem dL_act_673 : decode cL_act 673 = .ok (.iadd, 1) := by decide +kernel
theorem dL_act_674 : decode cL_act 674 = .ok (.istore 4, 2) := by decide +kernel
theorem dL_act_676 : decode cL_act 676 = .ok (.aload_n 1, 1) := by decide +kernel
theorem dL_act_677 : decode cL_act 677 = .ok (.getfield 66, 3) := by decide +kernel
theorem dL_act_680 : decode cL_act 680 = .ok (.arraylength, 1) := by decide +kernel
theorem dL_act_681 : decode cL_act 681 = .ok (.bipush 10, 2) := by decide +kernel
theorem dL_act_683 : decode cL_act 683 = .ok (.if_icmp .eq 13, 3) := by decide +kernel
theorem dL_act_686 : decode cL_act 686 = .ok (.aload_n 1, 1) := by decide +kernel
theorem dL_act_687 : decode cL_act 687 = .ok (.iload_n 3, 1) := by decide +kernel
theorem dL_act_688 : decode cL_act 688 = .ok (.iload 4, 2) := by decide +kernel
theorem dL_act_690 : decode cL_act 690 = .ok (.invokevirtual 69, 3) := by decide +kernel
theorem dL_act_693 : decode cL_act 693 = .ok (.ifCond .lt 7, 3) := by decide +kernel
theorem dL_act_696 : decode cL_act 696 = .ok (.iconst (-1), 1) := by decide +kernel
theorem dL_act_697 : decode cL_act 697 = .ok (.goto 8, 3) := by decide +kernel
theorem dL_act_700 : decode cL_act 700 = .ok (.aload_n 1, 1) := by decide +kernel
theorem dL_act_701 : decode cL_act 701 = .ok (.getfield 66, 3) := by decide +kernel
theorem dL_act_704 : decode cL_act 704 = .ok (.arraylength, 1) := by decide +kernel
theorem dL_act_705 : decode cL_act 705 = .ok (.istore 7, 2) := by decide +kernel
theorem dL_act_707 : decode cL_act 707 = .ok (.iload 7, 2) := by decide +kernel
theorem dL_act_709 : decode cL_act 709 = .ok (.ifCond .lt 64, 3) := by decide +kernel
theorem dL_act_712 : decode cL_act 712 = .ok (.aload_n 1, 1) := by decide +kernel
theorem dL_act_713 : decode cL_act 713 = .ok (.aload_n 1, 1) := by decide +kernel
theorem dL_act_714 : decode cL_act 714 = .ok (.getfield 66, 3) := by decide +kernel
theorem dL_act_717 : decode cL_act 717 = .ok (.bipush 9, 2) := by decide +kernel
theorem dL_act_719 : decode cL_act 719 = .ok (.newarray .int, 2) := by decide +kernel
theorem dL_act_721 : decode cL_act 721 = .ok (.dup, 1) := by decide +kernel
theorem dL_act_722 : decode cL_act 722 = .ok (.iconst 0, 1) := by decide +kernel
theorem dL_act_723 : decode cL_act 723 = .ok (.iload_n 3, 1) := by decide +kernel
theorem dL_act_724 : decode cL_act 724 = .ok (.iastore, 1) := by decide +kernel
theorem dL_act_725 : decode cL_act 725 = .ok (.dup, 1) := by decide +kernel
theorem dL_act_726 : decode cL_act 726 = .ok (.iconst 1, 1) := by decide +kernel
theorem dL_act_727 : decode cL_act 727 = .ok (.iload 4, 2) := by decide +kernel
theorem dL_act_729 : decode cL_act 729 = .ok (.iastore, 1) := by decide +kernel
theorem dL_act_730 : decode cL_act 730 = .ok (.dup, 1) := by decide +kernel
theorem dL_act_731 : decode cL_act 731 = .ok (.iconst 2, 1) := by decide +kernel
theorem dL_act_732 : decode cL_act 732 = .ok (.aload_n 1, 1) := by decide +kernel
theorem dL_act_733 : decode cL_act 733 = .ok (.iload_n 3, 1) := by decide +kernel
theorem dL_act_734 : decode cL_act 734 = .ok (.iload 4, 2) := by decide +kernel
theorem dL_act_736 : decode cL_act 736 = .ok (.invokevirtual 72, 3) := by decide +kernel
theorem dL_act_739 : decode cL_act 739 = .ok (.iastore, 1) := by decide +kernel
theorem dL_act_740 : decode cL_act 740 = .ok (.dup, 1) := by decide +kernel
theorem dL_act_741 : decode cL_act 741 = .ok (.iconst 3, 1) := by decide +kernel
theorem dL_act_742 : decode cL_act 742 = .ok (.iconst 0, 1) := by decide +kernel
theorem dL_act_743 : decode cL_act 743 = .ok (.iastore, 1) := by decide +kernel
theorem dL_act_744 : decode cL_act 744 = .ok (.dup, 1) := by decide +kernel
theorem dL_act_745 : decode cL_act 745 = .ok (.iconst 4, 1) := by decide +kernel
theorem dL_act_746 : decode cL_act 746 = .ok (.iconst 0, 1) := by decide +kernel
theorem dL_act_747 : decode cL_act 747 = .ok (.iastore, 1) := by decide +kernel
theorem dL_act_748 : decode cL_act 748 = .ok (.dup, 1) := by decide +kernel
theorem dL_act_749 : decode cL_act 749 = .ok (.iconst 5, 1) := by decide +kernel
theorem dL_act_750 : decode cL_act 750 = .ok (.iconst 0, 1) := by decide +kernel
theorem dL_act_751 : decode cL_act 751 = .ok (.iastore, 1) := by decide +kernel
theorem dL_act_752 : decode cL_act 752 = .ok (.dup, 1) := by decide +kernel
theorem dL_act_753 : decode cL_act 753 = .ok (.bipush 6, 2) := by decide +kernel
theorem dL_act_755 : decode cL_act 755 = .ok (.iconst 0, 1) := by decide +kernel
theorem dL_act_756 : decode cL_act 756 = .ok (.iastore, 1) := by decide +kernel
theorem dL_act_757 : decode cL_act 757 = .ok (.dup, 1) := by decide +kernel
theorem dL_act_758 : decode cL_act 758 = .ok (.bipush 7, 2) := by decide +kernel
theorem dL_act_760 : decode cL_act 760 = .ok (.iconst 0, 1) := by decide +kernel
theorem dL_act_761 : decode cL_act 761 = .ok (.iastore, 1) := by decide +kernel
theorem dL_act_762 : decode cL_act 762 = .ok (.dup, 1) := by decide +kernel
theorem dL_act_763 : decode cL_act 763 = .ok (.bipush 8, 2) := by decide +kernel
theorem dL_act_765 : decode cL_act 765 = .ok (.iconst 0, 1) := by decide +kernel
theorem dL_act_766 : decode cL_act 766 = .ok (.iastore, 1) := by decide +kernel
theorem dL_act_767 : decode cL_act 767 = .ok (.invokestatic 75, 3) := by decide +kernel
theorem dL_act_770 : decode cL_act 770 = .ok (.putfield 66, 3) := by decide +kernel
theorem dL_act_773 : decode cL_act 773 = .ok (.aload_n 0, 1) := by decide +kernel
theorem dL_act_774 : decode cL_act 774 = .ok (.iload_n 3, 1) := by decide +kernel
theorem dL_act_775 : decode cL_act 775 = .ok (.iload 4, 2) := by decide +kernel
theorem dL_act_777 : decode cL_act 777 = .ok (.invokevirtual 79, 3) := by decide +kernel
theorem dL_act_780 : decode cL_act 780 = .ok (.istore 6, 2) := by decide +kernel
theorem dL_act_782 : decode cL_act 782 = .ok (.goto 8, 3) := by decide +kernel
theorem dL_act_785 : decode cL_act 785 = .ok (.astore 8, 2) := by decide +kernel
theorem dL_act_787 : decode cL_act 787 = .ok (.iconst (-1), 1) := by decide +kernel
theorem dL_act_788 : decode cL_act 788 = .ok (.istore 6, 2) := by decide +kernel
theorem dL_act_790 : decode cL_act 790 = .ok (.iload 6, 2) := by decide +kernel
theorem dL_act_792 : decode cL_act 792 = .ok (.iload 7, 2) := by decide +kernel
theorem dL_act_794 : decode cL_act 794 = .ok (.if_icmp .ne 7, 3) := by decide +kernel
theorem dL_act_797 : decode cL_act 797 = .ok (.iconst 1, 1) := by decide +kernel
theorem dL_act_798 : decode cL_act 798 = .ok (.goto 4, 3) := by decide +kernel
theorem dL_act_801 : decode cL_act 801 = .ok (.iconst 0, 1) := by decide +kernel
theorem dL_act_802 : decode cL_act 802 = .ok (.ireturn, 1) := by decide +kernel
theorem dL_act_803 : decode cL_act 803 = .ok (.aload_n 1, 1) := by decide +kernel
theorem dL_act_804 : decode cL_act 804 = .ok (.getfield 66, 3) := by decide +kernel
theorem dL_act_807 : decode cL_act 807 = .ok (.arraylength, 1) := by decide +kernel
theorem dL_act_808 : decode cL_act 808 = .ok (.ifCond .ne 5, 3) := by decide +kernel
theorem dL_act_811 : decode cL_act 811 = .ok (.iconst 1, 1) := by decide +kernel
theorem dL_act_812 : decode cL_act 812 = .ok (.ireturn, 1) := by decide +kernel
theorem dL_act_813 : decode cL_act 813 = .ok (.aload_n 1, 1) := by decide +kernel
theorem dL_act_814 : decode cL_act 814 = .ok (.getfield 66, 3) := by decide +kernel
theorem dL_act_817 : decode cL_act 817 = .ok (.arraylength, 1) := by decide +kernel
theorem dL_act_818 : decode cL_act 818 = .ok (.iconst 1, 1) := by decide +kernel
theorem dL_act_819 : decode cL_act 819 = .ok (.isub, 1) := by decide +kernel
theorem dL_act_820 : decode cL_act 820 = .ok (.iload_n 2, 1) := by decide +kernel
theorem dL_act_821 : decode cL_act 821 = .ok (.bipush 9, 2) := by decide +kernel
theorem dL_act_823 : decode cL_act 823 = .ok (.ishr, 1) := by decide +kernel
theorem dL_act_824 : decode cL_act 824 = .ok (.iconst 2, 1) := by decide +kernel
theorem dL_act_825 : decode cL_act 825 = .ok (.aload_n 1, 1) := by decide +kernel
theorem dL_act_826 : decode cL_act 826 = .ok (.getfield 66, 3) := by decide +kernel
theorem dL_act_829 : decode cL_act 829 = .ok (.arraylength, 1) := by decide +kernel
theorem dL_act_830 : decode cL_act 830 = .ok (.invokestatic 82, 3) := by decide +kernel
theorem dL_act_833 : decode cL_act 833 = .ok (.invokestatic 9, 3) := by decide +kernel
theorem dL_act_836 : decode cL_act 836 = .ok (.isub, 1) := by decide +kernel
theorem dL_act_837 : decode cL_act 837 = .ok (.istore 8, 2) := by decide +kernel
theorem dL_act_839 : decode cL_act 839 = .ok (.iconst 1, 1) := by decide +kernel
theorem dL_act_840 : decode cL_act 840 = .ok (.iload_n 2, 1) := by decide +kernel
theorem dL_act_841 : decode cL_act 841 = .ok (.bipush 6, 2) := by decide +kernel
theorem dL_act_843 : decode cL_act 843 = .ok (.ishr, 1) := by decide +kernel
theorem dL_act_844 : decode cL_act 844 = .ok (.bipush 30, 2) := by decide +kernel
theorem dL_act_846 : decode cL_act 846 = .ok (.invokestatic 9, 3) := by decide +kernel
theorem dL_act_849 : decode cL_act 849 = .ok (.iadd, 1) := by decide +kernel
theorem dL_act_850 : decode cL_act 850 = .ok (.istore 9, 2) := by decide +kernel
theorem dL_act_852 : decode cL_act 852 = .ok (.iload_n 2, 1) := by decide +kernel
theorem dL_act_853 : decode cL_act 853 = .ok (.bipush 8, 2) := by decide +kernel
theorem dL_act_855 : decode cL_act 855 = .ok (.ishr, 1) := by decide +kernel
theorem dL_act_856 : decode cL_act 856 = .ok (.iconst 2, 1) := by decide +kernel
theorem dL_act_857 : decode cL_act 857 = .ok (.invokestatic 9, 3) := by decide +kernel
theorem dL_act_860 : decode cL_act 860 = .ok (.ifCond .ne 7, 3) := by decide +kernel
theorem dL_act_863 : decode cL_act 863 = .ok (.iconst 1, 1) := by decide +kernel
theorem dL_act_864 : decode cL_act 864 = .ok (.goto 4, 3) := by decide +kernel
theorem dL_act_867 : decode cL_act 867 = .ok (.iconst 0, 1) := by decide +kernel
theorem dL_act_868 : decode cL_act 868 = .ok (.istore 10, 2) := by decide +kernel
theorem dL_act_870 : decode cL_act 870 = .ok (.aload_n 1, 1) := by decide +kernel
theorem dL_act_871 : decode cL_act 871 = .ok (.getfield 66, 3) := by decide +kernel
theorem dL_act_874 : decode cL_act 874 = .ok (.iload 8, 2) := by decide +kernel
theorem dL_act_876 : decode cL_act 876 = .ok (.aaload, 1) := by decide +kernel
theorem dL_act_877 : decode cL_act 877 = .ok (.iconst 3, 1) := by decide +kernel
theorem dL_act_878 : decode cL_act 878 = .ok (.iaload, 1) := by decide +kernel
theorem dL_act_879 : decode cL_act 879 = .ok (.ifCond .ne 36, 3) := by decide +kernel
theorem dL_act_882 : decode cL_act 882 = .ok (.aload_n 1, 1) := by decide +kernel
theorem dL_act_883 : decode cL_act 883 = .ok (.getfield 66, 3) := by decide +kernel
theorem dL_act_886 : decode cL_act 886 = .ok (.iload 8, 2) := by decide +kernel
theorem dL_act_888 : decode cL_act 888 = .ok (.aaload, 1) := by decide +kernel
theorem dL_act_889 : decode cL_act 889 = .ok (.iconst 4, 1) := by decide +kernel
theorem dL_act_890 : decode cL_act 890 = .ok (.iload 5, 2) := by decide +kernel
theorem dL_act_892 : decode cL_act 892 = .ok (.iadd, 1) := by decide +kernel
theorem dL_act_893 : decode cL_act 893 = .ok (.iaload, 1) := by decide +kernel
theorem dL_act_894 : decode cL_act 894 = .ok (.ifCond .ne 21, 3) := by decide +kernel
theorem dL_act_897 : decode cL_act 897 = .ok (.aload_n 1, 1) := by decide +kernel
theorem dL_act_898 : decode cL_act 898 = .ok (.getfield 15, 3) := by decide +kernel
theorem dL_act_901 : decode cL_act 901 = .ok (.iload 5, 2) := by decide +kernel
theorem dL_act_903 : decode cL_act 903 = .ok (.aaload, 1) := by decide +kernel
theorem dL_act_904 : decode cL_act 904 = .ok (.iconst 2, 1) := by decide +kernel
theorem dL_act_905 : decode cL_act 905 = .ok (.iaload, 1) := by decide +kernel
theorem dL_act_906 : decode cL_act 906 = .ok (.iload 9, 2) := by decide +kernel
theorem dL_act_908 : decode cL_act 908 = .ok (.if_icmp .lt 7, 3) := by decide +kernel
theorem dL_act_911 : decode cL_act 911 = .ok (.iconst 1, 1) := by decide +kernel
theorem dL_act_912 : decode cL_act 912 = .ok (.goto 4, 3) := by decide +kernel
theorem dL_act_915 : decode cL_act 915 = .ok (.iconst 0, 1) := by decide +kernel
theorem dL_act_916 : decode cL_act 916 = .ok (.istore 11, 2) := by decide +kernel
theorem dL_act_918 : decode cL_act 918 = .ok (.iload 11, 2) := by decide +kernel
theorem dL_act_920 : decode cL_act 920 = .ok (.ifCond .eq 42, 3) := by decide +kernel
theorem dL_act_923 : decode cL_act 923 = .ok (.aload_n 1, 1) := by decide +kernel
theorem dL_act_924 : decode cL_act 924 = .ok (.getfield 15, 3) := by decide +kernel
theorem dL_act_927 : decode cL_act 927 = .ok (.iload 5, 2) := by decide +kernel
theorem dL_act_929 : decode cL_act 929 = .ok (.aaload, 1) := by decide +kernel
theorem dL_act_930 : decode cL_act 930 = .ok (.iconst 2, 1) := by decide +kernel
theorem dL_act_931 : decode cL_act 931 = .ok (.dup2, 1) := by decide +kernel
theorem dL_act_932 : decode cL_act 932 = .ok (.iaload, 1) := by decide +kernel
theorem dL_act_933 : decode cL_act 933 = .ok (.iload 9, 2) := by decide +kernel
theorem dL_act_935 : decode cL_act 935 = .ok (.isub, 1) := by decide +kernel
theorem dL_act_936 : decode cL_act 936 = .ok (.iastore, 1) := by decide +kernel
theorem dL_act_937 : decode cL_act 937 = .ok (.aload_n 1, 1) := by decide +kernel
theorem dL_act_938 : decode cL_act 938 = .ok (.getfield 66, 3) := by decide +kernel
theorem dL_act_941 : decode cL_act 941 = .ok (.iload 8, 2) := by decide +kernel
theorem dL_act_943 : decode cL_act 943 = .ok (.aaload, 1) := by decide +kernel
theorem dL_act_944 : decode cL_act 944 = .ok (.iconst 4, 1) := by decide +kernel
theorem dL_act_945 : decode cL_act 945 = .ok (.iload 5, 2) := by decide +kernel
theorem dL_act_947 : decode cL_act 947 = .ok (.iadd, 1) := by decide +kernel
theorem dL_act_948 : decode cL_act 948 = .ok (.iload 10, 2) := by decide +kernel
theorem dL_act_950 : decode cL_act 950 = .ok (.ifCond .eq 8, 3) := by decide +kernel
theorem dL_act_953 : decode cL_act 953 = .ok (.iload 9, 2) := by decide +kernel
theorem dL_act_955 : decode cL_act 955 = .ok (.goto 6, 3) := by decide +kernel
theorem dL_act_958 : decode cL_act 958 = .ok (.iload 9, 2) := by decide +kernel
theorem dL_act_960 : decode cL_act 960 = .ok (.ineg, 1) := by decide +kernel
theorem dL_act_961 : decode cL_act 961 = .ok (.iastore, 1) := by decide +kernel
theorem dL_act_962 : decode cL_act 962 = .ok (.aload_n 0, 1) := by decide +kernel
theorem dL_act_963 : decode cL_act 963 = .ok (.iload 5, 2) := by decide +kernel
theorem dL_act_965 : decode cL_act 965 = .ok (.iload 8, 2) := by decide +kernel
theorem dL_act_967 : decode cL_act 967 = .ok (.iload 9, 2) := by decide +kernel
theorem dL_act_969 : decode cL_act 969 = .ok (.iload 10, 2) := by decide +kernel
theorem dL_act_971 : decode cL_act 971 = .ok (.invokevirtual 85, 3) := by decide +kernel
theorem dL_act_974 : decode cL_act 974 = .ok (.aload_n 1, 1) := by decide +kernel
theorem dL_act_975 : decode cL_act 975 = .ok (.getfield 15, 3) := by decide +kernel
theorem dL_act_978 : decode cL_act 978 = .ok (.iload 5, 2) := by decide +kernel
theorem dL_act_980 : decode cL_act 980 = .ok (.aaload, 1) := by decide +kernel
theorem dL_act_981 : decode cL_act 981 = .ok (.iconst 2, 1) := by decide +kernel
theorem dL_act_982 : decode cL_act 982 = .ok (.iaload, 1) := by decide +kernel
theorem dL_act_983 : decode cL_act 983 = .ok (.if_icmp .ne 12, 3) := by decide +kernel
theorem dL_act_986 : decode cL_act 986 = .ok (.iload 11, 2) := by decide +kernel
theorem dL_act_988 : decode cL_act 988 = .ok (.ifCond .eq 7, 3) := by decide +kernel
theorem dL_act_991 : decode cL_act 991 = .ok (.iconst 1, 1) := by decide +kernel
theorem dL_act_992 : decode cL_act 992 = .ok (.goto 4, 3) := by decide +kernel
theorem dL_act_995 : decode cL_act 995 = .ok (.iconst 0, 1) := by decide +kernel
theorem dL_act_996 : decode cL_act 996 = .ok (.ireturn, 1) := by decide +kernel
theorem dL_act_997 : decode cL_act 997 = .ok (.astore 12, 2) := by decide +kernel
theorem dL_act_999 : decode cL_act 999 = .ok (.iload 11, 2) := by decide +kernel
theorem dL_act_1001 : decode cL_act 1001 = .ok (.ifCond .ne 7, 3) := by decide +kernel
theorem dL_act_1004 : decode cL_act 1004 = .ok (.iconst 1, 1) := by decide +kernel
theorem dL_act_1005 : decode cL_act 1005 = .ok (.goto 4, 3) := by decide +kernel
theorem dL_act_1008 : decode cL_act 1008 = .ok (.iconst 0, 1) := by decide +kernel
theorem dL_act_1009 : decode cL_act 1009 = .ok (.ireturn, 1) := by decide +kernel
theorem dL_act_1010 : decode cL_act 1010 = .ok (.aload_n 1, 1) := by decide +kernel
theorem dL_act_1011 : decode cL_act 1011 = .ok (.getfield 66, 3) := by decide +kernel
theorem dL_act_1014 : decode cL_act 1014 = .ok (.arraylength, 1) := by decide +kernel
theorem dL_act_1015 : decode cL_act 1015 = .ok (.ifCond .ne 5, 3) := by decide +kernel
theorem dL_act_1018 : decode cL_act 1018 = .ok (.iconst 1, 1) := by decide +kernel
theorem dL_act_1019 : decode cL_act 1019 = .ok (.ireturn, 1) := by decide +kernel
theorem dL_act_1020 : decode cL_act 1020 = .ok (.iload_n 2, 1) := by decide +kernel
theorem dL_act_1021 : decode cL_act 1021 = .ok (.iconst 4, 1) := by decide +kernel
theorem dL_act_1022 : decode cL_act 1022 = .ok (.ishr, 1) := by decide +kernel
theorem dL_act_1023 : decode cL_act 1023 = .ok (.aload_n 1, 1) := by decide +kernel
theorem dL_act_1024 : decode cL_act 1024 = .ok (.getfield 66, 3) := by decide +kernel
theorem dL_act_1027 : decode cL_act 1027 = .ok (.arraylength, 1) := by decide +kernel
theorem dL_act_1028 : decode cL_act 1028 = .ok (.invokestatic 9, 3) := by decide +kernel
theorem dL_act_1031 : decode cL_act 1031 = .ok (.istore 8, 2) := by decide +kernel
theorem dL_act_1033 : decode cL_act 1033 = .ok (.iconst 1, 1) := by decide +kernel
theorem dL_act_1034 : decode cL_act 1034 = .ok (.iload_n 2, 1) := by decide +kernel
theorem dL_act_1035 : decode cL_act 1035 = .ok (.bipush 6, 2) := by decide +kernel
theorem dL_act_1037 : decode cL_act 1037 = .ok (.ishr, 1) := by decide +kernel
theorem dL_act_1038 : decode cL_act 1038 = .ok (.bipush 20, 2) := by decide +kernel
theorem dL_act_1040 : decode cL_act 1040 = .ok (.invokestatic 9, 3) := by decide +kernel
theorem dL_act_1043 : decode cL_act 1043 = .ok (.iadd, 1) := by decide +kernel
theorem dL_act_1044 : decode cL_act 1044 = .ok (.istore 9, 2) := by decide +kernel
theorem dL_act_1046 : decode cL_act 1046 = .ok (.aload_n 1, 1) := by decide +kernel
theorem dL_act_1047 : decode cL_act 1047 = .ok (.iload 8, 2) := by decide +kernel
theorem dL_act_1049 : decode cL_act 1049 = .ok (.invokevirtual 89, 3) := by decide +kernel
theorem dL_act_1052 : decode cL_act 1052 = .ok (.ifCond .eq 7, 3) := by decide +kernel
theorem dL_act_1055 : decode cL_act 1055 = .ok (.iconst (-1), 1) := by decide +kernel
theorem dL_act_1056 : decode cL_act 1056 = .ok (.goto 11, 3) := by decide +kernel
theorem dL_act_1059 : decode cL_act 1059 = .ok (.aload_n 1, 1) := by decide +kernel
theorem dL_act_1060 : decode cL_act 1060 = .ok (.iload 8, 2) := by decide +kernel
theorem dL_act_1062 : decode cL_act 1062 = .ok (.iload 9, 2) := by decide +kernel
theorem dL_act_1064 : decode cL_act 1064 = .ok (.invokevirtual 93, 3) := by decide +kernel
theorem dL_act_1067 : decode cL_act 1067 = .ok (.istore 7, 2) := by decide +kernel
theorem dL_act_1069 : decode cL_act 1069 = .ok (.aload_n 0, 1) := by decide +kernel
theorem dL_act_1070 : decode cL_act 1070 = .ok (.iload 8, 2) := by decide +kernel
theorem dL_act_1072 : decode cL_act 1072 = .ok (.iload 9, 2) := by decide +kernel
theorem dL_act_1074 : decode cL_act 1074 = .ok (.invokevirtual 96, 3) := by decide +kernel
theorem dL_act_1077 : decode cL_act 1077 = .ok (.istore 6, 2) := by decide +kernel
theorem dL_act_1079 : decode cL_act 1079 = .ok (.goto 8, 3) := by decide +kernel
theorem dL_act_1082 : decode cL_act 1082 = .ok (.astore 10, 2) := by decide +kernel
theorem dL_act_1084 : decode cL_act 1084 = .ok (.iconst (-1), 1) := by decide +kernel
theorem dL_act_1085 : decode cL_act 1085 = .ok (.istore 6, 2) := by decide +kernel
theorem dL_act_1087 : decode cL_act 1087 = .ok (.iload 6, 2) := by decide +kernel
theorem dL_act_1089 : decode cL_act 1089 = .ok (.iload 7, 2) := by decide +kernel
theorem dL_act_1091 : decode cL_act 1091 = .ok (.if_icmp .ne 7, 3) := by decide +kernel
theorem dL_act_1094 : decode cL_act 1094 = .ok (.iconst 1, 1) := by decide +kernel
theorem dL_act_1095 : decode cL_act 1095 = .ok (.goto 4, 3) := by decide +kernel
theorem dL_act_1098 : decode cL_act 1098 = .ok (.iconst 0, 1) := by decide +kernel
theorem dL_act_1099 : decode cL_act 1099 = .ok (.ireturn, 1) := by decide +kernel
theorem dL_build_0 : decode cL_build 0 = .ok (.new 16, 3) := by decide +kernel
theorem dL_build_3 : decode cL_build 3 = .ok (.dup, 1) := by decide +kernel
theorem dL_build_4 : decode cL_build 4 = .ok (.invokespecial 97, 3) := by decide +kernel
theorem dL_build_7 : decode cL_build 7 = .ok (.astore_n 2, 1) := by decide +kernel
theorem dL_build_8 : decode cL_build 8 = .ok (.iconst 1, 1) := by decide +kernel
theorem dL_build_9 : decode cL_build 9 = .ok (.aload_n 1, 1) := by decide +kernel
theorem dL_build_10 : decode cL_build 10 = .ok (.iconst 0, 1) := by decide +kernel
theorem dL_build_11 : decode cL_build 11 = .ok (.invokestatic 98, 3) := by decide +kernel
theorem dL_build_14 : decode cL_build 14 = .ok (.iconst 5, 1) := by decide +kernel
theorem dL_build_15 : decode cL_build 15 = .ok (.invokestatic 9, 3) := by decide +kernel
theorem dL_build_18 : decode cL_build 18 = .ok (.iadd, 1) := by decide +kernel
theorem dL_build_19 : decode cL_build 19 = .ok (.istore_n 3, 1) := by decide +kernel
theorem dL_build_20 : decode cL_build 20 = .ok (.iconst 0, 1) := by decide +kernel
theorem dL_build_21 : decode cL_build 21 = .ok (.istore 4, 2) := by decide +kernel
theorem dL_build_23 : decode cL_build 23 = .ok (.iload 4, 2) := by decide +kernel
theorem dL_build_25 : decode cL_build 25 = .ok (.iload_n 3, 1) := by decide +kernel
theorem dL_build_26 : decode cL_build 26 = .ok (.if_icmp .ge 95, 3) := by decide +kernel
theorem dL_build_29 : decode cL_build 29 = .ok (.aload_n 1, 1) := by decide +kernel
theorem dL_build_30 : decode cL_build 30 = .ok (.iconst 1, 1) := by decide +kernel
theorem dL_build_31 : decode cL_build 31 = .ok (.invokestatic 98, 3) := by decide +kernel
theorem dL_build_34 : decode cL_build 34 = .ok (.iconst 4, 1) := by decide +kernel
theorem dL_build_35 : decode cL_build 35 = .ok (.iload 4, 2) := by decide +kernel
theorem dL_build_37 : decode cL_build 37 = .ok (.imul, 1) := by decide +kernel
theorem dL_build_38 : decode cL_build 38 = .ok (.ishr, 1) := by decide +kernel
theorem dL_build_39 : decode cL_build 39 = .ok (.istore 5, 2) := by decide +kernel
theorem dL_build_41 : decode cL_build 41 = .ok (.iconst 5, 1) := by decide +kernel
theorem dL_build_42 : decode cL_build 42 = .ok (.newarray .int, 2) := by decide +kernel
theorem dL_build_44 : decode cL_build 44 = .ok (.dup, 1) := by decide +kernel
theorem dL_build_45 : decode cL_build 45 = .ok (.iconst 0, 1) := by decide +kernel
theorem dL_build_46 : decode cL_build 46 = .ok (.iload 5, 2) := by decide +kernel
theorem dL_build_48 : decode cL_build 48 = .ok (.bipush 10, 2) := by decide +kernel
theorem dL_build_50 : decode cL_build 50 = .ok (.invokestatic 9, 3) := by decide +kernel
theorem dL_build_53 : decode cL_build 53 = .ok (.iastore, 1) := by decide +kernel
theorem dL_build_54 : decode cL_build 54 = .ok (.dup, 1) := by decide +kernel
theorem dL_build_55 : decode cL_build 55 = .ok (.iconst 1, 1) := by decide +kernel
theorem dL_build_56 : decode cL_build 56 = .ok (.iload 5, 2) := by decide +kernel
theorem dL_build_58 : decode cL_build 58 = .ok (.iconst 2, 1) := by decide +kernel
theorem dL_build_59 : decode cL_build 59 = .ok (.ishr, 1) := by decide +kernel
theorem dL_build_60 : decode cL_build 60 = .ok (.bipush 7, 2) := by decide +kernel
theorem dL_build_62 : decode cL_build 62 = .ok (.invokestatic 9, 3) := by decide +kernel
theorem dL_build_65 : decode cL_build 65 = .ok (.iconst 3, 1) := by decide +kernel
theorem dL_build_66 : decode cL_build 66 = .ok (.isub, 1) := by decide +kernel
theorem dL_build_67 : decode cL_build 67 = .ok (.iastore, 1) := by decide +kernel
theorem dL_build_68 : decode cL_build 68 = .ok (.dup, 1) := by decide +kernel
theorem dL_build_69 : decode cL_build 69 = .ok (.iconst 2, 1) := by decide +kernel
theorem dL_build_70 : decode cL_build 70 = .ok (.bipush 50, 2) := by decide +kernel
theorem dL_build_72 : decode cL_build 72 = .ok (.iastore, 1) := by decide +kernel
theorem dL_build_73 : decode cL_build 73 = .ok (.dup, 1) := by decide +kernel
theorem dL_build_74 : decode cL_build 74 = .ok (.iconst 3, 1) := by decide +kernel
theorem dL_build_75 : decode cL_build 75 = .ok (.iconst 0, 1) := by decide +kernel
theorem dL_build_76 : decode cL_build 76 = .ok (.iastore, 1) := by decide +kernel
theorem dL_build_77 : decode cL_build 77 = .ok (.dup, 1) := by decide +kernel
theorem dL_build_78 : decode cL_build 78 = .ok (.iconst 4, 1) := by decide +kernel
theorem dL_build_79 : decode cL_build 79 = .ok (.iconst 0, 1) := by decide +kernel
theorem dL_build_80 : decode cL_build 80 = .ok (.iastore, 1) := by decide +kernel
theorem dL_build_81 : decode cL_build 81 = .ok (.astore 6, 2) := by decide +kernel
theorem dL_build_83 : decode cL_build 83 = .ok (.aload_n 2, 1) := by decide +kernel
theorem dL_build_84 : decode cL_build 84 = .ok (.aload_n 2, 1) := by decide +kernel
theorem dL_build_85 : decode cL_build 85 = .ok (.getfield 15, 3) := by decide +kernel
theorem dL_build_88 : decode cL_build 88 = .ok (.aload 6, 2) := by decide +kernel
theorem dL_build_90 : decode cL_build 90 = .ok (.invokestatic 75, 3) := by decide +kernel
theorem dL_build_93 : decode cL_build 93 = .ok (.putfield 15, 3) := by decide +kernel
theorem dL_build_96 : decode cL_build 96 = .ok (.aload_n 0, 1) := by decide +kernel
theorem dL_build_97 : decode cL_build 97 = .ok (.aload 6, 2) := by decide +kernel
theorem dL_build_99 : decode cL_build 99 = .ok (.iconst 0, 1) := by decide +kernel
theorem dL_build_100 : decode cL_build 100 = .ok (.iaload, 1) := by decide +kernel
theorem dL_build_101 : decode cL_build 101 = .ok (.aload 6, 2) := by decide +kernel
theorem dL_build_103 : decode cL_build 103 = .ok (.iconst 1, 1) := by decide +kernel
theorem dL_build_104 : decode cL_build 104 = .ok (.iaload, 1) := by decide +kernel
theorem dL_build_105 : decode cL_build 105 = .ok (.invokevirtual 102, 3) := by decide +kernel
theorem dL_build_108 : decode cL_build 108 = .ok (.iload 4, 2) := by decide +kernel
theorem dL_build_110 : decode cL_build 110 = .ok (.if_icmp .eq 5, 3) := by decide +kernel
theorem dL_build_113 : decode cL_build 113 = .ok (.aconst_null, 1) := by decide +kernel
theorem dL_build_114 : decode cL_build 114 = .ok (.areturn, 1) := by decide +kernel
theorem dL_build_115 : decode cL_build 115 = .ok (.iinc 4 1, 3) := by decide +kernel
theorem dL_build_118 : decode cL_build 118 = .ok (.goto (-95), 3) := by decide +kernel
theorem dL_build_121 : decode cL_build 121 = .ok (.iconst 0, 1) := by decide +kernel
theorem dL_build_122 : decode cL_build 122 = .ok (.istore 4, 2) := by decide +kernel
theorem dL_build_124 : decode cL_build 124 = .ok (.iload 4, 2) := by decide +kernel
theorem dL_build_126 : decode cL_build 126 = .ok (.iconst 2, 1) := by decide +kernel
theorem dL_build_127 : decode cL_build 127 = .ok (.aload_n 1, 1) := by decide +kernel
theorem dL_build_128 : decode cL_build 128 = .ok (.iconst 0, 1) := by decide +kernel
theorem dL_build_129 : decode cL_build 129 = .ok (.invokestatic 98, 3) := by decide +kernel
theorem dL_build_132 : decode cL_build 132 = .ok (.iconst 3, 1) := by decide +kernel
theorem dL_build_133 : decode cL_build 133 = .ok (.ishr, 1) := by decide +kernel
theorem dL_build_134 : decode cL_build 134 = .ok (.iconst 3, 1) := by decide +kernel
theorem dL_build_135 : decode cL_build 135 = .ok (.invokestatic 9, 3) := by decide +kernel
theorem dL_build_138 : decode cL_build 138 = .ok (.iadd, 1) := by decide +kernel
theorem dL_build_139 : decode cL_build 139 = .ok (.if_icmp .ge 273, 3) := by decide +kernel
theorem dL_build_142 : decode cL_build 142 = .ok (.aload_n 1, 1) := by decide +kernel
theorem dL_build_143 : decode cL_build 143 = .ok (.iconst 2, 1) := by decide +kernel
theorem dL_build_144 : decode cL_build 144 = .ok (.iload 4, 2) := by decide +kernel
theorem dL_build_146 : decode cL_build 146 = .ok (.iadd, 1) := by decide +kernel
theorem dL_build_147 : decode cL_build 147 = .ok (.invokestatic 98, 3) := by decide +kernel
theorem dL_build_150 : decode cL_build 150 = .ok (.istore 5, 2) := by decide +kernel
theorem dL_build_152 : decode cL_build 152 = .ok (.iload 5, 2) := by decide +kernel
theorem dL_build_154 : decode cL_build 154 = .ok (.bipush 10, 2) := by decide +kernel
theorem dL_build_156 : decode cL_build 156 = .ok (.invokestatic 9, 3) := by decide +kernel
theorem dL_build_159 : decode cL_build 159 = .ok (.istore 6, 2) := by decide +kernel
theorem dL_build_161 : decode cL_build 161 = .ok (.bipush 10, 2) := by decide +kernel
theorem dL_build_163 : decode cL_build 163 = .ok (.iload 5, 2) := by decide +kernel
theorem dL_build_165 : decode cL_build 165 = .ok (.iconst 3, 1) := by decide +kernel
theorem dL_build_166 : decode cL_build 166 = .ok (.ishr, 1) := by decide +kernel
theorem dL_build_167 : decode cL_build 167 = .ok (.bipush 10, 2) := by decide +kernel
theorem dL_build_169 : decode cL_build 169 = .ok (.invokestatic 9, 3) := by decide +kernel
theorem dL_build_172 : decode cL_build 172 = .ok (.iadd, 1) := by decide +kernel
theorem dL_build_173 : decode cL_build 173 = .ok (.istore 7, 2) := by decide +kernel
theorem dL_build_175 : decode cL_build 175 = .ok (.iload 5, 2) := by decide +kernel
theorem dL_build_177 : decode cL_build 177 = .ok (.bipush 6, 2) := by decide +kernel
theorem dL_build_179 : decode cL_build 179 = .ok (.ishr, 1) := by decide +kernel
theorem dL_build_180 : decode cL_build 180 = .ok (.bipush 20, 2) := by decide +kernel
theorem dL_build_182 : decode cL_build 182 = .ok (.invokestatic 9, 3) := by decide +kernel
theorem dL_build_185 : decode cL_build 185 = .ok (.istore 8, 2) := by decide +kernel
theorem dL_build_187 : decode cL_build 187 = .ok (.iload 5, 2) := by decide +kernel
theorem dL_build_189 : decode cL_build 189 = .ok (.bipush 8, 2) := by decide +kernel
theorem dL_build_191 : decode cL_build 191 = .ok (.ishr, 1) := by decide +kernel
theorem dL_build_192 : decode cL_build 192 = .ok (.iconst 4, 1) := by decide +kernel
theorem dL_build_193 : decode cL_build 193 = .ok (.invokestatic 9, 3) := by decide +kernel
theorem dL_build_196 : decode cL_build 196 = .ok (.istore 9, 2) := by decide +kernel
theorem dL_build_198 : decode cL_build 198 = .ok (.iload 9, 2) := by decide +kernel
theorem dL_build_200 : decode cL_build 200 = .ok (.ifCond .ne 29, 3) := by decide +kernel
theorem dL_build_203 : decode cL_build 203 = .ok (.iconst 4, 1) := by decide +kernel
theorem dL_build_204 : decode cL_build 204 = .ok (.newarray .int, 2) := by decide +kernel
theorem dL_build_206 : decode cL_build 206 = .ok (.dup, 1) := by decide +kernel
theorem dL_build_207 : decode cL_build 207 = .ok (.iconst 0, 1) := by decide +kernel
theorem dL_build_208 : decode cL_build 208 = .ok (.iload 6, 2) := by decide +kernel
theorem dL_build_210 : decode cL_build 210 = .ok (.iastore, 1) := by decide +kernel
theorem dL_build_211 : decode cL_build 211 = .ok (.dup, 1) := by decide +kernel
theorem dL_build_212 : decode cL_build 212 = .ok (.iconst 1, 1) := by decide +kernel
theorem dL_build_213 : decode cL_build 213 = .ok (.iload 8, 2) := by decide +kernel
theorem dL_build_215 : decode cL_build 215 = .ok (.iastore, 1) := by decide +kernel
theorem dL_build_216 : decode cL_build 216 = .ok (.dup, 1) := by decide +kernel
theorem dL_build_217 : decode cL_build 217 = .ok (.iconst 2, 1) := by decide +kernel
theorem dL_build_218 : decode cL_build 218 = .ok (.iload 7, 2) := by decide +kernel
theorem dL_build_220 : decode cL_build 220 = .ok (.iastore, 1) := by decide +kernel
theorem dL_build_221 : decode cL_build 221 = .ok (.dup, 1) := by decide +kernel
theorem dL_build_222 : decode cL_build 222 = .ok (.iconst 3, 1) := by decide +kernel
theorem dL_build_223 : decode cL_build 223 = .ok (.iload 8, 2) := by decide +kernel
theorem dL_build_225 : decode cL_build 225 = .ok (.iastore, 1) := by decide +kernel
theorem dL_build_226 : decode cL_build 226 = .ok (.goto 96, 3) := by decide +kernel
theorem dL_build_229 : decode cL_build 229 = .ok (.iload 9, 2) := by decide +kernel
theorem dL_build_231 : decode cL_build 231 = .ok (.iconst 1, 1) := by decide +kernel
theorem dL_build_232 : decode cL_build 232 = .ok (.if_icmp .ne 29, 3) := by decide +kernel
theorem dL_build_235 : decode cL_build 235 = .ok (.iconst 4, 1) := by decide +kernel
theorem dL_build_236 : decode cL_build 236 = .ok (.newarray .int, 2) := by decide +kernel
theorem dL_build_238 : decode cL_build 238 = .ok (.dup, 1) := by decide +kernel
theorem dL_build_239 : decode cL_build 239 = .ok (.iconst 0, 1) := by decide +kernel
theorem dL_build_240 : decode cL_build 240 = .ok (.iload 8, 2) := by decide +kernel
theorem dL_build_242 : decode cL_build 242 = .ok (.iastore, 1) := by decide +kernel
theorem dL_build_243 : decode cL_build 243 = .ok (.dup, 1) := by decide +kernel
theorem dL_build_244 : decode cL_build 244 = .ok (.iconst 1, 1) := by decide +kernel
theorem dL_build_245 : decode cL_build 245 = .ok (.iload 7, 2) := by decide +kernel
theorem dL_build_247 : decode cL_build 247 = .ok (.iastore, 1) := by decide +kernel
theorem dL_build_248 : decode cL_build 248 = .ok (.dup, 1) := by decide +kernel
theorem dL_build_249 : decode cL_build 249 = .ok (.iconst 2, 1) := by decide +kernel
theorem dL_build_250 : decode cL_build 250 = .ok (.iload 8, 2) := by decide +kernel
theorem dL_build_252 : decode cL_build 252 = .ok (.iastore, 1) := by decide +kernel
theorem dL_build_253 : decode cL_build 253 = .ok (.dup, 1) := by decide +kernel
theorem dL_build_254 : decode cL_build 254 = .ok (.iconst 3, 1) := by decide +kernel
theorem dL_build_255 : decode cL_build 255 = .ok (.iload 6, 2) := by decide +kernel
theorem dL_build_257 : decode cL_build 257 = .ok (.iastore, 1) := by decide +kernel
theorem dL_build_258 : decode cL_build 258 = .ok (.goto 64, 3) := by decide +kernel
theorem dL_build_261 : decode cL_build 261 = .ok (.iload 9, 2) := by decide +kernel
theorem dL_build_263 : decode cL_build 263 = .ok (.iconst 2, 1) := by decide +kernel
theorem dL_build_264 : decode cL_build 264 = .ok (.if_icmp .ne 29, 3) := by decide +kernel
theorem dL_build_267 : decode cL_build 267 = .ok (.iconst 4, 1) := by decide +kernel
theorem dL_build_268 : decode cL_build 268 = .ok (.newarray .int, 2) := by decide +kernel
theorem dL_build_270 : decode cL_build 270 = .ok (.dup, 1) := by decide +kernel
theorem dL_build_271 : decode cL_build 271 = .ok (.iconst 0, 1) := by decide +kernel
theorem dL_build_272 : decode cL_build 272 = .ok (.iload 6, 2) := by decide +kernel
theorem dL_build_274 : decode cL_build 274 = .ok (.iastore, 1) := by decide +kernel
theorem dL_build_275 : decode cL_build 275 = .ok (.dup, 1) := by decide +kernel
theorem dL_build_276 : decode cL_build 276 = .ok (.iconst 1, 1) := by decide +kernel
theorem dL_build_277 : decode cL_build 277 = .ok (.iload 6, 2) := by decide +kernel
theorem dL_build_279 : decode cL_build 279 = .ok (.iastore, 1) := by decide +kernel
theorem dL_build_280 : decode cL_build 280 = .ok (.dup, 1) := by decide +kernel
theorem dL_build_281 : decode cL_build 281 = .ok (.iconst 2, 1) := by decide +kernel
theorem dL_build_282 : decode cL_build 282 = .ok (.iload 7, 2) := by decide +kernel
theorem dL_build_284 : decode cL_build 284 = .ok (.iastore, 1) := by decide +kernel
theorem dL_build_285 : decode cL_build 285 = .ok (.dup, 1) := by decide +kernel
theorem dL_build_286 : decode cL_build 286 = .ok (.iconst 3, 1) := by decide +kernel
theorem dL_build_287 : decode cL_build 287 = .ok (.iload 7, 2) := by decide +kernel
theorem dL_build_289 : decode cL_build 289 = .ok (.iastore, 1) := by decide +kernel
theorem dL_build_290 : decode cL_build 290 = .ok (.goto 32, 3) := by decide +kernel
theorem dL_build_293 : decode cL_build 293 = .ok (.iconst 4, 1) := by decide +kernel
theorem dL_build_294 : decode cL_build 294 = .ok (.newarray .int, 2) := by decide +kernel
theorem dL_build_296 : decode cL_build 296 = .ok (.dup, 1) := by decide +kernel
theorem dL_build_297 : decode cL_build 297 = .ok (.iconst 0, 1) := by decide +kernel
theorem dL_build_298 : decode cL_build 298 = .ok (.iload 6, 2) := by decide +kernel
theorem dL_build_300 : decode cL_build 300 = .ok (.iastore, 1) := by decide +kernel
theorem dL_build_301 : decode cL_build 301 = .ok (.dup, 1) := by decide +kernel
theorem dL_build_302 : decode cL_build 302 = .ok (.iconst 1, 1) := by decide +kernel
theorem dL_build_303 : decode cL_build 303 = .ok (.bipush 19, 2) := by decide +kernel
theorem dL_build_305 : decode cL_build 305 = .ok (.iload 6, 2) := by decide +kernel
theorem dL_build_307 : decode cL_build 307 = .ok (.isub, 1) := by decide +kernel
theorem dL_build_308 : decode cL_build 308 = .ok (.iastore, 1) := by decide +kernel
theorem dL_build_309 : decode cL_build 309 = .ok (.dup, 1) := by decide +kernel
theorem dL_build_310 : decode cL_build 310 = .ok (.iconst 2, 1) := by decide +kernel
theorem dL_build_311 : decode cL_build 311 = .ok (.iload 7, 2) := by decide +kernel
theorem dL_build_313 : decode cL_build 313 = .ok (.iastore, 1) := by decide +kernel
theorem dL_build_314 : decode cL_build 314 = .ok (.dup, 1) := by decide +kernel
theorem dL_build_315 : decode cL_build 315 = .ok (.iconst 3, 1) := by decide +kernel
theorem dL_build_316 : decode cL_build 316 = .ok (.bipush 19, 2) := by decide +kernel
theorem dL_build_318 : decode cL_build 318 = .ok (.iload 7, 2) := by decide +kernel
theorem dL_build_320 : decode cL_build 320 = .ok (.isub, 1) := by decide +kernel
theorem dL_build_321 : decode cL_build 321 = .ok (.iastore, 1) := by decide +kernel
theorem dL_build_322 : decode cL_build 322 = .ok (.astore 10, 2) := by decide +kernel
theorem dL_build_324 : decode cL_build 324 = .ok (.iconst 1, 1) := by decide +kernel
theorem dL_build_325 : decode cL_build 325 = .ok (.iload 5, 2) := by decide +kernel
theorem dL_build_327 : decode cL_build 327 = .ok (.iconst 5, 1) := by decide +kernel
theorem dL_build_328 : decode cL_build 328 = .ok (.ishr, 1) := by decide +kernel
theorem dL_build_329 : decode cL_build 329 = .ok (.bipush 6, 2) := by decide +kernel
theorem dL_build_331 : decode cL_build 331 = .ok (.invokestatic 9, 3) := by decide +kernel
theorem dL_build_334 : decode cL_build 334 = .ok (.iadd, 1) := by decide +kernel
theorem dL_build_335 : decode cL_build 335 = .ok (.istore 11, 2) := by decide +kernel
theorem dL_build_337 : decode cL_build 337 = .ok (.iconst 1, 1) := by decide +kernel
theorem dL_build_338 : decode cL_build 338 = .ok (.iload 5, 2) := by decide +kernel
theorem dL_build_340 : decode cL_build 340 = .ok (.bipush 9, 2) := by decide +kernel
theorem dL_build_342 : decode cL_build 342 = .ok (.ishr, 1) := by decide +kernel
theorem dL_build_343 : decode cL_build 343 = .ok (.bipush 9, 2) := by decide +kernel
theorem dL_build_345 : decode cL_build 345 = .ok (.invokestatic 9, 3) := by decide +kernel
theorem dL_build_348 : decode cL_build 348 = .ok (.iadd, 1) := by decide +kernel
theorem dL_build_349 : decode cL_build 349 = .ok (.istore 12, 2) := by decide +kernel
theorem dL_build_351 : decode cL_build 351 = .ok (.aload_n 2, 1) := by decide +kernel
theorem dL_build_352 : decode cL_build 352 = .ok (.aload 10, 2) := by decide +kernel
theorem dL_build_354 : decode cL_build 354 = .ok (.iconst 0, 1) := by decide +kernel
theorem dL_build_355 : decode cL_build 355 = .ok (.iaload, 1) := by decide +kernel
theorem dL_build_356 : decode cL_build 356 = .ok (.aload 10, 2) := by decide +kernel
theorem dL_build_358 : decode cL_build 358 = .ok (.iconst 1, 1) := by decide +kernel
theorem dL_build_359 : decode cL_build 359 = .ok (.iaload, 1) := by decide +kernel
theorem dL_build_360 : decode cL_build 360 = .ok (.aload 10, 2) := by decide +kernel
theorem dL_build_362 : decode cL_build 362 = .ok (.iconst 2, 1) := by decide +kernel
theorem dL_build_363 : decode cL_build 363 = .ok (.iaload, 1) := by decide +kernel
theorem dL_build_364 : decode cL_build 364 = .ok (.aload 10, 2) := by decide +kernel
theorem dL_build_366 : decode cL_build 366 = .ok (.iconst 3, 1) := by decide +kernel
theorem dL_build_367 : decode cL_build 367 = .ok (.iaload, 1) := by decide +kernel
theorem dL_build_368 : decode cL_build 368 = .ok (.iload 11, 2) := by decide +kernel
theorem dL_build_370 : decode cL_build 370 = .ok (.iload 12, 2) := by decide +kernel
theorem dL_build_372 : decode cL_build 372 = .ok (.invokevirtual 29, 3) := by decide +kernel
theorem dL_build_375 : decode cL_build 375 = .ok (.aload_n 0, 1) := by decide +kernel
theorem dL_build_376 : decode cL_build 376 = .ok (.aload 10, 2) := by decide +kernel
theorem dL_build_378 : decode cL_build 378 = .ok (.iconst 0, 1) := by decide +kernel
theorem dL_build_379 : decode cL_build 379 = .ok (.iaload, 1) := by decide +kernel
theorem dL_build_380 : decode cL_build 380 = .ok (.aload 10, 2) := by decide +kernel
theorem dL_build_382 : decode cL_build 382 = .ok (.iconst 1, 1) := by decide +kernel
theorem dL_build_383 : decode cL_build 383 = .ok (.iaload, 1) := by decide +kernel
theorem dL_build_384 : decode cL_build 384 = .ok (.aload 10, 2) := by decide +kernel
theorem dL_build_386 : decode cL_build 386 = .ok (.iconst 2, 1) := by decide +kernel
theorem dL_build_387 : decode cL_build 387 = .ok (.iaload, 1) := by decide +kernel
theorem dL_build_388 : decode cL_build 388 = .ok (.aload 10, 2) := by decide +kernel
theorem dL_build_390 : decode cL_build 390 = .ok (.iconst 3, 1) := by decide +kernel
theorem dL_build_391 : decode cL_build 391 = .ok (.iaload, 1) := by decide +kernel
theorem dL_build_392 : decode cL_build 392 = .ok (.iload 11, 2) := by decide +kernel
theorem dL_build_394 : decode cL_build 394 = .ok (.iload 12, 2) := by decide +kernel
theorem dL_build_396 : decode cL_build 396 = .ok (.invokevirtual 33, 3) := by decide +kernel
theorem dL_build_399 : decode cL_build 399 = .ok (.iload 4, 2) := by decide +kernel
theorem dL_build_401 : decode cL_build 401 = .ok (.if_icmp .eq 5, 3) := by decide +kernel
theorem dL_build_404 : decode cL_build 404 = .ok (.aconst_null, 1) := by decide +kernel
theorem dL_build_405 : decode cL_build 405 = .ok (.areturn, 1) := by decide +kernel
theorem dL_build_406 : decode cL_build 406 = .ok (.iinc 4 1, 3) := by decide +kernel
theorem dL_build_409 : decode cL_build 409 = .ok (.goto (-285), 3) := by decide +kernel
theorem dL_build_412 : decode cL_build 412 = .ok (.aload_n 2, 1) := by decide +kernel
theorem dL_build_413 : decode cL_build 413 = .ok (.areturn, 1) := by decide +kernel
theorem dL_law_0 : decode cL_law 0 = .ok (.new 34, 3) := by decide +kernel
theorem dL_law_3 : decode cL_law 3 = .ok (.dup, 1) := by decide +kernel
theorem dL_law_4 : decode cL_law 4 = .ok (.invokespecial 105, 3) := by decide +kernel
theorem dL_law_7 : decode cL_law 7 = .ok (.astore_n 1, 1) := by decide +kernel
theorem dL_law_8 : decode cL_law 8 = .ok (.aload_n 1, 1) := by decide +kernel
theorem dL_law_9 : decode cL_law 9 = .ok (.aload_n 0, 1) := by decide +kernel
theorem dL_law_10 : decode cL_law 10 = .ok (.invokestatic 106, 3) := by decide +kernel
theorem dL_law_13 : decode cL_law 13 = .ok (.astore_n 2, 1) := by decide +kernel
theorem dL_law_14 : decode cL_law 14 = .ok (.aload_n 2, 1) := by decide +kernel
theorem dL_law_15 : decode cL_law 15 = .ok (.ifnonnull 5, 3) := by decide +kernel
theorem dL_law_18 : decode cL_law 18 = .ok (.iconst 0, 1) := by decide +kernel
theorem dL_law_19 : decode cL_law 19 = .ok (.ireturn, 1) := by decide +kernel
theorem dL_law_20 : decode cL_law 20 = .ok (.iconst 0, 1) := by decide +kernel
theorem dL_law_21 : decode cL_law 21 = .ok (.istore_n 3, 1) := by decide +kernel
theorem dL_law_22 : decode cL_law 22 = .ok (.iload_n 3, 1) := by decide +kernel
theorem dL_law_23 : decode cL_law 23 = .ok (.bipush 12, 2) := by decide +kernel
theorem dL_law_25 : decode cL_law 25 = .ok (.if_icmp .ge 1449, 3) := by decide +kernel
theorem dL_law_28 : decode cL_law 28 = .ok (.aload_n 0, 1) := by decide +kernel
theorem dL_law_29 : decode cL_law 29 = .ok (.iload_n 3, 1) := by decide +kernel
theorem dL_law_30 : decode cL_law 30 = .ok (.invokestatic 98, 3) := by decide +kernel
theorem dL_law_33 : decode cL_law 33 = .ok (.iconst 2, 1) := by decide +kernel
theorem dL_law_34 : decode cL_law 34 = .ok (.ishr, 1) := by decide +kernel
theorem dL_law_35 : decode cL_law 35 = .ok (.bipush 53, 2) := by decide +kernel
theorem dL_law_37 : decode cL_law 37 = .ok (.iload_n 3, 1) := by decide +kernel
theorem dL_law_38 : decode cL_law 38 = .ok (.imul, 1) := by decide +kernel
theorem dL_law_39 : decode cL_law 39 = .ok (.iadd, 1) := by decide +kernel
theorem dL_law_40 : decode cL_law 40 = .ok (.istore 4, 2) := by decide +kernel
theorem dL_law_42 : decode cL_law 42 = .ok (.iconst 0, 1) := by decide +kernel
theorem dL_law_43 : decode cL_law 43 = .ok (.istore 5, 2) := by decide +kernel
theorem dL_law_45 : decode cL_law 45 = .ok (.iload 5, 2) := by decide +kernel
theorem dL_law_47 : decode cL_law 47 = .ok (.iconst 4, 1) := by decide +kernel
theorem dL_law_48 : decode cL_law 48 = .ok (.if_icmp .ge 32, 3) := by decide +kernel
theorem dL_law_51 : decode cL_law 51 = .ok (.aload_n 1, 1) := by decide +kernel
theorem dL_law_52 : decode cL_law 52 = .ok (.aload_n 2, 1) := by decide +kernel
theorem dL_law_53 : decode cL_law 53 = .ok (.iload 4, 2) := by decide +kernel
theorem dL_law_55 : decode cL_law 55 = .ok (.iconst 3, 1) := by decide +kernel
theorem dL_law_56 : decode cL_law 56 = .ok (.iload 5, 2) := by decide +kernel
theorem dL_law_58 : decode cL_law 58 = .ok (.imul, 1) := by decide +kernel
theorem dL_law_59 : decode cL_law 59 = .ok (.ishr, 1) := by decide +kernel
theorem dL_law_60 : decode cL_law 60 = .ok (.bipush 29, 2) := by decide +kernel
theorem dL_law_62 : decode cL_law 62 = .ok (.iload 5, 2) := by decide +kernel
theorem dL_law_64 : decode cL_law 64 = .ok (.imul, 1) := by decide +kernel
theorem dL_law_65 : decode cL_law 65 = .ok (.iadd, 1) := by decide +kernel
theorem dL_law_66 : decode cL_law 66 = .ok (.invokestatic 110, 3) := by decide +kernel
theorem dL_law_69 : decode cL_law 69 = .ok (.ifCond .ne 5, 3) := by decide +kernel
theorem dL_law_72 : decode cL_law 72 = .ok (.iconst 0, 1) := by decide +kernel
theorem dL_law_73 : decode cL_law 73 = .ok (.ireturn, 1) := by decide +kernel
theorem dL_law_74 : decode cL_law 74 = .ok (.iinc 5 1, 3) := by decide +kernel
theorem dL_law_77 : decode cL_law 77 = .ok (.goto (-32), 3) := by decide +kernel
theorem dL_law_80 : decode cL_law 80 = .ok (.aload_n 1, 1) := by decide +kernel
theorem dL_law_81 : decode cL_law 81 = .ok (.invokevirtual 114, 3) := by decide +kernel
theorem dL_law_84 : decode cL_law 84 = .ok (.lstore 5, 2) := by decide +kernel
theorem dL_law_86 : decode cL_law 86 = .ok (.aload_n 1, 1) := by decide +kernel
theorem dL_law_87 : decode cL_law 87 = .ok (.iconst 1, 1) := by decide +kernel
theorem dL_law_88 : decode cL_law 88 = .ok (.invokevirtual 118, 3) := by decide +kernel
theorem dL_law_91 : decode cL_law 91 = .ok (.istore 7, 2) := by decide +kernel
theorem dL_law_93 : decode cL_law 93 = .ok (.aload_n 1, 1) := by decide +kernel
theorem dL_law_94 : decode cL_law 94 = .ok (.bipush 7, 2) := by decide +kernel
theorem dL_law_96 : decode cL_law 96 = .ok (.invokevirtual 118, 3) := by decide +kernel
theorem dL_law_99 : decode cL_law 99 = .ok (.istore 8, 2) := by decide +kernel
theorem dL_law_101 : decode cL_law 101 = .ok (.iconst 0, 1) := by decide +kernel
theorem dL_law_102 : decode cL_law 102 = .ok (.istore 9, 2) := by decide +kernel
theorem dL_law_104 : decode cL_law 104 = .ok (.iconst 0, 1) := by decide +kernel
theorem dL_law_105 : decode cL_law 105 = .ok (.istore 10, 2) := by decide +kernel
theorem dL_law_107 : decode cL_law 107 = .ok (.iconst 0, 1) := by decide +kernel
theorem dL_law_108 : decode cL_law 108 = .ok (.istore 11, 2) := by decide +kernel
theorem dL_law_110 : decode cL_law 110 = .ok (.iconst 0, 1) := by decide +kernel
theorem dL_law_111 : decode cL_law 111 = .ok (.istore 12, 2) := by decide +kernel
theorem dL_law_113 : decode cL_law 113 = .ok (.iload 12, 2) := by decide +kernel
theorem dL_law_115 : decode cL_law 115 = .ok (.iload 7, 2) := by decide +kernel
theorem dL_law_117 : decode cL_law 117 = .ok (.if_icmp .ge 129, 3) := by decide +kernel
theorem dL_law_120 : decode cL_law 120 = .ok (.aload_n 1, 1) := by decide +kernel
theorem dL_law_121 : decode cL_law 121 = .ok (.iload 12, 2) := by decide +kernel
theorem dL_law_123 : decode cL_law 123 = .ok (.iconst 2, 1) := by decide +kernel
theorem dL_law_124 : decode cL_law 124 = .ok (.invokevirtual 121, 3) := by decide +kernel
theorem dL_law_127 : decode cL_law 127 = .ok (.ifCond .lt 45, 3) := by decide +kernel
theorem dL_law_130 : decode cL_law 130 = .ok (.aload_n 1, 1) := by decide +kernel
theorem dL_law_131 : decode cL_law 131 = .ok (.iload 12, 2) := by decide +kernel
theorem dL_law_133 : decode cL_law 133 = .ok (.iconst 4, 1) := by decide +kernel
theorem dL_law_134 : decode cL_law 134 = .ok (.invokevirtual 121, 3) := by decide +kernel
theorem dL_law_137 : decode cL_law 137 = .ok (.aload_n 1, 1) := by decide +kernel
theorem dL_law_138 : decode cL_law 138 = .ok (.iload 12, 2) := by decide +kernel
theorem dL_law_140 : decode cL_law 140 = .ok (.iconst 3, 1) := by decide +kernel
theorem dL_law_141 : decode cL_law 141 = .ok (.invokevirtual 121, 3) := by decide +kernel
theorem dL_law_144 : decode cL_law 144 = .ok (.if_icmp .gt 28, 3) := by decide +kernel
theorem dL_law_147 : decode cL_law 147 = .ok (.aload_n 1, 1) := by decide +kernel
theorem dL_law_148 : decode cL_law 148 = .ok (.iload 12, 2) := by decide +kernel
theorem dL_law_150 : decode cL_law 150 = .ok (.bipush 6, 2) := by decide +kernel
theorem dL_law_152 : decode cL_law 152 = .ok (.invokevirtual 121, 3) := by decide +kernel
theorem dL_law_155 : decode cL_law 155 = .ok (.aload_n 1, 1) := by decide +kernel
theorem dL_law_156 : decode cL_law 156 = .ok (.iload 12, 2) := by decide +kernel
theorem dL_law_158 : decode cL_law 158 = .ok (.bipush 7, 2) := by decide +kernel
theorem dL_law_160 : decode cL_law 160 = .ok (.invokevirtual 121, 3) := by decide +kernel
theorem dL_law_163 : decode cL_law 163 = .ok (.iadd, 1) := by decide +kernel
theorem dL_law_164 : decode cL_law 164 = .ok (.aload_n 1, 1) := by decide +kernel
theorem dL_law_165 : decode cL_law 165 = .ok (.iconst 3, 1) := by decide +kernel
theorem dL_law_166 : decode cL_law 166 = .ok (.invokevirtual 118, 3) := by decide +kernel
theorem dL_law_169 : decode cL_law 169 = .ok (.if_icmp .le 5, 3) := by decide +kernel
theorem dL_law_172 : decode cL_law 172 = .ok (.iconst 0, 1) := by decide +kernel
theorem dL_law_173 : decode cL_law 173 = .ok (.ireturn, 1) := by decide +kernel
theorem dL_law_174 : decode cL_law 174 = .ok (.iload 9, 2) := by decide +kernel
theorem dL_law_176 : decode cL_law 176 = .ok (.aload_n 1, 1) := by decide +kernel
theorem dL_law_177 : decode cL_law 177 = .ok (.iload 12, 2) := by decide +kernel
theorem dL_law_179 : decode cL_law 179 = .ok (.iconst 2, 1) := by decide +kernel
theorem dL_law_180 : decode cL_law 180 = .ok (.invokevirtual 121, 3) := by decide +kernel
theorem dL_law_183 : decode cL_law 183 = .ok (.iadd, 1) := by decide +kernel
theorem dL_law_184 : decode cL_law 184 = .ok (.istore 9, 2) := by decide +kernel
theorem dL_law_186 : decode cL_law 186 = .ok (.iload 8, 2) := by decide +kernel
theorem dL_law_188 : decode cL_law 188 = .ok (.aload_n 1, 1) := by decide +kernel
theorem dL_law_189 : decode cL_law 189 = .ok (.iload 12, 2) := by decide +kernel
theorem dL_law_191 : decode cL_law 191 = .ok (.iconst 2, 1) := by decide +kernel
theorem dL_law_192 : decode cL_law 192 = .ok (.invokevirtual 121, 3) := by decide +kernel
theorem dL_law_195 : decode cL_law 195 = .ok (.aload_n 1, 1) := by decide +kernel
theorem dL_law_196 : decode cL_law 196 = .ok (.iload 12, 2) := by decide +kernel
theorem dL_law_198 : decode cL_law 198 = .ok (.iconst 5, 1) := by decide +kernel
theorem dL_law_199 : decode cL_law 199 = .ok (.invokevirtual 121, 3) := by decide +kernel
theorem dL_law_202 : decode cL_law 202 = .ok (.iadd, 1) := by decide +kernel
theorem dL_law_203 : decode cL_law 203 = .ok (.iadd, 1) := by decide +kernel
theorem dL_law_204 : decode cL_law 204 = .ok (.istore 8, 2) := by decide +kernel
theorem dL_law_206 : decode cL_law 206 = .ok (.iload 10, 2) := by decide +kernel
theorem dL_law_208 : decode cL_law 208 = .ok (.aload_n 1, 1) := by decide +kernel
theorem dL_law_209 : decode cL_law 209 = .ok (.iload 12, 2) := by decide +kernel
theorem dL_law_211 : decode cL_law 211 = .ok (.iconst 3, 1) := by decide +kernel
theorem dL_law_212 : decode cL_law 212 = .ok (.invokevirtual 121, 3) := by decide +kernel
theorem dL_law_215 : decode cL_law 215 = .ok (.iadd, 1) := by decide +kernel
theorem dL_law_216 : decode cL_law 216 = .ok (.istore 10, 2) := by decide +kernel
theorem dL_law_218 : decode cL_law 218 = .ok (.iload 11, 2) := by decide +kernel
theorem dL_law_220 : decode cL_law 220 = .ok (.aload_n 1, 1) := by decide +kernel
theorem dL_law_221 : decode cL_law 221 = .ok (.iload 12, 2) := by decide +kernel
theorem dL_law_223 : decode cL_law 223 = .ok (.bipush 6, 2) := by decide +kernel
theorem dL_law_225 : decode cL_law 225 = .ok (.invokevirtual 121, 3) := by decide +kernel
theorem dL_law_228 : decode cL_law 228 = .ok (.aload_n 1, 1) := by decide +kernel
theorem dL_law_229 : decode cL_law 229 = .ok (.iload 12, 2) := by decide +kernel
theorem dL_law_231 : decode cL_law 231 = .ok (.bipush 7, 2) := by decide +kernel
theorem dL_law_233 : decode cL_law 233 = .ok (.invokevirtual 121, 3) := by decide +kernel
theorem dL_law_236 : decode cL_law 236 = .ok (.iadd, 1) := by decide +kernel
theorem dL_law_237 : decode cL_law 237 = .ok (.iadd, 1) := by decide +kernel
theorem dL_law_238 : decode cL_law 238 = .ok (.istore 11, 2) := by decide +kernel
theorem dL_law_240 : decode cL_law 240 = .ok (.iinc 12 1, 3) := by decide +kernel
theorem dL_law_243 : decode cL_law 243 = .ok (.goto (-130), 3) := by decide +kernel
theorem dL_law_246 : decode cL_law 246 = .ok (.iload 8, 2) := by decide +kernel
theorem dL_law_248 : decode cL_law 248 = .ok (.bipush 50, 2) := by decide +kernel
theorem dL_law_250 : decode cL_law 250 = .ok (.iload 7, 2) := by decide +kernel
theorem dL_law_252 : decode cL_law 252 = .ok (.imul, 1) := by decide +kernel
theorem dL_law_253 : decode cL_law 253 = .ok (.if_icmp .ne 40, 3) := by decide +kernel
theorem dL_law_256 : decode cL_law 256 = .ok (.iload 9, 2) := by decide +kernel
theorem dL_law_258 : decode cL_law 258 = .ok (.aload_n 1, 1) := by decide +kernel
theorem dL_law_259 : decode cL_law 259 = .ok (.bipush 8, 2) := by decide +kernel
theorem dL_law_261 : decode cL_law 261 = .ok (.invokevirtual 118, 3) := by decide +kernel
theorem dL_law_264 : decode cL_law 264 = .ok (.if_icmp .ne 29, 3) := by decide +kernel
theorem dL_law_267 : decode cL_law 267 = .ok (.iload 10, 2) := by decide +kernel
theorem dL_law_269 : decode cL_law 269 = .ok (.aload_n 1, 1) := by decide +kernel
theorem dL_law_270 : decode cL_law 270 = .ok (.iconst 2, 1) := by decide +kernel
theorem dL_law_271 : decode cL_law 271 = .ok (.invokevirtual 118, 3) := by decide +kernel
theorem dL_law_274 : decode cL_law 274 = .ok (.if_icmp .ne 19, 3) := by decide +kernel
theorem dL_law_277 : decode cL_law 277 = .ok (.iload 10, 2) := by decide +kernel
theorem dL_law_279 : decode cL_law 279 = .ok (.bipush 60, 2) := by decide +kernel
theorem dL_law_281 : decode cL_law 281 = .ok (.if_icmp .gt 12, 3) := by decide +kernel
theorem dL_law_284 : decode cL_law 284 = .ok (.aload_n 1, 1) := by decide +kernel
theorem dL_law_285 : decode cL_law 285 = .ok (.bipush 7, 2) := by decide +kernel
theorem dL_law_287 : decode cL_law 287 = .ok (.invokevirtual 118, 3) := by decide +kernel
theorem dL_law_290 : decode cL_law 290 = .ok (.ifCond .ge 5, 3) := by decide +kernel
theorem dL_law_293 : decode cL_law 293 = .ok (.iconst 0, 1) := by decide +kernel
theorem dL_law_294 : decode cL_law 294 = .ok (.ireturn, 1) := by decide +kernel
theorem dL_law_295 : decode cL_law 295 = .ok (.bipush 20, 2) := by decide +kernel
theorem dL_law_297 : decode cL_law 297 = .ok (.newarray .int, 2) := by decide +kernel
theorem dL_law_299 : decode cL_law 299 = .ok (.astore 12, 2) := by decide +kernel
theorem dL_law_301 : decode cL_law 301 = .ok (.bipush 20, 2) := by decide +kernel
theorem dL_law_303 : decode cL_law 303 = .ok (.newarray .int, 2) := by decide +kernel
theorem dL_law_305 : decode cL_law 305 = .ok (.astore 13, 2) := by decide +kernel
theorem dL_law_307 : decode cL_law 307 = .ok (.iconst 0, 1) := by decide +kernel
theorem dL_law_308 : decode cL_law 308 = .ok (.istore 14, 2) := by decide +kernel
theorem dL_law_310 : decode cL_law 310 = .ok (.iconst 0, 1) := by decide +kernel
theorem dL_law_311 : decode cL_law 311 = .ok (.istore 15, 2) := by decide +kernel
theorem dL_law_313 : decode cL_law 313 = .ok (.iconst 0, 1) := by decide +kernel
theorem dL_law_314 : decode cL_law 314 = .ok (.istore 16, 2) := by decide +kernel
theorem dL_law_316 : decode cL_law 316 = .ok (.iconst 0, 1) := by decide +kernel
theorem dL_law_317 : decode cL_law 317 = .ok (.istore 17, 2) := by decide +kernel
theorem dL_law_319 : decode cL_law 319 = .ok (.iconst 0, 1) := by decide +kernel
theorem dL_law_320 : decode cL_law 320 = .ok (.istore 18, 2) := by decide +kernel
theorem dL_law_322 : decode cL_law 322 = .ok (.iload 18, 2) := by decide +kernel
theorem dL_law_324 : decode cL_law 324 = .ok (.bipush 20, 2) := by decide +kernel
theorem dL_law_326 : decode cL_law 326 = .ok (.if_icmp .ge 157, 3) := by decide +kernel
theorem dL_law_329 : decode cL_law 329 = .ok (.iconst 0, 1) := by decide +kernel
theorem dL_law_330 : decode cL_law 330 = .ok (.istore 19, 2) := by decide +kernel
theorem dL_law_332 : decode cL_law 332 = .ok (.iload 19, 2) := by decide +kernel
theorem dL_law_334 : decode cL_law 334 = .ok (.bipush 20, 2) := by decide +kernel
theorem dL_law_336 : decode cL_law 336 = .ok (.if_icmp .ge 141, 3) := by decide +kernel
theorem dL_law_339 : decode cL_law 339 = .ok (.aload_n 1, 1) := by decide +kernel
theorem dL_law_340 : decode cL_law 340 = .ok (.iload 18, 2) := by decide +kernel
theorem dL_law_342 : decode cL_law 342 = .ok (.iload 19, 2) := by decide +kernel
theorem dL_law_344 : decode cL_law 344 = .ok (.iconst 0, 1) := by decide +kernel
theorem dL_law_345 : decode cL_law 345 = .ok (.invokevirtual 124, 3) := by decide +kernel
theorem dL_law_348 : decode cL_law 348 = .ok (.istore 20, 2) := by decide +kernel
theorem dL_law_350 : decode cL_law 350 = .ok (.aload_n 1, 1) := by decide +kernel
theorem dL_law_351 : decode cL_law 351 = .ok (.iload 18, 2) := by decide +kernel
theorem dL_law_353 : decode cL_law 353 = .ok (.iload 19, 2) := by decide +kernel
theorem dL_law_355 : decode cL_law 355 = .ok (.iconst 1, 1) := by decide +kernel
theorem dL_law_356 : decode cL_law 356 = .ok (.invokevirtual 124, 3) := by decide +kernel
theorem dL_law_359 : decode cL_law 359 = .ok (.istore 21, 2) := by decide +kernel
theorem dL_law_361 : decode cL_law 361 = .ok (.iload 20, 2) := by decide +kernel
theorem dL_law_363 : decode cL_law 363 = .ok (.ifCond .lt 33, 3) := by decide +kernel
theorem dL_law_366 : decode cL_law 366 = .ok (.iload 20, 2) := by decide +kernel
theorem dL_law_368 : decode cL_law 368 = .ok (.ifCond .ne 7, 3) := by decide +kernel
theorem dL_law_371 : decode cL_law 371 = .ok (.iconst 1, 1) := by decide +kernel
theorem dL_law_372 : decode cL_law 372 = .ok (.goto 4, 3) := by decide +kernel
theorem dL_law_375 : decode cL_law 375 = .ok (.iconst 0, 1) := by decide +kernel
theorem dL_law_376 : decode cL_law 376 = .ok (.iload 21, 2) := by decide +kernel
theorem dL_law_378 : decode cL_law 378 = .ok (.ifCond .ne 7, 3) := by decide +kernel
theorem dL_law_381 : decode cL_law 381 = .ok (.iconst 1, 1) := by decide +kernel
theorem dL_law_382 : decode cL_law 382 = .ok (.goto 4, 3) := by decide +kernel
theorem dL_law_385 : decode cL_law 385 = .ok (.iconst 0, 1) := by decide +kernel
theorem dL_law_386 : decode cL_law 386 = .ok (.if_icmp .ne 10, 3) := by decide +kernel
theorem dL_law_389 : decode cL_law 389 = .ok (.iload 21, 2) := by decide +kernel
theorem dL_law_391 : decode cL_law 391 = .ok (.bipush 20, 2) := by decide +kernel
theorem dL_law_393 : decode cL_law 393 = .ok (.if_icmp .le 5, 3) := by decide +kernel
theorem dL_law_396 : decode cL_law 396 = .ok (.iconst 0, 1) := by decide +kernel
theorem dL_law_397 : decode cL_law 397 = .ok (.ireturn, 1) := by decide +kernel
theorem dL_law_398 : decode cL_law 398 = .ok (.iload 14, 2) := by decide +kernel
theorem dL_law_400 : decode cL_law 400 = .ok (.iload 20, 2) := by decide +kernel
theorem dL_law_402 : decode cL_law 402 = .ok (.ifCond .le 7, 3) := by decide +kernel
theorem dL_law_405 : decode cL_law 405 = .ok (.iconst 1, 1) := by decide +kernel
theorem dL_law_406 : decode cL_law 406 = .ok (.goto 4, 3) := by decide +kernel
theorem dL_law_409 : decode cL_law 409 = .ok (.iconst 0, 1) := by decide +kernel
theorem dL_law_410 : decode cL_law 410 = .ok (.iadd, 1) := by decide +kernel
theorem dL_law_411 : decode cL_law 411 = .ok (.istore 14, 2) := by decide +kernel
theorem dL_law_413 : decode cL_law 413 = .ok (.aload_n 1, 1) := by decide +kernel
theorem dL_law_414 : decode cL_law 414 = .ok (.iload 18, 2) := by decide +kernel
theorem dL_law_416 : decode cL_law 416 = .ok (.iload 19, 2) := by decide +kernel
theorem dL_law_418 : decode cL_law 418 = .ok (.iconst 2, 1) := by decide +kernel
theorem dL_law_419 : decode cL_law 419 = .ok (.invokevirtual 124, 3) := by decide +kernel
theorem dL_law_422 : decode cL_law 422 = .ok (.ifCond .ge 6, 3) := by decide +kernel
theorem dL_law_425 : decode cL_law 425 = .ok (.goto 46, 3) := by decide +kernel
theorem dL_law_428 : decode cL_law 428 = .ok (.aload 12, 2) := by decide +kernel
theorem dL_law_430 : decode cL_law 430 = .ok (.iload 19, 2) := by decide +kernel
theorem dL_law_432 : decode cL_law 432 = .ok (.dup2, 1) := by decide +kernel
theorem dL_law_433 : decode cL_law 433 = .ok (.iaload, 1) := by decide +kernel
theorem dL_law_434 : decode cL_law 434 = .ok (.iconst 1, 1) := by decide +kernel
theorem dL_law_435 : decode cL_law 435 = .ok (.iadd, 1) := by decide +kernel
theorem dL_law_436 : decode cL_law 436 = .ok (.iastore, 1) := by decide +kernel
theorem dL_law_437 : decode cL_law 437 = .ok (.aload 13, 2) := by decide +kernel
theorem dL_law_439 : decode cL_law 439 = .ok (.iload 18, 2) := by decide +kernel
theorem dL_law_441 : decode cL_law 441 = .ok (.dup2, 1) := by decide +kernel
theorem dL_law_442 : decode cL_law 442 = .ok (.iaload, 1) := by decide +kernel
theorem dL_law_443 : decode cL_law 443 = .ok (.iconst 1, 1) := by decide +kernel
theorem dL_law_444 : decode cL_law 444 = .ok (.iadd, 1) := by decide +kernel
theorem dL_law_445 : decode cL_law 445 = .ok (.iastore, 1) := by decide +kernel
theorem dL_law_446 : decode cL_law 446 = .ok (.iinc 16 1, 3) := by decide +kernel
theorem dL_law_449 : decode cL_law 449 = .ok (.iload 15, 2) := by decide +kernel
theorem dL_law_451 : decode cL_law 451 = .ok (.iload 20, 2) := by decide +kernel
theorem dL_law_453 : decode cL_law 453 = .ok (.ifCond .le 7, 3) := by decide +kernel
theorem dL_law_456 : decode cL_law 456 = .ok (.iconst 1, 1) := by decide +kernel
theorem dL_law_457 : decode cL_law 457 = .ok (.goto 4, 3) := by decide +kernel
theorem dL_law_460 : decode cL_law 460 = .ok (.iconst 0, 1) := by decide +kernel
theorem dL_law_461 : decode cL_law 461 = .ok (.iadd, 1) := by decide +kernel
theorem dL_law_462 : decode cL_law 462 = .ok (.istore 15, 2) := by decide +kernel
theorem dL_law_464 : decode cL_law 464 = .ok (.iload 17, 2) := by decide +kernel
theorem dL_law_466 : decode cL_law 466 = .ok (.iload 20, 2) := by decide +kernel
theorem dL_law_468 : decode cL_law 468 = .ok (.iadd, 1) := by decide +kernel
theorem dL_law_469 : decode cL_law 469 = .ok (.istore 17, 2) := by decide +kernel
theorem dL_law_471 : decode cL_law 471 = .ok (.iinc 19 1, 3) := by decide +kernel
theorem dL_law_474 : decode cL_law 474 = .ok (.goto (-142), 3) := by decide +kernel
theorem dL_law_477 : decode cL_law 477 = .ok (.iinc 18 1, 3) := by decide +kernel
theorem dL_law_480 : decode cL_law 480 = .ok (.goto (-158), 3) := by decide +kernel
theorem dL_law_483 : decode cL_law 483 = .ok (.iload 14, 2) := by decide +kernel
theorem dL_law_485 : decode cL_law 485 = .ok (.aload_n 1, 1) := by decide +kernel
theorem dL_law_486 : decode cL_law 486 = .ok (.iconst 5, 1) := by decide +kernel
theorem dL_law_487 : decode cL_law 487 = .ok (.invokevirtual 118, 3) := by decide +kernel
theorem dL_law_490 : decode cL_law 490 = .ok (.if_icmp .ne 45, 3) := by decide +kernel
theorem dL_law_493 : decode cL_law 493 = .ok (.iload 16, 2) := by decide +kernel
theorem dL_law_495 : decode cL_law 495 = .ok (.iload 10, 2) := by decide +kernel
theorem dL_law_497 : decode cL_law 497 = .ok (.if_icmp .ne 38, 3) := by decide +kernel
theorem dL_law_500 : decode cL_law 500 = .ok (.iload 15, 2) := by decide +kernel
theorem dL_law_502 : decode cL_law 502 = .ok (.aload_n 1, 1) := by decide +kernel
theorem dL_law_503 : decode cL_law 503 = .ok (.bipush 6, 2) := by decide +kernel
theorem dL_law_505 : decode cL_law 505 = .ok (.invokevirtual 118, 3) := by decide +kernel
theorem dL_law_508 : decode cL_law 508 = .ok (.if_icmp .ne 27, 3) := by decide +kernel
theorem dL_law_511 : decode cL_law 511 = .ok (.aload_n 1, 1) := by decide +kernel
theorem dL_law_512 : decode cL_law 512 = .ok (.invokevirtual 128, 3) := by decide +kernel
theorem dL_law_515 : decode cL_law 515 = .ok (.iload 10, 2) := by decide +kernel
theorem dL_law_517 : decode cL_law 517 = .ok (.ifCond .ne 7, 3) := by decide +kernel
theorem dL_law_520 : decode cL_law 520 = .ok (.dconst 0, 1) := by decide +kernel
theorem dL_law_521 : decode cL_law 521 = .ok (.goto 10, 3) := by decide +kernel
theorem dL_law_524 : decode cL_law 524 = .ok (.iload 17, 2) := by decide +kernel
theorem dL_law_526 : decode cL_law 526 = .ok (.i2d, 1) := by decide +kernel
theorem dL_law_527 : decode cL_law 527 = .ok (.iload 10, 2) := by decide +kernel
theorem dL_law_529 : decode cL_law 529 = .ok (.i2d, 1) := by decide +kernel
theorem dL_law_530 : decode cL_law 530 = .ok (.ddiv, 1) := by decide +kernel
theorem dL_law_531 : decode cL_law 531 = .ok (.dcmp .l, 1) := by decide +kernel
theorem dL_law_532 : decode cL_law 532 = .ok (.ifCond .eq 5, 3) := by decide +kernel
theorem dL_law_535 : decode cL_law 535 = .ok (.iconst 0, 1) := by decide +kernel
theorem dL_law_536 : decode cL_law 536 = .ok (.ireturn, 1) := by decide +kernel
theorem dL_law_537 : decode cL_law 537 = .ok (.aload_n 1, 1) := by decide +kernel
theorem dL_law_538 : decode cL_law 538 = .ok (.iconst 0, 1) := by decide +kernel
theorem dL_law_539 : decode cL_law 539 = .ok (.invokevirtual 132, 3) := by decide +kernel
theorem dL_law_542 : decode cL_law 542 = .ok (.istore 18, 2) := by decide +kernel
theorem dL_law_544 : decode cL_law 544 = .ok (.aload_n 1, 1) := by decide +kernel
theorem dL_law_545 : decode cL_law 545 = .ok (.iconst 1, 1) := by decide +kernel
theorem dL_law_546 : decode cL_law 546 = .ok (.invokevirtual 132, 3) := by decide +kernel
theorem dL_law_549 : decode cL_law 549 = .ok (.istore 19, 2) := by decide +kernel
theorem dL_law_551 : decode cL_law 551 = .ok (.aload_n 1, 1) := by decide +kernel
theorem dL_law_552 : decode cL_law 552 = .ok (.iconst 2, 1) := by decide +kernel
theorem dL_law_553 : decode cL_law 553 = .ok (.invokevirtual 132, 3) := by decide +kernel
theorem dL_law_556 : decode cL_law 556 = .ok (.istore 20, 2) := by decide +kernel
theorem dL_law_558 : decode cL_law 558 = .ok (.iconst 0, 1) := by decide +kernel
theorem dL_law_559 : decode cL_law 559 = .ok (.istore 21, 2) := by decide +kernel
theorem dL_law_561 : decode cL_law 561 = .ok (.iload 21, 2) := by decide +kernel
theorem dL_law_563 : decode cL_law 563 = .ok (.bipush 20, 2) := by decide +kernel
theorem dL_law_565 : decode cL_law 565 = .ok (.if_icmp .ge 31, 3) := by decide +kernel
theorem dL_law_568 : decode cL_law 568 = .ok (.aload 12, 2) := by decide +kernel
theorem dL_law_570 : decode cL_law 570 = .ok (.iload 21, 2) := by decide +kernel
theorem dL_law_572 : decode cL_law 572 = .ok (.iaload, 1) := by decide +kernel
theorem dL_law_573 : decode cL_law 573 = .ok (.iload 18, 2) := by decide +kernel
theorem dL_law_575 : decode cL_law 575 = .ok (.if_icmp .gt 13, 3) := by decide +kernel
theorem dL_law_578 : decode cL_law 578 = .ok (.aload 13, 2) := by decide +kernel
theorem dL_law_580 : decode cL_law 580 = .ok (.iload 21, 2) := by decide +kernel
theorem dL_law_582 : decode cL_law 582 = .ok (.iaload, 1) := by decide +kernel
theorem dL_law_583 : decode cL_law 583 = .ok (.iload 18, 2) := by decide +kernel
theorem dL_law_585 : decode cL_law 585 = .ok (.if_icmp .le 5, 3) := by decide +kernel
theorem dL_law_588 : decode cL_law 588 = .ok (.iconst 0, 1) := by decide +kernel
theorem dL_law_589 : decode cL_law 589 = .ok (.ireturn, 1) := by decide +kernel
theorem dL_law_590 : decode cL_law 590 = .ok (.iinc 21 1, 3) := by decide +kernel
theorem dL_law_593 : decode cL_law 593 = .ok (.goto (-32), 3) := by decide +kernel
theorem dL_law_596 : decode cL_law 596 = .ok (.iload 18, 2) := by decide +kernel
theorem dL_law_598 : decode cL_law 598 = .ok (.ifCond .ne 7, 3) := by decide +kernel
theorem dL_law_601 : decode cL_law 601 = .ok (.iconst 1, 1) := by decide +kernel
theorem dL_law_602 : decode cL_law 602 = .ok (.goto 4, 3) := by decide +kernel
theorem dL_law_605 : decode cL_law 605 = .ok (.iconst 0, 1) := by decide +kernel
theorem dL_law_606 : decode cL_law 606 = .ok (.iload 10, 2) := by decide +kernel
theorem dL_law_608 : decode cL_law 608 = .ok (.ifCond .ne 7, 3) := by decide +kernel
theorem dL_law_611 : decode cL_law 611 = .ok (.iconst 1, 1) := by decide +kernel
theorem dL_law_612 : decode cL_law 612 = .ok (.goto 4, 3) := by decide +kernel
theorem dL_law_615 : decode cL_law 615 = .ok (.iconst 0, 1) := by decide +kernel
theorem dL_law_616 : decode cL_law 616 = .ok (.if_icmp .ne 51, 3) := by decide +kernel
theorem dL_law_619 : decode cL_law 619 = .ok (.iload 19, 2) := by decide +kernel
theorem dL_law_621 : decode cL_law 621 = .ok (.ifCond .ne 13, 3) := by decide +kernel
theorem dL_law_624 : decode cL_law 624 = .ok (.aload 12, 2) := by decide +kernel
theorem dL_law_626 : decode cL_law 626 = .ok (.iload 20, 2) := by decide +kernel
theorem dL_law_628 : decode cL_law 628 = .ok (.iaload, 1) := by decide +kernel
theorem dL_law_629 : decode cL_law 629 = .ok (.iload 18, 2) := by decide +kernel
theorem dL_law_631 : decode cL_law 631 = .ok (.if_icmp .ne 36, 3) := by decide +kernel
theorem dL_law_634 : decode cL_law 634 = .ok (.iload 19, 2) := by decide +kernel
theorem dL_law_636 : decode cL_law 636 = .ok (.iconst 1, 1) := by decide +kernel
theorem dL_law_637 : decode cL_law 637 = .ok (.if_icmp .ne 13, 3) := by decide +kernel
theorem dL_law_640 : decode cL_law 640 = .ok (.aload 13, 2) := by decide +kernel
theorem dL_law_642 : decode cL_law 642 = .ok (.iload 20, 2) := by decide +kernel
theorem dL_law_644 : decode cL_law 644 = .ok (.iaload, 1) := by decide +kernel
theorem dL_law_645 : decode cL_law 645 = .ok (.iload 18, 2) := by decide +kernel
theorem dL_law_647 : decode cL_law 647 = .ok (.if_icmp .ne 20, 3) := by decide +kernel
theorem dL_law_650 : decode cL_law 650 = .ok (.iload 19, 2) := by decide +kernel
theorem dL_law_652 : decode cL_law 652 = .ok (.iconst 3, 1) := by decide +kernel
theorem dL_law_653 : decode cL_law 653 = .ok (.if_icmp .gt 14, 3) := by decide +kernel
theorem dL_law_656 : decode cL_law 656 = .ok (.iload 10, 2) := by decide +kernel
theorem dL_law_658 : decode cL_law 658 = .ok (.ifCond .ne 11, 3) := by decide +kernel
theorem dL_law_661 : decode cL_law 661 = .ok (.iload 19, 2) := by decide +kernel
theorem dL_law_663 : decode cL_law 663 = .ok (.iconst (-1), 1) := by decide +kernel
theorem dL_law_664 : decode cL_law 664 = .ok (.if_icmp .eq 5, 3) := by decide +kernel
theorem dL_law_667 : decode cL_law 667 = .ok (.iconst 0, 1) := by decide +kernel
theorem dL_law_668 : decode cL_law 668 = .ok (.ireturn, 1) := by decide +kernel
theorem dL_law_669 : decode cL_law 669 = .ok (.iload 4, 2) := by decide +kernel
theorem dL_law_671 : decode cL_law 671 = .ok (.iconst 5, 1) := by decide +kernel
theorem dL_law_672 : decode cL_law 672 = .ok (.ishr, 1) := by decide +kernel
theorem dL_law_673 : decode cL_law 673 = .ok (.iload 7, 2) := by decide +kernel
theorem dL_law_675 : decode cL_law 675 = .ok (.invokestatic 9, 3) := by decide +kernel
theorem dL_law_678 : decode cL_law 678 = .ok (.istore 21, 2) := by decide +kernel
theorem dL_law_680 : decode cL_law 680 = .ok (.aload_n 1, 1) := by decide +kernel
theorem dL_law_681 : decode cL_law 681 = .ok (.iload 21, 2) := by decide +kernel
theorem dL_law_683 : decode cL_law 683 = .ok (.iconst 2, 1) := by decide +kernel
theorem dL_law_684 : decode cL_law 684 = .ok (.invokevirtual 135, 3) := by decide +kernel
theorem dL_law_687 : decode cL_law 687 = .ok (.istore 22, 2) := by decide +kernel
theorem dL_law_689 : decode cL_law 689 = .ok (.aload_n 1, 1) := by decide +kernel
theorem dL_law_690 : decode cL_law 690 = .ok (.iload 21, 2) := by decide +kernel
theorem dL_law_692 : decode cL_law 692 = .ok (.aload_n 1, 1) := by decide +kernel
theorem dL_law_693 : decode cL_law 693 = .ok (.iload 21, 2) := by decide +kernel
theorem dL_law_695 : decode cL_law 695 = .ok (.iconst 0, 1) := by decide +kernel
theorem dL_law_696 : decode cL_law 696 = .ok (.invokevirtual 135, 3) := by decide +kernel
theorem dL_law_699 : decode cL_law 699 = .ok (.aload_n 1, 1) := by decide +kernel
theorem dL_law_700 : decode cL_law 700 = .ok (.iload 21, 2) := by decide +kernel
theorem dL_law_702 : decode cL_law 702 = .ok (.iconst 1, 1) := by decide +kernel
theorem dL_law_703 : decode cL_law 703 = .ok (.invokevirtual 135, 3) := by decide +kernel
theorem dL_law_706 : decode cL_law 706 = .ok (.invokevirtual 138, 3) := by decide +kernel
theorem dL_law_709 : decode cL_law 709 = .ok (.iload 22, 2) := by decide +kernel
theorem dL_law_711 : decode cL_law 711 = .ok (.if_icmp .eq 5, 3) := by decide +kernel
theorem dL_law_714 : decode cL_law 714 = .ok (.iconst 0, 1) := by decide +kernel
theorem dL_law_715 : decode cL_law 715 = .ok (.ireturn, 1) := by decide +kernel
theorem dL_law_716 : decode cL_law 716 = .ok (.iconst 0, 1) := by decide +kernel
theorem dL_law_717 : decode cL_law 717 = .ok (.istore 23, 2) := by decide +kernel
theorem dL_law_719 : decode cL_law 719 = .ok (.iconst 0, 1) := by decide +kernel
theorem dL_law_720 : decode cL_law 720 = .ok (.istore 24, 2) := by decide +kernel
theorem dL_law_722 : decode cL_law 722 = .ok (.iload 24, 2) := by decide +kernel
theorem dL_law_724 : decode cL_law 724 = .ok (.bipush 20, 2) := by decide +kernel
theorem dL_law_726 : decode cL_law 726 = .ok (.if_icmp .ge 134, 3) := by decide +kernel
theorem dL_law_729 : decode cL_law 729 = .ok (.iconst 0, 1) := by decide +kernel
theorem dL_law_730 : decode cL_law 730 = .ok (.istore 25, 2) := by decide +kernel
theorem dL_law_732 : decode cL_law 732 = .ok (.iload 25, 2) := by decide +kernel
theorem dL_law_734 : decode cL_law 734 = .ok (.bipush 20, 2) := by decide +kernel
theorem dL_law_736 : decode cL_law 736 = .ok (.if_icmp .ge 118, 3) := by decide +kernel
theorem dL_law_739 : decode cL_law 739 = .ok (.iload 19, 2) := by decide +kernel
theorem dL_law_741 : decode cL_law 741 = .ok (.ifCond .ne 8, 3) := by decide +kernel
theorem dL_law_744 : decode cL_law 744 = .ok (.iload 25, 2) := by decide +kernel
theorem dL_law_746 : decode cL_law 746 = .ok (.goto 33, 3) := by decide +kernel
theorem dL_law_749 : decode cL_law 749 = .ok (.iload 19, 2) := by decide +kernel
theorem dL_law_751 : decode cL_law 751 = .ok (.iconst 1, 1) := by decide +kernel
theorem dL_law_752 : decode cL_law 752 = .ok (.if_icmp .ne 8, 3) := by decide +kernel
theorem dL_law_755 : decode cL_law 755 = .ok (.iload 24, 2) := by decide +kernel
theorem dL_law_757 : decode cL_law 757 = .ok (.goto 22, 3) := by decide +kernel
theorem dL_law_760 : decode cL_law 760 = .ok (.iload 19, 2) := by decide +kernel
theorem dL_law_762 : decode cL_law 762 = .ok (.iconst 2, 1) := by decide +kernel
theorem dL_law_763 : decode cL_law 763 = .ok (.if_icmp .ne 11, 3) := by decide +kernel
theorem dL_law_766 : decode cL_law 766 = .ok (.iload 24, 2) := by decide +kernel
theorem dL_law_768 : decode cL_law 768 = .ok (.iload 25, 2) := by decide +kernel
theorem dL_law_770 : decode cL_law 770 = .ok (.isub, 1) := by decide +kernel
theorem dL_law_771 : decode cL_law 771 = .ok (.goto 8, 3) := by decide +kernel
theorem dL_law_774 : decode cL_law 774 = .ok (.iload 24, 2) := by decide +kernel
theorem dL_law_776 : decode cL_law 776 = .ok (.iload 25, 2) := by decide +kernel
theorem dL_law_778 : decode cL_law 778 = .ok (.iadd, 1) := by decide +kernel
theorem dL_law_779 : decode cL_law 779 = .ok (.istore 26, 2) := by decide +kernel
theorem dL_law_781 : decode cL_law 781 = .ok (.iload 10, 2) := by decide +kernel
theorem dL_law_783 : decode cL_law 783 = .ok (.ifCond .eq 65, 3) := by decide +kernel
theorem dL_law_786 : decode cL_law 786 = .ok (.iload 26, 2) := by decide +kernel
theorem dL_law_788 : decode cL_law 788 = .ok (.iload 20, 2) := by decide +kernel
theorem dL_law_790 : decode cL_law 790 = .ok (.if_icmp .eq 6, 3) := by decide +kernel
theorem dL_law_793 : decode cL_law 793 = .ok (.goto 55, 3) := by decide +kernel
theorem dL_law_796 : decode cL_law 796 = .ok (.iload 23, 2) := by decide +kernel
theorem dL_law_798 : decode cL_law 798 = .ok (.aload_n 1, 1) := by decide +kernel
theorem dL_law_799 : decode cL_law 799 = .ok (.iload 24, 2) := by decide +kernel
theorem dL_law_801 : decode cL_law 801 = .ok (.iload 25, 2) := by decide +kernel
theorem dL_law_803 : decode cL_law 803 = .ok (.iconst 2, 1) := by decide +kernel
theorem dL_law_804 : decode cL_law 804 = .ok (.invokevirtual 124, 3) := by decide +kernel
theorem dL_law_807 : decode cL_law 807 = .ok (.ifCond .lt 7, 3) := by decide +kernel
theorem dL_law_810 : decode cL_law 810 = .ok (.iconst 1, 1) := by decide +kernel
theorem dL_law_811 : decode cL_law 811 = .ok (.goto 4, 3) := by decide +kernel
theorem dL_law_814 : decode cL_law 814 = .ok (.iconst 0, 1) := by decide +kernel
theorem dL_law_815 : decode cL_law 815 = .ok (.iadd, 1) := by decide +kernel
theorem dL_law_816 : decode cL_law 816 = .ok (.istore 23, 2) := by decide +kernel
theorem dL_law_818 : decode cL_law 818 = .ok (.aload_n 1, 1) := by decide +kernel
theorem dL_law_819 : decode cL_law 819 = .ok (.iload 21, 2) := by decide +kernel
theorem dL_law_821 : decode cL_law 821 = .ok (.iload 24, 2) := by decide +kernel
theorem dL_law_823 : decode cL_law 823 = .ok (.iload 25, 2) := by decide +kernel
theorem dL_law_825 : decode cL_law 825 = .ok (.invokevirtual 138, 3) := by decide +kernel
theorem dL_law_828 : decode cL_law 828 = .ok (.iload 22, 2) := by decide +kernel
theorem dL_law_830 : decode cL_law 830 = .ok (.if_icmp .gt 16, 3) := by decide +kernel
theorem dL_law_833 : decode cL_law 833 = .ok (.aload_n 1, 1) := by decide +kernel
theorem dL_law_834 : decode cL_law 834 = .ok (.iload 21, 2) := by decide +kernel
theorem dL_law_836 : decode cL_law 836 = .ok (.iload 24, 2) := by decide +kernel
theorem dL_law_838 : decode cL_law 838 = .ok (.iload 25, 2) := by decide +kernel
theorem dL_law_840 : decode cL_law 840 = .ok (.invokevirtual 138, 3) := by decide +kernel
theorem dL_law_843 : decode cL_law 843 = .ok (.ifCond .ge 5, 3) := by decide +kernel
theorem dL_law_846 : decode cL_law 846 = .ok (.iconst 0, 1) := by decide +kernel
theorem dL_law_847 : decode cL_law 847 = .ok (.ireturn, 1) := by decide +kernel
theorem dL_law_848 : decode cL_law 848 = .ok (.iinc 25 1, 3) := by decide +kernel
theorem dL_law_851 : decode cL_law 851 = .ok (.goto (-119), 3) := by decide +kernel
theorem dL_law_854 : decode cL_law 854 = .ok (.iinc 24 1, 3) := by decide +kernel
theorem dL_law_857 : decode cL_law 857 = .ok (.goto (-135), 3) := by decide +kernel
theorem dL_law_860 : decode cL_law 860 = .ok (.iload 23, 2) := by decide +kernel
theorem dL_law_862 : decode cL_law 862 = .ok (.iload 18, 2) := by decide +kernel
theorem dL_law_864 : decode cL_law 864 = .ok (.if_icmp .eq 5, 3) := by decide +kernel
theorem dL_law_867 : decode cL_law 867 = .ok (.iconst 0, 1) := by decide +kernel
theorem dL_law_868 : decode cL_law 868 = .ok (.ireturn, 1) := by decide +kernel
theorem dL_law_869 : decode cL_law 869 = .ok (.iconst 0, 1) := by decide +kernel
theorem dL_law_870 : decode cL_law 870 = .ok (.istore 24, 2) := by decide +kernel
theorem dL_law_872 : decode cL_law 872 = .ok (.iconst 0, 1) := by decide +kernel
theorem dL_law_873 : decode cL_law 873 = .ok (.istore 25, 2) := by decide +kernel
theorem dL_law_875 : decode cL_law 875 = .ok (.iload 25, 2) := by decide +kernel
theorem dL_law_877 : decode cL_law 877 = .ok (.aload_n 1, 1) := by decide +kernel
theorem dL_law_878 : decode cL_law 878 = .ok (.iconst 3, 1) := by decide +kernel
theorem dL_law_879 : decode cL_law 879 = .ok (.invokevirtual 118, 3) := by decide +kernel
theorem dL_law_882 : decode cL_law 882 = .ok (.if_icmp .ge 285, 3) := by decide +kernel
theorem dL_law_885 : decode cL_law 885 = .ok (.aload_n 1, 1) := by decide +kernel
theorem dL_law_886 : decode cL_law 886 = .ok (.iload 25, 2) := by decide +kernel
theorem dL_law_888 : decode cL_law 888 = .ok (.iconst 5, 1) := by decide +kernel
theorem dL_law_889 : decode cL_law 889 = .ok (.invokevirtual 141, 3) := by decide +kernel
theorem dL_law_892 : decode cL_law 892 = .ok (.aload_n 1, 1) := by decide +kernel
theorem dL_law_893 : decode cL_law 893 = .ok (.iload 25, 2) := by decide +kernel
theorem dL_law_895 : decode cL_law 895 = .ok (.bipush 6, 2) := by decide +kernel
theorem dL_law_897 : decode cL_law 897 = .ok (.invokevirtual 141, 3) := by decide +kernel
theorem dL_law_900 : decode cL_law 900 = .ok (.iadd, 1) := by decide +kernel
theorem dL_law_901 : decode cL_law 901 = .ok (.istore 26, 2) := by decide +kernel
theorem dL_law_903 : decode cL_law 903 = .ok (.aload_n 1, 1) := by decide +kernel
theorem dL_law_904 : decode cL_law 904 = .ok (.iload 25, 2) := by decide +kernel
theorem dL_law_906 : decode cL_law 906 = .ok (.iconst 4, 1) := by decide +kernel
theorem dL_law_907 : decode cL_law 907 = .ok (.invokevirtual 141, 3) := by decide +kernel
theorem dL_law_910 : decode cL_law 910 = .ok (.iconst 1, 1) := by decide +kernel
theorem dL_law_911 : decode cL_law 911 = .ok (.if_icmp .ne 7, 3) := by decide +kernel
theorem dL_law_914 : decode cL_law 914 = .ok (.iconst 1, 1) := by decide +kernel
theorem dL_law_915 : decode cL_law 915 = .ok (.goto 4, 3) := by decide +kernel
theorem dL_law_918 : decode cL_law 918 = .ok (.iconst 0, 1) := by decide +kernel
theorem dL_law_919 : decode cL_law 919 = .ok (.istore 27, 2) := by decide +kernel
theorem dL_law_921 : decode cL_law 921 = .ok (.aload_n 1, 1) := by decide +kernel
theorem dL_law_922 : decode cL_law 922 = .ok (.iload 25, 2) := by decide +kernel
theorem dL_law_924 : decode cL_law 924 = .ok (.iconst 2, 1) := by decide +kernel
theorem dL_law_925 : decode cL_law 925 = .ok (.invokevirtual 141, 3) := by decide +kernel
theorem dL_law_928 : decode cL_law 928 = .ok (.bipush 20, 2) := by decide +kernel
theorem dL_law_930 : decode cL_law 930 = .ok (.if_icmp .gt 60, 3) := by decide +kernel
theorem dL_law_933 : decode cL_law 933 = .ok (.aload_n 1, 1) := by decide +kernel
theorem dL_law_934 : decode cL_law 934 = .ok (.iload 25, 2) := by decide +kernel
theorem dL_law_936 : decode cL_law 936 = .ok (.iconst 3, 1) := by decide +kernel
theorem dL_law_937 : decode cL_law 937 = .ok (.invokevirtual 141, 3) := by decide +kernel
theorem dL_law_940 : decode cL_law 940 = .ok (.iconst 1, 1) := by decide +kernel
theorem dL_law_941 : decode cL_law 941 = .ok (.if_icmp .ne 8, 3) := by decide +kernel
theorem dL_law_944 : decode cL_law 944 = .ok (.iload 27, 2) := by decide +kernel
theorem dL_law_946 : decode cL_law 946 = .ok (.ifCond .eq 44, 3) := by decide +kernel
theorem dL_law_949 : decode cL_law 949 = .ok (.aload_n 1, 1) := by decide +kernel
theorem dL_law_950 : decode cL_law 950 = .ok (.iload 25, 2) := by decide +kernel
theorem dL_law_952 : decode cL_law 952 = .ok (.iconst 2, 1) := by decide +kernel
theorem dL_law_953 : decode cL_law 953 = .ok (.invokevirtual 141, 3) := by decide +kernel
theorem dL_law_956 : decode cL_law 956 = .ok (.bipush 20, 2) := by decide +kernel
theorem dL_law_958 : decode cL_law 958 = .ok (.if_icmp .ne 8, 3) := by decide +kernel
theorem dL_law_961 : decode cL_law 961 = .ok (.iload 27, 2) := by decide +kernel
theorem dL_law_963 : decode cL_law 963 = .ok (.ifCond .eq 27, 3) := by decide +kernel
theorem dL_law_966 : decode cL_law 966 = .ok (.aload_n 1, 1) := by decide +kernel
theorem dL_law_967 : decode cL_law 967 = .ok (.aload_n 1, 1) := by decide +kernel
theorem dL_law_968 : decode cL_law 968 = .ok (.iload 25, 2) := by decide +kernel
theorem dL_law_970 : decode cL_law 970 = .ok (.iconst 0, 1) := by decide +kernel
theorem dL_law_971 : decode cL_law 971 = .ok (.invokevirtual 141, 3) := by decide +kernel
theorem dL_law_974 : decode cL_law 974 = .ok (.aload_n 1, 1) := by decide +kernel
theorem dL_law_975 : decode cL_law 975 = .ok (.iload 25, 2) := by decide +kernel
theorem dL_law_977 : decode cL_law 977 = .ok (.iconst 1, 1) := by decide +kernel
theorem dL_law_978 : decode cL_law 978 = .ok (.invokevirtual 141, 3) := by decide +kernel
theorem dL_law_981 : decode cL_law 981 = .ok (.iconst 3, 1) := by decide +kernel
theorem dL_law_982 : decode cL_law 982 = .ok (.invokevirtual 124, 3) := by decide +kernel
theorem dL_law_985 : decode cL_law 985 = .ok (.iload 25, 2) := by decide +kernel
theorem dL_law_987 : decode cL_law 987 = .ok (.if_icmp .eq 5, 3) := by decide +kernel
theorem dL_law_990 : decode cL_law 990 = .ok (.iconst 0, 1) := by decide +kernel
theorem dL_law_991 : decode cL_law 991 = .ok (.ireturn, 1) := by decide +kernel
theorem dL_law_992 : decode cL_law 992 = .ok (.iconst 0, 1) := by decide +kernel
theorem dL_law_993 : decode cL_law 993 = .ok (.istore 28, 2) := by decide +kernel
theorem dL_law_995 : decode cL_law 995 = .ok (.iconst 0, 1) := by decide +kernel
theorem dL_law_996 : decode cL_law 996 = .ok (.istore 29, 2) := by decide +kernel
theorem dL_law_998 : decode cL_law 998 = .ok (.iconst 0, 1) := by decide +kernel
theorem dL_law_999 : decode cL_law 999 = .ok (.istore 30, 2) := by decide +kernel
theorem dL_law_1001 : decode cL_law 1001 = .ok (.iload 30, 2) := by decide +kernel
theorem dL_law_1003 : decode cL_law 1003 = .ok (.iload 7, 2) := by decide +kernel
theorem dL_law_1005 : decode cL_law 1005 = .ok (.if_icmp .ge 67, 3) := by decide +kernel
theorem dL_law_1008 : decode cL_law 1008 = .ok (.iload 28, 2) := by decide +kernel
theorem dL_law_1010 : decode cL_law 1010 = .ok (.aload_n 1, 1) := by decide +kernel
theorem dL_law_1011 : decode cL_law 1011 = .ok (.iload 25, 2) := by decide +kernel
theorem dL_law_1013 : decode cL_law 1013 = .ok (.iload 30, 2) := by decide +kernel
theorem dL_law_1015 : decode cL_law 1015 = .ok (.iconst 1, 1) := by decide +kernel
theorem dL_law_1016 : decode cL_law 1016 = .ok (.invokevirtual 144, 3) := by decide +kernel
theorem dL_law_1019 : decode cL_law 1019 = .ok (.iadd, 1) := by decide +kernel
theorem dL_law_1020 : decode cL_law 1020 = .ok (.istore 28, 2) := by decide +kernel
theorem dL_law_1022 : decode cL_law 1022 = .ok (.iload 29, 2) := by decide +kernel
theorem dL_law_1024 : decode cL_law 1024 = .ok (.aload_n 1, 1) := by decide +kernel
theorem dL_law_1025 : decode cL_law 1025 = .ok (.iload 25, 2) := by decide +kernel
theorem dL_law_1027 : decode cL_law 1027 = .ok (.iload 30, 2) := by decide +kernel
theorem dL_law_1029 : decode cL_law 1029 = .ok (.iconst 0, 1) := by decide +kernel
theorem dL_law_1030 : decode cL_law 1030 = .ok (.invokevirtual 144, 3) := by decide +kernel
theorem dL_law_1033 : decode cL_law 1033 = .ok (.iadd, 1) := by decide +kernel
theorem dL_law_1034 : decode cL_law 1034 = .ok (.istore 29, 2) := by decide +kernel
theorem dL_law_1036 : decode cL_law 1036 = .ok (.iload 24, 2) := by decide +kernel
theorem dL_law_1038 : decode cL_law 1038 = .ok (.iload 27, 2) := by decide +kernel
theorem dL_law_1040 : decode cL_law 1040 = .ok (.ifCond .eq 22, 3) := by decide +kernel
theorem dL_law_1043 : decode cL_law 1043 = .ok (.aload_n 2, 1) := by decide +kernel
theorem dL_law_1044 : decode cL_law 1044 = .ok (.getfield 66, 3) := by decide +kernel
theorem dL_law_1047 : decode cL_law 1047 = .ok (.iload 25, 2) := by decide +kernel
theorem dL_law_1049 : decode cL_law 1049 = .ok (.aaload, 1) := by decide +kernel
theorem dL_law_1050 : decode cL_law 1050 = .ok (.iconst 4, 1) := by decide +kernel
theorem dL_law_1051 : decode cL_law 1051 = .ok (.iload 30, 2) := by decide +kernel
theorem dL_law_1053 : decode cL_law 1053 = .ok (.iadd, 1) := by decide +kernel
theorem dL_law_1054 : decode cL_law 1054 = .ok (.iaload, 1) := by decide +kernel
theorem dL_law_1055 : decode cL_law 1055 = .ok (.ifCond .eq 7, 3) := by decide +kernel
theorem dL_law_1058 : decode cL_law 1058 = .ok (.iconst 1, 1) := by decide +kernel
theorem dL_law_1059 : decode cL_law 1059 = .ok (.goto 4, 3) := by decide +kernel
theorem dL_law_1062 : decode cL_law 1062 = .ok (.iconst 0, 1) := by decide +kernel
theorem dL_law_1063 : decode cL_law 1063 = .ok (.iadd, 1) := by decide +kernel
theorem dL_law_1064 : decode cL_law 1064 = .ok (.istore 24, 2) := by decide +kernel
theorem dL_law_1066 : decode cL_law 1066 = .ok (.iinc 30 1, 3) := by decide +kernel
theorem dL_law_1069 : decode cL_law 1069 = .ok (.goto (-68), 3) := by decide +kernel
theorem dL_law_1072 : decode cL_law 1072 = .ok (.iload 27, 2) := by decide +kernel
theorem dL_law_1074 : decode cL_law 1074 = .ok (.ifCond .eq 14, 3) := by decide +kernel
theorem dL_law_1077 : decode cL_law 1077 = .ok (.iload 28, 2) := by decide +kernel
theorem dL_law_1079 : decode cL_law 1079 = .ok (.iload 29, 2) := by decide +kernel
theorem dL_law_1081 : decode cL_law 1081 = .ok (.iadd, 1) := by decide +kernel
theorem dL_law_1082 : decode cL_law 1082 = .ok (.ifCond .le 79, 3) := by decide +kernel
theorem dL_law_1085 : decode cL_law 1085 = .ok (.goto 74, 3) := by decide +kernel
theorem dL_law_1088 : decode cL_law 1088 = .ok (.iload 28, 2) := by decide +kernel
theorem dL_law_1090 : decode cL_law 1090 = .ok (.iload 26, 2) := by decide +kernel
theorem dL_law_1092 : decode cL_law 1092 = .ok (.if_icmp .gt 67, 3) := by decide +kernel
theorem dL_law_1095 : decode cL_law 1095 = .ok (.iload 29, 2) := by decide +kernel
theorem dL_law_1097 : decode cL_law 1097 = .ok (.iload 26, 2) := by decide +kernel
theorem dL_law_1099 : decode cL_law 1099 = .ok (.if_icmp .gt 60, 3) := by decide +kernel
theorem dL_law_1102 : decode cL_law 1102 = .ok (.iload 28, 2) := by decide +kernel
theorem dL_law_1104 : decode cL_law 1104 = .ok (.ifCond .ne 7, 3) := by decide +kernel
theorem dL_law_1107 : decode cL_law 1107 = .ok (.iconst 1, 1) := by decide +kernel
theorem dL_law_1108 : decode cL_law 1108 = .ok (.goto 4, 3) := by decide +kernel
theorem dL_law_1111 : decode cL_law 1111 = .ok (.iconst 0, 1) := by decide +kernel
theorem dL_law_1112 : decode cL_law 1112 = .ok (.aload_n 1, 1) := by decide +kernel
theorem dL_law_1113 : decode cL_law 1113 = .ok (.iload 25, 2) := by decide +kernel
theorem dL_law_1115 : decode cL_law 1115 = .ok (.iconst 5, 1) := by decide +kernel
theorem dL_law_1116 : decode cL_law 1116 = .ok (.invokevirtual 141, 3) := by decide +kernel
theorem dL_law_1119 : decode cL_law 1119 = .ok (.ifCond .ne 7, 3) := by decide +kernel
theorem dL_law_1122 : decode cL_law 1122 = .ok (.iconst 1, 1) := by decide +kernel
theorem dL_law_1123 : decode cL_law 1123 = .ok (.goto 4, 3) := by decide +kernel
theorem dL_law_1126 : decode cL_law 1126 = .ok (.iconst 0, 1) := by decide +kernel
theorem dL_law_1127 : decode cL_law 1127 = .ok (.if_icmp .ne 32, 3) := by decide +kernel
theorem dL_law_1130 : decode cL_law 1130 = .ok (.iload 29, 2) := by decide +kernel
theorem dL_law_1132 : decode cL_law 1132 = .ok (.ifCond .ne 7, 3) := by decide +kernel
theorem dL_law_1135 : decode cL_law 1135 = .ok (.iconst 1, 1) := by decide +kernel
theorem dL_law_1136 : decode cL_law 1136 = .ok (.goto 4, 3) := by decide +kernel
theorem dL_law_1139 : decode cL_law 1139 = .ok (.iconst 0, 1) := by decide +kernel
theorem dL_law_1140 : decode cL_law 1140 = .ok (.aload_n 1, 1) := by decide +kernel
theorem dL_law_1141 : decode cL_law 1141 = .ok (.iload 25, 2) := by decide +kernel
theorem dL_law_1143 : decode cL_law 1143 = .ok (.bipush 6, 2) := by decide +kernel
theorem dL_law_1145 : decode cL_law 1145 = .ok (.invokevirtual 141, 3) := by decide +kernel
theorem dL_law_1148 : decode cL_law 1148 = .ok (.ifCond .ne 7, 3) := by decide +kernel
theorem dL_law_1151 : decode cL_law 1151 = .ok (.iconst 1, 1) := by decide +kernel
theorem dL_law_1152 : decode cL_law 1152 = .ok (.goto 4, 3) := by decide +kernel
theorem dL_law_1155 : decode cL_law 1155 = .ok (.iconst 0, 1) := by decide +kernel
theorem dL_law_1156 : decode cL_law 1156 = .ok (.if_icmp .eq 5, 3) := by decide +kernel
theorem dL_law_1159 : decode cL_law 1159 = .ok (.iconst 0, 1) := by decide +kernel
theorem dL_law_1160 : decode cL_law 1160 = .ok (.ireturn, 1) := by decide +kernel
theorem dL_law_1161 : decode cL_law 1161 = .ok (.iinc 25 1, 3) := by decide +kernel
theorem dL_law_1164 : decode cL_law 1164 = .ok (.goto (-289), 3) := by decide +kernel
theorem dL_law_1167 : decode cL_law 1167 = .ok (.iload 24, 2) := by decide +kernel
theorem dL_law_1169 : decode cL_law 1169 = .ok (.iload 11, 2) := by decide +kernel
theorem dL_law_1171 : decode cL_law 1171 = .ok (.if_icmp .ne 13, 3) := by decide +kernel
theorem dL_law_1174 : decode cL_law 1174 = .ok (.aload_n 1, 1) := by decide +kernel
theorem dL_law_1175 : decode cL_law 1175 = .ok (.invokevirtual 114, 3) := by decide +kernel
theorem dL_law_1178 : decode cL_law 1178 = .ok (.lload 5, 2) := by decide +kernel
theorem dL_law_1180 : decode cL_law 1180 = .ok (.lcmp, 1) := by decide +kernel
theorem dL_law_1181 : decode cL_law 1181 = .ok (.ifCond .eq 5, 3) := by decide +kernel
theorem dL_law_1184 : decode cL_law 1184 = .ok (.iconst 0, 1) := by decide +kernel
theorem dL_law_1185 : decode cL_law 1185 = .ok (.ireturn, 1) := by decide +kernel
theorem dL_law_1186 : decode cL_law 1186 = .ok (.iconst 0, 1) := by decide +kernel
theorem dL_law_1187 : decode cL_law 1187 = .ok (.istore 25, 2) := by decide +kernel
theorem dL_law_1189 : decode cL_law 1189 = .ok (.iload 25, 2) := by decide +kernel
theorem dL_law_1191 : decode cL_law 1191 = .ok (.aload_n 1, 1) := by decide +kernel
theorem dL_law_1192 : decode cL_law 1192 = .ok (.iconst 3, 1) := by decide +kernel
theorem dL_law_1193 : decode cL_law 1193 = .ok (.invokevirtual 118, 3) := by decide +kernel
theorem dL_law_1196 : decode cL_law 1196 = .ok (.if_icmp .ge 272, 3) := by decide +kernel
theorem dL_law_1199 : decode cL_law 1199 = .ok (.aload_n 1, 1) := by decide +kernel
theorem dL_law_1200 : decode cL_law 1200 = .ok (.iload 25, 2) := by decide +kernel
theorem dL_law_1202 : decode cL_law 1202 = .ok (.iconst 4, 1) := by decide +kernel
theorem dL_law_1203 : decode cL_law 1203 = .ok (.invokevirtual 141, 3) := by decide +kernel
theorem dL_law_1206 : decode cL_law 1206 = .ok (.iconst 1, 1) := by decide +kernel
theorem dL_law_1207 : decode cL_law 1207 = .ok (.if_icmp .eq 255, 3) := by decide +kernel
theorem dL_law_1210 : decode cL_law 1210 = .ok (.iload 4, 2) := by decide +kernel
theorem dL_law_1212 : decode cL_law 1212 = .ok (.bipush 7, 2) := by decide +kernel
theorem dL_law_1214 : decode cL_law 1214 = .ok (.ishr, 1) := by decide +kernel
theorem dL_law_1215 : decode cL_law 1215 = .ok (.iconst 2, 1) := by decide +kernel
theorem dL_law_1216 : decode cL_law 1216 = .ok (.invokestatic 9, 3) := by decide +kernel
theorem dL_law_1219 : decode cL_law 1219 = .ok (.ifCond .ne 6, 3) := by decide +kernel
theorem dL_law_1222 : decode cL_law 1222 = .ok (.goto 240, 3) := by decide +kernel
theorem dL_law_1225 : decode cL_law 1225 = .ok (.iconst 2, 1) := by decide +kernel
theorem dL_law_1226 : decode cL_law 1226 = .ok (.iload 7, 2) := by decide +kernel
theorem dL_law_1228 : decode cL_law 1228 = .ok (.multianewarray 148 2, 4) := by decide +kernel
theorem dL_law_1232 : decode cL_law 1232 = .ok (.astore 26, 2) := by decide +kernel
theorem dL_law_1234 : decode cL_law 1234 = .ok (.iconst 0, 1) := by decide +kernel
theorem dL_law_1235 : decode cL_law 1235 = .ok (.istore 27, 2) := by decide +kernel
theorem dL_law_1237 : decode cL_law 1237 = .ok (.iload 27, 2) := by decide +kernel
theorem dL_law_1239 : decode cL_law 1239 = .ok (.iload 7, 2) := by decide +kernel
theorem dL_law_1241 : decode cL_law 1241 = .ok (.if_icmp .ge 57, 3) := by decide +kernel
theorem dL_law_1244 : decode cL_law 1244 = .ok (.aload 26, 2) := by decide +kernel
theorem dL_law_1246 : decode cL_law 1246 = .ok (.iconst 0, 1) := by decide +kernel
theorem dL_law_1247 : decode cL_law 1247 = .ok (.aaload, 1) := by decide +kernel
theorem dL_law_1248 : decode cL_law 1248 = .ok (.iload 27, 2) := by decide +kernel
theorem dL_law_1250 : decode cL_law 1250 = .ok (.aload_n 1, 1) := by decide +kernel
theorem dL_law_1251 : decode cL_law 1251 = .ok (.iload 27, 2) := by decide +kernel
theorem dL_law_1253 : decode cL_law 1253 = .ok (.iconst 2, 1) := by decide +kernel
theorem dL_law_1254 : decode cL_law 1254 = .ok (.invokevirtual 121, 3) := by decide +kernel
theorem dL_law_1257 : decode cL_law 1257 = .ok (.aload_n 1, 1) := by decide +kernel
theorem dL_law_1258 : decode cL_law 1258 = .ok (.iload 25, 2) := by decide +kernel
theorem dL_law_1260 : decode cL_law 1260 = .ok (.iload 27, 2) := by decide +kernel
theorem dL_law_1262 : decode cL_law 1262 = .ok (.iconst 0, 1) := by decide +kernel
theorem dL_law_1263 : decode cL_law 1263 = .ok (.invokevirtual 144, 3) := by decide +kernel
theorem dL_law_1266 : decode cL_law 1266 = .ok (.iadd, 1) := by decide +kernel
theorem dL_law_1267 : decode cL_law 1267 = .ok (.iastore, 1) := by decide +kernel
theorem dL_law_1268 : decode cL_law 1268 = .ok (.aload 26, 2) := by decide +kernel
theorem dL_law_1270 : decode cL_law 1270 = .ok (.iconst 1, 1) := by decide +kernel
theorem dL_law_1271 : decode cL_law 1271 = .ok (.aaload, 1) := by decide +kernel
theorem dL_law_1272 : decode cL_law 1272 = .ok (.iload 27, 2) := by decide +kernel
theorem dL_law_1274 : decode cL_law 1274 = .ok (.aload_n 1, 1) := by decide +kernel
theorem dL_law_1275 : decode cL_law 1275 = .ok (.iload 27, 2) := by decide +kernel
theorem dL_law_1277 : decode cL_law 1277 = .ok (.iconst 2, 1) := by decide +kernel
theorem dL_law_1278 : decode cL_law 1278 = .ok (.invokevirtual 121, 3) := by decide +kernel
theorem dL_law_1281 : decode cL_law 1281 = .ok (.aload_n 1, 1) := by decide +kernel
theorem dL_law_1282 : decode cL_law 1282 = .ok (.iload 25, 2) := by decide +kernel
theorem dL_law_1284 : decode cL_law 1284 = .ok (.iload 27, 2) := by decide +kernel
theorem dL_law_1286 : decode cL_law 1286 = .ok (.iconst 1, 1) := by decide +kernel
theorem dL_law_1287 : decode cL_law 1287 = .ok (.invokevirtual 144, 3) := by decide +kernel
theorem dL_law_1290 : decode cL_law 1290 = .ok (.iadd, 1) := by decide +kernel
theorem dL_law_1291 : decode cL_law 1291 = .ok (.iastore, 1) := by decide +kernel
theorem dL_law_1292 : decode cL_law 1292 = .ok (.iinc 27 1, 3) := by decide +kernel
theorem dL_law_1295 : decode cL_law 1295 = .ok (.goto (-58), 3) := by decide +kernel
theorem dL_law_1298 : decode cL_law 1298 = .ok (.aload_n 1, 1) := by decide +kernel
theorem dL_law_1299 : decode cL_law 1299 = .ok (.bipush 7, 2) := by decide +kernel
theorem dL_law_1301 : decode cL_law 1301 = .ok (.invokevirtual 118, 3) := by decide +kernel
theorem dL_law_1304 : decode cL_law 1304 = .ok (.istore 27, 2) := by decide +kernel
theorem dL_law_1306 : decode cL_law 1306 = .ok (.aload_n 1, 1) := by decide +kernel
theorem dL_law_1307 : decode cL_law 1307 = .ok (.iload 25, 2) := by decide +kernel
theorem dL_law_1309 : decode cL_law 1309 = .ok (.bipush 20, 2) := by decide +kernel
theorem dL_law_1311 : decode cL_law 1311 = .ok (.invokevirtual 96, 3) := by decide +kernel
theorem dL_law_1314 : decode cL_law 1314 = .ok (.istore 28, 2) := by decide +kernel
theorem dL_law_1316 : decode cL_law 1316 = .ok (.aload_n 2, 1) := by decide +kernel
theorem dL_law_1317 : decode cL_law 1317 = .ok (.iload 25, 2) := by decide +kernel
theorem dL_law_1319 : decode cL_law 1319 = .ok (.bipush 20, 2) := by decide +kernel
theorem dL_law_1321 : decode cL_law 1321 = .ok (.invokevirtual 93, 3) := by decide +kernel
theorem dL_law_1324 : decode cL_law 1324 = .ok (.iload 28, 2) := by decide +kernel
theorem dL_law_1326 : decode cL_law 1326 = .ok (.if_icmp .ne 26, 3) := by decide +kernel
theorem dL_law_1329 : decode cL_law 1329 = .ok (.aload_n 1, 1) := by decide +kernel
theorem dL_law_1330 : decode cL_law 1330 = .ok (.iload 25, 2) := by decide +kernel
theorem dL_law_1332 : decode cL_law 1332 = .ok (.iconst 4, 1) := by decide +kernel
theorem dL_law_1333 : decode cL_law 1333 = .ok (.invokevirtual 141, 3) := by decide +kernel
theorem dL_law_1336 : decode cL_law 1336 = .ok (.iconst 1, 1) := by decide +kernel
theorem dL_law_1337 : decode cL_law 1337 = .ok (.if_icmp .ne 15, 3) := by decide +kernel
theorem dL_law_1340 : decode cL_law 1340 = .ok (.aload_n 1, 1) := by decide +kernel
theorem dL_law_1341 : decode cL_law 1341 = .ok (.iload 25, 2) := by decide +kernel
theorem dL_law_1343 : decode cL_law 1343 = .ok (.iconst 2, 1) := by decide +kernel
theorem dL_law_1344 : decode cL_law 1344 = .ok (.invokevirtual 141, 3) := by decide +kernel
theorem dL_law_1347 : decode cL_law 1347 = .ok (.iload 28, 2) := by decide +kernel
theorem dL_law_1349 : decode cL_law 1349 = .ok (.if_icmp .eq 5, 3) := by decide +kernel
theorem dL_law_1352 : decode cL_law 1352 = .ok (.iconst 0, 1) := by decide +kernel
theorem dL_law_1353 : decode cL_law 1353 = .ok (.ireturn, 1) := by decide +kernel
theorem dL_law_1354 : decode cL_law 1354 = .ok (.aload_n 1, 1) := by decide +kernel
theorem dL_law_1355 : decode cL_law 1355 = .ok (.iload 25, 2) := by decide +kernel
theorem dL_law_1357 : decode cL_law 1357 = .ok (.iconst 3, 1) := by decide +kernel
theorem dL_law_1358 : decode cL_law 1358 = .ok (.invokevirtual 141, 3) := by decide +kernel
theorem dL_law_1361 : decode cL_law 1361 = .ok (.istore 29, 2) := by decide +kernel
theorem dL_law_1363 : decode cL_law 1363 = .ok (.iconst 0, 1) := by decide +kernel
theorem dL_law_1364 : decode cL_law 1364 = .ok (.istore 30, 2) := by decide +kernel
theorem dL_law_1366 : decode cL_law 1366 = .ok (.iload 30, 2) := by decide +kernel
theorem dL_law_1368 : decode cL_law 1368 = .ok (.iload 7, 2) := by decide +kernel
theorem dL_law_1370 : decode cL_law 1370 = .ok (.if_icmp .ge 51, 3) := by decide +kernel
theorem dL_law_1373 : decode cL_law 1373 = .ok (.aload_n 1, 1) := by decide +kernel
theorem dL_law_1374 : decode cL_law 1374 = .ok (.iload 30, 2) := by decide +kernel
theorem dL_law_1376 : decode cL_law 1376 = .ok (.iconst 2, 1) := by decide +kernel
theorem dL_law_1377 : decode cL_law 1377 = .ok (.invokevirtual 121, 3) := by decide +kernel
theorem dL_law_1380 : decode cL_law 1380 = .ok (.aload 26, 2) := by decide +kernel
theorem dL_law_1382 : decode cL_law 1382 = .ok (.iload 29, 2) := by decide +kernel
theorem dL_law_1384 : decode cL_law 1384 = .ok (.aaload, 1) := by decide +kernel
theorem dL_law_1385 : decode cL_law 1385 = .ok (.iload 30, 2) := by decide +kernel
theorem dL_law_1387 : decode cL_law 1387 = .ok (.iaload, 1) := by decide +kernel
theorem dL_law_1388 : decode cL_law 1388 = .ok (.if_icmp .ne 25, 3) := by decide +kernel
theorem dL_law_1391 : decode cL_law 1391 = .ok (.aload_n 1, 1) := by decide +kernel
theorem dL_law_1392 : decode cL_law 1392 = .ok (.iload 25, 2) := by decide +kernel
theorem dL_law_1394 : decode cL_law 1394 = .ok (.iload 30, 2) := by decide +kernel
theorem dL_law_1396 : decode cL_law 1396 = .ok (.iload 29, 2) := by decide +kernel
theorem dL_law_1398 : decode cL_law 1398 = .ok (.iconst 1, 1) := by decide +kernel
theorem dL_law_1399 : decode cL_law 1399 = .ok (.if_icmp .ne 7, 3) := by decide +kernel
theorem dL_law_1402 : decode cL_law 1402 = .ok (.iconst 1, 1) := by decide +kernel
theorem dL_law_1403 : decode cL_law 1403 = .ok (.goto 4, 3) := by decide +kernel
theorem dL_law_1406 : decode cL_law 1406 = .ok (.iconst 0, 1) := by decide +kernel
theorem dL_law_1407 : decode cL_law 1407 = .ok (.invokevirtual 144, 3) := by decide +kernel
theorem dL_law_1410 : decode cL_law 1410 = .ok (.ifCond .eq 5, 3) := by decide +kernel
theorem dL_law_1413 : decode cL_law 1413 = .ok (.iconst 0, 1) := by decide +kernel
theorem dL_law_1414 : decode cL_law 1414 = .ok (.ireturn, 1) := by decide +kernel
theorem dL_law_1415 : decode cL_law 1415 = .ok (.iinc 30 1, 3) := by decide +kernel
theorem dL_law_1418 : decode cL_law 1418 = .ok (.goto (-52), 3) := by decide +kernel
theorem dL_law_1421 : decode cL_law 1421 = .ok (.aload_n 1, 1) := by decide +kernel
theorem dL_law_1422 : decode cL_law 1422 = .ok (.bipush 7, 2) := by decide +kernel
theorem dL_law_1424 : decode cL_law 1424 = .ok (.invokevirtual 118, 3) := by decide +kernel
theorem dL_law_1427 : decode cL_law 1427 = .ok (.iload 27, 2) := by decide +kernel
theorem dL_law_1429 : decode cL_law 1429 = .ok (.if_icmp .lt 31, 3) := by decide +kernel
theorem dL_law_1432 : decode cL_law 1432 = .ok (.aload_n 1, 1) := by decide +kernel
theorem dL_law_1433 : decode cL_law 1433 = .ok (.bipush 7, 2) := by decide +kernel
theorem dL_law_1435 : decode cL_law 1435 = .ok (.invokevirtual 118, 3) := by decide +kernel
theorem dL_law_1438 : decode cL_law 1438 = .ok (.iload 27, 2) := by decide +kernel
theorem dL_law_1440 : decode cL_law 1440 = .ok (.aload_n 1, 1) := by decide +kernel
theorem dL_law_1441 : decode cL_law 1441 = .ok (.iload 25, 2) := by decide +kernel
theorem dL_law_1443 : decode cL_law 1443 = .ok (.iconst 5, 1) := by decide +kernel
theorem dL_law_1444 : decode cL_law 1444 = .ok (.invokevirtual 141, 3) := by decide +kernel
theorem dL_law_1447 : decode cL_law 1447 = .ok (.iadd, 1) := by decide +kernel
theorem dL_law_1448 : decode cL_law 1448 = .ok (.aload_n 1, 1) := by decide +kernel
theorem dL_law_1449 : decode cL_law 1449 = .ok (.iload 25, 2) := by decide +kernel
theorem dL_law_1451 : decode cL_law 1451 = .ok (.bipush 6, 2) := by decide +kernel
theorem dL_law_1453 : decode cL_law 1453 = .ok (.invokevirtual 141, 3) := by decide +kernel
theorem dL_law_1456 : decode cL_law 1456 = .ok (.iadd, 1) := by decide +kernel
theorem dL_law_1457 : decode cL_law 1457 = .ok (.if_icmp .le 11, 3) := by decide +kernel
theorem dL_law_1460 : decode cL_law 1460 = .ok (.iconst 0, 1) := by decide +kernel
theorem dL_law_1461 : decode cL_law 1461 = .ok (.ireturn, 1) := by decide +kernel
theorem dL_law_1462 : decode cL_law 1462 = .ok (.iinc 25 1, 3) := by decide +kernel
theorem dL_law_1465 : decode cL_law 1465 = .ok (.goto (-276), 3) := by decide +kernel
theorem dL_law_1468 : decode cL_law 1468 = .ok (.iinc 3 1, 3) := by decide +kernel
theorem dL_law_1471 : decode cL_law 1471 = .ok (.goto (-1449), 3) := by decide +kernel
theorem dL_law_1474 : decode cL_law 1474 = .ok (.aload_n 2, 1) := by decide +kernel
theorem dL_law_1475 : decode cL_law 1475 = .ok (.aload_n 1, 1) := by decide +kernel
theorem dL_law_1476 : decode cL_law 1476 = .ok (.invokevirtual 149, 3) := by decide +kernel
theorem dL_law_1479 : decode cL_law 1479 = .ok (.ireturn, 1) := by decide +kernel
