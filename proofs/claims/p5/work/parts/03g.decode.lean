theorem dX12_outputs_11 : decode cX12_outputs 11 = .ok (.dup, 1) := by decide +kernel
theorem dX12_outputs_12 : decode cX12_outputs 12 = .ok (.getfield 675, 3) := by decide +kernel
theorem dX12_outputs_15 : decode cX12_outputs 15 = .ok (.iconst 1, 1) := by decide +kernel
theorem dX12_outputs_16 : decode cX12_outputs 16 = .ok (.iadd, 1) := by decide +kernel
theorem dX12_outputs_17 : decode cX12_outputs 17 = .ok (.putfield 675, 3) := by decide +kernel
theorem dX12_outputs_20 : decode cX12_outputs 20 = .ok (.return_, 1) := by decide +kernel
theorem dX12_enters_0 : decode cX12_enters 0 = .ok (.aload_n 0, 1) := by decide +kernel
theorem dX12_enters_1 : decode cX12_enters 1 = .ok (.getfield 681, 3) := by decide +kernel
theorem dX12_enters_4 : decode cX12_enters 4 = .ok (.aload_n 0, 1) := by decide +kernel
theorem dX12_enters_5 : decode cX12_enters 5 = .ok (.getfield 693, 3) := by decide +kernel
theorem dX12_enters_8 : decode cX12_enters 8 = .ok (.if_icmp .ne 11, 3) := by decide +kernel
theorem dX12_enters_11 : decode cX12_enters 11 = .ok (.aload_n 0, 1) := by decide +kernel
theorem dX12_enters_12 : decode cX12_enters 12 = .ok (.iconst 2, 1) := by decide +kernel
theorem dX12_enters_13 : decode cX12_enters 13 = .ok (.putfield 684, 3) := by decide +kernel
theorem dX12_enters_16 : decode cX12_enters 16 = .ok (.goto 13, 3) := by decide +kernel
theorem dX12_enters_19 : decode cX12_enters 19 = .ok (.aload_n 0, 1) := by decide +kernel
theorem dX12_enters_20 : decode cX12_enters 20 = .ok (.dup, 1) := by decide +kernel
theorem dX12_enters_21 : decode cX12_enters 21 = .ok (.getfield 681, 3) := by decide +kernel
theorem dX12_enters_24 : decode cX12_enters 24 = .ok (.iconst 1, 1) := by decide +kernel
theorem dX12_enters_25 : decode cX12_enters 25 = .ok (.iadd, 1) := by decide +kernel
theorem dX12_enters_26 : decode cX12_enters 26 = .ok (.putfield 681, 3) := by decide +kernel
theorem dX12_enters_29 : decode cX12_enters 29 = .ok (.return_, 1) := by decide +kernel
theorem dX12_throwsIt_0 : decode cX12_throwsIt 0 = .ok (.aload_n 0, 1) := by decide +kernel
theorem dX12_throwsIt_1 : decode cX12_throwsIt 1 = .ok (.iconst 1, 1) := by decide +kernel
theorem dX12_throwsIt_2 : decode cX12_throwsIt 2 = .ok (.putfield 697, 3) := by decide +kernel
theorem dX12_throwsIt_5 : decode cX12_throwsIt 5 = .ok (.aload_n 0, 1) := by decide +kernel
theorem dX12_throwsIt_6 : decode cX12_throwsIt 6 = .ok (.iload_n 1, 1) := by decide +kernel
theorem dX12_throwsIt_7 : decode cX12_throwsIt 7 = .ok (.putfield 700, 3) := by decide +kernel
theorem dX12_throwsIt_10 : decode cX12_throwsIt 10 = .ok (.return_, 1) := by decide +kernel
theorem dX12_result_0 : decode cX12_result 0 = .ok (.iload_n 1, 1) := by decide +kernel
theorem dX12_result_1 : decode cX12_result 1 = .ok (.lookupswitch 85 #[(42, 59), (43, 51), (45, 55), (60, 63), (61, 74)], 51) := by decide +kernel
theorem dX12_result_52 : decode cX12_result 52 = .ok (.iload_n 2, 1) := by decide +kernel
theorem dX12_result_53 : decode cX12_result 53 = .ok (.iload_n 3, 1) := by decide +kernel
theorem dX12_result_54 : decode cX12_result 54 = .ok (.iadd, 1) := by decide +kernel
theorem dX12_result_55 : decode cX12_result 55 = .ok (.ireturn, 1) := by decide +kernel
theorem dX12_result_56 : decode cX12_result 56 = .ok (.iload_n 2, 1) := by decide +kernel
theorem dX12_result_57 : decode cX12_result 57 = .ok (.iload_n 3, 1) := by decide +kernel
theorem dX12_result_58 : decode cX12_result 58 = .ok (.isub, 1) := by decide +kernel
theorem dX12_result_59 : decode cX12_result 59 = .ok (.ireturn, 1) := by decide +kernel
theorem dX12_result_60 : decode cX12_result 60 = .ok (.iload_n 2, 1) := by decide +kernel
theorem dX12_result_61 : decode cX12_result 61 = .ok (.iload_n 3, 1) := by decide +kernel
theorem dX12_result_62 : decode cX12_result 62 = .ok (.imul, 1) := by decide +kernel
theorem dX12_result_63 : decode cX12_result 63 = .ok (.ireturn, 1) := by decide +kernel
theorem dX12_result_64 : decode cX12_result 64 = .ok (.iload_n 2, 1) := by decide +kernel
theorem dX12_result_65 : decode cX12_result 65 = .ok (.iload_n 3, 1) := by decide +kernel
theorem dX12_result_66 : decode cX12_result 66 = .ok (.if_icmp .ge 7, 3) := by decide +kernel
theorem dX12_result_69 : decode cX12_result 69 = .ok (.iconst 1, 1) := by decide +kernel
theorem dX12_result_70 : decode cX12_result 70 = .ok (.goto 4, 3) := by decide +kernel
theorem dX12_result_73 : decode cX12_result 73 = .ok (.iconst 0, 1) := by decide +kernel
theorem dX12_result_74 : decode cX12_result 74 = .ok (.ireturn, 1) := by decide +kernel
theorem dX12_result_75 : decode cX12_result 75 = .ok (.iload_n 2, 1) := by decide +kernel
theorem dX12_result_76 : decode cX12_result 76 = .ok (.iload_n 3, 1) := by decide +kernel
theorem dX12_result_77 : decode cX12_result 77 = .ok (.if_icmp .ne 7, 3) := by decide +kernel
theorem dX12_result_80 : decode cX12_result 80 = .ok (.iconst 1, 1) := by decide +kernel
theorem dX12_result_81 : decode cX12_result 81 = .ok (.goto 4, 3) := by decide +kernel
theorem dX12_result_84 : decode cX12_result 84 = .ok (.iconst 0, 1) := by decide +kernel
theorem dX12_result_85 : decode cX12_result 85 = .ok (.ireturn, 1) := by decide +kernel
theorem dX12_result_86 : decode cX12_result 86 = .ok (.iload_n 3, 1) := by decide +kernel
theorem dX12_result_87 : decode cX12_result 87 = .ok (.ifCond .ne 9, 3) := by decide +kernel
theorem dX12_result_90 : decode cX12_result 90 = .ok (.aload_n 0, 1) := by decide +kernel
theorem dX12_result_91 : decode cX12_result 91 = .ok (.bipush 99, 2) := by decide +kernel
theorem dX12_result_93 : decode cX12_result 93 = .ok (.invokevirtual 703, 3) := by decide +kernel
theorem dX12_result_96 : decode cX12_result 96 = .ok (.iload_n 3, 1) := by decide +kernel
theorem dX12_result_97 : decode cX12_result 97 = .ok (.ifCond .ne 7, 3) := by decide +kernel
theorem dX12_result_100 : decode cX12_result 100 = .ok (.iconst 0, 1) := by decide +kernel
theorem dX12_result_101 : decode cX12_result 101 = .ok (.goto 18, 3) := by decide +kernel
theorem dX12_result_104 : decode cX12_result 104 = .ok (.iload_n 1, 1) := by decide +kernel
theorem dX12_result_105 : decode cX12_result 105 = .ok (.bipush 47, 2) := by decide +kernel
theorem dX12_result_107 : decode cX12_result 107 = .ok (.if_icmp .ne 9, 3) := by decide +kernel
theorem dX12_result_110 : decode cX12_result 110 = .ok (.iload_n 2, 1) := by decide +kernel
theorem dX12_result_111 : decode cX12_result 111 = .ok (.iload_n 3, 1) := by decide +kernel
theorem dX12_result_112 : decode cX12_result 112 = .ok (.idiv, 1) := by decide +kernel
theorem dX12_result_113 : decode cX12_result 113 = .ok (.goto 6, 3) := by decide +kernel
theorem dX12_result_116 : decode cX12_result 116 = .ok (.iload_n 2, 1) := by decide +kernel
theorem dX12_result_117 : decode cX12_result 117 = .ok (.iload_n 3, 1) := by decide +kernel
theorem dX12_result_118 : decode cX12_result 118 = .ok (.irem, 1) := by decide +kernel
theorem dX12_result_119 : decode cX12_result 119 = .ok (.ireturn, 1) := by decide +kernel
theorem dX12_next_0 : decode cX12_next 0 = .ok (.aload_n 0, 1) := by decide +kernel
theorem dX12_next_1 : decode cX12_next 1 = .ok (.getfield 23, 3) := by decide +kernel
theorem dX12_next_4 : decode cX12_next 4 = .ok (.iload_n 1, 1) := by decide +kernel
theorem dX12_next_5 : decode cX12_next 5 = .ok (.iaload, 1) := by decide +kernel
theorem dX12_next_6 : decode cX12_next 6 = .ok (.istore_n 2, 1) := by decide +kernel
theorem dX12_next_7 : decode cX12_next 7 = .ok (.iload_n 2, 1) := by decide +kernel
theorem dX12_next_8 : decode cX12_next 8 = .ok (.invokestatic 266, 3) := by decide +kernel
theorem dX12_next_11 : decode cX12_next 11 = .ok (.ifCond .le 17, 3) := by decide +kernel
theorem dX12_next_14 : decode cX12_next 14 = .ok (.aload_n 0, 1) := by decide +kernel
theorem dX12_next_15 : decode cX12_next 15 = .ok (.getfield 160, 3) := by decide +kernel
theorem dX12_next_18 : decode cX12_next 18 = .ok (.aload_n 0, 1) := by decide +kernel
theorem dX12_next_19 : decode cX12_next 19 = .ok (.getfield 706, 3) := by decide +kernel
theorem dX12_next_22 : decode cX12_next 22 = .ok (.iconst 1, 1) := by decide +kernel
theorem dX12_next_23 : decode cX12_next 23 = .ok (.isub, 1) := by decide +kernel
theorem dX12_next_24 : decode cX12_next 24 = .ok (.iaload, 1) := by decide +kernel
theorem dX12_next_25 : decode cX12_next 25 = .ok (.goto 4, 3) := by decide +kernel
theorem dX12_next_28 : decode cX12_next 28 = .ok (.iconst 0, 1) := by decide +kernel
theorem dX12_next_29 : decode cX12_next 29 = .ok (.istore_n 3, 1) := by decide +kernel
theorem dX12_next_30 : decode cX12_next 30 = .ok (.iload_n 2, 1) := by decide +kernel
theorem dX12_next_31 : decode cX12_next 31 = .ok (.invokestatic 266, 3) := by decide +kernel
theorem dX12_next_34 : decode cX12_next 34 = .ok (.iconst 1, 1) := by decide +kernel
theorem dX12_next_35 : decode cX12_next 35 = .ok (.if_icmp .le 17, 3) := by decide +kernel
theorem dX12_next_38 : decode cX12_next 38 = .ok (.aload_n 0, 1) := by decide +kernel
theorem dX12_next_39 : decode cX12_next 39 = .ok (.getfield 160, 3) := by decide +kernel
theorem dX12_next_42 : decode cX12_next 42 = .ok (.aload_n 0, 1) := by decide +kernel
theorem dX12_next_43 : decode cX12_next 43 = .ok (.getfield 706, 3) := by decide +kernel
theorem dX12_next_46 : decode cX12_next 46 = .ok (.iconst 2, 1) := by decide +kernel
theorem dX12_next_47 : decode cX12_next 47 = .ok (.isub, 1) := by decide +kernel
theorem dX12_next_48 : decode cX12_next 48 = .ok (.iaload, 1) := by decide +kernel
theorem dX12_next_49 : decode cX12_next 49 = .ok (.goto 4, 3) := by decide +kernel
theorem dX12_next_52 : decode cX12_next 52 = .ok (.iconst 0, 1) := by decide +kernel
theorem dX12_next_53 : decode cX12_next 53 = .ok (.istore 4, 2) := by decide +kernel
theorem dX12_next_55 : decode cX12_next 55 = .ok (.aload_n 0, 1) := by decide +kernel
theorem dX12_next_56 : decode cX12_next 56 = .ok (.dup, 1) := by decide +kernel
theorem dX12_next_57 : decode cX12_next 57 = .ok (.getfield 706, 3) := by decide +kernel
theorem dX12_next_60 : decode cX12_next 60 = .ok (.iload_n 2, 1) := by decide +kernel
theorem dX12_next_61 : decode cX12_next 61 = .ok (.invokestatic 266, 3) := by decide +kernel
theorem dX12_next_64 : decode cX12_next 64 = .ok (.isub, 1) := by decide +kernel
theorem dX12_next_65 : decode cX12_next 65 = .ok (.putfield 706, 3) := by decide +kernel
theorem dX12_next_68 : decode cX12_next 68 = .ok (.iload_n 1, 1) := by decide +kernel
theorem dX12_next_69 : decode cX12_next 69 = .ok (.iconst 1, 1) := by decide +kernel
theorem dX12_next_70 : decode cX12_next 70 = .ok (.iadd, 1) := by decide +kernel
theorem dX12_next_71 : decode cX12_next 71 = .ok (.istore 5, 2) := by decide +kernel
theorem dX12_next_73 : decode cX12_next 73 = .ok (.iconst 0, 1) := by decide +kernel
theorem dX12_next_74 : decode cX12_next 74 = .ok (.istore 6, 2) := by decide +kernel
theorem dX12_next_76 : decode cX12_next 76 = .ok (.iload_n 2, 1) := by decide +kernel
theorem dX12_next_77 : decode cX12_next 77 = .ok (.lookupswitch 289 #[(33, 182), (100, 203), (103, 239), (105, 165), (107, 123), (108, 134), (110, 196), (111, 174), (112, 286), (114, 278), (115, 150), (116, 270), (119, 203), (122, 250)], 123) := by decide +kernel
theorem dX12_next_200 : decode cX12_next 200 = .ok (.aload_n 0, 1) := by decide +kernel
theorem dX12_next_201 : decode cX12_next 201 = .ok (.getfield 26, 3) := by decide +kernel
theorem dX12_next_204 : decode cX12_next 204 = .ok (.iload_n 1, 1) := by decide +kernel
theorem dX12_next_205 : decode cX12_next 205 = .ok (.iaload, 1) := by decide +kernel
theorem dX12_next_206 : decode cX12_next 206 = .ok (.istore 6, 2) := by decide +kernel
theorem dX12_next_208 : decode cX12_next 208 = .ok (.goto 168, 3) := by decide +kernel
theorem dX12_next_211 : decode cX12_next 211 = .ok (.aload_n 0, 1) := by decide +kernel
theorem dX12_next_212 : decode cX12_next 212 = .ok (.getfield 154, 3) := by decide +kernel
theorem dX12_next_215 : decode cX12_next 215 = .ok (.aload_n 0, 1) := by decide +kernel
theorem dX12_next_216 : decode cX12_next 216 = .ok (.getfield 26, 3) := by decide +kernel
theorem dX12_next_219 : decode cX12_next 219 = .ok (.iload_n 1, 1) := by decide +kernel
theorem dX12_next_220 : decode cX12_next 220 = .ok (.iaload, 1) := by decide +kernel
theorem dX12_next_221 : decode cX12_next 221 = .ok (.iaload, 1) := by decide +kernel
theorem dX12_next_222 : decode cX12_next 222 = .ok (.istore 6, 2) := by decide +kernel
theorem dX12_next_224 : decode cX12_next 224 = .ok (.goto 152, 3) := by decide +kernel
theorem dX12_next_227 : decode cX12_next 227 = .ok (.aload_n 0, 1) := by decide +kernel
theorem dX12_next_228 : decode cX12_next 228 = .ok (.getfield 154, 3) := by decide +kernel
theorem dX12_next_231 : decode cX12_next 231 = .ok (.aload_n 0, 1) := by decide +kernel
theorem dX12_next_232 : decode cX12_next 232 = .ok (.getfield 26, 3) := by decide +kernel
theorem dX12_next_235 : decode cX12_next 235 = .ok (.iload_n 1, 1) := by decide +kernel
theorem dX12_next_236 : decode cX12_next 236 = .ok (.iaload, 1) := by decide +kernel
theorem dX12_next_237 : decode cX12_next 237 = .ok (.iload_n 3, 1) := by decide +kernel
theorem dX12_next_238 : decode cX12_next 238 = .ok (.iastore, 1) := by decide +kernel
theorem dX12_next_239 : decode cX12_next 239 = .ok (.goto 137, 3) := by decide +kernel
theorem dX12_next_242 : decode cX12_next 242 = .ok (.aload_n 0, 1) := by decide +kernel
theorem dX12_next_243 : decode cX12_next 243 = .ok (.invokevirtual 709, 3) := by decide +kernel
theorem dX12_next_246 : decode cX12_next 246 = .ok (.istore 6, 2) := by decide +kernel
theorem dX12_next_248 : decode cX12_next 248 = .ok (.goto 128, 3) := by decide +kernel
theorem dX12_next_251 : decode cX12_next 251 = .ok (.aload_n 0, 1) := by decide +kernel
theorem dX12_next_252 : decode cX12_next 252 = .ok (.iload_n 3, 1) := by decide +kernel
theorem dX12_next_253 : decode cX12_next 253 = .ok (.invokevirtual 712, 3) := by decide +kernel
theorem dX12_next_256 : decode cX12_next 256 = .ok (.goto 120, 3) := by decide +kernel
theorem dX12_next_259 : decode cX12_next 259 = .ok (.iload_n 3, 1) := by decide +kernel
theorem dX12_next_260 : decode cX12_next 260 = .ok (.ifCond .ne 7, 3) := by decide +kernel
theorem dX12_next_263 : decode cX12_next 263 = .ok (.iconst 1, 1) := by decide +kernel
theorem dX12_next_264 : decode cX12_next 264 = .ok (.goto 4, 3) := by decide +kernel
theorem dX12_next_267 : decode cX12_next 267 = .ok (.iconst 0, 1) := by decide +kernel
theorem dX12_next_268 : decode cX12_next 268 = .ok (.istore 6, 2) := by decide +kernel
theorem dX12_next_270 : decode cX12_next 270 = .ok (.goto 106, 3) := by decide +kernel
theorem dX12_next_273 : decode cX12_next 273 = .ok (.iload_n 3, 1) := by decide +kernel
theorem dX12_next_274 : decode cX12_next 274 = .ok (.ineg, 1) := by decide +kernel
theorem dX12_next_275 : decode cX12_next 275 = .ok (.istore 6, 2) := by decide +kernel
theorem dX12_next_277 : decode cX12_next 277 = .ok (.goto 99, 3) := by decide +kernel
theorem dX12_next_280 : decode cX12_next 280 = .ok (.aload_n 0, 1) := by decide +kernel
theorem dX12_next_281 : decode cX12_next 281 = .ok (.getfield 160, 3) := by decide +kernel
theorem dX12_next_284 : decode cX12_next 284 = .ok (.aload_n 0, 1) := by decide +kernel
theorem dX12_next_285 : decode cX12_next 285 = .ok (.getfield 706, 3) := by decide +kernel
theorem dX12_next_288 : decode cX12_next 288 = .ok (.iload_n 3, 1) := by decide +kernel
theorem dX12_next_289 : decode cX12_next 289 = .ok (.iastore, 1) := by decide +kernel
theorem dX12_next_290 : decode cX12_next 290 = .ok (.aload_n 0, 1) := by decide +kernel
theorem dX12_next_291 : decode cX12_next 291 = .ok (.getfield 160, 3) := by decide +kernel
theorem dX12_next_294 : decode cX12_next 294 = .ok (.aload_n 0, 1) := by decide +kernel
theorem dX12_next_295 : decode cX12_next 295 = .ok (.getfield 706, 3) := by decide +kernel
theorem dX12_next_298 : decode cX12_next 298 = .ok (.iconst 1, 1) := by decide +kernel
theorem dX12_next_299 : decode cX12_next 299 = .ok (.iadd, 1) := by decide +kernel
theorem dX12_next_300 : decode cX12_next 300 = .ok (.iload_n 2, 1) := by decide +kernel
theorem dX12_next_301 : decode cX12_next 301 = .ok (.bipush 100, 2) := by decide +kernel
theorem dX12_next_303 : decode cX12_next 303 = .ok (.if_icmp .ne 7, 3) := by decide +kernel
theorem dX12_next_306 : decode cX12_next 306 = .ok (.iload_n 3, 1) := by decide +kernel
theorem dX12_next_307 : decode cX12_next 307 = .ok (.goto 5, 3) := by decide +kernel
theorem dX12_next_310 : decode cX12_next 310 = .ok (.iload 4, 2) := by decide +kernel
theorem dX12_next_312 : decode cX12_next 312 = .ok (.iastore, 1) := by decide +kernel
theorem dX12_next_313 : decode cX12_next 313 = .ok (.goto 63, 3) := by decide +kernel
theorem dX12_next_316 : decode cX12_next 316 = .ok (.aload_n 0, 1) := by decide +kernel
theorem dX12_next_317 : decode cX12_next 317 = .ok (.getfield 26, 3) := by decide +kernel
theorem dX12_next_320 : decode cX12_next 320 = .ok (.iload_n 1, 1) := by decide +kernel
theorem dX12_next_321 : decode cX12_next 321 = .ok (.iaload, 1) := by decide +kernel
theorem dX12_next_322 : decode cX12_next 322 = .ok (.istore 5, 2) := by decide +kernel
theorem dX12_next_324 : decode cX12_next 324 = .ok (.goto 52, 3) := by decide +kernel
theorem dX12_next_327 : decode cX12_next 327 = .ok (.iload_n 3, 1) := by decide +kernel
theorem dX12_next_328 : decode cX12_next 328 = .ok (.ifCond .ne 12, 3) := by decide +kernel
theorem dX12_next_331 : decode cX12_next 331 = .ok (.aload_n 0, 1) := by decide +kernel
theorem dX12_next_332 : decode cX12_next 332 = .ok (.getfield 26, 3) := by decide +kernel
theorem dX12_next_335 : decode cX12_next 335 = .ok (.iload_n 1, 1) := by decide +kernel
theorem dX12_next_336 : decode cX12_next 336 = .ok (.iaload, 1) := by decide +kernel
theorem dX12_next_337 : decode cX12_next 337 = .ok (.goto 5, 3) := by decide +kernel
theorem dX12_next_340 : decode cX12_next 340 = .ok (.iload 5, 2) := by decide +kernel
theorem dX12_next_342 : decode cX12_next 342 = .ok (.istore 5, 2) := by decide +kernel
theorem dX12_next_344 : decode cX12_next 344 = .ok (.goto 32, 3) := by decide +kernel
theorem dX12_next_347 : decode cX12_next 347 = .ok (.aload_n 0, 1) := by decide +kernel
theorem dX12_next_348 : decode cX12_next 348 = .ok (.iload_n 3, 1) := by decide +kernel
theorem dX12_next_349 : decode cX12_next 349 = .ok (.invokevirtual 703, 3) := by decide +kernel
theorem dX12_next_352 : decode cX12_next 352 = .ok (.goto 24, 3) := by decide +kernel
theorem dX12_next_355 : decode cX12_next 355 = .ok (.aload_n 0, 1) := by decide +kernel
theorem dX12_next_356 : decode cX12_next 356 = .ok (.iconst 0, 1) := by decide +kernel
theorem dX12_next_357 : decode cX12_next 357 = .ok (.putfield 684, 3) := by decide +kernel
theorem dX12_next_360 : decode cX12_next 360 = .ok (.goto 16, 3) := by decide +kernel
theorem dX12_next_363 : decode cX12_next 363 = .ok (.goto 13, 3) := by decide +kernel
theorem dX12_next_366 : decode cX12_next 366 = .ok (.aload_n 0, 1) := by decide +kernel
theorem dX12_next_367 : decode cX12_next 367 = .ok (.iload_n 2, 1) := by decide +kernel
theorem dX12_next_368 : decode cX12_next 368 = .ok (.iload 4, 2) := by decide +kernel
theorem dX12_next_370 : decode cX12_next 370 = .ok (.iload_n 3, 1) := by decide +kernel
theorem dX12_next_371 : decode cX12_next 371 = .ok (.invokevirtual 714, 3) := by decide +kernel
theorem dX12_next_374 : decode cX12_next 374 = .ok (.istore 6, 2) := by decide +kernel
theorem dX12_next_376 : decode cX12_next 376 = .ok (.iload_n 2, 1) := by decide +kernel
theorem dX12_next_377 : decode cX12_next 377 = .ok (.invokestatic 269, 3) := by decide +kernel
theorem dX12_next_380 : decode cX12_next 380 = .ok (.iconst 1, 1) := by decide +kernel
theorem dX12_next_381 : decode cX12_next 381 = .ok (.if_icmp .ne 14, 3) := by decide +kernel
theorem dX12_next_384 : decode cX12_next 384 = .ok (.aload_n 0, 1) := by decide +kernel
theorem dX12_next_385 : decode cX12_next 385 = .ok (.getfield 160, 3) := by decide +kernel
theorem dX12_next_388 : decode cX12_next 388 = .ok (.aload_n 0, 1) := by decide +kernel
theorem dX12_next_389 : decode cX12_next 389 = .ok (.getfield 706, 3) := by decide +kernel
theorem dX12_next_392 : decode cX12_next 392 = .ok (.iload 6, 2) := by decide +kernel
theorem dX12_next_394 : decode cX12_next 394 = .ok (.iastore, 1) := by decide +kernel
theorem dX12_next_395 : decode cX12_next 395 = .ok (.aload_n 0, 1) := by decide +kernel
theorem dX12_next_396 : decode cX12_next 396 = .ok (.dup, 1) := by decide +kernel
theorem dX12_next_397 : decode cX12_next 397 = .ok (.getfield 706, 3) := by decide +kernel
theorem dX12_next_400 : decode cX12_next 400 = .ok (.iload_n 2, 1) := by decide +kernel
theorem dX12_next_401 : decode cX12_next 401 = .ok (.invokestatic 269, 3) := by decide +kernel
theorem dX12_next_404 : decode cX12_next 404 = .ok (.iadd, 1) := by decide +kernel
theorem dX12_next_405 : decode cX12_next 405 = .ok (.putfield 706, 3) := by decide +kernel
theorem dX12_next_408 : decode cX12_next 408 = .ok (.aload_n 0, 1) := by decide +kernel
theorem dX12_next_409 : decode cX12_next 409 = .ok (.getfield 697, 3) := by decide +kernel
theorem dX12_next_412 : decode cX12_next 412 = .ok (.ifCond .eq 11, 3) := by decide +kernel
theorem dX12_next_415 : decode cX12_next 415 = .ok (.aload_n 0, 1) := by decide +kernel
theorem dX12_next_416 : decode cX12_next 416 = .ok (.iload_n 1, 1) := by decide +kernel
theorem dX12_next_417 : decode cX12_next 417 = .ok (.invokevirtual 717, 3) := by decide +kernel
theorem dX12_next_420 : decode cX12_next 420 = .ok (.goto 5, 3) := by decide +kernel
theorem dX12_next_423 : decode cX12_next 423 = .ok (.iload 5, 2) := by decide +kernel
theorem dX12_next_425 : decode cX12_next 425 = .ok (.ireturn, 1) := by decide +kernel
theorem dX12_caught_0 : decode cX12_caught 0 = .ok (.aload_n 0, 1) := by decide +kernel
theorem dX12_caught_1 : decode cX12_caught 1 = .ok (.iconst 0, 1) := by decide +kernel
theorem dX12_caught_2 : decode cX12_caught 2 = .ok (.putfield 697, 3) := by decide +kernel
theorem dX12_caught_5 : decode cX12_caught 5 = .ok (.aload_n 0, 1) := by decide +kernel
theorem dX12_caught_6 : decode cX12_caught 6 = .ok (.getfield 29, 3) := by decide +kernel
theorem dX12_caught_9 : decode cX12_caught 9 = .ok (.aload_n 0, 1) := by decide +kernel
theorem dX12_caught_10 : decode cX12_caught 10 = .ok (.getfield 289, 3) := by decide +kernel
theorem dX12_caught_13 : decode cX12_caught 13 = .ok (.iload_n 1, 1) := by decide +kernel
theorem dX12_caught_14 : decode cX12_caught 14 = .ok (.invokestatic 279, 3) := by decide +kernel
theorem dX12_caught_17 : decode cX12_caught 17 = .ok (.istore_n 2, 1) := by decide +kernel
theorem dX12_caught_18 : decode cX12_caught 18 = .ok (.iload_n 2, 1) := by decide +kernel
theorem dX12_caught_19 : decode cX12_caught 19 = .ok (.iconst (-1), 1) := by decide +kernel
theorem dX12_caught_20 : decode cX12_caught 20 = .ok (.if_icmp .ne 18, 3) := by decide +kernel
theorem dX12_caught_23 : decode cX12_caught 23 = .ok (.aload_n 0, 1) := by decide +kernel
theorem dX12_caught_24 : decode cX12_caught 24 = .ok (.iconst 1, 1) := by decide +kernel
theorem dX12_caught_25 : decode cX12_caught 25 = .ok (.putfield 684, 3) := by decide +kernel
theorem dX12_caught_28 : decode cX12_caught 28 = .ok (.aload_n 0, 1) := by decide +kernel
theorem dX12_caught_29 : decode cX12_caught 29 = .ok (.aload_n 0, 1) := by decide +kernel
theorem dX12_caught_30 : decode cX12_caught 30 = .ok (.getfield 700, 3) := by decide +kernel
theorem dX12_caught_33 : decode cX12_caught 33 = .ok (.putfield 687, 3) := by decide +kernel
theorem dX12_caught_36 : decode cX12_caught 36 = .ok (.iload_n 1, 1) := by decide +kernel
theorem dX12_caught_37 : decode cX12_caught 37 = .ok (.ireturn, 1) := by decide +kernel
theorem dX12_caught_38 : decode cX12_caught 38 = .ok (.aload_n 0, 1) := by decide +kernel
theorem dX12_caught_39 : decode cX12_caught 39 = .ok (.getfield 160, 3) := by decide +kernel
theorem dX12_caught_42 : decode cX12_caught 42 = .ok (.iconst 0, 1) := by decide +kernel
theorem dX12_caught_43 : decode cX12_caught 43 = .ok (.aload_n 0, 1) := by decide +kernel
theorem dX12_caught_44 : decode cX12_caught 44 = .ok (.getfield 700, 3) := by decide +kernel
theorem dX12_caught_47 : decode cX12_caught 47 = .ok (.iastore, 1) := by decide +kernel
theorem dX12_caught_48 : decode cX12_caught 48 = .ok (.aload_n 0, 1) := by decide +kernel
theorem dX12_caught_49 : decode cX12_caught 49 = .ok (.iconst 1, 1) := by decide +kernel
theorem dX12_caught_50 : decode cX12_caught 50 = .ok (.putfield 706, 3) := by decide +kernel
theorem dX12_caught_53 : decode cX12_caught 53 = .ok (.aload_n 0, 1) := by decide +kernel
theorem dX12_caught_54 : decode cX12_caught 54 = .ok (.getfield 29, 3) := by decide +kernel
theorem dX12_caught_57 : decode cX12_caught 57 = .ok (.iconst 3, 1) := by decide +kernel
theorem dX12_caught_58 : decode cX12_caught 58 = .ok (.iload_n 2, 1) := by decide +kernel
theorem dX12_caught_59 : decode cX12_caught 59 = .ok (.imul, 1) := by decide +kernel
theorem dX12_caught_60 : decode cX12_caught 60 = .ok (.iconst 2, 1) := by decide +kernel
theorem dX12_caught_61 : decode cX12_caught 61 = .ok (.iadd, 1) := by decide +kernel
theorem dX12_caught_62 : decode cX12_caught 62 = .ok (.iaload, 1) := by decide +kernel
theorem dX12_caught_63 : decode cX12_caught 63 = .ok (.ireturn, 1) := by decide +kernel
theorem dX12_runsCode_0 : decode cX12_runsCode 0 = .ok (.aload_n 0, 1) := by decide +kernel
theorem dX12_runsCode_1 : decode cX12_runsCode 1 = .ok (.iconst 0, 1) := by decide +kernel
theorem dX12_runsCode_2 : decode cX12_runsCode 2 = .ok (.putfield 706, 3) := by decide +kernel
theorem dX12_runsCode_5 : decode cX12_runsCode 5 = .ok (.aload_n 0, 1) := by decide +kernel
theorem dX12_runsCode_6 : decode cX12_runsCode 6 = .ok (.iconst 0, 1) := by decide +kernel
theorem dX12_runsCode_7 : decode cX12_runsCode 7 = .ok (.putfield 697, 3) := by decide +kernel
theorem dX12_runsCode_10 : decode cX12_runsCode 10 = .ok (.iconst 0, 1) := by decide +kernel
theorem dX12_runsCode_11 : decode cX12_runsCode 11 = .ok (.istore_n 1, 1) := by decide +kernel
theorem dX12_runsCode_12 : decode cX12_runsCode 12 = .ok (.aload_n 0, 1) := by decide +kernel
theorem dX12_runsCode_13 : decode cX12_runsCode 13 = .ok (.getfield 684, 3) := by decide +kernel
theorem dX12_runsCode_16 : decode cX12_runsCode 16 = .ok (.iconst (-1), 1) := by decide +kernel
theorem dX12_runsCode_17 : decode cX12_runsCode 17 = .ok (.if_icmp .ne 39, 3) := by decide +kernel
theorem dX12_runsCode_20 : decode cX12_runsCode 20 = .ok (.aload_n 0, 1) := by decide +kernel
theorem dX12_runsCode_21 : decode cX12_runsCode 21 = .ok (.getfield 47, 3) := by decide +kernel
theorem dX12_runsCode_24 : decode cX12_runsCode 24 = .ok (.aload_n 0, 1) := by decide +kernel
theorem dX12_runsCode_25 : decode cX12_runsCode 25 = .ok (.getfield 53, 3) := by decide +kernel
theorem dX12_runsCode_28 : decode cX12_runsCode 28 = .ok (.iload_n 1, 1) := by decide +kernel
theorem dX12_runsCode_29 : decode cX12_runsCode 29 = .ok (.iaload, 1) := by decide +kernel
theorem dX12_runsCode_30 : decode cX12_runsCode 30 = .ok (.iaload, 1) := by decide +kernel
theorem dX12_runsCode_31 : decode cX12_runsCode 31 = .ok (.iload_n 1, 1) := by decide +kernel
theorem dX12_runsCode_32 : decode cX12_runsCode 32 = .ok (.if_icmp .ne 7, 3) := by decide +kernel
theorem dX12_runsCode_35 : decode cX12_runsCode 35 = .ok (.aload_n 0, 1) := by decide +kernel
theorem dX12_runsCode_36 : decode cX12_runsCode 36 = .ok (.invokevirtual 720, 3) := by decide +kernel
theorem dX12_runsCode_39 : decode cX12_runsCode 39 = .ok (.aload_n 0, 1) := by decide +kernel
theorem dX12_runsCode_40 : decode cX12_runsCode 40 = .ok (.getfield 684, 3) := by decide +kernel
theorem dX12_runsCode_43 : decode cX12_runsCode 43 = .ok (.iconst (-1), 1) := by decide +kernel
theorem dX12_runsCode_44 : decode cX12_runsCode 44 = .ok (.if_icmp .ne (-32), 3) := by decide +kernel
theorem dX12_runsCode_47 : decode cX12_runsCode 47 = .ok (.aload_n 0, 1) := by decide +kernel
theorem dX12_runsCode_48 : decode cX12_runsCode 48 = .ok (.iload_n 1, 1) := by decide +kernel
theorem dX12_runsCode_49 : decode cX12_runsCode 49 = .ok (.invokevirtual 723, 3) := by decide +kernel
theorem dX12_runsCode_52 : decode cX12_runsCode 52 = .ok (.istore_n 1, 1) := by decide +kernel
theorem dX12_runsCode_53 : decode cX12_runsCode 53 = .ok (.goto (-41), 3) := by decide +kernel
theorem dX12_runsCode_56 : decode cX12_runsCode 56 = .ok (.return_, 1) := by decide +kernel
theorem dX12_valueOf_0 : decode cX12_valueOf 0 = .ok (.aload_n 0, 1) := by decide +kernel
theorem dX12_valueOf_1 : decode cX12_valueOf 1 = .ok (.getfield 88, 3) := by decide +kernel
theorem dX12_valueOf_4 : decode cX12_valueOf 4 = .ok (.iload_n 1, 1) := by decide +kernel
theorem dX12_valueOf_5 : decode cX12_valueOf 5 = .ok (.iaload, 1) := by decide +kernel
theorem dX12_valueOf_6 : decode cX12_valueOf 6 = .ok (.tableswitch 121 0 6 #[42, 49, 61, 73, 85, 90, 109], 42) := by decide +kernel
theorem dX12_valueOf_48 : decode cX12_valueOf 48 = .ok (.aload_n 0, 1) := by decide +kernel
theorem dX12_valueOf_49 : decode cX12_valueOf 49 = .ok (.getfield 91, 3) := by decide +kernel
theorem dX12_valueOf_52 : decode cX12_valueOf 52 = .ok (.iload_n 1, 1) := by decide +kernel
theorem dX12_valueOf_53 : decode cX12_valueOf 53 = .ok (.iaload, 1) := by decide +kernel
theorem dX12_valueOf_54 : decode cX12_valueOf 54 = .ok (.ireturn, 1) := by decide +kernel
theorem dX12_valueOf_55 : decode cX12_valueOf 55 = .ok (.aload_n 0, 1) := by decide +kernel
theorem dX12_valueOf_56 : decode cX12_valueOf 56 = .ok (.getfield 154, 3) := by decide +kernel
theorem dX12_valueOf_59 : decode cX12_valueOf 59 = .ok (.aload_n 0, 1) := by decide +kernel
theorem dX12_valueOf_60 : decode cX12_valueOf 60 = .ok (.getfield 91, 3) := by decide +kernel
theorem dX12_valueOf_63 : decode cX12_valueOf 63 = .ok (.iload_n 1, 1) := by decide +kernel
theorem dX12_valueOf_64 : decode cX12_valueOf 64 = .ok (.iaload, 1) := by decide +kernel
theorem dX12_valueOf_65 : decode cX12_valueOf 65 = .ok (.iaload, 1) := by decide +kernel
theorem dX12_valueOf_66 : decode cX12_valueOf 66 = .ok (.ireturn, 1) := by decide +kernel
theorem dX12_valueOf_67 : decode cX12_valueOf 67 = .ok (.aload_n 0, 1) := by decide +kernel
theorem dX12_valueOf_68 : decode cX12_valueOf 68 = .ok (.getfield 163, 3) := by decide +kernel
theorem dX12_valueOf_71 : decode cX12_valueOf 71 = .ok (.aload_n 0, 1) := by decide +kernel
theorem dX12_valueOf_72 : decode cX12_valueOf 72 = .ok (.getfield 91, 3) := by decide +kernel
theorem dX12_valueOf_75 : decode cX12_valueOf 75 = .ok (.iload_n 1, 1) := by decide +kernel
theorem dX12_valueOf_76 : decode cX12_valueOf 76 = .ok (.iaload, 1) := by decide +kernel
theorem dX12_valueOf_77 : decode cX12_valueOf 77 = .ok (.iaload, 1) := by decide +kernel
theorem dX12_valueOf_78 : decode cX12_valueOf 78 = .ok (.ireturn, 1) := by decide +kernel
theorem dX12_valueOf_79 : decode cX12_valueOf 79 = .ok (.aload_n 0, 1) := by decide +kernel
theorem dX12_valueOf_80 : decode cX12_valueOf 80 = .ok (.getfield 166, 3) := by decide +kernel
theorem dX12_valueOf_83 : decode cX12_valueOf 83 = .ok (.aload_n 0, 1) := by decide +kernel
theorem dX12_valueOf_84 : decode cX12_valueOf 84 = .ok (.getfield 91, 3) := by decide +kernel
theorem dX12_valueOf_87 : decode cX12_valueOf 87 = .ok (.iload_n 1, 1) := by decide +kernel
theorem dX12_valueOf_88 : decode cX12_valueOf 88 = .ok (.iaload, 1) := by decide +kernel
theorem dX12_valueOf_89 : decode cX12_valueOf 89 = .ok (.iaload, 1) := by decide +kernel
theorem dX12_valueOf_90 : decode cX12_valueOf 90 = .ok (.ireturn, 1) := by decide +kernel
theorem dX12_valueOf_91 : decode cX12_valueOf 91 = .ok (.aload_n 0, 1) := by decide +kernel
theorem dX12_valueOf_92 : decode cX12_valueOf 92 = .ok (.invokevirtual 709, 3) := by decide +kernel
theorem dX12_valueOf_95 : decode cX12_valueOf 95 = .ok (.ireturn, 1) := by decide +kernel
theorem dX12_valueOf_96 : decode cX12_valueOf 96 = .ok (.aload_n 0, 1) := by decide +kernel
theorem dX12_valueOf_97 : decode cX12_valueOf 97 = .ok (.aload_n 0, 1) := by decide +kernel
theorem dX12_valueOf_98 : decode cX12_valueOf 98 = .ok (.getfield 91, 3) := by decide +kernel
theorem dX12_valueOf_101 : decode cX12_valueOf 101 = .ok (.iload_n 1, 1) := by decide +kernel
theorem dX12_valueOf_102 : decode cX12_valueOf 102 = .ok (.iaload, 1) := by decide +kernel
theorem dX12_valueOf_103 : decode cX12_valueOf 103 = .ok (.invokevirtual 726, 3) := by decide +kernel
theorem dX12_valueOf_106 : decode cX12_valueOf 106 = .ok (.ifCond .ne 7, 3) := by decide +kernel
theorem dX12_valueOf_109 : decode cX12_valueOf 109 = .ok (.iconst 1, 1) := by decide +kernel
theorem dX12_valueOf_110 : decode cX12_valueOf 110 = .ok (.goto 4, 3) := by decide +kernel
theorem dX12_valueOf_113 : decode cX12_valueOf 113 = .ok (.iconst 0, 1) := by decide +kernel
theorem dX12_valueOf_114 : decode cX12_valueOf 114 = .ok (.ireturn, 1) := by decide +kernel
theorem dX12_valueOf_115 : decode cX12_valueOf 115 = .ok (.aload_n 0, 1) := by decide +kernel
theorem dX12_valueOf_116 : decode cX12_valueOf 116 = .ok (.aload_n 0, 1) := by decide +kernel
theorem dX12_valueOf_117 : decode cX12_valueOf 117 = .ok (.getfield 91, 3) := by decide +kernel
theorem dX12_valueOf_120 : decode cX12_valueOf 120 = .ok (.iload_n 1, 1) := by decide +kernel
theorem dX12_valueOf_121 : decode cX12_valueOf 121 = .ok (.iaload, 1) := by decide +kernel
theorem dX12_valueOf_122 : decode cX12_valueOf 122 = .ok (.invokevirtual 726, 3) := by decide +kernel
theorem dX12_valueOf_125 : decode cX12_valueOf 125 = .ok (.ineg, 1) := by decide +kernel
theorem dX12_valueOf_126 : decode cX12_valueOf 126 = .ok (.ireturn, 1) := by decide +kernel
theorem dX12_valueOf_127 : decode cX12_valueOf 127 = .ok (.aload_n 0, 1) := by decide +kernel
theorem dX12_valueOf_128 : decode cX12_valueOf 128 = .ok (.aload_n 0, 1) := by decide +kernel
theorem dX12_valueOf_129 : decode cX12_valueOf 129 = .ok (.getfield 91, 3) := by decide +kernel
theorem dX12_valueOf_132 : decode cX12_valueOf 132 = .ok (.iload_n 1, 1) := by decide +kernel
theorem dX12_valueOf_133 : decode cX12_valueOf 133 = .ok (.iaload, 1) := by decide +kernel
theorem dX12_valueOf_134 : decode cX12_valueOf 134 = .ok (.invokevirtual 726, 3) := by decide +kernel
theorem dX12_valueOf_137 : decode cX12_valueOf 137 = .ok (.istore_n 2, 1) := by decide +kernel
theorem dX12_valueOf_138 : decode cX12_valueOf 138 = .ok (.aload_n 0, 1) := by decide +kernel
theorem dX12_valueOf_139 : decode cX12_valueOf 139 = .ok (.getfield 697, 3) := by decide +kernel
theorem dX12_valueOf_142 : decode cX12_valueOf 142 = .ok (.ifCond .eq 5, 3) := by decide +kernel
theorem dX12_valueOf_145 : decode cX12_valueOf 145 = .ok (.iconst 0, 1) := by decide +kernel
theorem dX12_valueOf_146 : decode cX12_valueOf 146 = .ok (.ireturn, 1) := by decide +kernel
theorem dX12_valueOf_147 : decode cX12_valueOf 147 = .ok (.aload_n 0, 1) := by decide +kernel
theorem dX12_valueOf_148 : decode cX12_valueOf 148 = .ok (.aload_n 0, 1) := by decide +kernel
theorem dX12_valueOf_149 : decode cX12_valueOf 149 = .ok (.getfield 94, 3) := by decide +kernel
theorem dX12_valueOf_152 : decode cX12_valueOf 152 = .ok (.iload_n 1, 1) := by decide +kernel
theorem dX12_valueOf_153 : decode cX12_valueOf 153 = .ok (.iaload, 1) := by decide +kernel
theorem dX12_valueOf_154 : decode cX12_valueOf 154 = .ok (.invokevirtual 726, 3) := by decide +kernel
theorem dX12_valueOf_157 : decode cX12_valueOf 157 = .ok (.istore_n 3, 1) := by decide +kernel
theorem dX12_valueOf_158 : decode cX12_valueOf 158 = .ok (.aload_n 0, 1) := by decide +kernel
theorem dX12_valueOf_159 : decode cX12_valueOf 159 = .ok (.getfield 697, 3) := by decide +kernel
theorem dX12_valueOf_162 : decode cX12_valueOf 162 = .ok (.ifCond .eq 7, 3) := by decide +kernel
theorem dX12_valueOf_165 : decode cX12_valueOf 165 = .ok (.iconst 0, 1) := by decide +kernel
theorem dX12_valueOf_166 : decode cX12_valueOf 166 = .ok (.goto 15, 3) := by decide +kernel
theorem dX12_valueOf_169 : decode cX12_valueOf 169 = .ok (.aload_n 0, 1) := by decide +kernel
theorem dX12_valueOf_170 : decode cX12_valueOf 170 = .ok (.aload_n 0, 1) := by decide +kernel
theorem dX12_valueOf_171 : decode cX12_valueOf 171 = .ok (.getfield 88, 3) := by decide +kernel
theorem dX12_valueOf_174 : decode cX12_valueOf 174 = .ok (.iload_n 1, 1) := by decide +kernel
theorem dX12_valueOf_175 : decode cX12_valueOf 175 = .ok (.iaload, 1) := by decide +kernel
theorem dX12_valueOf_176 : decode cX12_valueOf 176 = .ok (.iload_n 2, 1) := by decide +kernel
theorem dX12_valueOf_177 : decode cX12_valueOf 177 = .ok (.iload_n 3, 1) := by decide +kernel
theorem dX12_valueOf_178 : decode cX12_valueOf 178 = .ok (.invokevirtual 714, 3) := by decide +kernel
theorem dX12_valueOf_181 : decode cX12_valueOf 181 = .ok (.ireturn, 1) := by decide +kernel
theorem dX12_endOf_0 : decode cX12_endOf 0 = .ok (.iconst 0, 1) := by decide +kernel
theorem dX12_endOf_1 : decode cX12_endOf 1 = .ok (.istore_n 3, 1) := by decide +kernel
theorem dX12_endOf_2 : decode cX12_endOf 2 = .ok (.aload_n 0, 1) := by decide +kernel
theorem dX12_endOf_3 : decode cX12_endOf 3 = .ok (.getfield 133, 3) := by decide +kernel
theorem dX12_endOf_6 : decode cX12_endOf 6 = .ok (.iload_n 3, 1) := by decide +kernel
theorem dX12_endOf_7 : decode cX12_endOf 7 = .ok (.iaload, 1) := by decide +kernel
theorem dX12_endOf_8 : decode cX12_endOf 8 = .ok (.iconst 5, 1) := by decide +kernel
theorem dX12_endOf_9 : decode cX12_endOf 9 = .ok (.if_icmp .ne 23, 3) := by decide +kernel
theorem dX12_endOf_12 : decode cX12_endOf 12 = .ok (.aload_n 0, 1) := by decide +kernel
theorem dX12_endOf_13 : decode cX12_endOf 13 = .ok (.getfield 142, 3) := by decide +kernel
theorem dX12_endOf_16 : decode cX12_endOf 16 = .ok (.iload_n 3, 1) := by decide +kernel
theorem dX12_endOf_17 : decode cX12_endOf 17 = .ok (.iaload, 1) := by decide +kernel
theorem dX12_endOf_18 : decode cX12_endOf 18 = .ok (.iload_n 1, 1) := by decide +kernel
theorem dX12_endOf_19 : decode cX12_endOf 19 = .ok (.if_icmp .ne 13, 3) := by decide +kernel
theorem dX12_endOf_22 : decode cX12_endOf 22 = .ok (.aload_n 0, 1) := by decide +kernel
theorem dX12_endOf_23 : decode cX12_endOf 23 = .ok (.getfield 136, 3) := by decide +kernel
theorem dX12_endOf_26 : decode cX12_endOf 26 = .ok (.iload_n 3, 1) := by decide +kernel
theorem dX12_endOf_27 : decode cX12_endOf 27 = .ok (.iaload, 1) := by decide +kernel
theorem dX12_endOf_28 : decode cX12_endOf 28 = .ok (.iload_n 2, 1) := by decide +kernel
theorem dX12_endOf_29 : decode cX12_endOf 29 = .ok (.if_icmp .eq 9, 3) := by decide +kernel
theorem dX12_endOf_32 : decode cX12_endOf 32 = .ok (.iinc 3 1, 3) := by decide +kernel
theorem dX12_endOf_35 : decode cX12_endOf 35 = .ok (.goto (-33), 3) := by decide +kernel
theorem dX12_endOf_38 : decode cX12_endOf 38 = .ok (.iload_n 3, 1) := by decide +kernel
theorem dX12_endOf_39 : decode cX12_endOf 39 = .ok (.ireturn, 1) := by decide +kernel
theorem dX12_lineWith_0 : decode cX12_lineWith 0 = .ok (.iconst 0, 1) := by decide +kernel
theorem dX12_lineWith_1 : decode cX12_lineWith 1 = .ok (.istore_n 3, 1) := by decide +kernel
theorem dX12_lineWith_2 : decode cX12_lineWith 2 = .ok (.aload_n 0, 1) := by decide +kernel
theorem dX12_lineWith_3 : decode cX12_lineWith 3 = .ok (.getfield 133, 3) := by decide +kernel
theorem dX12_lineWith_6 : decode cX12_lineWith 6 = .ok (.iload_n 3, 1) := by decide +kernel
theorem dX12_lineWith_7 : decode cX12_lineWith 7 = .ok (.iaload, 1) := by decide +kernel
theorem dX12_lineWith_8 : decode cX12_lineWith 8 = .ok (.iload_n 1, 1) := by decide +kernel
theorem dX12_lineWith_9 : decode cX12_lineWith 9 = .ok (.if_icmp .ne 13, 3) := by decide +kernel
theorem dX12_lineWith_12 : decode cX12_lineWith 12 = .ok (.aload_n 0, 1) := by decide +kernel
theorem dX12_lineWith_13 : decode cX12_lineWith 13 = .ok (.getfield 136, 3) := by decide +kernel
theorem dX12_lineWith_16 : decode cX12_lineWith 16 = .ok (.iload_n 3, 1) := by decide +kernel
theorem dX12_lineWith_17 : decode cX12_lineWith 17 = .ok (.iaload, 1) := by decide +kernel
theorem dX12_lineWith_18 : decode cX12_lineWith 18 = .ok (.iload_n 2, 1) := by decide +kernel
theorem dX12_lineWith_19 : decode cX12_lineWith 19 = .ok (.if_icmp .eq 9, 3) := by decide +kernel
theorem dX12_lineWith_22 : decode cX12_lineWith 22 = .ok (.iinc 3 1, 3) := by decide +kernel
theorem dX12_lineWith_25 : decode cX12_lineWith 25 = .ok (.goto (-23), 3) := by decide +kernel
theorem dX12_lineWith_28 : decode cX12_lineWith 28 = .ok (.iload_n 3, 1) := by decide +kernel
theorem dX12_lineWith_29 : decode cX12_lineWith 29 = .ok (.ireturn, 1) := by decide +kernel
theorem dX12_otherwiseOf_0 : decode cX12_otherwiseOf 0 = .ok (.aload_n 0, 1) := by decide +kernel
theorem dX12_otherwiseOf_1 : decode cX12_otherwiseOf 1 = .ok (.iconst 3, 1) := by decide +kernel
theorem dX12_otherwiseOf_2 : decode cX12_otherwiseOf 2 = .ok (.iload_n 1, 1) := by decide +kernel
theorem dX12_otherwiseOf_3 : decode cX12_otherwiseOf 3 = .ok (.invokevirtual 729, 3) := by decide +kernel
theorem dX12_otherwiseOf_6 : decode cX12_otherwiseOf 6 = .ok (.iconst 1, 1) := by decide +kernel
theorem dX12_otherwiseOf_7 : decode cX12_otherwiseOf 7 = .ok (.iadd, 1) := by decide +kernel
theorem dX12_otherwiseOf_8 : decode cX12_otherwiseOf 8 = .ok (.istore_n 2, 1) := by decide +kernel
theorem dX12_otherwiseOf_9 : decode cX12_otherwiseOf 9 = .ok (.aload_n 0, 1) := by decide +kernel
theorem dX12_otherwiseOf_10 : decode cX12_otherwiseOf 10 = .ok (.getfield 133, 3) := by decide +kernel
theorem dX12_otherwiseOf_13 : decode cX12_otherwiseOf 13 = .ok (.iload_n 2, 1) := by decide +kernel
theorem dX12_otherwiseOf_14 : decode cX12_otherwiseOf 14 = .ok (.iaload, 1) := by decide +kernel
theorem dX12_otherwiseOf_15 : decode cX12_otherwiseOf 15 = .ok (.iconst 4, 1) := by decide +kernel
theorem dX12_otherwiseOf_16 : decode cX12_otherwiseOf 16 = .ok (.if_icmp .ne 13, 3) := by decide +kernel
theorem dX12_otherwiseOf_19 : decode cX12_otherwiseOf 19 = .ok (.aload_n 0, 1) := by decide +kernel
theorem dX12_otherwiseOf_20 : decode cX12_otherwiseOf 20 = .ok (.getfield 136, 3) := by decide +kernel
theorem dX12_otherwiseOf_23 : decode cX12_otherwiseOf 23 = .ok (.iload_n 2, 1) := by decide +kernel
theorem dX12_otherwiseOf_24 : decode cX12_otherwiseOf 24 = .ok (.iaload, 1) := by decide +kernel
theorem dX12_otherwiseOf_25 : decode cX12_otherwiseOf 25 = .ok (.iload_n 1, 1) := by decide +kernel
theorem dX12_otherwiseOf_26 : decode cX12_otherwiseOf 26 = .ok (.if_icmp .eq 39, 3) := by decide +kernel
theorem dX12_otherwiseOf_29 : decode cX12_otherwiseOf 29 = .ok (.aload_n 0, 1) := by decide +kernel
theorem dX12_otherwiseOf_30 : decode cX12_otherwiseOf 30 = .ok (.getfield 133, 3) := by decide +kernel
theorem dX12_otherwiseOf_33 : decode cX12_otherwiseOf 33 = .ok (.iload_n 2, 1) := by decide +kernel
theorem dX12_otherwiseOf_34 : decode cX12_otherwiseOf 34 = .ok (.iaload, 1) := by decide +kernel
theorem dX12_otherwiseOf_35 : decode cX12_otherwiseOf 35 = .ok (.iconst 5, 1) := by decide +kernel
theorem dX12_otherwiseOf_36 : decode cX12_otherwiseOf 36 = .ok (.if_icmp .ne 23, 3) := by decide +kernel
theorem dX12_otherwiseOf_39 : decode cX12_otherwiseOf 39 = .ok (.aload_n 0, 1) := by decide +kernel
theorem dX12_otherwiseOf_40 : decode cX12_otherwiseOf 40 = .ok (.getfield 142, 3) := by decide +kernel
theorem dX12_otherwiseOf_43 : decode cX12_otherwiseOf 43 = .ok (.iload_n 2, 1) := by decide +kernel
theorem dX12_otherwiseOf_44 : decode cX12_otherwiseOf 44 = .ok (.iaload, 1) := by decide +kernel
theorem dX12_otherwiseOf_45 : decode cX12_otherwiseOf 45 = .ok (.iconst 3, 1) := by decide +kernel
theorem dX12_otherwiseOf_46 : decode cX12_otherwiseOf 46 = .ok (.if_icmp .ne 13, 3) := by decide +kernel
theorem dX12_otherwiseOf_49 : decode cX12_otherwiseOf 49 = .ok (.aload_n 0, 1) := by decide +kernel
theorem dX12_otherwiseOf_50 : decode cX12_otherwiseOf 50 = .ok (.getfield 136, 3) := by decide +kernel
theorem dX12_otherwiseOf_53 : decode cX12_otherwiseOf 53 = .ok (.iload_n 2, 1) := by decide +kernel
theorem dX12_otherwiseOf_54 : decode cX12_otherwiseOf 54 = .ok (.iaload, 1) := by decide +kernel
theorem dX12_otherwiseOf_55 : decode cX12_otherwiseOf 55 = .ok (.iload_n 1, 1) := by decide +kernel
theorem dX12_otherwiseOf_56 : decode cX12_otherwiseOf 56 = .ok (.if_icmp .eq 9, 3) := by decide +kernel
theorem dX12_otherwiseOf_59 : decode cX12_otherwiseOf 59 = .ok (.iinc 2 1, 3) := by decide +kernel
theorem dX12_otherwiseOf_62 : decode cX12_otherwiseOf 62 = .ok (.goto (-53), 3) := by decide +kernel
theorem dX12_otherwiseOf_65 : decode cX12_otherwiseOf 65 = .ok (.iload_n 2, 1) := by decide +kernel
theorem dX12_otherwiseOf_66 : decode cX12_otherwiseOf 66 = .ok (.iconst 1, 1) := by decide +kernel
theorem dX12_otherwiseOf_67 : decode cX12_otherwiseOf 67 = .ok (.iadd, 1) := by decide +kernel
theorem dX12_otherwiseOf_68 : decode cX12_otherwiseOf 68 = .ok (.ireturn, 1) := by decide +kernel
theorem dX12_states__0 : decode cX12_states_ 0 = .ok (.aload_n 0, 1) := by decide +kernel
theorem dX12_states__1 : decode cX12_states_ 1 = .ok (.getfield 103, 3) := by decide +kernel
theorem dX12_states__4 : decode cX12_states_ 4 = .ok (.iload_n 1, 1) := by decide +kernel
theorem dX12_states__5 : decode cX12_states_ 5 = .ok (.iaload, 1) := by decide +kernel
theorem dX12_states__6 : decode cX12_states_ 6 = .ok (.istore_n 3, 1) := by decide +kernel
theorem dX12_states__7 : decode cX12_states_ 7 = .ok (.aload_n 0, 1) := by decide +kernel
theorem dX12_states__8 : decode cX12_states_ 8 = .ok (.getfield 97, 3) := by decide +kernel
theorem dX12_states__11 : decode cX12_states_ 11 = .ok (.iload_n 1, 1) := by decide +kernel
theorem dX12_states__12 : decode cX12_states_ 12 = .ok (.iaload, 1) := by decide +kernel
theorem dX12_states__13 : decode cX12_states_ 13 = .ok (.bipush 6, 2) := by decide +kernel
theorem dX12_states__15 : decode cX12_states_ 15 = .ok (.if_icmp .ne 10, 3) := by decide +kernel
theorem dX12_states__18 : decode cX12_states_ 18 = .ok (.aload_n 0, 1) := by decide +kernel
theorem dX12_states__19 : decode cX12_states_ 19 = .ok (.iconst 0, 1) := by decide +kernel
theorem dX12_states__20 : decode cX12_states_ 20 = .ok (.putfield 684, 3) := by decide +kernel
theorem dX12_states__23 : decode cX12_states_ 23 = .ok (.iload_n 2, 1) := by decide +kernel
theorem dX12_states__24 : decode cX12_states_ 24 = .ok (.ireturn, 1) := by decide +kernel
theorem dX12_states__25 : decode cX12_states_ 25 = .ok (.aload_n 0, 1) := by decide +kernel
theorem dX12_states__26 : decode cX12_states_ 26 = .ok (.iload_n 3, 1) := by decide +kernel
theorem dX12_states__27 : decode cX12_states_ 27 = .ok (.invokevirtual 726, 3) := by decide +kernel
theorem dX12_states__30 : decode cX12_states_ 30 = .ok (.istore 4, 2) := by decide +kernel
theorem dX12_states__32 : decode cX12_states_ 32 = .ok (.aload_n 0, 1) := by decide +kernel
theorem dX12_states__33 : decode cX12_states_ 33 = .ok (.getfield 697, 3) := by decide +kernel
theorem dX12_states__36 : decode cX12_states_ 36 = .ok (.ifCond .ne 10, 3) := by decide +kernel
theorem dX12_states__39 : decode cX12_states_ 39 = .ok (.aload_n 0, 1) := by decide +kernel
theorem dX12_states__40 : decode cX12_states_ 40 = .ok (.iload_n 1, 1) := by decide +kernel
theorem dX12_states__41 : decode cX12_states_ 41 = .ok (.iload 4, 2) := by decide +kernel
theorem dX12_states__43 : decode cX12_states_ 43 = .ok (.invokevirtual 732, 3) := by decide +kernel
theorem dX12_states__46 : decode cX12_states_ 46 = .ok (.aload_n 0, 1) := by decide +kernel
theorem dX12_states__47 : decode cX12_states_ 47 = .ok (.getfield 697, 3) := by decide +kernel
theorem dX12_states__50 : decode cX12_states_ 50 = .ok (.ifCond .eq 17, 3) := by decide +kernel
theorem dX12_states__53 : decode cX12_states_ 53 = .ok (.aload_n 0, 1) := by decide +kernel
theorem dX12_states__54 : decode cX12_states_ 54 = .ok (.aload_n 0, 1) := by decide +kernel
theorem dX12_states__55 : decode cX12_states_ 55 = .ok (.getfield 136, 3) := by decide +kernel
theorem dX12_states__58 : decode cX12_states_ 58 = .ok (.iload_n 2, 1) := by decide +kernel
theorem dX12_states__59 : decode cX12_states_ 59 = .ok (.iaload, 1) := by decide +kernel
theorem dX12_states__60 : decode cX12_states_ 60 = .ok (.iload_n 2, 1) := by decide +kernel
theorem dX12_states__61 : decode cX12_states_ 61 = .ok (.invokevirtual 735, 3) := by decide +kernel
theorem dX12_states__64 : decode cX12_states_ 64 = .ok (.goto 6, 3) := by decide +kernel
theorem dX12_states__67 : decode cX12_states_ 67 = .ok (.iload_n 2, 1) := by decide +kernel
theorem dX12_states__68 : decode cX12_states_ 68 = .ok (.iconst 1, 1) := by decide +kernel
theorem dX12_states__69 : decode cX12_states_ 69 = .ok (.iadd, 1) := by decide +kernel
theorem dX12_states__70 : decode cX12_states_ 70 = .ok (.ireturn, 1) := by decide +kernel
theorem dX12_puts_0 : decode cX12_puts 0 = .ok (.aload_n 0, 1) := by decide +kernel
theorem dX12_puts_1 : decode cX12_puts 1 = .ok (.getfield 97, 3) := by decide +kernel
theorem dX12_puts_4 : decode cX12_puts 4 = .ok (.iload_n 1, 1) := by decide +kernel
theorem dX12_puts_5 : decode cX12_puts 5 = .ok (.iaload, 1) := by decide +kernel
theorem dX12_puts_6 : decode cX12_puts 6 = .ok (.tableswitch 89 0 5 #[38, 51, 64, 77, 89, 83], 38) := by decide +kernel
theorem dX12_puts_44 : decode cX12_puts 44 = .ok (.aload_n 0, 1) := by decide +kernel
theorem dX12_puts_45 : decode cX12_puts 45 = .ok (.getfield 154, 3) := by decide +kernel
theorem dX12_puts_48 : decode cX12_puts 48 = .ok (.aload_n 0, 1) := by decide +kernel
theorem dX12_puts_49 : decode cX12_puts 49 = .ok (.getfield 100, 3) := by decide +kernel
theorem dX12_puts_52 : decode cX12_puts 52 = .ok (.iload_n 1, 1) := by decide +kernel
theorem dX12_puts_53 : decode cX12_puts 53 = .ok (.iaload, 1) := by decide +kernel
theorem dX12_puts_54 : decode cX12_puts 54 = .ok (.iload_n 2, 1) := by decide +kernel
theorem dX12_puts_55 : decode cX12_puts 55 = .ok (.iastore, 1) := by decide +kernel
theorem dX12_puts_56 : decode cX12_puts 56 = .ok (.return_, 1) := by decide +kernel
theorem dX12_puts_57 : decode cX12_puts 57 = .ok (.aload_n 0, 1) := by decide +kernel
theorem dX12_puts_58 : decode cX12_puts 58 = .ok (.getfield 163, 3) := by decide +kernel
theorem dX12_puts_61 : decode cX12_puts 61 = .ok (.aload_n 0, 1) := by decide +kernel
theorem dX12_puts_62 : decode cX12_puts 62 = .ok (.getfield 100, 3) := by decide +kernel
theorem dX12_puts_65 : decode cX12_puts 65 = .ok (.iload_n 1, 1) := by decide +kernel
theorem dX12_puts_66 : decode cX12_puts 66 = .ok (.iaload, 1) := by decide +kernel
theorem dX12_puts_67 : decode cX12_puts 67 = .ok (.iload_n 2, 1) := by decide +kernel
theorem dX12_puts_68 : decode cX12_puts 68 = .ok (.iastore, 1) := by decide +kernel
theorem dX12_puts_69 : decode cX12_puts 69 = .ok (.return_, 1) := by decide +kernel
theorem dX12_puts_70 : decode cX12_puts 70 = .ok (.aload_n 0, 1) := by decide +kernel
theorem dX12_puts_71 : decode cX12_puts 71 = .ok (.getfield 166, 3) := by decide +kernel
theorem dX12_puts_74 : decode cX12_puts 74 = .ok (.aload_n 0, 1) := by decide +kernel
theorem dX12_puts_75 : decode cX12_puts 75 = .ok (.getfield 100, 3) := by decide +kernel
theorem dX12_puts_78 : decode cX12_puts 78 = .ok (.iload_n 1, 1) := by decide +kernel
theorem dX12_puts_79 : decode cX12_puts 79 = .ok (.iaload, 1) := by decide +kernel
theorem dX12_puts_80 : decode cX12_puts 80 = .ok (.iload_n 2, 1) := by decide +kernel
theorem dX12_puts_81 : decode cX12_puts 81 = .ok (.iastore, 1) := by decide +kernel
theorem dX12_puts_82 : decode cX12_puts 82 = .ok (.return_, 1) := by decide +kernel
theorem dX12_puts_83 : decode cX12_puts 83 = .ok (.aload_n 0, 1) := by decide +kernel
theorem dX12_puts_84 : decode cX12_puts 84 = .ok (.iload_n 2, 1) := by decide +kernel
theorem dX12_puts_85 : decode cX12_puts 85 = .ok (.invokevirtual 712, 3) := by decide +kernel
theorem dX12_puts_88 : decode cX12_puts 88 = .ok (.return_, 1) := by decide +kernel
theorem dX12_puts_89 : decode cX12_puts 89 = .ok (.aload_n 0, 1) := by decide +kernel
theorem dX12_puts_90 : decode cX12_puts 90 = .ok (.iload_n 2, 1) := by decide +kernel
theorem dX12_puts_91 : decode cX12_puts 91 = .ok (.invokevirtual 703, 3) := by decide +kernel
theorem dX12_puts_94 : decode cX12_puts 94 = .ok (.return_, 1) := by decide +kernel
theorem dX12_puts_95 : decode cX12_puts 95 = .ok (.return_, 1) := by decide +kernel
theorem dX12_caughtLine_0 : decode cX12_caughtLine 0 = .ok (.aload_n 0, 1) := by decide +kernel
theorem dX12_caughtLine_1 : decode cX12_caughtLine 1 = .ok (.iconst 0, 1) := by decide +kernel
theorem dX12_caughtLine_2 : decode cX12_caughtLine 2 = .ok (.putfield 697, 3) := by decide +kernel
theorem dX12_caughtLine_5 : decode cX12_caughtLine 5 = .ok (.aload_n 0, 1) := by decide +kernel
theorem dX12_caughtLine_6 : decode cX12_caughtLine 6 = .ok (.getfield 56, 3) := by decide +kernel
theorem dX12_caughtLine_9 : decode cX12_caughtLine 9 = .ok (.iload_n 1, 1) := by decide +kernel
theorem dX12_caughtLine_10 : decode cX12_caughtLine 10 = .ok (.iaload, 1) := by decide +kernel
theorem dX12_caughtLine_11 : decode cX12_caughtLine 11 = .ok (.iconst (-1), 1) := by decide +kernel
theorem dX12_caughtLine_12 : decode cX12_caughtLine 12 = .ok (.if_icmp .ne 18, 3) := by decide +kernel
theorem dX12_caughtLine_15 : decode cX12_caughtLine 15 = .ok (.aload_n 0, 1) := by decide +kernel
theorem dX12_caughtLine_16 : decode cX12_caughtLine 16 = .ok (.iconst 1, 1) := by decide +kernel
theorem dX12_caughtLine_17 : decode cX12_caughtLine 17 = .ok (.putfield 684, 3) := by decide +kernel
theorem dX12_caughtLine_20 : decode cX12_caughtLine 20 = .ok (.aload_n 0, 1) := by decide +kernel
theorem dX12_caughtLine_21 : decode cX12_caughtLine 21 = .ok (.aload_n 0, 1) := by decide +kernel
theorem dX12_caughtLine_22 : decode cX12_caughtLine 22 = .ok (.getfield 700, 3) := by decide +kernel
theorem dX12_caughtLine_25 : decode cX12_caughtLine 25 = .ok (.putfield 687, 3) := by decide +kernel
theorem dX12_caughtLine_28 : decode cX12_caughtLine 28 = .ok (.iload_n 2, 1) := by decide +kernel
theorem dX12_caughtLine_29 : decode cX12_caughtLine 29 = .ok (.ireturn, 1) := by decide +kernel
theorem dX12_caughtLine_30 : decode cX12_caughtLine 30 = .ok (.aload_n 0, 1) := by decide +kernel
theorem dX12_caughtLine_31 : decode cX12_caughtLine 31 = .ok (.getfield 163, 3) := by decide +kernel
theorem dX12_caughtLine_34 : decode cX12_caughtLine 34 = .ok (.iconst 0, 1) := by decide +kernel
theorem dX12_caughtLine_35 : decode cX12_caughtLine 35 = .ok (.aload_n 0, 1) := by decide +kernel
theorem dX12_caughtLine_36 : decode cX12_caughtLine 36 = .ok (.getfield 700, 3) := by decide +kernel
theorem dX12_caughtLine_39 : decode cX12_caughtLine 39 = .ok (.iastore, 1) := by decide +kernel
theorem dX12_caughtLine_40 : decode cX12_caughtLine 40 = .ok (.aload_n 0, 1) := by decide +kernel
theorem dX12_caughtLine_41 : decode cX12_caughtLine 41 = .ok (.iload_n 1, 1) := by decide +kernel
theorem dX12_caughtLine_42 : decode cX12_caughtLine 42 = .ok (.aload_n 0, 1) := by decide +kernel
theorem dX12_caughtLine_43 : decode cX12_caughtLine 43 = .ok (.getfield 56, 3) := by decide +kernel
theorem dX12_caughtLine_46 : decode cX12_caughtLine 46 = .ok (.iload_n 1, 1) := by decide +kernel
theorem dX12_caughtLine_47 : decode cX12_caughtLine 47 = .ok (.iaload, 1) := by decide +kernel
theorem dX12_caughtLine_48 : decode cX12_caughtLine 48 = .ok (.invokevirtual 738, 3) := by decide +kernel
theorem dX12_caughtLine_51 : decode cX12_caughtLine 51 = .ok (.ireturn, 1) := by decide +kernel
theorem dX12_wayTo_0 : decode cX12_wayTo 0 = .ok (.aload_n 0, 1) := by decide +kernel
theorem dX12_wayTo_1 : decode cX12_wayTo 1 = .ok (.getfield 72, 3) := by decide +kernel
theorem dX12_wayTo_4 : decode cX12_wayTo 4 = .ok (.aload_n 0, 1) := by decide +kernel
theorem dX12_wayTo_5 : decode cX12_wayTo 5 = .ok (.iload_n 1, 1) := by decide +kernel
theorem dX12_wayTo_6 : decode cX12_wayTo 6 = .ok (.iload_n 2, 1) := by decide +kernel
theorem dX12_wayTo_7 : decode cX12_wayTo 7 = .ok (.invokevirtual 508, 3) := by decide +kernel
theorem dX12_wayTo_10 : decode cX12_wayTo 10 = .ok (.baload, 1) := by decide +kernel
theorem dX12_wayTo_11 : decode cX12_wayTo 11 = .ok (.ifCond .eq 12, 3) := by decide +kernel
theorem dX12_wayTo_14 : decode cX12_wayTo 14 = .ok (.aload_n 0, 1) := by decide +kernel
theorem dX12_wayTo_15 : decode cX12_wayTo 15 = .ok (.iconst 1, 1) := by decide +kernel
theorem dX12_wayTo_16 : decode cX12_wayTo 16 = .ok (.iload_n 2, 1) := by decide +kernel
theorem dX12_wayTo_17 : decode cX12_wayTo 17 = .ok (.invokevirtual 729, 3) := by decide +kernel
theorem dX12_wayTo_20 : decode cX12_wayTo 20 = .ok (.goto 11, 3) := by decide +kernel
theorem dX12_wayTo_23 : decode cX12_wayTo 23 = .ok (.aload_n 0, 1) := by decide +kernel
theorem dX12_wayTo_24 : decode cX12_wayTo 24 = .ok (.iconst 2, 1) := by decide +kernel
theorem dX12_wayTo_25 : decode cX12_wayTo 25 = .ok (.iload_n 2, 1) := by decide +kernel
theorem dX12_wayTo_26 : decode cX12_wayTo 26 = .ok (.invokevirtual 741, 3) := by decide +kernel
theorem dX12_wayTo_29 : decode cX12_wayTo 29 = .ok (.iconst 1, 1) := by decide +kernel
theorem dX12_wayTo_30 : decode cX12_wayTo 30 = .ok (.iadd, 1) := by decide +kernel
theorem dX12_wayTo_31 : decode cX12_wayTo 31 = .ok (.ireturn, 1) := by decide +kernel
theorem dX12_nextLine_0 : decode cX12_nextLine 0 = .ok (.aload_n 0, 1) := by decide +kernel
theorem dX12_nextLine_1 : decode cX12_nextLine 1 = .ok (.getfield 136, 3) := by decide +kernel
theorem dX12_nextLine_4 : decode cX12_nextLine 4 = .ok (.iload_n 1, 1) := by decide +kernel
theorem dX12_nextLine_5 : decode cX12_nextLine 5 = .ok (.iaload, 1) := by decide +kernel
theorem dX12_nextLine_6 : decode cX12_nextLine 6 = .ok (.istore_n 2, 1) := by decide +kernel
theorem dX12_nextLine_7 : decode cX12_nextLine 7 = .ok (.aload_n 0, 1) := by decide +kernel
theorem dX12_nextLine_8 : decode cX12_nextLine 8 = .ok (.getfield 133, 3) := by decide +kernel
theorem dX12_nextLine_11 : decode cX12_nextLine 11 = .ok (.iload_n 1, 1) := by decide +kernel
theorem dX12_nextLine_12 : decode cX12_nextLine 12 = .ok (.iaload, 1) := by decide +kernel
theorem dX12_nextLine_13 : decode cX12_nextLine 13 = .ok (.tableswitch 141 0 11 #[63, 141, 141, 75, 100, 141, 109, 118, 125, 141, 141, 133], 63) := by decide +kernel
theorem dX12_nextLine_76 : decode cX12_nextLine 76 = .ok (.aload_n 0, 1) := by decide +kernel
theorem dX12_nextLine_77 : decode cX12_nextLine 77 = .ok (.aload_n 0, 1) := by decide +kernel
theorem dX12_nextLine_78 : decode cX12_nextLine 78 = .ok (.getfield 142, 3) := by decide +kernel
theorem dX12_nextLine_81 : decode cX12_nextLine 81 = .ok (.iload_n 1, 1) := by decide +kernel
theorem dX12_nextLine_82 : decode cX12_nextLine 82 = .ok (.iaload, 1) := by decide +kernel
theorem dX12_nextLine_83 : decode cX12_nextLine 83 = .ok (.iload_n 1, 1) := by decide +kernel
theorem dX12_nextLine_84 : decode cX12_nextLine 84 = .ok (.invokevirtual 744, 3) := by decide +kernel
theorem dX12_nextLine_87 : decode cX12_nextLine 87 = .ok (.ireturn, 1) := by decide +kernel
theorem dX12_nextLine_88 : decode cX12_nextLine 88 = .ok (.aload_n 0, 1) := by decide +kernel
theorem dX12_nextLine_89 : decode cX12_nextLine 89 = .ok (.aload_n 0, 1) := by decide +kernel
theorem dX12_nextLine_90 : decode cX12_nextLine 90 = .ok (.getfield 109, 3) := by decide +kernel
theorem dX12_nextLine_93 : decode cX12_nextLine 93 = .ok (.iload_n 2, 1) := by decide +kernel
theorem dX12_nextLine_94 : decode cX12_nextLine 94 = .ok (.iaload, 1) := by decide +kernel
theorem dX12_nextLine_95 : decode cX12_nextLine 95 = .ok (.invokevirtual 726, 3) := by decide +kernel
theorem dX12_nextLine_98 : decode cX12_nextLine 98 = .ok (.ifCond .eq 9, 3) := by decide +kernel
theorem dX12_nextLine_101 : decode cX12_nextLine 101 = .ok (.iload_n 1, 1) := by decide +kernel
theorem dX12_nextLine_102 : decode cX12_nextLine 102 = .ok (.iconst 1, 1) := by decide +kernel
theorem dX12_nextLine_103 : decode cX12_nextLine 103 = .ok (.iadd, 1) := by decide +kernel
theorem dX12_nextLine_104 : decode cX12_nextLine 104 = .ok (.goto 8, 3) := by decide +kernel
theorem dX12_nextLine_107 : decode cX12_nextLine 107 = .ok (.aload_n 0, 1) := by decide +kernel
theorem dX12_nextLine_108 : decode cX12_nextLine 108 = .ok (.iload_n 2, 1) := by decide +kernel
theorem dX12_nextLine_109 : decode cX12_nextLine 109 = .ok (.invokevirtual 746, 3) := by decide +kernel
theorem dX12_nextLine_112 : decode cX12_nextLine 112 = .ok (.ireturn, 1) := by decide +kernel
theorem dX12_nextLine_113 : decode cX12_nextLine 113 = .ok (.aload_n 0, 1) := by decide +kernel
theorem dX12_nextLine_114 : decode cX12_nextLine 114 = .ok (.iconst 3, 1) := by decide +kernel
theorem dX12_nextLine_115 : decode cX12_nextLine 115 = .ok (.iload_n 2, 1) := by decide +kernel
theorem dX12_nextLine_116 : decode cX12_nextLine 116 = .ok (.invokevirtual 741, 3) := by decide +kernel
theorem dX12_nextLine_119 : decode cX12_nextLine 119 = .ok (.iconst 1, 1) := by decide +kernel
theorem dX12_nextLine_120 : decode cX12_nextLine 120 = .ok (.iadd, 1) := by decide +kernel
theorem dX12_nextLine_121 : decode cX12_nextLine 121 = .ok (.ireturn, 1) := by decide +kernel
theorem dX12_nextLine_122 : decode cX12_nextLine 122 = .ok (.aload_n 0, 1) := by decide +kernel
theorem dX12_nextLine_123 : decode cX12_nextLine 123 = .ok (.iconst 2, 1) := by decide +kernel
theorem dX12_nextLine_124 : decode cX12_nextLine 124 = .ok (.iload_n 2, 1) := by decide +kernel
theorem dX12_nextLine_125 : decode cX12_nextLine 125 = .ok (.invokevirtual 741, 3) := by decide +kernel
theorem dX12_nextLine_128 : decode cX12_nextLine 128 = .ok (.iconst 1, 1) := by decide +kernel
theorem dX12_nextLine_129 : decode cX12_nextLine 129 = .ok (.iadd, 1) := by decide +kernel
theorem dX12_nextLine_130 : decode cX12_nextLine 130 = .ok (.ireturn, 1) := by decide +kernel
theorem dX12_nextLine_131 : decode cX12_nextLine 131 = .ok (.aload_n 0, 1) := by decide +kernel
theorem dX12_nextLine_132 : decode cX12_nextLine 132 = .ok (.iconst 1, 1) := by decide +kernel
theorem dX12_nextLine_133 : decode cX12_nextLine 133 = .ok (.iload_n 2, 1) := by decide +kernel
theorem dX12_nextLine_134 : decode cX12_nextLine 134 = .ok (.invokevirtual 729, 3) := by decide +kernel
theorem dX12_nextLine_137 : decode cX12_nextLine 137 = .ok (.ireturn, 1) := by decide +kernel
theorem dX12_nextLine_138 : decode cX12_nextLine 138 = .ok (.aload_n 0, 1) := by decide +kernel
theorem dX12_nextLine_139 : decode cX12_nextLine 139 = .ok (.bipush 11, 2) := by decide +kernel
theorem dX12_nextLine_141 : decode cX12_nextLine 141 = .ok (.iload_n 2, 1) := by decide +kernel
theorem dX12_nextLine_142 : decode cX12_nextLine 142 = .ok (.invokevirtual 729, 3) := by decide +kernel
theorem dX12_nextLine_145 : decode cX12_nextLine 145 = .ok (.ireturn, 1) := by decide +kernel
theorem dX12_nextLine_146 : decode cX12_nextLine 146 = .ok (.aload_n 0, 1) := by decide +kernel
theorem dX12_nextLine_147 : decode cX12_nextLine 147 = .ok (.invokevirtual 720, 3) := by decide +kernel
theorem dX12_nextLine_150 : decode cX12_nextLine 150 = .ok (.iload_n 1, 1) := by decide +kernel
theorem dX12_nextLine_151 : decode cX12_nextLine 151 = .ok (.iconst 1, 1) := by decide +kernel
theorem dX12_nextLine_152 : decode cX12_nextLine 152 = .ok (.iadd, 1) := by decide +kernel
theorem dX12_nextLine_153 : decode cX12_nextLine 153 = .ok (.ireturn, 1) := by decide +kernel
theorem dX12_nextLine_154 : decode cX12_nextLine 154 = .ok (.iload_n 1, 1) := by decide +kernel
theorem dX12_nextLine_155 : decode cX12_nextLine 155 = .ok (.iconst 1, 1) := by decide +kernel
theorem dX12_nextLine_156 : decode cX12_nextLine 156 = .ok (.iadd, 1) := by decide +kernel
theorem dX12_nextLine_157 : decode cX12_nextLine 157 = .ok (.ireturn, 1) := by decide +kernel
theorem dX12_runsLines_0 : decode cX12_runsLines 0 = .ok (.aload_n 0, 1) := by decide +kernel
theorem dX12_runsLines_1 : decode cX12_runsLines 1 = .ok (.iconst 0, 1) := by decide +kernel
theorem dX12_runsLines_2 : decode cX12_runsLines 2 = .ok (.putfield 697, 3) := by decide +kernel
theorem dX12_runsLines_5 : decode cX12_runsLines 5 = .ok (.iconst 0, 1) := by decide +kernel
theorem dX12_runsLines_6 : decode cX12_runsLines 6 = .ok (.istore_n 1, 1) := by decide +kernel
theorem dX12_runsLines_7 : decode cX12_runsLines 7 = .ok (.iload_n 1, 1) := by decide +kernel
theorem dX12_runsLines_8 : decode cX12_runsLines 8 = .ok (.bipush 8, 2) := by decide +kernel
theorem dX12_runsLines_10 : decode cX12_runsLines 10 = .ok (.if_icmp .ge 16, 3) := by decide +kernel
theorem dX12_runsLines_13 : decode cX12_runsLines 13 = .ok (.aload_n 0, 1) := by decide +kernel
theorem dX12_runsLines_14 : decode cX12_runsLines 14 = .ok (.getfield 163, 3) := by decide +kernel
theorem dX12_runsLines_17 : decode cX12_runsLines 17 = .ok (.iload_n 1, 1) := by decide +kernel
theorem dX12_runsLines_18 : decode cX12_runsLines 18 = .ok (.iconst 0, 1) := by decide +kernel
theorem dX12_runsLines_19 : decode cX12_runsLines 19 = .ok (.iastore, 1) := by decide +kernel
theorem dX12_runsLines_20 : decode cX12_runsLines 20 = .ok (.iinc 1 1, 3) := by decide +kernel
theorem dX12_runsLines_23 : decode cX12_runsLines 23 = .ok (.goto (-16), 3) := by decide +kernel
theorem dX12_runsLines_26 : decode cX12_runsLines 26 = .ok (.iconst 0, 1) := by decide +kernel
theorem dX12_runsLines_27 : decode cX12_runsLines 27 = .ok (.istore_n 1, 1) := by decide +kernel
theorem dX12_runsLines_28 : decode cX12_runsLines 28 = .ok (.iload_n 1, 1) := by decide +kernel
theorem dX12_runsLines_29 : decode cX12_runsLines 29 = .ok (.aload_n 0, 1) := by decide +kernel
theorem dX12_runsLines_30 : decode cX12_runsLines 30 = .ok (.getfield 410, 3) := by decide +kernel
theorem dX12_runsLines_33 : decode cX12_runsLines 33 = .ok (.if_icmp .ge 16, 3) := by decide +kernel
theorem dX12_runsLines_36 : decode cX12_runsLines 36 = .ok (.aload_n 0, 1) := by decide +kernel
theorem dX12_runsLines_37 : decode cX12_runsLines 37 = .ok (.getfield 166, 3) := by decide +kernel
theorem dX12_runsLines_40 : decode cX12_runsLines 40 = .ok (.iload_n 1, 1) := by decide +kernel
theorem dX12_runsLines_41 : decode cX12_runsLines 41 = .ok (.iconst 0, 1) := by decide +kernel
theorem dX12_runsLines_42 : decode cX12_runsLines 42 = .ok (.iastore, 1) := by decide +kernel
theorem dX12_runsLines_43 : decode cX12_runsLines 43 = .ok (.iinc 1 1, 3) := by decide +kernel
theorem dX12_runsLines_46 : decode cX12_runsLines 46 = .ok (.goto (-18), 3) := by decide +kernel
theorem dX12_runsLines_49 : decode cX12_runsLines 49 = .ok (.iconst 0, 1) := by decide +kernel
theorem dX12_runsLines_50 : decode cX12_runsLines 50 = .ok (.istore_n 1, 1) := by decide +kernel
theorem dX12_runsLines_51 : decode cX12_runsLines 51 = .ok (.aload_n 0, 1) := by decide +kernel
theorem dX12_runsLines_52 : decode cX12_runsLines 52 = .ok (.getfield 684, 3) := by decide +kernel
theorem dX12_runsLines_55 : decode cX12_runsLines 55 = .ok (.iconst (-1), 1) := by decide +kernel
theorem dX12_runsLines_56 : decode cX12_runsLines 56 = .ok (.if_icmp .ne 12, 3) := by decide +kernel
theorem dX12_runsLines_59 : decode cX12_runsLines 59 = .ok (.aload_n 0, 1) := by decide +kernel
theorem dX12_runsLines_60 : decode cX12_runsLines 60 = .ok (.iload_n 1, 1) := by decide +kernel
theorem dX12_runsLines_61 : decode cX12_runsLines 61 = .ok (.invokevirtual 749, 3) := by decide +kernel
theorem dX12_runsLines_64 : decode cX12_runsLines 64 = .ok (.istore_n 1, 1) := by decide +kernel
theorem dX12_runsLines_65 : decode cX12_runsLines 65 = .ok (.goto (-14), 3) := by decide +kernel
theorem dX12_runsLines_68 : decode cX12_runsLines 68 = .ok (.return_, 1) := by decide +kernel
theorem dX12_hasRun_0 : decode cX12_hasRun 0 = .ok (.aload_n 0, 1) := by decide +kernel
theorem dX12_hasRun_1 : decode cX12_hasRun 1 = .ok (.getfield 292, 3) := by decide +kernel
theorem dX12_hasRun_4 : decode cX12_hasRun 4 = .ok (.ifCond .eq 39, 3) := by decide +kernel
theorem dX12_hasRun_7 : decode cX12_hasRun 7 = .ok (.iload_n 1, 1) := by decide +kernel
theorem dX12_hasRun_8 : decode cX12_hasRun 8 = .ok (.i2l, 1) := by decide +kernel
theorem dX12_hasRun_9 : decode cX12_hasRun 9 = .ok (.lconst 0, 1) := by decide +kernel
theorem dX12_hasRun_10 : decode cX12_hasRun 10 = .ok (.lconst 1, 1) := by decide +kernel
theorem dX12_hasRun_11 : decode cX12_hasRun 11 = .ok (.invokestatic 312, 3) := by decide +kernel
theorem dX12_hasRun_14 : decode cX12_hasRun 14 = .ok (.ifCond .eq 29, 3) := by decide +kernel
theorem dX12_hasRun_17 : decode cX12_hasRun 17 = .ok (.iload_n 1, 1) := by decide +kernel
theorem dX12_hasRun_18 : decode cX12_hasRun 18 = .ok (.iconst 1, 1) := by decide +kernel
theorem dX12_hasRun_19 : decode cX12_hasRun 19 = .ok (.if_icmp .ne 11, 3) := by decide +kernel
theorem dX12_hasRun_22 : decode cX12_hasRun 22 = .ok (.aload_n 0, 1) := by decide +kernel
theorem dX12_hasRun_23 : decode cX12_hasRun 23 = .ok (.getfield 358, 3) := by decide +kernel
theorem dX12_hasRun_26 : decode cX12_hasRun 26 = .ok (.iconst (-1), 1) := by decide +kernel
theorem dX12_hasRun_27 : decode cX12_hasRun 27 = .ok (.if_icmp .eq 16, 3) := by decide +kernel
theorem dX12_hasRun_30 : decode cX12_hasRun 30 = .ok (.iload 5, 2) := by decide +kernel
theorem dX12_hasRun_32 : decode cX12_hasRun 32 = .ok (.i2l, 1) := by decide +kernel
theorem dX12_hasRun_33 : decode cX12_hasRun 33 = .ok (.lconst 1, 1) := by decide +kernel
theorem dX12_hasRun_34 : decode cX12_hasRun 34 = .ok (.ldc2_w 752, 3) := by decide +kernel
theorem dX12_hasRun_37 : decode cX12_hasRun 37 = .ok (.invokestatic 312, 3) := by decide +kernel
theorem dX12_hasRun_40 : decode cX12_hasRun 40 = .ok (.ifCond .ne 5, 3) := by decide +kernel
theorem dX12_hasRun_43 : decode cX12_hasRun 43 = .ok (.iconst 0, 1) := by decide +kernel
theorem dX12_hasRun_44 : decode cX12_hasRun 44 = .ok (.ireturn, 1) := by decide +kernel
theorem dX12_hasRun_45 : decode cX12_hasRun 45 = .ok (.aload_n 0, 1) := by decide +kernel
theorem dX12_hasRun_46 : decode cX12_hasRun 46 = .ok (.iload_n 2, 1) := by decide +kernel
theorem dX12_hasRun_47 : decode cX12_hasRun 47 = .ok (.iload_n 3, 1) := by decide +kernel
theorem dX12_hasRun_48 : decode cX12_hasRun 48 = .ok (.iload 4, 2) := by decide +kernel
theorem dX12_hasRun_50 : decode cX12_hasRun 50 = .ok (.iload 5, 2) := by decide +kernel
theorem dX12_hasRun_52 : decode cX12_hasRun 52 = .ok (.invokevirtual 754, 3) := by decide +kernel
theorem dX12_hasRun_55 : decode cX12_hasRun 55 = .ok (.iload_n 1, 1) := by decide +kernel
theorem dX12_hasRun_56 : decode cX12_hasRun 56 = .ok (.ifCond .ne 10, 3) := by decide +kernel
theorem dX12_hasRun_59 : decode cX12_hasRun 59 = .ok (.aload_n 0, 1) := by decide +kernel
theorem dX12_hasRun_60 : decode cX12_hasRun 60 = .ok (.invokevirtual 758, 3) := by decide +kernel
theorem dX12_hasRun_63 : decode cX12_hasRun 63 = .ok (.goto 7, 3) := by decide +kernel
theorem dX12_hasRun_66 : decode cX12_hasRun 66 = .ok (.aload_n 0, 1) := by decide +kernel
theorem dX12_hasRun_67 : decode cX12_hasRun 67 = .ok (.invokevirtual 761, 3) := by decide +kernel
theorem dX12_hasRun_70 : decode cX12_hasRun 70 = .ok (.iconst 1, 1) := by decide +kernel
theorem dX12_hasRun_71 : decode cX12_hasRun 71 = .ok (.ireturn, 1) := by decide +kernel
theorem dX12_folded_0 : decode cX12_folded 0 = .ok (.iconst 0, 1) := by decide +kernel
theorem dX12_folded_1 : decode cX12_folded 1 = .ok (.istore_n 1, 1) := by decide +kernel
theorem dX12_folded_2 : decode cX12_folded 2 = .ok (.iconst 0, 1) := by decide +kernel
theorem dX12_folded_3 : decode cX12_folded 3 = .ok (.istore_n 2, 1) := by decide +kernel
theorem dX12_folded_4 : decode cX12_folded 4 = .ok (.iload_n 2, 1) := by decide +kernel
theorem dX12_folded_5 : decode cX12_folded 5 = .ok (.aload_n 0, 1) := by decide +kernel
theorem dX12_folded_6 : decode cX12_folded 6 = .ok (.getfield 675, 3) := by decide +kernel
theorem dX12_folded_9 : decode cX12_folded 9 = .ok (.if_icmp .ge 21, 3) := by decide +kernel
theorem dX12_folded_12 : decode cX12_folded 12 = .ok (.bipush 31, 2) := by decide +kernel
theorem dX12_folded_14 : decode cX12_folded 14 = .ok (.iload_n 1, 1) := by decide +kernel
theorem dX12_folded_15 : decode cX12_folded 15 = .ok (.imul, 1) := by decide +kernel
theorem dX12_folded_16 : decode cX12_folded 16 = .ok (.aload_n 0, 1) := by decide +kernel
theorem dX12_folded_17 : decode cX12_folded 17 = .ok (.getfield 157, 3) := by decide +kernel
theorem dX12_folded_20 : decode cX12_folded 20 = .ok (.iload_n 2, 1) := by decide +kernel
theorem dX12_folded_21 : decode cX12_folded 21 = .ok (.iaload, 1) := by decide +kernel
theorem dX12_folded_22 : decode cX12_folded 22 = .ok (.iadd, 1) := by decide +kernel
theorem dX12_folded_23 : decode cX12_folded 23 = .ok (.istore_n 1, 1) := by decide +kernel
theorem dX12_folded_24 : decode cX12_folded 24 = .ok (.iinc 2 1, 3) := by decide +kernel
theorem dX12_folded_27 : decode cX12_folded 27 = .ok (.goto (-23), 3) := by decide +kernel
theorem dX12_folded_30 : decode cX12_folded 30 = .ok (.iload_n 1, 1) := by decide +kernel
theorem dX12_folded_31 : decode cX12_folded 31 = .ok (.ireturn, 1) := by decide +kernel
theorem dX12_run_0 : decode cX12_run 0 = .ok (.aload_n 0, 1) := by decide +kernel
theorem dX12_run_1 : decode cX12_run 1 = .ok (.iconst 0, 1) := by decide +kernel
theorem dX12_run_2 : decode cX12_run 2 = .ok (.putfield 169, 3) := by decide +kernel
theorem dX12_run_5 : decode cX12_run 5 = .ok (.iload 6, 2) := by decide +kernel
theorem dX12_run_7 : decode cX12_run 7 = .ok (.i2l, 1) := by decide +kernel
theorem dX12_run_8 : decode cX12_run 8 = .ok (.lconst 0, 1) := by decide +kernel
theorem dX12_run_9 : decode cX12_run 9 = .ok (.ldc2_w 764, 3) := by decide +kernel
theorem dX12_run_12 : decode cX12_run 12 = .ok (.invokestatic 312, 3) := by decide +kernel
theorem dX12_run_15 : decode cX12_run 15 = .ok (.ifCond .eq 17, 3) := by decide +kernel
theorem dX12_run_18 : decode cX12_run 18 = .ok (.aload_n 0, 1) := by decide +kernel
theorem dX12_run_19 : decode cX12_run 19 = .ok (.iload_n 1, 1) := by decide +kernel
theorem dX12_run_20 : decode cX12_run 20 = .ok (.iload_n 2, 1) := by decide +kernel
theorem dX12_run_21 : decode cX12_run 21 = .ok (.iload_n 3, 1) := by decide +kernel
theorem dX12_run_22 : decode cX12_run 22 = .ok (.iload 4, 2) := by decide +kernel
theorem dX12_run_24 : decode cX12_run 24 = .ok (.iload 5, 2) := by decide +kernel
theorem dX12_run_26 : decode cX12_run 26 = .ok (.invokevirtual 766, 3) := by decide +kernel
theorem dX12_run_29 : decode cX12_run 29 = .ok (.ifCond .ne 7, 3) := by decide +kernel
theorem dX12_run_32 : decode cX12_run 32 = .ok (.ldc_w 614, 3) := by decide +kernel
theorem dX12_run_35 : decode cX12_run 35 = .ok (.ireturn, 1) := by decide +kernel
theorem dX12_run_36 : decode cX12_run 36 = .ok (.iload 6, 2) := by decide +kernel
theorem dX12_run_38 : decode cX12_run 38 = .ok (.tableswitch 92 0 11 #[62, 67, 72, 77, 82, 92, 92, 92, 92, 92, 92, 87], 62) := by decide +kernel
theorem dX12_run_100 : decode cX12_run 100 = .ok (.aload_n 0, 1) := by decide +kernel
theorem dX12_run_101 : decode cX12_run 101 = .ok (.getfield 675, 3) := by decide +kernel
theorem dX12_run_104 : decode cX12_run 104 = .ok (.ireturn, 1) := by decide +kernel
theorem dX12_run_105 : decode cX12_run 105 = .ok (.aload_n 0, 1) := by decide +kernel
theorem dX12_run_106 : decode cX12_run 106 = .ok (.getfield 684, 3) := by decide +kernel
theorem dX12_run_109 : decode cX12_run 109 = .ok (.ireturn, 1) := by decide +kernel
theorem dX12_run_110 : decode cX12_run 110 = .ok (.aload_n 0, 1) := by decide +kernel
theorem dX12_run_111 : decode cX12_run 111 = .ok (.getfield 687, 3) := by decide +kernel
theorem dX12_run_114 : decode cX12_run 114 = .ok (.ireturn, 1) := by decide +kernel
theorem dX12_run_115 : decode cX12_run 115 = .ok (.aload_n 0, 1) := by decide +kernel
theorem dX12_run_116 : decode cX12_run 116 = .ok (.getfield 678, 3) := by decide +kernel
theorem dX12_run_119 : decode cX12_run 119 = .ok (.ireturn, 1) := by decide +kernel
theorem dX12_run_120 : decode cX12_run 120 = .ok (.aload_n 0, 1) := by decide +kernel
theorem dX12_run_121 : decode cX12_run 121 = .ok (.getfield 681, 3) := by decide +kernel
theorem dX12_run_124 : decode cX12_run 124 = .ok (.ireturn, 1) := by decide +kernel
theorem dX12_run_125 : decode cX12_run 125 = .ok (.aload_n 0, 1) := by decide +kernel
theorem dX12_run_126 : decode cX12_run 126 = .ok (.invokevirtual 770, 3) := by decide +kernel
theorem dX12_run_129 : decode cX12_run 129 = .ok (.ireturn, 1) := by decide +kernel
theorem dX12_run_130 : decode cX12_run 130 = .ok (.aload_n 0, 1) := by decide +kernel
theorem dX12_run_131 : decode cX12_run 131 = .ok (.getfield 154, 3) := by decide +kernel
theorem dX12_run_134 : decode cX12_run 134 = .ok (.iload 6, 2) := by decide +kernel
theorem dX12_run_136 : decode cX12_run 136 = .ok (.iconst 5, 1) := by decide +kernel
theorem dX12_run_137 : decode cX12_run 137 = .ok (.isub, 1) := by decide +kernel
theorem dX12_run_138 : decode cX12_run 138 = .ok (.iaload, 1) := by decide +kernel
theorem dX12_run_139 : decode cX12_run 139 = .ok (.ireturn, 1) := by decide +kernel
theorem dX12_output_0 : decode cX12_output 0 = .ok (.aload_n 0, 1) := by decide +kernel
theorem dX12_output_1 : decode cX12_output 1 = .ok (.iconst 0, 1) := by decide +kernel
theorem dX12_output_2 : decode cX12_output 2 = .ok (.putfield 169, 3) := by decide +kernel
theorem dX12_output_5 : decode cX12_output 5 = .ok (.iload 6, 2) := by decide +kernel
theorem dX12_output_7 : decode cX12_output 7 = .ok (.ifCond .lt 36, 3) := by decide +kernel
theorem dX12_output_10 : decode cX12_output 10 = .ok (.aload_n 0, 1) := by decide +kernel
theorem dX12_output_11 : decode cX12_output 11 = .ok (.iload_n 1, 1) := by decide +kernel
theorem dX12_output_12 : decode cX12_output 12 = .ok (.iload_n 2, 1) := by decide +kernel
theorem dX12_output_13 : decode cX12_output 13 = .ok (.iload_n 3, 1) := by decide +kernel
theorem dX12_output_14 : decode cX12_output 14 = .ok (.iload 4, 2) := by decide +kernel
theorem dX12_output_16 : decode cX12_output 16 = .ok (.iload 5, 2) := by decide +kernel
theorem dX12_output_18 : decode cX12_output 18 = .ok (.invokevirtual 766, 3) := by decide +kernel
theorem dX12_output_21 : decode cX12_output 21 = .ok (.ifCond .eq 22, 3) := by decide +kernel
theorem dX12_output_24 : decode cX12_output 24 = .ok (.iload 6, 2) := by decide +kernel
theorem dX12_output_26 : decode cX12_output 26 = .ok (.aload_n 0, 1) := by decide +kernel
theorem dX12_output_27 : decode cX12_output 27 = .ok (.getfield 675, 3) := by decide +kernel
theorem dX12_output_30 : decode cX12_output 30 = .ok (.if_icmp .ge 13, 3) := by decide +kernel
theorem dX12_output_33 : decode cX12_output 33 = .ok (.aload_n 0, 1) := by decide +kernel
theorem dX12_output_34 : decode cX12_output 34 = .ok (.getfield 157, 3) := by decide +kernel
theorem dX12_output_37 : decode cX12_output 37 = .ok (.iload 6, 2) := by decide +kernel
theorem dX12_output_39 : decode cX12_output 39 = .ok (.iaload, 1) := by decide +kernel
theorem dX12_output_40 : decode cX12_output 40 = .ok (.goto 6, 3) := by decide +kernel
theorem dX12_output_43 : decode cX12_output 43 = .ok (.ldc_w 614, 3) := by decide +kernel
theorem dX12_output_46 : decode cX12_output 46 = .ok (.ireturn, 1) := by decide +kernel
theorem dJ6_numberOfTrailingZeros_0f7a4_0 : decode cJ6_numberOfTrailingZeros_0f7a4 0 = .ok (.iload_n 0, 1) := by decide +kernel
theorem dJ6_numberOfTrailingZeros_0f7a4_1 : decode cJ6_numberOfTrailingZeros_0f7a4 1 = .ok (.iconst (-1), 1) := by decide +kernel
theorem dJ6_numberOfTrailingZeros_0f7a4_2 : decode cJ6_numberOfTrailingZeros_0f7a4 2 = .ok (.ixor, 1) := by decide +kernel
theorem dJ6_numberOfTrailingZeros_0f7a4_3 : decode cJ6_numberOfTrailingZeros_0f7a4 3 = .ok (.iload_n 0, 1) := by decide +kernel
theorem dJ6_numberOfTrailingZeros_0f7a4_4 : decode cJ6_numberOfTrailingZeros_0f7a4 4 = .ok (.iconst 1, 1) := by decide +kernel
theorem dJ6_numberOfTrailingZeros_0f7a4_5 : decode cJ6_numberOfTrailingZeros_0f7a4 5 = .ok (.isub, 1) := by decide +kernel
theorem dJ6_numberOfTrailingZeros_0f7a4_6 : decode cJ6_numberOfTrailingZeros_0f7a4 6 = .ok (.iand, 1) := by decide +kernel
theorem dJ6_numberOfTrailingZeros_0f7a4_7 : decode cJ6_numberOfTrailingZeros_0f7a4 7 = .ok (.istore_n 0, 1) := by decide +kernel
theorem dJ6_numberOfTrailingZeros_0f7a4_8 : decode cJ6_numberOfTrailingZeros_0f7a4 8 = .ok (.iload_n 0, 1) := by decide +kernel
theorem dJ6_numberOfTrailingZeros_0f7a4_9 : decode cJ6_numberOfTrailingZeros_0f7a4 9 = .ok (.ifCond .gt 8, 3) := by decide +kernel
theorem dJ6_numberOfTrailingZeros_0f7a4_12 : decode cJ6_numberOfTrailingZeros_0f7a4 12 = .ok (.iload_n 0, 1) := by decide +kernel
theorem dJ6_numberOfTrailingZeros_0f7a4_13 : decode cJ6_numberOfTrailingZeros_0f7a4 13 = .ok (.bipush 32, 2) := by decide +kernel
theorem dJ6_numberOfTrailingZeros_0f7a4_15 : decode cJ6_numberOfTrailingZeros_0f7a4 15 = .ok (.iand, 1) := by decide +kernel
theorem dJ6_numberOfTrailingZeros_0f7a4_16 : decode cJ6_numberOfTrailingZeros_0f7a4 16 = .ok (.ireturn, 1) := by decide +kernel
theorem dJ6_numberOfTrailingZeros_0f7a4_17 : decode cJ6_numberOfTrailingZeros_0f7a4 17 = .ok (.iconst 1, 1) := by decide +kernel
theorem dJ6_numberOfTrailingZeros_0f7a4_18 : decode cJ6_numberOfTrailingZeros_0f7a4 18 = .ok (.istore_n 1, 1) := by decide +kernel
theorem dJ6_numberOfTrailingZeros_0f7a4_19 : decode cJ6_numberOfTrailingZeros_0f7a4 19 = .ok (.iload_n 0, 1) := by decide +kernel
theorem dJ6_numberOfTrailingZeros_0f7a4_20 : decode cJ6_numberOfTrailingZeros_0f7a4 20 = .ok (.ldc_w 264, 3) := by decide +kernel
theorem dJ6_numberOfTrailingZeros_0f7a4_23 : decode cJ6_numberOfTrailingZeros_0f7a4 23 = .ok (.if_icmp .le 11, 3) := by decide +kernel
theorem dJ6_numberOfTrailingZeros_0f7a4_26 : decode cJ6_numberOfTrailingZeros_0f7a4 26 = .ok (.iinc 1 16, 3) := by decide +kernel
theorem dJ6_numberOfTrailingZeros_0f7a4_29 : decode cJ6_numberOfTrailingZeros_0f7a4 29 = .ok (.iload_n 0, 1) := by decide +kernel
theorem dJ6_numberOfTrailingZeros_0f7a4_30 : decode cJ6_numberOfTrailingZeros_0f7a4 30 = .ok (.bipush 16, 2) := by decide +kernel
theorem dJ6_numberOfTrailingZeros_0f7a4_32 : decode cJ6_numberOfTrailingZeros_0f7a4 32 = .ok (.iushr, 1) := by decide +kernel
theorem dJ6_numberOfTrailingZeros_0f7a4_33 : decode cJ6_numberOfTrailingZeros_0f7a4 33 = .ok (.istore_n 0, 1) := by decide +kernel
theorem dJ6_numberOfTrailingZeros_0f7a4_34 : decode cJ6_numberOfTrailingZeros_0f7a4 34 = .ok (.iload_n 0, 1) := by decide +kernel
theorem dJ6_numberOfTrailingZeros_0f7a4_35 : decode cJ6_numberOfTrailingZeros_0f7a4 35 = .ok (.sipush 256, 3) := by decide +kernel
theorem dJ6_numberOfTrailingZeros_0f7a4_38 : decode cJ6_numberOfTrailingZeros_0f7a4 38 = .ok (.if_icmp .le 11, 3) := by decide +kernel
theorem dJ6_numberOfTrailingZeros_0f7a4_41 : decode cJ6_numberOfTrailingZeros_0f7a4 41 = .ok (.iinc 1 8, 3) := by decide +kernel
theorem dJ6_numberOfTrailingZeros_0f7a4_44 : decode cJ6_numberOfTrailingZeros_0f7a4 44 = .ok (.iload_n 0, 1) := by decide +kernel
theorem dJ6_numberOfTrailingZeros_0f7a4_45 : decode cJ6_numberOfTrailingZeros_0f7a4 45 = .ok (.bipush 8, 2) := by decide +kernel
theorem dJ6_numberOfTrailingZeros_0f7a4_47 : decode cJ6_numberOfTrailingZeros_0f7a4 47 = .ok (.iushr, 1) := by decide +kernel
theorem dJ6_numberOfTrailingZeros_0f7a4_48 : decode cJ6_numberOfTrailingZeros_0f7a4 48 = .ok (.istore_n 0, 1) := by decide +kernel
theorem dJ6_numberOfTrailingZeros_0f7a4_49 : decode cJ6_numberOfTrailingZeros_0f7a4 49 = .ok (.iload_n 0, 1) := by decide +kernel
theorem dJ6_numberOfTrailingZeros_0f7a4_50 : decode cJ6_numberOfTrailingZeros_0f7a4 50 = .ok (.bipush 16, 2) := by decide +kernel
theorem dJ6_numberOfTrailingZeros_0f7a4_52 : decode cJ6_numberOfTrailingZeros_0f7a4 52 = .ok (.if_icmp .le 10, 3) := by decide +kernel
theorem dJ6_numberOfTrailingZeros_0f7a4_55 : decode cJ6_numberOfTrailingZeros_0f7a4 55 = .ok (.iinc 1 4, 3) := by decide +kernel
theorem dJ6_numberOfTrailingZeros_0f7a4_58 : decode cJ6_numberOfTrailingZeros_0f7a4 58 = .ok (.iload_n 0, 1) := by decide +kernel
theorem dJ6_numberOfTrailingZeros_0f7a4_59 : decode cJ6_numberOfTrailingZeros_0f7a4 59 = .ok (.iconst 4, 1) := by decide +kernel
theorem dJ6_numberOfTrailingZeros_0f7a4_60 : decode cJ6_numberOfTrailingZeros_0f7a4 60 = .ok (.iushr, 1) := by decide +kernel
theorem dJ6_numberOfTrailingZeros_0f7a4_61 : decode cJ6_numberOfTrailingZeros_0f7a4 61 = .ok (.istore_n 0, 1) := by decide +kernel
theorem dJ6_numberOfTrailingZeros_0f7a4_62 : decode cJ6_numberOfTrailingZeros_0f7a4 62 = .ok (.iload_n 0, 1) := by decide +kernel
theorem dJ6_numberOfTrailingZeros_0f7a4_63 : decode cJ6_numberOfTrailingZeros_0f7a4 63 = .ok (.iconst 4, 1) := by decide +kernel
theorem dJ6_numberOfTrailingZeros_0f7a4_64 : decode cJ6_numberOfTrailingZeros_0f7a4 64 = .ok (.if_icmp .le 10, 3) := by decide +kernel
theorem dJ6_numberOfTrailingZeros_0f7a4_67 : decode cJ6_numberOfTrailingZeros_0f7a4 67 = .ok (.iinc 1 2, 3) := by decide +kernel
theorem dJ6_numberOfTrailingZeros_0f7a4_70 : decode cJ6_numberOfTrailingZeros_0f7a4 70 = .ok (.iload_n 0, 1) := by decide +kernel
theorem dJ6_numberOfTrailingZeros_0f7a4_71 : decode cJ6_numberOfTrailingZeros_0f7a4 71 = .ok (.iconst 2, 1) := by decide +kernel
theorem dJ6_numberOfTrailingZeros_0f7a4_72 : decode cJ6_numberOfTrailingZeros_0f7a4 72 = .ok (.iushr, 1) := by decide +kernel
theorem dJ6_numberOfTrailingZeros_0f7a4_73 : decode cJ6_numberOfTrailingZeros_0f7a4 73 = .ok (.istore_n 0, 1) := by decide +kernel
theorem dJ6_numberOfTrailingZeros_0f7a4_74 : decode cJ6_numberOfTrailingZeros_0f7a4 74 = .ok (.iload_n 1, 1) := by decide +kernel
theorem dJ6_numberOfTrailingZeros_0f7a4_75 : decode cJ6_numberOfTrailingZeros_0f7a4 75 = .ok (.iload_n 0, 1) := by decide +kernel
theorem dJ6_numberOfTrailingZeros_0f7a4_76 : decode cJ6_numberOfTrailingZeros_0f7a4 76 = .ok (.iconst 1, 1) := by decide +kernel
theorem dJ6_numberOfTrailingZeros_0f7a4_77 : decode cJ6_numberOfTrailingZeros_0f7a4 77 = .ok (.iushr, 1) := by decide +kernel
theorem dJ6_numberOfTrailingZeros_0f7a4_78 : decode cJ6_numberOfTrailingZeros_0f7a4 78 = .ok (.iadd, 1) := by decide +kernel
theorem dJ6_numberOfTrailingZeros_0f7a4_79 : decode cJ6_numberOfTrailingZeros_0f7a4 79 = .ok (.ireturn, 1) := by decide +kernel
theorem dJ13_numberOfTrailingZeros_95d88_0 : decode cJ13_numberOfTrailingZeros_95d88 0 = .ok (.lload_n 0, 1) := by decide +kernel
theorem dJ13_numberOfTrailingZeros_95d88_1 : decode cJ13_numberOfTrailingZeros_95d88 1 = .ok (.l2i, 1) := by decide +kernel
theorem dJ13_numberOfTrailingZeros_95d88_2 : decode cJ13_numberOfTrailingZeros_95d88 2 = .ok (.istore_n 2, 1) := by decide +kernel
theorem dJ13_numberOfTrailingZeros_95d88_3 : decode cJ13_numberOfTrailingZeros_95d88 3 = .ok (.iload_n 2, 1) := by decide +kernel
theorem dJ13_numberOfTrailingZeros_95d88_4 : decode cJ13_numberOfTrailingZeros_95d88 4 = .ok (.ifCond .ne 17, 3) := by decide +kernel
theorem dJ13_numberOfTrailingZeros_95d88_7 : decode cJ13_numberOfTrailingZeros_95d88 7 = .ok (.bipush 32, 2) := by decide +kernel
theorem dJ13_numberOfTrailingZeros_95d88_9 : decode cJ13_numberOfTrailingZeros_95d88 9 = .ok (.lload_n 0, 1) := by decide +kernel
theorem dJ13_numberOfTrailingZeros_95d88_10 : decode cJ13_numberOfTrailingZeros_95d88 10 = .ok (.bipush 32, 2) := by decide +kernel
theorem dJ13_numberOfTrailingZeros_95d88_12 : decode cJ13_numberOfTrailingZeros_95d88 12 = .ok (.lushr, 1) := by decide +kernel
theorem dJ13_numberOfTrailingZeros_95d88_13 : decode cJ13_numberOfTrailingZeros_95d88 13 = .ok (.l2i, 1) := by decide +kernel
theorem dJ13_numberOfTrailingZeros_95d88_14 : decode cJ13_numberOfTrailingZeros_95d88 14 = .ok (.invokestatic 311, 3) := by decide +kernel
theorem dJ13_numberOfTrailingZeros_95d88_17 : decode cJ13_numberOfTrailingZeros_95d88 17 = .ok (.iadd, 1) := by decide +kernel
theorem dJ13_numberOfTrailingZeros_95d88_18 : decode cJ13_numberOfTrailingZeros_95d88 18 = .ok (.goto 7, 3) := by decide +kernel
theorem dJ13_numberOfTrailingZeros_95d88_21 : decode cJ13_numberOfTrailingZeros_95d88 21 = .ok (.iload_n 2, 1) := by decide +kernel
theorem dJ13_numberOfTrailingZeros_95d88_22 : decode cJ13_numberOfTrailingZeros_95d88 22 = .ok (.invokestatic 311, 3) := by decide +kernel
theorem dJ13_numberOfTrailingZeros_95d88_25 : decode cJ13_numberOfTrailingZeros_95d88 25 = .ok (.ireturn, 1) := by decide +kernel
theorem dJ13_bitCount_95d88_0 : decode cJ13_bitCount_95d88 0 = .ok (.lload_n 0, 1) := by decide +kernel
theorem dJ13_bitCount_95d88_1 : decode cJ13_bitCount_95d88 1 = .ok (.lload_n 0, 1) := by decide +kernel
theorem dJ13_bitCount_95d88_2 : decode cJ13_bitCount_95d88 2 = .ok (.iconst 1, 1) := by decide +kernel
theorem dJ13_bitCount_95d88_3 : decode cJ13_bitCount_95d88 3 = .ok (.lushr, 1) := by decide +kernel
theorem dJ13_bitCount_95d88_4 : decode cJ13_bitCount_95d88 4 = .ok (.ldc2_w 314, 3) := by decide +kernel
theorem dJ13_bitCount_95d88_7 : decode cJ13_bitCount_95d88 7 = .ok (.land, 1) := by decide +kernel
theorem dJ13_bitCount_95d88_8 : decode cJ13_bitCount_95d88 8 = .ok (.lsub, 1) := by decide +kernel
theorem dJ13_bitCount_95d88_9 : decode cJ13_bitCount_95d88 9 = .ok (.lstore_n 0, 1) := by decide +kernel
theorem dJ13_bitCount_95d88_10 : decode cJ13_bitCount_95d88 10 = .ok (.lload_n 0, 1) := by decide +kernel
theorem dJ13_bitCount_95d88_11 : decode cJ13_bitCount_95d88 11 = .ok (.ldc2_w 316, 3) := by decide +kernel
theorem dJ13_bitCount_95d88_14 : decode cJ13_bitCount_95d88 14 = .ok (.land, 1) := by decide +kernel
theorem dJ13_bitCount_95d88_15 : decode cJ13_bitCount_95d88 15 = .ok (.lload_n 0, 1) := by decide +kernel
theorem dJ13_bitCount_95d88_16 : decode cJ13_bitCount_95d88 16 = .ok (.iconst 2, 1) := by decide +kernel
theorem dJ13_bitCount_95d88_17 : decode cJ13_bitCount_95d88 17 = .ok (.lushr, 1) := by decide +kernel
theorem dJ13_bitCount_95d88_18 : decode cJ13_bitCount_95d88 18 = .ok (.ldc2_w 316, 3) := by decide +kernel
theorem dJ13_bitCount_95d88_21 : decode cJ13_bitCount_95d88 21 = .ok (.land, 1) := by decide +kernel
theorem dJ13_bitCount_95d88_22 : decode cJ13_bitCount_95d88 22 = .ok (.ladd, 1) := by decide +kernel
theorem dJ13_bitCount_95d88_23 : decode cJ13_bitCount_95d88 23 = .ok (.lstore_n 0, 1) := by decide +kernel
theorem dJ13_bitCount_95d88_24 : decode cJ13_bitCount_95d88 24 = .ok (.lload_n 0, 1) := by decide +kernel
theorem dJ13_bitCount_95d88_25 : decode cJ13_bitCount_95d88 25 = .ok (.lload_n 0, 1) := by decide +kernel
theorem dJ13_bitCount_95d88_26 : decode cJ13_bitCount_95d88 26 = .ok (.iconst 4, 1) := by decide +kernel
theorem dJ13_bitCount_95d88_27 : decode cJ13_bitCount_95d88 27 = .ok (.lushr, 1) := by decide +kernel
theorem dJ13_bitCount_95d88_28 : decode cJ13_bitCount_95d88 28 = .ok (.ladd, 1) := by decide +kernel
theorem dJ13_bitCount_95d88_29 : decode cJ13_bitCount_95d88 29 = .ok (.ldc2_w 318, 3) := by decide +kernel
theorem dJ13_bitCount_95d88_32 : decode cJ13_bitCount_95d88 32 = .ok (.land, 1) := by decide +kernel
theorem dJ13_bitCount_95d88_33 : decode cJ13_bitCount_95d88 33 = .ok (.lstore_n 0, 1) := by decide +kernel
theorem dJ13_bitCount_95d88_34 : decode cJ13_bitCount_95d88 34 = .ok (.lload_n 0, 1) := by decide +kernel
theorem dJ13_bitCount_95d88_35 : decode cJ13_bitCount_95d88 35 = .ok (.lload_n 0, 1) := by decide +kernel
theorem dJ13_bitCount_95d88_36 : decode cJ13_bitCount_95d88 36 = .ok (.bipush 8, 2) := by decide +kernel
theorem dJ13_bitCount_95d88_38 : decode cJ13_bitCount_95d88 38 = .ok (.lushr, 1) := by decide +kernel
theorem dJ13_bitCount_95d88_39 : decode cJ13_bitCount_95d88 39 = .ok (.ladd, 1) := by decide +kernel
theorem dJ13_bitCount_95d88_40 : decode cJ13_bitCount_95d88 40 = .ok (.lstore_n 0, 1) := by decide +kernel
theorem dJ13_bitCount_95d88_41 : decode cJ13_bitCount_95d88 41 = .ok (.lload_n 0, 1) := by decide +kernel
theorem dJ13_bitCount_95d88_42 : decode cJ13_bitCount_95d88 42 = .ok (.lload_n 0, 1) := by decide +kernel
theorem dJ13_bitCount_95d88_43 : decode cJ13_bitCount_95d88 43 = .ok (.bipush 16, 2) := by decide +kernel
theorem dJ13_bitCount_95d88_45 : decode cJ13_bitCount_95d88 45 = .ok (.lushr, 1) := by decide +kernel
theorem dJ13_bitCount_95d88_46 : decode cJ13_bitCount_95d88 46 = .ok (.ladd, 1) := by decide +kernel
theorem dJ13_bitCount_95d88_47 : decode cJ13_bitCount_95d88 47 = .ok (.lstore_n 0, 1) := by decide +kernel
theorem dJ13_bitCount_95d88_48 : decode cJ13_bitCount_95d88 48 = .ok (.lload_n 0, 1) := by decide +kernel
theorem dJ13_bitCount_95d88_49 : decode cJ13_bitCount_95d88 49 = .ok (.lload_n 0, 1) := by decide +kernel
theorem dJ13_bitCount_95d88_50 : decode cJ13_bitCount_95d88 50 = .ok (.bipush 32, 2) := by decide +kernel
theorem dJ13_bitCount_95d88_52 : decode cJ13_bitCount_95d88 52 = .ok (.lushr, 1) := by decide +kernel
theorem dJ13_bitCount_95d88_53 : decode cJ13_bitCount_95d88 53 = .ok (.ladd, 1) := by decide +kernel
theorem dJ13_bitCount_95d88_54 : decode cJ13_bitCount_95d88 54 = .ok (.lstore_n 0, 1) := by decide +kernel
theorem dJ13_bitCount_95d88_55 : decode cJ13_bitCount_95d88 55 = .ok (.lload_n 0, 1) := by decide +kernel
theorem dJ13_bitCount_95d88_56 : decode cJ13_bitCount_95d88 56 = .ok (.l2i, 1) := by decide +kernel
theorem dJ13_bitCount_95d88_57 : decode cJ13_bitCount_95d88 57 = .ok (.bipush 127, 2) := by decide +kernel
theorem dJ13_bitCount_95d88_59 : decode cJ13_bitCount_95d88 59 = .ok (.iand, 1) := by decide +kernel
theorem dJ13_bitCount_95d88_60 : decode cJ13_bitCount_95d88 60 = .ok (.ireturn, 1) := by decide +kernel
theorem dJ9_max_7cf53_0 : decode cJ9_max_7cf53 0 = .ok (.iload_n 0, 1) := by decide +kernel
theorem dJ9_max_7cf53_1 : decode cJ9_max_7cf53 1 = .ok (.iload_n 1, 1) := by decide +kernel
theorem dJ9_max_7cf53_2 : decode cJ9_max_7cf53 2 = .ok (.if_icmp .lt 7, 3) := by decide +kernel
theorem dJ9_max_7cf53_5 : decode cJ9_max_7cf53 5 = .ok (.iload_n 0, 1) := by decide +kernel
theorem dJ9_max_7cf53_6 : decode cJ9_max_7cf53 6 = .ok (.goto 4, 3) := by decide +kernel
theorem dJ9_max_7cf53_9 : decode cJ9_max_7cf53 9 = .ok (.iload_n 1, 1) := by decide +kernel
theorem dJ9_max_7cf53_10 : decode cJ9_max_7cf53 10 = .ok (.ireturn, 1) := by decide +kernel
theorem dJ0_length_8abf5_0 : decode cJ0_length_8abf5 0 = .ok (.aload_n 0, 1) := by decide +kernel
theorem dJ0_length_8abf5_1 : decode cJ0_length_8abf5 1 = .ok (.getfield 9, 3) := by decide +kernel
theorem dJ0_length_8abf5_4 : decode cJ0_length_8abf5 4 = .ok (.arraylength, 1) := by decide +kernel
theorem dJ0_length_8abf5_5 : decode cJ0_length_8abf5 5 = .ok (.aload_n 0, 1) := by decide +kernel
theorem dJ0_length_8abf5_6 : decode cJ0_length_8abf5 6 = .ok (.invokevirtual 335, 3) := by decide +kernel
theorem dJ0_length_8abf5_9 : decode cJ0_length_8abf5 9 = .ok (.ishr, 1) := by decide +kernel
theorem dJ0_length_8abf5_10 : decode cJ0_length_8abf5 10 = .ok (.ireturn, 1) := by decide +kernel
theorem dJ0_charAt_5068e_0 : decode cJ0_charAt_5068e 0 = .ok (.aload_n 0, 1) := by decide +kernel
theorem dJ0_charAt_5068e_1 : decode cJ0_charAt_5068e 1 = .ok (.invokevirtual 492, 3) := by decide +kernel
theorem dJ0_charAt_5068e_4 : decode cJ0_charAt_5068e 4 = .ok (.ifCond .eq 12, 3) := by decide +kernel
theorem dJ0_charAt_5068e_7 : decode cJ0_charAt_5068e 7 = .ok (.aload_n 0, 1) := by decide +kernel
theorem dJ0_charAt_5068e_8 : decode cJ0_charAt_5068e 8 = .ok (.getfield 9, 3) := by decide +kernel
theorem dJ0_charAt_5068e_11 : decode cJ0_charAt_5068e 11 = .ok (.iload_n 1, 1) := by decide +kernel
theorem dJ0_charAt_5068e_12 : decode cJ0_charAt_5068e 12 = .ok (.invokestatic 495, 3) := by decide +kernel
theorem dJ0_charAt_5068e_15 : decode cJ0_charAt_5068e 15 = .ok (.ireturn, 1) := by decide +kernel
theorem dJ0_charAt_5068e_16 : decode cJ0_charAt_5068e 16 = .ok (.aload_n 0, 1) := by decide +kernel
theorem dJ0_charAt_5068e_17 : decode cJ0_charAt_5068e 17 = .ok (.getfield 9, 3) := by decide +kernel
theorem dJ0_charAt_5068e_20 : decode cJ0_charAt_5068e 20 = .ok (.iload_n 1, 1) := by decide +kernel
theorem dJ0_charAt_5068e_21 : decode cJ0_charAt_5068e 21 = .ok (.invokestatic 498, 3) := by decide +kernel
theorem dJ0_charAt_5068e_24 : decode cJ0_charAt_5068e 24 = .ok (.ireturn, 1) := by decide +kernel
theorem dJ0_coder_7d493_0 : decode cJ0_coder_7d493 0 = .ok (.getstatic 38, 3) := by decide +kernel
theorem dJ0_coder_7d493_3 : decode cJ0_coder_7d493 3 = .ok (.ifCond .eq 10, 3) := by decide +kernel
theorem dJ0_coder_7d493_6 : decode cJ0_coder_7d493 6 = .ok (.aload_n 0, 1) := by decide +kernel
theorem dJ0_coder_7d493_7 : decode cJ0_coder_7d493 7 = .ok (.getfield 15, 3) := by decide +kernel
theorem dJ0_coder_7d493_10 : decode cJ0_coder_7d493 10 = .ok (.goto 4, 3) := by decide +kernel
theorem dJ0_coder_7d493_13 : decode cJ0_coder_7d493 13 = .ok (.iconst 1, 1) := by decide +kernel
theorem dJ0_coder_7d493_14 : decode cJ0_coder_7d493 14 = .ok (.ireturn, 1) := by decide +kernel
theorem dJ0_isLatin1_aae02_0 : decode cJ0_isLatin1_aae02 0 = .ok (.getstatic 38, 3) := by decide +kernel
theorem dJ0_isLatin1_aae02_3 : decode cJ0_isLatin1_aae02 3 = .ok (.ifCond .eq 14, 3) := by decide +kernel
theorem dJ0_isLatin1_aae02_6 : decode cJ0_isLatin1_aae02 6 = .ok (.aload_n 0, 1) := by decide +kernel
theorem dJ0_isLatin1_aae02_7 : decode cJ0_isLatin1_aae02 7 = .ok (.getfield 15, 3) := by decide +kernel
theorem dJ0_isLatin1_aae02_10 : decode cJ0_isLatin1_aae02 10 = .ok (.ifCond .ne 7, 3) := by decide +kernel
theorem dJ0_isLatin1_aae02_13 : decode cJ0_isLatin1_aae02 13 = .ok (.iconst 1, 1) := by decide +kernel
theorem dJ0_isLatin1_aae02_14 : decode cJ0_isLatin1_aae02 14 = .ok (.goto 4, 3) := by decide +kernel
theorem dJ0_isLatin1_aae02_17 : decode cJ0_isLatin1_aae02 17 = .ok (.iconst 0, 1) := by decide +kernel
theorem dJ0_isLatin1_aae02_18 : decode cJ0_isLatin1_aae02 18 = .ok (.ireturn, 1) := by decide +kernel
theorem dJ0_checkIndex_df160_0 : decode cJ0_checkIndex_df160 0 = .ok (.iload_n 0, 1) := by decide +kernel
theorem dJ0_checkIndex_df160_1 : decode cJ0_checkIndex_df160 1 = .ok (.iload_n 1, 1) := by decide +kernel
theorem dJ0_checkIndex_df160_2 : decode cJ0_checkIndex_df160 2 = .ok (.getstatic 1053, 3) := by decide +kernel
theorem dJ0_checkIndex_df160_5 : decode cJ0_checkIndex_df160 5 = .ok (.invokestatic 1059, 3) := by decide +kernel
theorem dJ0_checkIndex_df160_8 : decode cJ0_checkIndex_df160 8 = .ok (.pop, 1) := by decide +kernel
theorem dJ0_checkIndex_df160_9 : decode cJ0_checkIndex_df160 9 = .ok (.return_, 1) := by decide +kernel
theorem dJ1_charAt_3b067_0 : decode cJ1_charAt_3b067 0 = .ok (.iload_n 1, 1) := by decide +kernel
theorem dJ1_charAt_3b067_1 : decode cJ1_charAt_3b067 1 = .ok (.aload_n 0, 1) := by decide +kernel
theorem dJ1_charAt_3b067_2 : decode cJ1_charAt_3b067 2 = .ok (.arraylength, 1) := by decide +kernel
theorem dJ1_charAt_3b067_3 : decode cJ1_charAt_3b067 3 = .ok (.invokestatic 9, 3) := by decide +kernel
theorem dJ1_charAt_3b067_6 : decode cJ1_charAt_3b067 6 = .ok (.aload_n 0, 1) := by decide +kernel
theorem dJ1_charAt_3b067_7 : decode cJ1_charAt_3b067 7 = .ok (.iload_n 1, 1) := by decide +kernel
theorem dJ1_charAt_3b067_8 : decode cJ1_charAt_3b067 8 = .ok (.baload, 1) := by decide +kernel
theorem dJ1_charAt_3b067_9 : decode cJ1_charAt_3b067 9 = .ok (.sipush 255, 3) := by decide +kernel
theorem dJ1_charAt_3b067_12 : decode cJ1_charAt_3b067 12 = .ok (.iand, 1) := by decide +kernel
theorem dJ1_charAt_3b067_13 : decode cJ1_charAt_3b067 13 = .ok (.i2c, 1) := by decide +kernel
theorem dJ1_charAt_3b067_14 : decode cJ1_charAt_3b067 14 = .ok (.ireturn, 1) := by decide +kernel
theorem dJ2_getChar_3b067_0 : decode cJ2_getChar_3b067 0 = .ok (.getstatic 44, 3) := by decide +kernel
theorem dJ2_getChar_3b067_3 : decode cJ2_getChar_3b067 3 = .ok (.ifCond .ne 25, 3) := by decide +kernel
theorem dJ2_getChar_3b067_6 : decode cJ2_getChar_3b067 6 = .ok (.iload_n 1, 1) := by decide +kernel
theorem dJ2_getChar_3b067_7 : decode cJ2_getChar_3b067 7 = .ok (.ifCond .lt 11, 3) := by decide +kernel
theorem dJ2_getChar_3b067_10 : decode cJ2_getChar_3b067 10 = .ok (.iload_n 1, 1) := by decide +kernel
theorem dJ2_getChar_3b067_11 : decode cJ2_getChar_3b067 11 = .ok (.aload_n 0, 1) := by decide +kernel
theorem dJ2_getChar_3b067_12 : decode cJ2_getChar_3b067 12 = .ok (.invokestatic 48, 3) := by decide +kernel
theorem dJ2_getChar_3b067_15 : decode cJ2_getChar_3b067 15 = .ok (.if_icmp .lt 13, 3) := by decide +kernel
theorem dJ2_getChar_3b067_18 : decode cJ2_getChar_3b067 18 = .ok (.new 52, 3) := by decide +kernel
theorem dJ2_getChar_3b067_21 : decode cJ2_getChar_3b067 21 = .ok (.dup, 1) := by decide +kernel
theorem dJ2_getChar_3b067_22 : decode cJ2_getChar_3b067 22 = .ok (.ldc 54, 2) := by decide +kernel
theorem dJ2_getChar_3b067_24 : decode cJ2_getChar_3b067 24 = .ok (.invokespecial 56, 3) := by decide +kernel
theorem dJ2_getChar_3b067_27 : decode cJ2_getChar_3b067 27 = .ok (.athrow, 1) := by decide +kernel
theorem dJ2_getChar_3b067_28 : decode cJ2_getChar_3b067 28 = .ok (.iload_n 1, 1) := by decide +kernel
theorem dJ2_getChar_3b067_29 : decode cJ2_getChar_3b067 29 = .ok (.iconst 1, 1) := by decide +kernel
theorem dJ2_getChar_3b067_30 : decode cJ2_getChar_3b067 30 = .ok (.ishl, 1) := by decide +kernel
theorem dJ2_getChar_3b067_31 : decode cJ2_getChar_3b067 31 = .ok (.istore_n 1, 1) := by decide +kernel
theorem dJ2_getChar_3b067_32 : decode cJ2_getChar_3b067 32 = .ok (.aload_n 0, 1) := by decide +kernel
theorem dJ2_getChar_3b067_33 : decode cJ2_getChar_3b067 33 = .ok (.iload_n 1, 1) := by decide +kernel
theorem dJ2_getChar_3b067_34 : decode cJ2_getChar_3b067 34 = .ok (.iinc 1 1, 3) := by decide +kernel
theorem dJ2_getChar_3b067_37 : decode cJ2_getChar_3b067 37 = .ok (.baload, 1) := by decide +kernel
theorem dJ2_getChar_3b067_38 : decode cJ2_getChar_3b067 38 = .ok (.sipush 255, 3) := by decide +kernel
theorem dJ2_getChar_3b067_41 : decode cJ2_getChar_3b067 41 = .ok (.iand, 1) := by decide +kernel
theorem dJ2_getChar_3b067_42 : decode cJ2_getChar_3b067 42 = .ok (.getstatic 59, 3) := by decide +kernel
theorem dJ2_getChar_3b067_45 : decode cJ2_getChar_3b067 45 = .ok (.ishl, 1) := by decide +kernel
theorem dJ2_getChar_3b067_46 : decode cJ2_getChar_3b067 46 = .ok (.aload_n 0, 1) := by decide +kernel
theorem dJ2_getChar_3b067_47 : decode cJ2_getChar_3b067 47 = .ok (.iload_n 1, 1) := by decide +kernel
theorem dJ2_getChar_3b067_48 : decode cJ2_getChar_3b067 48 = .ok (.baload, 1) := by decide +kernel
theorem dJ2_getChar_3b067_49 : decode cJ2_getChar_3b067 49 = .ok (.sipush 255, 3) := by decide +kernel
theorem dJ2_getChar_3b067_52 : decode cJ2_getChar_3b067 52 = .ok (.iand, 1) := by decide +kernel
theorem dJ2_getChar_3b067_53 : decode cJ2_getChar_3b067 53 = .ok (.getstatic 63, 3) := by decide +kernel
theorem dJ2_getChar_3b067_56 : decode cJ2_getChar_3b067 56 = .ok (.ishl, 1) := by decide +kernel
theorem dJ2_getChar_3b067_57 : decode cJ2_getChar_3b067 57 = .ok (.ior, 1) := by decide +kernel
theorem dJ2_getChar_3b067_58 : decode cJ2_getChar_3b067 58 = .ok (.i2c, 1) := by decide +kernel
theorem dJ2_getChar_3b067_59 : decode cJ2_getChar_3b067 59 = .ok (.ireturn, 1) := by decide +kernel
theorem dJ2_length_9d52b_0 : decode cJ2_length_9d52b 0 = .ok (.aload_n 0, 1) := by decide +kernel
theorem dJ2_length_9d52b_1 : decode cJ2_length_9d52b 1 = .ok (.arraylength, 1) := by decide +kernel
theorem dJ2_length_9d52b_2 : decode cJ2_length_9d52b 2 = .ok (.iconst 1, 1) := by decide +kernel
theorem dJ2_length_9d52b_3 : decode cJ2_length_9d52b 3 = .ok (.ishr, 1) := by decide +kernel
theorem dJ2_length_9d52b_4 : decode cJ2_length_9d52b 4 = .ok (.ireturn, 1) := by decide +kernel
theorem dJ2_charAt_3b067_0 : decode cJ2_charAt_3b067 0 = .ok (.iload_n 1, 1) := by decide +kernel
theorem dJ2_charAt_3b067_1 : decode cJ2_charAt_3b067 1 = .ok (.aload_n 0, 1) := by decide +kernel
theorem dJ2_charAt_3b067_2 : decode cJ2_charAt_3b067 2 = .ok (.invokestatic 67, 3) := by decide +kernel
theorem dJ2_charAt_3b067_5 : decode cJ2_charAt_3b067 5 = .ok (.aload_n 0, 1) := by decide +kernel
theorem dJ2_charAt_3b067_6 : decode cJ2_charAt_3b067 6 = .ok (.iload_n 1, 1) := by decide +kernel
theorem dJ2_charAt_3b067_7 : decode cJ2_charAt_3b067 7 = .ok (.invokestatic 71, 3) := by decide +kernel
theorem dJ2_charAt_3b067_10 : decode cJ2_charAt_3b067 10 = .ok (.ireturn, 1) := by decide +kernel
theorem dJ2_checkIndex_2214a_0 : decode cJ2_checkIndex_2214a 0 = .ok (.iload_n 0, 1) := by decide +kernel
theorem dJ2_checkIndex_2214a_1 : decode cJ2_checkIndex_2214a 1 = .ok (.aload_n 1, 1) := by decide +kernel
theorem dJ2_checkIndex_2214a_2 : decode cJ2_checkIndex_2214a 2 = .ok (.invokestatic 48, 3) := by decide +kernel
theorem dJ2_checkIndex_2214a_5 : decode cJ2_checkIndex_2214a 5 = .ok (.invokestatic 414, 3) := by decide +kernel
theorem dJ2_checkIndex_2214a_8 : decode cJ2_checkIndex_2214a 8 = .ok (.return_, 1) := by decide +kernel
theorem dJ3_checkIndex_8e157_0 : decode cJ3_checkIndex_8e157 0 = .ok (.iload_n 0, 1) := by decide +kernel
theorem dJ3_checkIndex_8e157_1 : decode cJ3_checkIndex_8e157 1 = .ok (.ifCond .lt 8, 3) := by decide +kernel
theorem dJ3_checkIndex_8e157_4 : decode cJ3_checkIndex_8e157 4 = .ok (.iload_n 0, 1) := by decide +kernel
theorem dJ3_checkIndex_8e157_5 : decode cJ3_checkIndex_8e157 5 = .ok (.iload_n 1, 1) := by decide +kernel
theorem dJ3_checkIndex_8e157_6 : decode cJ3_checkIndex_8e157 6 = .ok (.if_icmp .lt 10, 3) := by decide +kernel
theorem dJ3_checkIndex_8e157_9 : decode cJ3_checkIndex_8e157 9 = .ok (.aload_n 2, 1) := by decide +kernel
theorem dJ3_checkIndex_8e157_10 : decode cJ3_checkIndex_8e157 10 = .ok (.iload_n 0, 1) := by decide +kernel
theorem dJ3_checkIndex_8e157_11 : decode cJ3_checkIndex_8e157 11 = .ok (.iload_n 1, 1) := by decide +kernel
theorem dJ3_checkIndex_8e157_12 : decode cJ3_checkIndex_8e157 12 = .ok (.invokestatic 95, 3) := by decide +kernel
theorem dJ3_checkIndex_8e157_15 : decode cJ3_checkIndex_8e157 15 = .ok (.athrow, 1) := by decide +kernel
theorem dJ3_checkIndex_8e157_16 : decode cJ3_checkIndex_8e157 16 = .ok (.iload_n 0, 1) := by decide +kernel
theorem dJ3_checkIndex_8e157_17 : decode cJ3_checkIndex_8e157 17 = .ok (.ireturn, 1) := by decide +kernel
theorem dL_instruction_0 : decode cL_instruction 0 = .ok (.aload_n 3, 1) := by decide +kernel
theorem dL_instruction_1 : decode cL_instruction 1 = .ok (.iconst 0, 1) := by decide +kernel
theorem dL_instruction_2 : decode cL_instruction 2 = .ok (.aload_n 0, 1) := by decide +kernel
theorem dL_instruction_3 : decode cL_instruction 3 = .ok (.iload_n 1, 1) := by decide +kernel
theorem dL_instruction_4 : decode cL_instruction 4 = .ok (.iload_n 2, 1) := by decide +kernel
theorem dL_instruction_5 : decode cL_instruction 5 = .ok (.invokevirtual 7, 3) := by decide +kernel
theorem dL_instruction_8 : decode cL_instruction 8 = .ok (.i2l, 1) := by decide +kernel
theorem dL_instruction_9 : decode cL_instruction 9 = .ok (.lastore, 1) := by decide +kernel
theorem dL_instruction_10 : decode cL_instruction 10 = .ok (.goto 7, 3) := by decide +kernel
theorem dL_instruction_13 : decode cL_instruction 13 = .ok (.astore 4, 2) := by decide +kernel
theorem dL_instruction_15 : decode cL_instruction 15 = .ok (.iconst 1, 1) := by decide +kernel
theorem dL_instruction_16 : decode cL_instruction 16 = .ok (.ireturn, 1) := by decide +kernel
theorem dL_instruction_17 : decode cL_instruction 17 = .ok (.iconst 0, 1) := by decide +kernel
theorem dL_instruction_18 : decode cL_instruction 18 = .ok (.ireturn, 1) := by decide +kernel
theorem dL_block_0 : decode cL_block 0 = .ok (.aload_n 3, 1) := by decide +kernel
theorem dL_block_1 : decode cL_block 1 = .ok (.iconst 0, 1) := by decide +kernel
theorem dL_block_2 : decode cL_block 2 = .ok (.aload_n 0, 1) := by decide +kernel
theorem dL_block_3 : decode cL_block 3 = .ok (.iload_n 1, 1) := by decide +kernel
theorem dL_block_4 : decode cL_block 4 = .ok (.iload_n 2, 1) := by decide +kernel
theorem dL_block_5 : decode cL_block 5 = .ok (.invokevirtual 15, 3) := by decide +kernel
theorem dL_block_8 : decode cL_block 8 = .ok (.i2l, 1) := by decide +kernel
theorem dL_block_9 : decode cL_block 9 = .ok (.lastore, 1) := by decide +kernel
theorem dL_block_10 : decode cL_block 10 = .ok (.goto 7, 3) := by decide +kernel
theorem dL_block_13 : decode cL_block 13 = .ok (.astore 4, 2) := by decide +kernel
theorem dL_block_15 : decode cL_block 15 = .ok (.iconst 1, 1) := by decide +kernel
theorem dL_block_16 : decode cL_block 16 = .ok (.ireturn, 1) := by decide +kernel
theorem dL_block_17 : decode cL_block 17 = .ok (.iconst 0, 1) := by decide +kernel
theorem dL_block_18 : decode cL_block 18 = .ok (.ireturn, 1) := by decide +kernel
theorem dL_law_0 : decode cL_law 0 = .ok (.new 8, 3) := by decide +kernel
theorem dL_law_3 : decode cL_law 3 = .ok (.dup, 1) := by decide +kernel
theorem dL_law_4 : decode cL_law 4 = .ok (.invokespecial 18, 3) := by decide +kernel
theorem dL_law_7 : decode cL_law 7 = .ok (.astore_n 1, 1) := by decide +kernel
theorem dL_law_8 : decode cL_law 8 = .ok (.new 19, 3) := by decide +kernel
theorem dL_law_11 : decode cL_law 11 = .ok (.dup, 1) := by decide +kernel
theorem dL_law_12 : decode cL_law 12 = .ok (.invokespecial 21, 3) := by decide +kernel
theorem dL_law_15 : decode cL_law 15 = .ok (.astore_n 2, 1) := by decide +kernel
theorem dL_law_16 : decode cL_law 16 = .ok (.iconst 1, 1) := by decide +kernel
theorem dL_law_17 : decode cL_law 17 = .ok (.newarray .long, 2) := by decide +kernel
theorem dL_law_19 : decode cL_law 19 = .ok (.astore_n 3, 1) := by decide +kernel
theorem dL_law_20 : decode cL_law 20 = .ok (.iconst 0, 1) := by decide +kernel
theorem dL_law_21 : decode cL_law 21 = .ok (.istore 4, 2) := by decide +kernel
theorem dL_law_23 : decode cL_law 23 = .ok (.iload 4, 2) := by decide +kernel
theorem dL_law_25 : decode cL_law 25 = .ok (.aload_n 0, 1) := by decide +kernel
theorem dL_law_26 : decode cL_law 26 = .ok (.arraylength, 1) := by decide +kernel
theorem dL_law_27 : decode cL_law 27 = .ok (.bipush 7, 2) := by decide +kernel
theorem dL_law_29 : decode cL_law 29 = .ok (.isub, 1) := by decide +kernel
theorem dL_law_30 : decode cL_law 30 = .ok (.if_icmp .gt 951, 3) := by decide +kernel
theorem dL_law_33 : decode cL_law 33 = .ok (.aload_n 0, 1) := by decide +kernel
theorem dL_law_34 : decode cL_law 34 = .ok (.iload 4, 2) := by decide +kernel
theorem dL_law_36 : decode cL_law 36 = .ok (.iaload, 1) := by decide +kernel
theorem dL_law_37 : decode cL_law 37 = .ok (.bipush 31, 2) := by decide +kernel
theorem dL_law_39 : decode cL_law 39 = .ok (.iand, 1) := by decide +kernel
theorem dL_law_40 : decode cL_law 40 = .ok (.tableswitch 935 0 20 #[100, 173, 198, 211, 224, 273, 298, 338, 378, 415, 452, 477, 526, 563, 600, 637, 674, 761, 848, 873, 910], 100) := by decide +kernel
theorem dL_law_140 : decode cL_law 140 = .ok (.aload_n 1, 1) := by decide +kernel
theorem dL_law_141 : decode cL_law 141 = .ok (.aload_n 0, 1) := by decide +kernel
theorem dL_law_142 : decode cL_law 142 = .ok (.iload 4, 2) := by decide +kernel
theorem dL_law_144 : decode cL_law 144 = .ok (.iconst 1, 1) := by decide +kernel
theorem dL_law_145 : decode cL_law 145 = .ok (.iadd, 1) := by decide +kernel
theorem dL_law_146 : decode cL_law 146 = .ok (.iaload, 1) := by decide +kernel
theorem dL_law_147 : decode cL_law 147 = .ok (.aload_n 0, 1) := by decide +kernel
theorem dL_law_148 : decode cL_law 148 = .ok (.iload 4, 2) := by decide +kernel
theorem dL_law_150 : decode cL_law 150 = .ok (.iconst 2, 1) := by decide +kernel
theorem dL_law_151 : decode cL_law 151 = .ok (.iadd, 1) := by decide +kernel
theorem dL_law_152 : decode cL_law 152 = .ok (.iaload, 1) := by decide +kernel
theorem dL_law_153 : decode cL_law 153 = .ok (.aload_n 0, 1) := by decide +kernel
theorem dL_law_154 : decode cL_law 154 = .ok (.iload 4, 2) := by decide +kernel
theorem dL_law_156 : decode cL_law 156 = .ok (.iconst 3, 1) := by decide +kernel
theorem dL_law_157 : decode cL_law 157 = .ok (.iadd, 1) := by decide +kernel
theorem dL_law_158 : decode cL_law 158 = .ok (.iaload, 1) := by decide +kernel
theorem dL_law_159 : decode cL_law 159 = .ok (.aload_n 0, 1) := by decide +kernel
theorem dL_law_160 : decode cL_law 160 = .ok (.iload 4, 2) := by decide +kernel
theorem dL_law_162 : decode cL_law 162 = .ok (.iconst 4, 1) := by decide +kernel
theorem dL_law_163 : decode cL_law 163 = .ok (.iadd, 1) := by decide +kernel
theorem dL_law_164 : decode cL_law 164 = .ok (.iaload, 1) := by decide +kernel
theorem dL_law_165 : decode cL_law 165 = .ok (.aload_n 0, 1) := by decide +kernel
theorem dL_law_166 : decode cL_law 166 = .ok (.iload 4, 2) := by decide +kernel
theorem dL_law_168 : decode cL_law 168 = .ok (.iconst 5, 1) := by decide +kernel
theorem dL_law_169 : decode cL_law 169 = .ok (.iadd, 1) := by decide +kernel
theorem dL_law_170 : decode cL_law 170 = .ok (.iaload, 1) := by decide +kernel
theorem dL_law_171 : decode cL_law 171 = .ok (.invokevirtual 22, 3) := by decide +kernel
theorem dL_law_174 : decode cL_law 174 = .ok (.pop, 1) := by decide +kernel
theorem dL_law_175 : decode cL_law 175 = .ok (.aload_n 2, 1) := by decide +kernel
theorem dL_law_176 : decode cL_law 176 = .ok (.aload_n 0, 1) := by decide +kernel
theorem dL_law_177 : decode cL_law 177 = .ok (.iload 4, 2) := by decide +kernel
theorem dL_law_179 : decode cL_law 179 = .ok (.iconst 1, 1) := by decide +kernel
theorem dL_law_180 : decode cL_law 180 = .ok (.iadd, 1) := by decide +kernel
theorem dL_law_181 : decode cL_law 181 = .ok (.iaload, 1) := by decide +kernel
theorem dL_law_182 : decode cL_law 182 = .ok (.aload_n 0, 1) := by decide +kernel
theorem dL_law_183 : decode cL_law 183 = .ok (.iload 4, 2) := by decide +kernel
theorem dL_law_185 : decode cL_law 185 = .ok (.iconst 2, 1) := by decide +kernel
theorem dL_law_186 : decode cL_law 186 = .ok (.iadd, 1) := by decide +kernel
theorem dL_law_187 : decode cL_law 187 = .ok (.iaload, 1) := by decide +kernel
theorem dL_law_188 : decode cL_law 188 = .ok (.aload_n 0, 1) := by decide +kernel
theorem dL_law_189 : decode cL_law 189 = .ok (.iload 4, 2) := by decide +kernel
theorem dL_law_191 : decode cL_law 191 = .ok (.iconst 3, 1) := by decide +kernel
theorem dL_law_192 : decode cL_law 192 = .ok (.iadd, 1) := by decide +kernel
theorem dL_law_193 : decode cL_law 193 = .ok (.iaload, 1) := by decide +kernel
theorem dL_law_194 : decode cL_law 194 = .ok (.aload_n 0, 1) := by decide +kernel
theorem dL_law_195 : decode cL_law 195 = .ok (.iload 4, 2) := by decide +kernel
theorem dL_law_197 : decode cL_law 197 = .ok (.iconst 4, 1) := by decide +kernel
theorem dL_law_198 : decode cL_law 198 = .ok (.iadd, 1) := by decide +kernel
theorem dL_law_199 : decode cL_law 199 = .ok (.iaload, 1) := by decide +kernel
theorem dL_law_200 : decode cL_law 200 = .ok (.aload_n 0, 1) := by decide +kernel
theorem dL_law_201 : decode cL_law 201 = .ok (.iload 4, 2) := by decide +kernel
theorem dL_law_203 : decode cL_law 203 = .ok (.iconst 5, 1) := by decide +kernel
theorem dL_law_204 : decode cL_law 204 = .ok (.iadd, 1) := by decide +kernel
theorem dL_law_205 : decode cL_law 205 = .ok (.iaload, 1) := by decide +kernel
theorem dL_law_206 : decode cL_law 206 = .ok (.invokevirtual 26, 3) := by decide +kernel
theorem dL_law_209 : decode cL_law 209 = .ok (.pop, 1) := by decide +kernel
theorem dL_law_210 : decode cL_law 210 = .ok (.goto 765, 3) := by decide +kernel
theorem dL_law_213 : decode cL_law 213 = .ok (.aload_n 1, 1) := by decide +kernel
theorem dL_law_214 : decode cL_law 214 = .ok (.aload_n 0, 1) := by decide +kernel
theorem dL_law_215 : decode cL_law 215 = .ok (.iload 4, 2) := by decide +kernel
theorem dL_law_217 : decode cL_law 217 = .ok (.iconst 1, 1) := by decide +kernel
theorem dL_law_218 : decode cL_law 218 = .ok (.iadd, 1) := by decide +kernel
theorem dL_law_219 : decode cL_law 219 = .ok (.iaload, 1) := by decide +kernel
theorem dL_law_220 : decode cL_law 220 = .ok (.invokevirtual 27, 3) := by decide +kernel
theorem dL_law_223 : decode cL_law 223 = .ok (.pop, 1) := by decide +kernel
theorem dL_law_224 : decode cL_law 224 = .ok (.aload_n 2, 1) := by decide +kernel
theorem dL_law_225 : decode cL_law 225 = .ok (.aload_n 0, 1) := by decide +kernel
theorem dL_law_226 : decode cL_law 226 = .ok (.iload 4, 2) := by decide +kernel
theorem dL_law_228 : decode cL_law 228 = .ok (.iconst 1, 1) := by decide +kernel
theorem dL_law_229 : decode cL_law 229 = .ok (.iadd, 1) := by decide +kernel
theorem dL_law_230 : decode cL_law 230 = .ok (.iaload, 1) := by decide +kernel
theorem dL_law_231 : decode cL_law 231 = .ok (.invokevirtual 31, 3) := by decide +kernel
theorem dL_law_234 : decode cL_law 234 = .ok (.pop, 1) := by decide +kernel
theorem dL_law_235 : decode cL_law 235 = .ok (.goto 740, 3) := by decide +kernel
theorem dL_law_238 : decode cL_law 238 = .ok (.aload_n 1, 1) := by decide +kernel
theorem dL_law_239 : decode cL_law 239 = .ok (.invokevirtual 32, 3) := by decide +kernel
theorem dL_law_242 : decode cL_law 242 = .ok (.pop, 1) := by decide +kernel
theorem dL_law_243 : decode cL_law 243 = .ok (.aload_n 2, 1) := by decide +kernel
theorem dL_law_244 : decode cL_law 244 = .ok (.invokevirtual 36, 3) := by decide +kernel
theorem dL_law_247 : decode cL_law 247 = .ok (.pop, 1) := by decide +kernel
theorem dL_law_248 : decode cL_law 248 = .ok (.goto 727, 3) := by decide +kernel
theorem dL_law_251 : decode cL_law 251 = .ok (.aload_n 1, 1) := by decide +kernel
theorem dL_law_252 : decode cL_law 252 = .ok (.invokevirtual 37, 3) := by decide +kernel
theorem dL_law_255 : decode cL_law 255 = .ok (.aload_n 2, 1) := by decide +kernel
theorem dL_law_256 : decode cL_law 256 = .ok (.invokevirtual 40, 3) := by decide +kernel
theorem dL_law_259 : decode cL_law 259 = .ok (.if_icmp .eq 716, 3) := by decide +kernel
theorem dL_law_262 : decode cL_law 262 = .ok (.iconst 0, 1) := by decide +kernel
theorem dL_law_263 : decode cL_law 263 = .ok (.ireturn, 1) := by decide +kernel
theorem dL_law_264 : decode cL_law 264 = .ok (.aload_n 1, 1) := by decide +kernel
theorem dL_law_265 : decode cL_law 265 = .ok (.aload_n 0, 1) := by decide +kernel
theorem dL_law_266 : decode cL_law 266 = .ok (.iload 4, 2) := by decide +kernel
theorem dL_law_268 : decode cL_law 268 = .ok (.iconst 1, 1) := by decide +kernel
theorem dL_law_269 : decode cL_law 269 = .ok (.iadd, 1) := by decide +kernel
theorem dL_law_270 : decode cL_law 270 = .ok (.iaload, 1) := by decide +kernel
theorem dL_law_271 : decode cL_law 271 = .ok (.aload_n 0, 1) := by decide +kernel
theorem dL_law_272 : decode cL_law 272 = .ok (.iload 4, 2) := by decide +kernel
theorem dL_law_274 : decode cL_law 274 = .ok (.iconst 2, 1) := by decide +kernel
theorem dL_law_275 : decode cL_law 275 = .ok (.iadd, 1) := by decide +kernel
theorem dL_law_276 : decode cL_law 276 = .ok (.iaload, 1) := by decide +kernel
theorem dL_law_277 : decode cL_law 277 = .ok (.aload_n 0, 1) := by decide +kernel
theorem dL_law_278 : decode cL_law 278 = .ok (.iload 4, 2) := by decide +kernel
theorem dL_law_280 : decode cL_law 280 = .ok (.iconst 3, 1) := by decide +kernel
theorem dL_law_281 : decode cL_law 281 = .ok (.iadd, 1) := by decide +kernel
theorem dL_law_282 : decode cL_law 282 = .ok (.iaload, 1) := by decide +kernel
theorem dL_law_283 : decode cL_law 283 = .ok (.invokevirtual 41, 3) := by decide +kernel
theorem dL_law_286 : decode cL_law 286 = .ok (.pop, 1) := by decide +kernel
theorem dL_law_287 : decode cL_law 287 = .ok (.aload_n 2, 1) := by decide +kernel
theorem dL_law_288 : decode cL_law 288 = .ok (.aload_n 0, 1) := by decide +kernel
theorem dL_law_289 : decode cL_law 289 = .ok (.iload 4, 2) := by decide +kernel
theorem dL_law_291 : decode cL_law 291 = .ok (.iconst 1, 1) := by decide +kernel
theorem dL_law_292 : decode cL_law 292 = .ok (.iadd, 1) := by decide +kernel
theorem dL_law_293 : decode cL_law 293 = .ok (.iaload, 1) := by decide +kernel
theorem dL_law_294 : decode cL_law 294 = .ok (.aload_n 0, 1) := by decide +kernel
theorem dL_law_295 : decode cL_law 295 = .ok (.iload 4, 2) := by decide +kernel
theorem dL_law_297 : decode cL_law 297 = .ok (.iconst 2, 1) := by decide +kernel
theorem dL_law_298 : decode cL_law 298 = .ok (.iadd, 1) := by decide +kernel
theorem dL_law_299 : decode cL_law 299 = .ok (.iaload, 1) := by decide +kernel
theorem dL_law_300 : decode cL_law 300 = .ok (.aload_n 0, 1) := by decide +kernel
theorem dL_law_301 : decode cL_law 301 = .ok (.iload 4, 2) := by decide +kernel
theorem dL_law_303 : decode cL_law 303 = .ok (.iconst 3, 1) := by decide +kernel
theorem dL_law_304 : decode cL_law 304 = .ok (.iadd, 1) := by decide +kernel
theorem dL_law_305 : decode cL_law 305 = .ok (.iaload, 1) := by decide +kernel
theorem dL_law_306 : decode cL_law 306 = .ok (.invokevirtual 45, 3) := by decide +kernel
theorem dL_law_309 : decode cL_law 309 = .ok (.pop, 1) := by decide +kernel
theorem dL_law_310 : decode cL_law 310 = .ok (.goto 665, 3) := by decide +kernel
theorem dL_law_313 : decode cL_law 313 = .ok (.aload_n 1, 1) := by decide +kernel
theorem dL_law_314 : decode cL_law 314 = .ok (.aload_n 0, 1) := by decide +kernel
theorem dL_law_315 : decode cL_law 315 = .ok (.iload 4, 2) := by decide +kernel
theorem dL_law_317 : decode cL_law 317 = .ok (.iconst 1, 1) := by decide +kernel
theorem dL_law_318 : decode cL_law 318 = .ok (.iadd, 1) := by decide +kernel
theorem dL_law_319 : decode cL_law 319 = .ok (.iaload, 1) := by decide +kernel
theorem dL_law_320 : decode cL_law 320 = .ok (.invokevirtual 46, 3) := by decide +kernel
theorem dL_law_323 : decode cL_law 323 = .ok (.pop, 1) := by decide +kernel
theorem dL_law_324 : decode cL_law 324 = .ok (.aload_n 2, 1) := by decide +kernel
theorem dL_law_325 : decode cL_law 325 = .ok (.aload_n 0, 1) := by decide +kernel
theorem dL_law_326 : decode cL_law 326 = .ok (.iload 4, 2) := by decide +kernel
theorem dL_law_328 : decode cL_law 328 = .ok (.iconst 1, 1) := by decide +kernel
theorem dL_law_329 : decode cL_law 329 = .ok (.iadd, 1) := by decide +kernel
theorem dL_law_330 : decode cL_law 330 = .ok (.iaload, 1) := by decide +kernel
theorem dL_law_331 : decode cL_law 331 = .ok (.invokevirtual 50, 3) := by decide +kernel
theorem dL_law_334 : decode cL_law 334 = .ok (.pop, 1) := by decide +kernel
theorem dL_law_335 : decode cL_law 335 = .ok (.goto 640, 3) := by decide +kernel
theorem dL_law_338 : decode cL_law 338 = .ok (.aload_n 1, 1) := by decide +kernel
theorem dL_law_339 : decode cL_law 339 = .ok (.aload_n 0, 1) := by decide +kernel
theorem dL_law_340 : decode cL_law 340 = .ok (.iload 4, 2) := by decide +kernel
theorem dL_law_342 : decode cL_law 342 = .ok (.iconst 1, 1) := by decide +kernel
theorem dL_law_343 : decode cL_law 343 = .ok (.iadd, 1) := by decide +kernel
theorem dL_law_344 : decode cL_law 344 = .ok (.iaload, 1) := by decide +kernel
theorem dL_law_345 : decode cL_law 345 = .ok (.aload_n 0, 1) := by decide +kernel
theorem dL_law_346 : decode cL_law 346 = .ok (.iload 4, 2) := by decide +kernel
theorem dL_law_348 : decode cL_law 348 = .ok (.iconst 2, 1) := by decide +kernel
theorem dL_law_349 : decode cL_law 349 = .ok (.iadd, 1) := by decide +kernel
theorem dL_law_350 : decode cL_law 350 = .ok (.iaload, 1) := by decide +kernel
theorem dL_law_351 : decode cL_law 351 = .ok (.aload_n 3, 1) := by decide +kernel
theorem dL_law_352 : decode cL_law 352 = .ok (.invokestatic 51, 3) := by decide +kernel
theorem dL_law_355 : decode cL_law 355 = .ok (.istore 5, 2) := by decide +kernel
theorem dL_law_357 : decode cL_law 357 = .ok (.aload_n 2, 1) := by decide +kernel
theorem dL_law_358 : decode cL_law 358 = .ok (.aload_n 0, 1) := by decide +kernel
theorem dL_law_359 : decode cL_law 359 = .ok (.iload 4, 2) := by decide +kernel
theorem dL_law_361 : decode cL_law 361 = .ok (.iconst 1, 1) := by decide +kernel
theorem dL_law_362 : decode cL_law 362 = .ok (.iadd, 1) := by decide +kernel
theorem dL_law_363 : decode cL_law 363 = .ok (.iaload, 1) := by decide +kernel
theorem dL_law_364 : decode cL_law 364 = .ok (.aload_n 0, 1) := by decide +kernel
theorem dL_law_365 : decode cL_law 365 = .ok (.iload 4, 2) := by decide +kernel
theorem dL_law_367 : decode cL_law 367 = .ok (.iconst 2, 1) := by decide +kernel
theorem dL_law_368 : decode cL_law 368 = .ok (.iadd, 1) := by decide +kernel
theorem dL_law_369 : decode cL_law 369 = .ok (.iaload, 1) := by decide +kernel
theorem dL_law_370 : decode cL_law 370 = .ok (.invokevirtual 56, 3) := by decide +kernel
theorem dL_law_373 : decode cL_law 373 = .ok (.istore 6, 2) := by decide +kernel
theorem dL_law_375 : decode cL_law 375 = .ok (.goto 600, 3) := by decide +kernel
theorem dL_law_378 : decode cL_law 378 = .ok (.aload_n 1, 1) := by decide +kernel
theorem dL_law_379 : decode cL_law 379 = .ok (.aload_n 0, 1) := by decide +kernel
theorem dL_law_380 : decode cL_law 380 = .ok (.iload 4, 2) := by decide +kernel
theorem dL_law_382 : decode cL_law 382 = .ok (.iconst 1, 1) := by decide +kernel
theorem dL_law_383 : decode cL_law 383 = .ok (.iadd, 1) := by decide +kernel
theorem dL_law_384 : decode cL_law 384 = .ok (.iaload, 1) := by decide +kernel
theorem dL_law_385 : decode cL_law 385 = .ok (.aload_n 0, 1) := by decide +kernel
theorem dL_law_386 : decode cL_law 386 = .ok (.iload 4, 2) := by decide +kernel
theorem dL_law_388 : decode cL_law 388 = .ok (.iconst 2, 1) := by decide +kernel
theorem dL_law_389 : decode cL_law 389 = .ok (.iadd, 1) := by decide +kernel
theorem dL_law_390 : decode cL_law 390 = .ok (.iaload, 1) := by decide +kernel
theorem dL_law_391 : decode cL_law 391 = .ok (.aload_n 3, 1) := by decide +kernel
theorem dL_law_392 : decode cL_law 392 = .ok (.invokestatic 57, 3) := by decide +kernel
theorem dL_law_395 : decode cL_law 395 = .ok (.istore 5, 2) := by decide +kernel
theorem dL_law_397 : decode cL_law 397 = .ok (.aload_n 2, 1) := by decide +kernel
theorem dL_law_398 : decode cL_law 398 = .ok (.aload_n 0, 1) := by decide +kernel
theorem dL_law_399 : decode cL_law 399 = .ok (.iload 4, 2) := by decide +kernel
theorem dL_law_401 : decode cL_law 401 = .ok (.iconst 1, 1) := by decide +kernel
theorem dL_law_402 : decode cL_law 402 = .ok (.iadd, 1) := by decide +kernel
theorem dL_law_403 : decode cL_law 403 = .ok (.iaload, 1) := by decide +kernel
theorem dL_law_404 : decode cL_law 404 = .ok (.aload_n 0, 1) := by decide +kernel
theorem dL_law_405 : decode cL_law 405 = .ok (.iload 4, 2) := by decide +kernel
theorem dL_law_407 : decode cL_law 407 = .ok (.iconst 2, 1) := by decide +kernel
theorem dL_law_408 : decode cL_law 408 = .ok (.iadd, 1) := by decide +kernel
theorem dL_law_409 : decode cL_law 409 = .ok (.iaload, 1) := by decide +kernel
theorem dL_law_410 : decode cL_law 410 = .ok (.invokevirtual 59, 3) := by decide +kernel
theorem dL_law_413 : decode cL_law 413 = .ok (.istore 6, 2) := by decide +kernel
theorem dL_law_415 : decode cL_law 415 = .ok (.goto 560, 3) := by decide +kernel
theorem dL_law_418 : decode cL_law 418 = .ok (.aload_n 1, 1) := by decide +kernel
theorem dL_law_419 : decode cL_law 419 = .ok (.aload_n 0, 1) := by decide +kernel
theorem dL_law_420 : decode cL_law 420 = .ok (.iload 4, 2) := by decide +kernel
theorem dL_law_422 : decode cL_law 422 = .ok (.iconst 1, 1) := by decide +kernel
theorem dL_law_423 : decode cL_law 423 = .ok (.iadd, 1) := by decide +kernel
theorem dL_law_424 : decode cL_law 424 = .ok (.iaload, 1) := by decide +kernel
theorem dL_law_425 : decode cL_law 425 = .ok (.aload_n 0, 1) := by decide +kernel
theorem dL_law_426 : decode cL_law 426 = .ok (.iload 4, 2) := by decide +kernel
theorem dL_law_428 : decode cL_law 428 = .ok (.iconst 2, 1) := by decide +kernel
theorem dL_law_429 : decode cL_law 429 = .ok (.iadd, 1) := by decide +kernel
theorem dL_law_430 : decode cL_law 430 = .ok (.iaload, 1) := by decide +kernel
theorem dL_law_431 : decode cL_law 431 = .ok (.invokevirtual 60, 3) := by decide +kernel
theorem dL_law_434 : decode cL_law 434 = .ok (.pop, 1) := by decide +kernel
theorem dL_law_435 : decode cL_law 435 = .ok (.aload_n 2, 1) := by decide +kernel
theorem dL_law_436 : decode cL_law 436 = .ok (.aload_n 0, 1) := by decide +kernel
theorem dL_law_437 : decode cL_law 437 = .ok (.iload 4, 2) := by decide +kernel
theorem dL_law_439 : decode cL_law 439 = .ok (.iconst 1, 1) := by decide +kernel
theorem dL_law_440 : decode cL_law 440 = .ok (.iadd, 1) := by decide +kernel
theorem dL_law_441 : decode cL_law 441 = .ok (.iaload, 1) := by decide +kernel
theorem dL_law_442 : decode cL_law 442 = .ok (.aload_n 0, 1) := by decide +kernel
theorem dL_law_443 : decode cL_law 443 = .ok (.iload 4, 2) := by decide +kernel
theorem dL_law_445 : decode cL_law 445 = .ok (.iconst 2, 1) := by decide +kernel
theorem dL_law_446 : decode cL_law 446 = .ok (.iadd, 1) := by decide +kernel
theorem dL_law_447 : decode cL_law 447 = .ok (.iaload, 1) := by decide +kernel
theorem dL_law_448 : decode cL_law 448 = .ok (.invokevirtual 63, 3) := by decide +kernel
theorem dL_law_451 : decode cL_law 451 = .ok (.pop, 1) := by decide +kernel
theorem dL_law_452 : decode cL_law 452 = .ok (.goto 523, 3) := by decide +kernel
theorem dL_law_455 : decode cL_law 455 = .ok (.aload_n 1, 1) := by decide +kernel
theorem dL_law_456 : decode cL_law 456 = .ok (.aload_n 0, 1) := by decide +kernel
theorem dL_law_457 : decode cL_law 457 = .ok (.iload 4, 2) := by decide +kernel
theorem dL_law_459 : decode cL_law 459 = .ok (.iconst 1, 1) := by decide +kernel
theorem dL_law_460 : decode cL_law 460 = .ok (.iadd, 1) := by decide +kernel
theorem dL_law_461 : decode cL_law 461 = .ok (.iaload, 1) := by decide +kernel
theorem dL_law_462 : decode cL_law 462 = .ok (.aload_n 0, 1) := by decide +kernel
theorem dL_law_463 : decode cL_law 463 = .ok (.iload 4, 2) := by decide +kernel
theorem dL_law_465 : decode cL_law 465 = .ok (.iconst 2, 1) := by decide +kernel
theorem dL_law_466 : decode cL_law 466 = .ok (.iadd, 1) := by decide +kernel
theorem dL_law_467 : decode cL_law 467 = .ok (.iaload, 1) := by decide +kernel
theorem dL_law_468 : decode cL_law 468 = .ok (.invokevirtual 64, 3) := by decide +kernel
theorem dL_law_471 : decode cL_law 471 = .ok (.pop, 1) := by decide +kernel
theorem dL_law_472 : decode cL_law 472 = .ok (.aload_n 2, 1) := by decide +kernel
theorem dL_law_473 : decode cL_law 473 = .ok (.aload_n 0, 1) := by decide +kernel
theorem dL_law_474 : decode cL_law 474 = .ok (.iload 4, 2) := by decide +kernel
theorem dL_law_476 : decode cL_law 476 = .ok (.iconst 1, 1) := by decide +kernel
theorem dL_law_477 : decode cL_law 477 = .ok (.iadd, 1) := by decide +kernel
theorem dL_law_478 : decode cL_law 478 = .ok (.iaload, 1) := by decide +kernel
theorem dL_law_479 : decode cL_law 479 = .ok (.aload_n 0, 1) := by decide +kernel
theorem dL_law_480 : decode cL_law 480 = .ok (.iload 4, 2) := by decide +kernel
theorem dL_law_482 : decode cL_law 482 = .ok (.iconst 2, 1) := by decide +kernel
theorem dL_law_483 : decode cL_law 483 = .ok (.iadd, 1) := by decide +kernel
theorem dL_law_484 : decode cL_law 484 = .ok (.iaload, 1) := by decide +kernel
theorem dL_law_485 : decode cL_law 485 = .ok (.invokevirtual 68, 3) := by decide +kernel
theorem dL_law_488 : decode cL_law 488 = .ok (.pop, 1) := by decide +kernel
theorem dL_law_489 : decode cL_law 489 = .ok (.goto 486, 3) := by decide +kernel
theorem dL_law_492 : decode cL_law 492 = .ok (.aload_n 1, 1) := by decide +kernel
theorem dL_law_493 : decode cL_law 493 = .ok (.aload_n 0, 1) := by decide +kernel
theorem dL_law_494 : decode cL_law 494 = .ok (.iload 4, 2) := by decide +kernel
theorem dL_law_496 : decode cL_law 496 = .ok (.iconst 1, 1) := by decide +kernel
theorem dL_law_497 : decode cL_law 497 = .ok (.iadd, 1) := by decide +kernel
theorem dL_law_498 : decode cL_law 498 = .ok (.iaload, 1) := by decide +kernel
theorem dL_law_499 : decode cL_law 499 = .ok (.invokevirtual 69, 3) := by decide +kernel
theorem dL_law_502 : decode cL_law 502 = .ok (.pop2, 1) := by decide +kernel
theorem dL_law_503 : decode cL_law 503 = .ok (.aload_n 2, 1) := by decide +kernel
theorem dL_law_504 : decode cL_law 504 = .ok (.aload_n 0, 1) := by decide +kernel
theorem dL_law_505 : decode cL_law 505 = .ok (.iload 4, 2) := by decide +kernel
theorem dL_law_507 : decode cL_law 507 = .ok (.iconst 1, 1) := by decide +kernel
theorem dL_law_508 : decode cL_law 508 = .ok (.iadd, 1) := by decide +kernel
theorem dL_law_509 : decode cL_law 509 = .ok (.iaload, 1) := by decide +kernel
theorem dL_law_510 : decode cL_law 510 = .ok (.invokevirtual 73, 3) := by decide +kernel
theorem dL_law_513 : decode cL_law 513 = .ok (.pop2, 1) := by decide +kernel
theorem dL_law_514 : decode cL_law 514 = .ok (.goto 461, 3) := by decide +kernel
theorem dL_law_517 : decode cL_law 517 = .ok (.aload_n 1, 1) := by decide +kernel
theorem dL_law_518 : decode cL_law 518 = .ok (.aload_n 0, 1) := by decide +kernel
theorem dL_law_519 : decode cL_law 519 = .ok (.iload 4, 2) := by decide +kernel
theorem dL_law_521 : decode cL_law 521 = .ok (.iconst 1, 1) := by decide +kernel
theorem dL_law_522 : decode cL_law 522 = .ok (.iadd, 1) := by decide +kernel
theorem dL_law_523 : decode cL_law 523 = .ok (.iaload, 1) := by decide +kernel
theorem dL_law_524 : decode cL_law 524 = .ok (.aload_n 0, 1) := by decide +kernel
theorem dL_law_525 : decode cL_law 525 = .ok (.iload 4, 2) := by decide +kernel
theorem dL_law_527 : decode cL_law 527 = .ok (.iconst 2, 1) := by decide +kernel
theorem dL_law_528 : decode cL_law 528 = .ok (.iadd, 1) := by decide +kernel
theorem dL_law_529 : decode cL_law 529 = .ok (.iaload, 1) := by decide +kernel
theorem dL_law_530 : decode cL_law 530 = .ok (.aload_n 0, 1) := by decide +kernel
theorem dL_law_531 : decode cL_law 531 = .ok (.iload 4, 2) := by decide +kernel
theorem dL_law_533 : decode cL_law 533 = .ok (.iconst 3, 1) := by decide +kernel
theorem dL_law_534 : decode cL_law 534 = .ok (.iadd, 1) := by decide +kernel
theorem dL_law_535 : decode cL_law 535 = .ok (.iaload, 1) := by decide +kernel
theorem dL_law_536 : decode cL_law 536 = .ok (.invokevirtual 74, 3) := by decide +kernel
theorem dL_law_539 : decode cL_law 539 = .ok (.pop, 1) := by decide +kernel
theorem dL_law_540 : decode cL_law 540 = .ok (.aload_n 2, 1) := by decide +kernel
theorem dL_law_541 : decode cL_law 541 = .ok (.aload_n 0, 1) := by decide +kernel
theorem dL_law_542 : decode cL_law 542 = .ok (.iload 4, 2) := by decide +kernel
theorem dL_law_544 : decode cL_law 544 = .ok (.iconst 1, 1) := by decide +kernel
theorem dL_law_545 : decode cL_law 545 = .ok (.iadd, 1) := by decide +kernel
theorem dL_law_546 : decode cL_law 546 = .ok (.iaload, 1) := by decide +kernel
theorem dL_law_547 : decode cL_law 547 = .ok (.aload_n 0, 1) := by decide +kernel
theorem dL_law_548 : decode cL_law 548 = .ok (.iload 4, 2) := by decide +kernel
theorem dL_law_550 : decode cL_law 550 = .ok (.iconst 2, 1) := by decide +kernel
theorem dL_law_551 : decode cL_law 551 = .ok (.iadd, 1) := by decide +kernel
theorem dL_law_552 : decode cL_law 552 = .ok (.iaload, 1) := by decide +kernel
theorem dL_law_553 : decode cL_law 553 = .ok (.aload_n 0, 1) := by decide +kernel
theorem dL_law_554 : decode cL_law 554 = .ok (.iload 4, 2) := by decide +kernel
theorem dL_law_556 : decode cL_law 556 = .ok (.iconst 3, 1) := by decide +kernel
theorem dL_law_557 : decode cL_law 557 = .ok (.iadd, 1) := by decide +kernel
theorem dL_law_558 : decode cL_law 558 = .ok (.iaload, 1) := by decide +kernel
theorem dL_law_559 : decode cL_law 559 = .ok (.invokevirtual 77, 3) := by decide +kernel
theorem dL_law_562 : decode cL_law 562 = .ok (.pop, 1) := by decide +kernel
theorem dL_law_563 : decode cL_law 563 = .ok (.goto 412, 3) := by decide +kernel
theorem dL_law_566 : decode cL_law 566 = .ok (.aload_n 1, 1) := by decide +kernel
theorem dL_law_567 : decode cL_law 567 = .ok (.aload_n 0, 1) := by decide +kernel
theorem dL_law_568 : decode cL_law 568 = .ok (.iload 4, 2) := by decide +kernel
theorem dL_law_570 : decode cL_law 570 = .ok (.iconst 1, 1) := by decide +kernel
theorem dL_law_571 : decode cL_law 571 = .ok (.iadd, 1) := by decide +kernel
theorem dL_law_572 : decode cL_law 572 = .ok (.iaload, 1) := by decide +kernel
theorem dL_law_573 : decode cL_law 573 = .ok (.aload_n 0, 1) := by decide +kernel
theorem dL_law_574 : decode cL_law 574 = .ok (.iload 4, 2) := by decide +kernel
theorem dL_law_576 : decode cL_law 576 = .ok (.iconst 2, 1) := by decide +kernel
theorem dL_law_577 : decode cL_law 577 = .ok (.iadd, 1) := by decide +kernel
theorem dL_law_578 : decode cL_law 578 = .ok (.iaload, 1) := by decide +kernel
theorem dL_law_579 : decode cL_law 579 = .ok (.invokevirtual 78, 3) := by decide +kernel
theorem dL_law_582 : decode cL_law 582 = .ok (.pop, 1) := by decide +kernel
theorem dL_law_583 : decode cL_law 583 = .ok (.aload_n 2, 1) := by decide +kernel
theorem dL_law_584 : decode cL_law 584 = .ok (.aload_n 0, 1) := by decide +kernel
theorem dL_law_585 : decode cL_law 585 = .ok (.iload 4, 2) := by decide +kernel
theorem dL_law_587 : decode cL_law 587 = .ok (.iconst 1, 1) := by decide +kernel
theorem dL_law_588 : decode cL_law 588 = .ok (.iadd, 1) := by decide +kernel
theorem dL_law_589 : decode cL_law 589 = .ok (.iaload, 1) := by decide +kernel
theorem dL_law_590 : decode cL_law 590 = .ok (.aload_n 0, 1) := by decide +kernel
theorem dL_law_591 : decode cL_law 591 = .ok (.iload 4, 2) := by decide +kernel
theorem dL_law_593 : decode cL_law 593 = .ok (.iconst 2, 1) := by decide +kernel
theorem dL_law_594 : decode cL_law 594 = .ok (.iadd, 1) := by decide +kernel
theorem dL_law_595 : decode cL_law 595 = .ok (.iaload, 1) := by decide +kernel
theorem dL_law_596 : decode cL_law 596 = .ok (.invokevirtual 81, 3) := by decide +kernel
theorem dL_law_599 : decode cL_law 599 = .ok (.pop, 1) := by decide +kernel
theorem dL_law_600 : decode cL_law 600 = .ok (.goto 375, 3) := by decide +kernel
theorem dL_law_603 : decode cL_law 603 = .ok (.aload_n 1, 1) := by decide +kernel
theorem dL_law_604 : decode cL_law 604 = .ok (.aload_n 0, 1) := by decide +kernel
theorem dL_law_605 : decode cL_law 605 = .ok (.iload 4, 2) := by decide +kernel
theorem dL_law_607 : decode cL_law 607 = .ok (.iconst 1, 1) := by decide +kernel
theorem dL_law_608 : decode cL_law 608 = .ok (.iadd, 1) := by decide +kernel
theorem dL_law_609 : decode cL_law 609 = .ok (.iaload, 1) := by decide +kernel
theorem dL_law_610 : decode cL_law 610 = .ok (.aload_n 0, 1) := by decide +kernel
theorem dL_law_611 : decode cL_law 611 = .ok (.iload 4, 2) := by decide +kernel
theorem dL_law_613 : decode cL_law 613 = .ok (.iconst 2, 1) := by decide +kernel
theorem dL_law_614 : decode cL_law 614 = .ok (.iadd, 1) := by decide +kernel
theorem dL_law_615 : decode cL_law 615 = .ok (.iaload, 1) := by decide +kernel
theorem dL_law_616 : decode cL_law 616 = .ok (.invokevirtual 82, 3) := by decide +kernel
theorem dL_law_619 : decode cL_law 619 = .ok (.pop, 1) := by decide +kernel
theorem dL_law_620 : decode cL_law 620 = .ok (.aload_n 2, 1) := by decide +kernel
theorem dL_law_621 : decode cL_law 621 = .ok (.aload_n 0, 1) := by decide +kernel
theorem dL_law_622 : decode cL_law 622 = .ok (.iload 4, 2) := by decide +kernel
theorem dL_law_624 : decode cL_law 624 = .ok (.iconst 1, 1) := by decide +kernel
theorem dL_law_625 : decode cL_law 625 = .ok (.iadd, 1) := by decide +kernel
theorem dL_law_626 : decode cL_law 626 = .ok (.iaload, 1) := by decide +kernel
theorem dL_law_627 : decode cL_law 627 = .ok (.aload_n 0, 1) := by decide +kernel
theorem dL_law_628 : decode cL_law 628 = .ok (.iload 4, 2) := by decide +kernel
theorem dL_law_630 : decode cL_law 630 = .ok (.iconst 2, 1) := by decide +kernel
theorem dL_law_631 : decode cL_law 631 = .ok (.iadd, 1) := by decide +kernel
theorem dL_law_632 : decode cL_law 632 = .ok (.iaload, 1) := by decide +kernel
theorem dL_law_633 : decode cL_law 633 = .ok (.invokevirtual 85, 3) := by decide +kernel
theorem dL_law_636 : decode cL_law 636 = .ok (.pop, 1) := by decide +kernel
theorem dL_law_637 : decode cL_law 637 = .ok (.goto 338, 3) := by decide +kernel
theorem dL_law_640 : decode cL_law 640 = .ok (.aload_n 1, 1) := by decide +kernel
theorem dL_law_641 : decode cL_law 641 = .ok (.aload_n 0, 1) := by decide +kernel
theorem dL_law_642 : decode cL_law 642 = .ok (.iload 4, 2) := by decide +kernel
theorem dL_law_644 : decode cL_law 644 = .ok (.iconst 1, 1) := by decide +kernel
theorem dL_law_645 : decode cL_law 645 = .ok (.iadd, 1) := by decide +kernel
theorem dL_law_646 : decode cL_law 646 = .ok (.iaload, 1) := by decide +kernel
theorem dL_law_647 : decode cL_law 647 = .ok (.aload_n 0, 1) := by decide +kernel
theorem dL_law_648 : decode cL_law 648 = .ok (.iload 4, 2) := by decide +kernel
theorem dL_law_650 : decode cL_law 650 = .ok (.iconst 2, 1) := by decide +kernel
theorem dL_law_651 : decode cL_law 651 = .ok (.iadd, 1) := by decide +kernel
theorem dL_law_652 : decode cL_law 652 = .ok (.iaload, 1) := by decide +kernel
theorem dL_law_653 : decode cL_law 653 = .ok (.invokevirtual 86, 3) := by decide +kernel
theorem dL_law_656 : decode cL_law 656 = .ok (.pop, 1) := by decide +kernel
theorem dL_law_657 : decode cL_law 657 = .ok (.aload_n 2, 1) := by decide +kernel
theorem dL_law_658 : decode cL_law 658 = .ok (.aload_n 0, 1) := by decide +kernel
theorem dL_law_659 : decode cL_law 659 = .ok (.iload 4, 2) := by decide +kernel
theorem dL_law_661 : decode cL_law 661 = .ok (.iconst 1, 1) := by decide +kernel
theorem dL_law_662 : decode cL_law 662 = .ok (.iadd, 1) := by decide +kernel
theorem dL_law_663 : decode cL_law 663 = .ok (.iaload, 1) := by decide +kernel
theorem dL_law_664 : decode cL_law 664 = .ok (.aload_n 0, 1) := by decide +kernel
theorem dL_law_665 : decode cL_law 665 = .ok (.iload 4, 2) := by decide +kernel
theorem dL_law_667 : decode cL_law 667 = .ok (.iconst 2, 1) := by decide +kernel
theorem dL_law_668 : decode cL_law 668 = .ok (.iadd, 1) := by decide +kernel
theorem dL_law_669 : decode cL_law 669 = .ok (.iaload, 1) := by decide +kernel
theorem dL_law_670 : decode cL_law 670 = .ok (.invokevirtual 89, 3) := by decide +kernel
theorem dL_law_673 : decode cL_law 673 = .ok (.pop, 1) := by decide +kernel
theorem dL_law_674 : decode cL_law 674 = .ok (.goto 301, 3) := by decide +kernel
theorem dL_law_677 : decode cL_law 677 = .ok (.aload_n 1, 1) := by decide +kernel
theorem dL_law_678 : decode cL_law 678 = .ok (.aload_n 0, 1) := by decide +kernel
theorem dL_law_679 : decode cL_law 679 = .ok (.iload 4, 2) := by decide +kernel
theorem dL_law_681 : decode cL_law 681 = .ok (.iconst 1, 1) := by decide +kernel
theorem dL_law_682 : decode cL_law 682 = .ok (.iadd, 1) := by decide +kernel
theorem dL_law_683 : decode cL_law 683 = .ok (.iaload, 1) := by decide +kernel
theorem dL_law_684 : decode cL_law 684 = .ok (.aload_n 0, 1) := by decide +kernel
theorem dL_law_685 : decode cL_law 685 = .ok (.iload 4, 2) := by decide +kernel
theorem dL_law_687 : decode cL_law 687 = .ok (.iconst 2, 1) := by decide +kernel
theorem dL_law_688 : decode cL_law 688 = .ok (.iadd, 1) := by decide +kernel
theorem dL_law_689 : decode cL_law 689 = .ok (.iaload, 1) := by decide +kernel
theorem dL_law_690 : decode cL_law 690 = .ok (.invokevirtual 90, 3) := by decide +kernel
theorem dL_law_693 : decode cL_law 693 = .ok (.pop, 1) := by decide +kernel
theorem dL_law_694 : decode cL_law 694 = .ok (.aload_n 2, 1) := by decide +kernel
theorem dL_law_695 : decode cL_law 695 = .ok (.aload_n 0, 1) := by decide +kernel
theorem dL_law_696 : decode cL_law 696 = .ok (.iload 4, 2) := by decide +kernel
theorem dL_law_698 : decode cL_law 698 = .ok (.iconst 1, 1) := by decide +kernel
theorem dL_law_699 : decode cL_law 699 = .ok (.iadd, 1) := by decide +kernel
theorem dL_law_700 : decode cL_law 700 = .ok (.iaload, 1) := by decide +kernel
theorem dL_law_701 : decode cL_law 701 = .ok (.aload_n 0, 1) := by decide +kernel
theorem dL_law_702 : decode cL_law 702 = .ok (.iload 4, 2) := by decide +kernel
theorem dL_law_704 : decode cL_law 704 = .ok (.iconst 2, 1) := by decide +kernel
theorem dL_law_705 : decode cL_law 705 = .ok (.iadd, 1) := by decide +kernel
theorem dL_law_706 : decode cL_law 706 = .ok (.iaload, 1) := by decide +kernel
theorem dL_law_707 : decode cL_law 707 = .ok (.invokevirtual 93, 3) := by decide +kernel
theorem dL_law_710 : decode cL_law 710 = .ok (.pop, 1) := by decide +kernel
theorem dL_law_711 : decode cL_law 711 = .ok (.goto 264, 3) := by decide +kernel
theorem dL_law_714 : decode cL_law 714 = .ok (.aload_n 1, 1) := by decide +kernel
theorem dL_law_715 : decode cL_law 715 = .ok (.aload_n 0, 1) := by decide +kernel
theorem dL_law_716 : decode cL_law 716 = .ok (.iload 4, 2) := by decide +kernel
theorem dL_law_718 : decode cL_law 718 = .ok (.iconst 1, 1) := by decide +kernel
theorem dL_law_719 : decode cL_law 719 = .ok (.iadd, 1) := by decide +kernel
theorem dL_law_720 : decode cL_law 720 = .ok (.iaload, 1) := by decide +kernel
theorem dL_law_721 : decode cL_law 721 = .ok (.aload_n 0, 1) := by decide +kernel
theorem dL_law_722 : decode cL_law 722 = .ok (.iload 4, 2) := by decide +kernel
theorem dL_law_724 : decode cL_law 724 = .ok (.iconst 2, 1) := by decide +kernel
theorem dL_law_725 : decode cL_law 725 = .ok (.iadd, 1) := by decide +kernel
theorem dL_law_726 : decode cL_law 726 = .ok (.iaload, 1) := by decide +kernel
theorem dL_law_727 : decode cL_law 727 = .ok (.aload_n 0, 1) := by decide +kernel
theorem dL_law_728 : decode cL_law 728 = .ok (.iload 4, 2) := by decide +kernel
theorem dL_law_730 : decode cL_law 730 = .ok (.iconst 3, 1) := by decide +kernel
theorem dL_law_731 : decode cL_law 731 = .ok (.iadd, 1) := by decide +kernel
theorem dL_law_732 : decode cL_law 732 = .ok (.iaload, 1) := by decide +kernel
theorem dL_law_733 : decode cL_law 733 = .ok (.aload_n 0, 1) := by decide +kernel
theorem dL_law_734 : decode cL_law 734 = .ok (.iload 4, 2) := by decide +kernel
theorem dL_law_736 : decode cL_law 736 = .ok (.iconst 4, 1) := by decide +kernel
theorem dL_law_737 : decode cL_law 737 = .ok (.iadd, 1) := by decide +kernel
theorem dL_law_738 : decode cL_law 738 = .ok (.iaload, 1) := by decide +kernel
theorem dL_law_739 : decode cL_law 739 = .ok (.aload_n 0, 1) := by decide +kernel
theorem dL_law_740 : decode cL_law 740 = .ok (.iload 4, 2) := by decide +kernel
theorem dL_law_742 : decode cL_law 742 = .ok (.iconst 5, 1) := by decide +kernel
theorem dL_law_743 : decode cL_law 743 = .ok (.iadd, 1) := by decide +kernel
theorem dL_law_744 : decode cL_law 744 = .ok (.iaload, 1) := by decide +kernel
theorem dL_law_745 : decode cL_law 745 = .ok (.aload_n 0, 1) := by decide +kernel
theorem dL_law_746 : decode cL_law 746 = .ok (.iload 4, 2) := by decide +kernel
theorem dL_law_748 : decode cL_law 748 = .ok (.bipush 6, 2) := by decide +kernel
theorem dL_law_750 : decode cL_law 750 = .ok (.iadd, 1) := by decide +kernel
theorem dL_law_751 : decode cL_law 751 = .ok (.iaload, 1) := by decide +kernel
theorem dL_law_752 : decode cL_law 752 = .ok (.invokevirtual 94, 3) := by decide +kernel
theorem dL_law_755 : decode cL_law 755 = .ok (.pop, 1) := by decide +kernel
theorem dL_law_756 : decode cL_law 756 = .ok (.aload_n 2, 1) := by decide +kernel
theorem dL_law_757 : decode cL_law 757 = .ok (.aload_n 0, 1) := by decide +kernel
theorem dL_law_758 : decode cL_law 758 = .ok (.iload 4, 2) := by decide +kernel
theorem dL_law_760 : decode cL_law 760 = .ok (.iconst 1, 1) := by decide +kernel
theorem dL_law_761 : decode cL_law 761 = .ok (.iadd, 1) := by decide +kernel
theorem dL_law_762 : decode cL_law 762 = .ok (.iaload, 1) := by decide +kernel
theorem dL_law_763 : decode cL_law 763 = .ok (.aload_n 0, 1) := by decide +kernel
theorem dL_law_764 : decode cL_law 764 = .ok (.iload 4, 2) := by decide +kernel
theorem dL_law_766 : decode cL_law 766 = .ok (.iconst 2, 1) := by decide +kernel
theorem dL_law_767 : decode cL_law 767 = .ok (.iadd, 1) := by decide +kernel
theorem dL_law_768 : decode cL_law 768 = .ok (.iaload, 1) := by decide +kernel
theorem dL_law_769 : decode cL_law 769 = .ok (.aload_n 0, 1) := by decide +kernel
theorem dL_law_770 : decode cL_law 770 = .ok (.iload 4, 2) := by decide +kernel
theorem dL_law_772 : decode cL_law 772 = .ok (.iconst 3, 1) := by decide +kernel
theorem dL_law_773 : decode cL_law 773 = .ok (.iadd, 1) := by decide +kernel
theorem dL_law_774 : decode cL_law 774 = .ok (.iaload, 1) := by decide +kernel
theorem dL_law_775 : decode cL_law 775 = .ok (.aload_n 0, 1) := by decide +kernel
theorem dL_law_776 : decode cL_law 776 = .ok (.iload 4, 2) := by decide +kernel
theorem dL_law_778 : decode cL_law 778 = .ok (.iconst 4, 1) := by decide +kernel
theorem dL_law_779 : decode cL_law 779 = .ok (.iadd, 1) := by decide +kernel
theorem dL_law_780 : decode cL_law 780 = .ok (.iaload, 1) := by decide +kernel
theorem dL_law_781 : decode cL_law 781 = .ok (.aload_n 0, 1) := by decide +kernel
theorem dL_law_782 : decode cL_law 782 = .ok (.iload 4, 2) := by decide +kernel
theorem dL_law_784 : decode cL_law 784 = .ok (.iconst 5, 1) := by decide +kernel
theorem dL_law_785 : decode cL_law 785 = .ok (.iadd, 1) := by decide +kernel
theorem dL_law_786 : decode cL_law 786 = .ok (.iaload, 1) := by decide +kernel
theorem dL_law_787 : decode cL_law 787 = .ok (.aload_n 0, 1) := by decide +kernel
theorem dL_law_788 : decode cL_law 788 = .ok (.iload 4, 2) := by decide +kernel
theorem dL_law_790 : decode cL_law 790 = .ok (.bipush 6, 2) := by decide +kernel
theorem dL_law_792 : decode cL_law 792 = .ok (.iadd, 1) := by decide +kernel
theorem dL_law_793 : decode cL_law 793 = .ok (.iaload, 1) := by decide +kernel
theorem dL_law_794 : decode cL_law 794 = .ok (.invokevirtual 98, 3) := by decide +kernel
theorem dL_law_797 : decode cL_law 797 = .ok (.pop, 1) := by decide +kernel
theorem dL_law_798 : decode cL_law 798 = .ok (.goto 177, 3) := by decide +kernel
theorem dL_law_801 : decode cL_law 801 = .ok (.aload_n 1, 1) := by decide +kernel
theorem dL_law_802 : decode cL_law 802 = .ok (.aload_n 0, 1) := by decide +kernel
theorem dL_law_803 : decode cL_law 803 = .ok (.iload 4, 2) := by decide +kernel
theorem dL_law_805 : decode cL_law 805 = .ok (.iconst 1, 1) := by decide +kernel
theorem dL_law_806 : decode cL_law 806 = .ok (.iadd, 1) := by decide +kernel
theorem dL_law_807 : decode cL_law 807 = .ok (.iaload, 1) := by decide +kernel
theorem dL_law_808 : decode cL_law 808 = .ok (.aload_n 0, 1) := by decide +kernel
theorem dL_law_809 : decode cL_law 809 = .ok (.iload 4, 2) := by decide +kernel
theorem dL_law_811 : decode cL_law 811 = .ok (.iconst 2, 1) := by decide +kernel
theorem dL_law_812 : decode cL_law 812 = .ok (.iadd, 1) := by decide +kernel
theorem dL_law_813 : decode cL_law 813 = .ok (.iaload, 1) := by decide +kernel
theorem dL_law_814 : decode cL_law 814 = .ok (.aload_n 0, 1) := by decide +kernel
theorem dL_law_815 : decode cL_law 815 = .ok (.iload 4, 2) := by decide +kernel
theorem dL_law_817 : decode cL_law 817 = .ok (.iconst 3, 1) := by decide +kernel
theorem dL_law_818 : decode cL_law 818 = .ok (.iadd, 1) := by decide +kernel
theorem dL_law_819 : decode cL_law 819 = .ok (.iaload, 1) := by decide +kernel
theorem dL_law_820 : decode cL_law 820 = .ok (.aload_n 0, 1) := by decide +kernel
theorem dL_law_821 : decode cL_law 821 = .ok (.iload 4, 2) := by decide +kernel
theorem dL_law_823 : decode cL_law 823 = .ok (.iconst 4, 1) := by decide +kernel
theorem dL_law_824 : decode cL_law 824 = .ok (.iadd, 1) := by decide +kernel
theorem dL_law_825 : decode cL_law 825 = .ok (.iaload, 1) := by decide +kernel
theorem dL_law_826 : decode cL_law 826 = .ok (.aload_n 0, 1) := by decide +kernel
theorem dL_law_827 : decode cL_law 827 = .ok (.iload 4, 2) := by decide +kernel
theorem dL_law_829 : decode cL_law 829 = .ok (.iconst 5, 1) := by decide +kernel
theorem dL_law_830 : decode cL_law 830 = .ok (.iadd, 1) := by decide +kernel
theorem dL_law_831 : decode cL_law 831 = .ok (.iaload, 1) := by decide +kernel
theorem dL_law_832 : decode cL_law 832 = .ok (.aload_n 0, 1) := by decide +kernel
theorem dL_law_833 : decode cL_law 833 = .ok (.iload 4, 2) := by decide +kernel
theorem dL_law_835 : decode cL_law 835 = .ok (.bipush 6, 2) := by decide +kernel
theorem dL_law_837 : decode cL_law 837 = .ok (.iadd, 1) := by decide +kernel
theorem dL_law_838 : decode cL_law 838 = .ok (.iaload, 1) := by decide +kernel
theorem dL_law_839 : decode cL_law 839 = .ok (.invokevirtual 99, 3) := by decide +kernel
theorem dL_law_842 : decode cL_law 842 = .ok (.pop, 1) := by decide +kernel
theorem dL_law_843 : decode cL_law 843 = .ok (.aload_n 2, 1) := by decide +kernel
theorem dL_law_844 : decode cL_law 844 = .ok (.aload_n 0, 1) := by decide +kernel
theorem dL_law_845 : decode cL_law 845 = .ok (.iload 4, 2) := by decide +kernel
theorem dL_law_847 : decode cL_law 847 = .ok (.iconst 1, 1) := by decide +kernel
theorem dL_law_848 : decode cL_law 848 = .ok (.iadd, 1) := by decide +kernel
theorem dL_law_849 : decode cL_law 849 = .ok (.iaload, 1) := by decide +kernel
theorem dL_law_850 : decode cL_law 850 = .ok (.aload_n 0, 1) := by decide +kernel
theorem dL_law_851 : decode cL_law 851 = .ok (.iload 4, 2) := by decide +kernel
theorem dL_law_853 : decode cL_law 853 = .ok (.iconst 2, 1) := by decide +kernel
theorem dL_law_854 : decode cL_law 854 = .ok (.iadd, 1) := by decide +kernel
theorem dL_law_855 : decode cL_law 855 = .ok (.iaload, 1) := by decide +kernel
theorem dL_law_856 : decode cL_law 856 = .ok (.aload_n 0, 1) := by decide +kernel
theorem dL_law_857 : decode cL_law 857 = .ok (.iload 4, 2) := by decide +kernel
theorem dL_law_859 : decode cL_law 859 = .ok (.iconst 3, 1) := by decide +kernel
theorem dL_law_860 : decode cL_law 860 = .ok (.iadd, 1) := by decide +kernel
theorem dL_law_861 : decode cL_law 861 = .ok (.iaload, 1) := by decide +kernel
theorem dL_law_862 : decode cL_law 862 = .ok (.aload_n 0, 1) := by decide +kernel
theorem dL_law_863 : decode cL_law 863 = .ok (.iload 4, 2) := by decide +kernel
theorem dL_law_865 : decode cL_law 865 = .ok (.iconst 4, 1) := by decide +kernel
theorem dL_law_866 : decode cL_law 866 = .ok (.iadd, 1) := by decide +kernel
theorem dL_law_867 : decode cL_law 867 = .ok (.iaload, 1) := by decide +kernel
theorem dL_law_868 : decode cL_law 868 = .ok (.aload_n 0, 1) := by decide +kernel
theorem dL_law_869 : decode cL_law 869 = .ok (.iload 4, 2) := by decide +kernel
theorem dL_law_871 : decode cL_law 871 = .ok (.iconst 5, 1) := by decide +kernel
theorem dL_law_872 : decode cL_law 872 = .ok (.iadd, 1) := by decide +kernel
theorem dL_law_873 : decode cL_law 873 = .ok (.iaload, 1) := by decide +kernel
theorem dL_law_874 : decode cL_law 874 = .ok (.aload_n 0, 1) := by decide +kernel
theorem dL_law_875 : decode cL_law 875 = .ok (.iload 4, 2) := by decide +kernel
theorem dL_law_877 : decode cL_law 877 = .ok (.bipush 6, 2) := by decide +kernel
theorem dL_law_879 : decode cL_law 879 = .ok (.iadd, 1) := by decide +kernel
theorem dL_law_880 : decode cL_law 880 = .ok (.iaload, 1) := by decide +kernel
theorem dL_law_881 : decode cL_law 881 = .ok (.invokevirtual 102, 3) := by decide +kernel
theorem dL_law_884 : decode cL_law 884 = .ok (.pop, 1) := by decide +kernel
theorem dL_law_885 : decode cL_law 885 = .ok (.goto 90, 3) := by decide +kernel
theorem dL_law_888 : decode cL_law 888 = .ok (.aload_n 1, 1) := by decide +kernel
theorem dL_law_889 : decode cL_law 889 = .ok (.aload_n 0, 1) := by decide +kernel
theorem dL_law_890 : decode cL_law 890 = .ok (.iload 4, 2) := by decide +kernel
theorem dL_law_892 : decode cL_law 892 = .ok (.iconst 1, 1) := by decide +kernel
theorem dL_law_893 : decode cL_law 893 = .ok (.iadd, 1) := by decide +kernel
theorem dL_law_894 : decode cL_law 894 = .ok (.iaload, 1) := by decide +kernel
theorem dL_law_895 : decode cL_law 895 = .ok (.invokevirtual 103, 3) := by decide +kernel
theorem dL_law_898 : decode cL_law 898 = .ok (.pop2, 1) := by decide +kernel
theorem dL_law_899 : decode cL_law 899 = .ok (.aload_n 2, 1) := by decide +kernel
theorem dL_law_900 : decode cL_law 900 = .ok (.aload_n 0, 1) := by decide +kernel
theorem dL_law_901 : decode cL_law 901 = .ok (.iload 4, 2) := by decide +kernel
theorem dL_law_903 : decode cL_law 903 = .ok (.iconst 1, 1) := by decide +kernel
theorem dL_law_904 : decode cL_law 904 = .ok (.iadd, 1) := by decide +kernel
theorem dL_law_905 : decode cL_law 905 = .ok (.iaload, 1) := by decide +kernel
theorem dL_law_906 : decode cL_law 906 = .ok (.invokevirtual 106, 3) := by decide +kernel
theorem dL_law_909 : decode cL_law 909 = .ok (.pop2, 1) := by decide +kernel
theorem dL_law_910 : decode cL_law 910 = .ok (.goto 65, 3) := by decide +kernel
theorem dL_law_913 : decode cL_law 913 = .ok (.aload_n 1, 1) := by decide +kernel
theorem dL_law_914 : decode cL_law 914 = .ok (.aload_n 0, 1) := by decide +kernel
theorem dL_law_915 : decode cL_law 915 = .ok (.iload 4, 2) := by decide +kernel
theorem dL_law_917 : decode cL_law 917 = .ok (.iconst 1, 1) := by decide +kernel
theorem dL_law_918 : decode cL_law 918 = .ok (.iadd, 1) := by decide +kernel
theorem dL_law_919 : decode cL_law 919 = .ok (.iaload, 1) := by decide +kernel
theorem dL_law_920 : decode cL_law 920 = .ok (.aload_n 0, 1) := by decide +kernel
theorem dL_law_921 : decode cL_law 921 = .ok (.iload 4, 2) := by decide +kernel
theorem dL_law_923 : decode cL_law 923 = .ok (.iconst 2, 1) := by decide +kernel
theorem dL_law_924 : decode cL_law 924 = .ok (.iadd, 1) := by decide +kernel
theorem dL_law_925 : decode cL_law 925 = .ok (.iaload, 1) := by decide +kernel
theorem dL_law_926 : decode cL_law 926 = .ok (.invokevirtual 107, 3) := by decide +kernel
theorem dL_law_929 : decode cL_law 929 = .ok (.pop, 1) := by decide +kernel
theorem dL_law_930 : decode cL_law 930 = .ok (.aload_n 2, 1) := by decide +kernel
theorem dL_law_931 : decode cL_law 931 = .ok (.aload_n 0, 1) := by decide +kernel
theorem dL_law_932 : decode cL_law 932 = .ok (.iload 4, 2) := by decide +kernel
theorem dL_law_934 : decode cL_law 934 = .ok (.iconst 1, 1) := by decide +kernel
theorem dL_law_935 : decode cL_law 935 = .ok (.iadd, 1) := by decide +kernel
theorem dL_law_936 : decode cL_law 936 = .ok (.iaload, 1) := by decide +kernel
theorem dL_law_937 : decode cL_law 937 = .ok (.aload_n 0, 1) := by decide +kernel
theorem dL_law_938 : decode cL_law 938 = .ok (.iload 4, 2) := by decide +kernel
theorem dL_law_940 : decode cL_law 940 = .ok (.iconst 2, 1) := by decide +kernel
theorem dL_law_941 : decode cL_law 941 = .ok (.iadd, 1) := by decide +kernel
theorem dL_law_942 : decode cL_law 942 = .ok (.iaload, 1) := by decide +kernel
theorem dL_law_943 : decode cL_law 943 = .ok (.invokevirtual 110, 3) := by decide +kernel
theorem dL_law_946 : decode cL_law 946 = .ok (.pop, 1) := by decide +kernel
theorem dL_law_947 : decode cL_law 947 = .ok (.goto 28, 3) := by decide +kernel
theorem dL_law_950 : decode cL_law 950 = .ok (.aload_n 1, 1) := by decide +kernel
theorem dL_law_951 : decode cL_law 951 = .ok (.aload_n 0, 1) := by decide +kernel
theorem dL_law_952 : decode cL_law 952 = .ok (.iload 4, 2) := by decide +kernel
theorem dL_law_954 : decode cL_law 954 = .ok (.iconst 1, 1) := by decide +kernel
theorem dL_law_955 : decode cL_law 955 = .ok (.iadd, 1) := by decide +kernel
theorem dL_law_956 : decode cL_law 956 = .ok (.iaload, 1) := by decide +kernel
theorem dL_law_957 : decode cL_law 957 = .ok (.invokevirtual 111, 3) := by decide +kernel
theorem dL_law_960 : decode cL_law 960 = .ok (.pop, 1) := by decide +kernel
theorem dL_law_961 : decode cL_law 961 = .ok (.aload_n 2, 1) := by decide +kernel
theorem dL_law_962 : decode cL_law 962 = .ok (.aload_n 0, 1) := by decide +kernel
theorem dL_law_963 : decode cL_law 963 = .ok (.iload 4, 2) := by decide +kernel
theorem dL_law_965 : decode cL_law 965 = .ok (.iconst 1, 1) := by decide +kernel
theorem dL_law_966 : decode cL_law 966 = .ok (.iadd, 1) := by decide +kernel
theorem dL_law_967 : decode cL_law 967 = .ok (.iaload, 1) := by decide +kernel
theorem dL_law_968 : decode cL_law 968 = .ok (.invokevirtual 114, 3) := by decide +kernel
theorem dL_law_971 : decode cL_law 971 = .ok (.pop, 1) := by decide +kernel
theorem dL_law_972 : decode cL_law 972 = .ok (.goto 3, 3) := by decide +kernel
theorem dL_law_975 : decode cL_law 975 = .ok (.iinc 4 7, 3) := by decide +kernel
theorem dL_law_978 : decode cL_law 978 = .ok (.goto (-955), 3) := by decide +kernel
theorem dL_law_981 : decode cL_law 981 = .ok (.iconst 1, 1) := by decide +kernel
theorem dL_law_982 : decode cL_law 982 = .ok (.ireturn, 1) := by decide +kernel
