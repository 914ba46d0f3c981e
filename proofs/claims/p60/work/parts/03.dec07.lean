theorem dL_isAs_246 : decode cL_isAs 246 = .ok (.aload_n 1, 1) := by decide +kernel
theorem dL_isAs_247 : decode cL_isAs 247 = .ok (.getfield 55, 3) := by decide +kernel
theorem dL_isAs_250 : decode cL_isAs 250 = .ok (.if_icmp .ne 73, 3) := by decide +kernel
theorem dL_isAs_253 : decode cL_isAs 253 = .ok (.aload_n 0, 1) := by decide +kernel
theorem dL_isAs_254 : decode cL_isAs 254 = .ok (.invokevirtual 199, 3) := by decide +kernel
theorem dL_isAs_257 : decode cL_isAs 257 = .ok (.aload_n 1, 1) := by decide +kernel
theorem dL_isAs_258 : decode cL_isAs 258 = .ok (.getfield 202, 3) := by decide +kernel
theorem dL_isAs_261 : decode cL_isAs 261 = .ok (.if_icmp .ne 62, 3) := by decide +kernel
theorem dL_isAs_264 : decode cL_isAs 264 = .ok (.aload_n 0, 1) := by decide +kernel
theorem dL_isAs_265 : decode cL_isAs 265 = .ok (.invokevirtual 204, 3) := by decide +kernel
theorem dL_isAs_268 : decode cL_isAs 268 = .ok (.aload_n 1, 1) := by decide +kernel
theorem dL_isAs_269 : decode cL_isAs 269 = .ok (.invokevirtual 207, 3) := by decide +kernel
theorem dL_isAs_272 : decode cL_isAs 272 = .ok (.if_icmp .ne 51, 3) := by decide +kernel
theorem dL_isAs_275 : decode cL_isAs 275 = .ok (.aload_n 0, 1) := by decide +kernel
theorem dL_isAs_276 : decode cL_isAs 276 = .ok (.invokevirtual 208, 3) := by decide +kernel
theorem dL_isAs_279 : decode cL_isAs 279 = .ok (.aload_n 1, 1) := by decide +kernel
theorem dL_isAs_280 : decode cL_isAs 280 = .ok (.getfield 139, 3) := by decide +kernel
theorem dL_isAs_283 : decode cL_isAs 283 = .ok (.if_icmp .ne 40, 3) := by decide +kernel
theorem dL_isAs_286 : decode cL_isAs 286 = .ok (.aload_n 0, 1) := by decide +kernel
theorem dL_isAs_287 : decode cL_isAs 287 = .ok (.invokevirtual 211, 3) := by decide +kernel
theorem dL_isAs_290 : decode cL_isAs 290 = .ok (.aload_n 1, 1) := by decide +kernel
theorem dL_isAs_291 : decode cL_isAs 291 = .ok (.getfield 169, 3) := by decide +kernel
theorem dL_isAs_294 : decode cL_isAs 294 = .ok (.if_icmp .ne 29, 3) := by decide +kernel
theorem dL_isAs_297 : decode cL_isAs 297 = .ok (.aload_n 0, 1) := by decide +kernel
theorem dL_isAs_298 : decode cL_isAs 298 = .ok (.invokevirtual 214, 3) := by decide +kernel
theorem dL_isAs_301 : decode cL_isAs 301 = .ok (.aload_n 1, 1) := by decide +kernel
theorem dL_isAs_302 : decode cL_isAs 302 = .ok (.invokevirtual 218, 3) := by decide +kernel
theorem dL_isAs_305 : decode cL_isAs 305 = .ok (.if_icmp .ne 18, 3) := by decide +kernel
theorem dL_isAs_308 : decode cL_isAs 308 = .ok (.aload_n 0, 1) := by decide +kernel
theorem dL_isAs_309 : decode cL_isAs 309 = .ok (.invokevirtual 221, 3) := by decide +kernel
theorem dL_isAs_312 : decode cL_isAs 312 = .ok (.aload_n 1, 1) := by decide +kernel
theorem dL_isAs_313 : decode cL_isAs 313 = .ok (.getfield 224, 3) := by decide +kernel
theorem dL_isAs_316 : decode cL_isAs 316 = .ok (.if_icmp .ne 7, 3) := by decide +kernel
theorem dL_isAs_319 : decode cL_isAs 319 = .ok (.iconst 1, 1) := by decide +kernel
theorem dL_isAs_320 : decode cL_isAs 320 = .ok (.goto 4, 3) := by decide +kernel
theorem dL_isAs_323 : decode cL_isAs 323 = .ok (.iconst 0, 1) := by decide +kernel
theorem dL_isAs_324 : decode cL_isAs 324 = .ok (.istore_n 2, 1) := by decide +kernel
theorem dL_isAs_325 : decode cL_isAs 325 = .ok (.iload_n 2, 1) := by decide +kernel
theorem dL_isAs_326 : decode cL_isAs 326 = .ok (.ifCond .eq 49, 3) := by decide +kernel
theorem dL_isAs_329 : decode cL_isAs 329 = .ok (.aload_n 0, 1) := by decide +kernel
theorem dL_isAs_330 : decode cL_isAs 330 = .ok (.invokevirtual 227, 3) := by decide +kernel
theorem dL_isAs_333 : decode cL_isAs 333 = .ok (.ifCond .ne 42, 3) := by decide +kernel
theorem dL_isAs_336 : decode cL_isAs 336 = .ok (.aload_n 0, 1) := by decide +kernel
theorem dL_isAs_337 : decode cL_isAs 337 = .ok (.invokevirtual 230, 3) := by decide +kernel
theorem dL_isAs_340 : decode cL_isAs 340 = .ok (.invokestatic 234, 3) := by decide +kernel
theorem dL_isAs_343 : decode cL_isAs 343 = .ok (.aload_n 1, 1) := by decide +kernel
theorem dL_isAs_344 : decode cL_isAs 344 = .ok (.getfield 240, 3) := by decide +kernel
theorem dL_isAs_347 : decode cL_isAs 347 = .ok (.ifCond .ne 7, 3) := by decide +kernel
theorem dL_isAs_350 : decode cL_isAs 350 = .ok (.fconst 0, 1) := by decide +kernel
theorem dL_isAs_351 : decode cL_isAs 351 = .ok (.goto 14, 3) := by decide +kernel
theorem dL_isAs_354 : decode cL_isAs 354 = .ok (.aload_n 1, 1) := by decide +kernel
theorem dL_isAs_355 : decode cL_isAs 355 = .ok (.getfield 243, 3) := by decide +kernel
theorem dL_isAs_358 : decode cL_isAs 358 = .ok (.i2f, 1) := by decide +kernel
theorem dL_isAs_359 : decode cL_isAs 359 = .ok (.aload_n 1, 1) := by decide +kernel
theorem dL_isAs_360 : decode cL_isAs 360 = .ok (.getfield 240, 3) := by decide +kernel
theorem dL_isAs_363 : decode cL_isAs 363 = .ok (.i2f, 1) := by decide +kernel
theorem dL_isAs_364 : decode cL_isAs 364 = .ok (.fdiv, 1) := by decide +kernel
theorem dL_isAs_365 : decode cL_isAs 365 = .ok (.invokestatic 234, 3) := by decide +kernel
theorem dL_isAs_368 : decode cL_isAs 368 = .ok (.if_icmp .ne 7, 3) := by decide +kernel
theorem dL_isAs_371 : decode cL_isAs 371 = .ok (.iconst 1, 1) := by decide +kernel
theorem dL_isAs_372 : decode cL_isAs 372 = .ok (.goto 4, 3) := by decide +kernel
theorem dL_isAs_375 : decode cL_isAs 375 = .ok (.iconst 0, 1) := by decide +kernel
theorem dL_isAs_376 : decode cL_isAs 376 = .ok (.ireturn, 1) := by decide +kernel
theorem dL_areMoves_0 : decode cL_areMoves 0 = .ok (.iconst 2, 1) := by decide +kernel
theorem dL_areMoves_1 : decode cL_areMoves 1 = .ok (.newarray .int, 2) := by decide +kernel
theorem dL_areMoves_3 : decode cL_areMoves 3 = .ok (.astore_n 3, 1) := by decide +kernel
theorem dL_areMoves_4 : decode cL_areMoves 4 = .ok (.iconst 0, 1) := by decide +kernel
theorem dL_areMoves_5 : decode cL_areMoves 5 = .ok (.istore 4, 2) := by decide +kernel
theorem dL_areMoves_7 : decode cL_areMoves 7 = .ok (.iload 4, 2) := by decide +kernel
theorem dL_areMoves_9 : decode cL_areMoves 9 = .ok (.aload_n 1, 1) := by decide +kernel
theorem dL_areMoves_10 : decode cL_areMoves 10 = .ok (.getfield 41, 3) := by decide +kernel
theorem dL_areMoves_13 : decode cL_areMoves 13 = .ok (.aload_n 1, 1) := by decide +kernel
theorem dL_areMoves_14 : decode cL_areMoves 14 = .ok (.getfield 41, 3) := by decide +kernel
theorem dL_areMoves_17 : decode cL_areMoves 17 = .ok (.imul, 1) := by decide +kernel
theorem dL_areMoves_18 : decode cL_areMoves 18 = .ok (.if_icmp .ge 90, 3) := by decide +kernel
theorem dL_areMoves_21 : decode cL_areMoves 21 = .ok (.iconst 0, 1) := by decide +kernel
theorem dL_areMoves_22 : decode cL_areMoves 22 = .ok (.istore 5, 2) := by decide +kernel
theorem dL_areMoves_24 : decode cL_areMoves 24 = .ok (.iload 5, 2) := by decide +kernel
theorem dL_areMoves_26 : decode cL_areMoves 26 = .ok (.aload_n 1, 1) := by decide +kernel
theorem dL_areMoves_27 : decode cL_areMoves 27 = .ok (.getfield 41, 3) := by decide +kernel
theorem dL_areMoves_30 : decode cL_areMoves 30 = .ok (.aload_n 1, 1) := by decide +kernel
theorem dL_areMoves_31 : decode cL_areMoves 31 = .ok (.getfield 41, 3) := by decide +kernel
theorem dL_areMoves_34 : decode cL_areMoves 34 = .ok (.imul, 1) := by decide +kernel
theorem dL_areMoves_35 : decode cL_areMoves 35 = .ok (.if_icmp .ge 67, 3) := by decide +kernel
theorem dL_areMoves_38 : decode cL_areMoves 38 = .ok (.aload_n 1, 1) := by decide +kernel
theorem dL_areMoves_39 : decode cL_areMoves 39 = .ok (.getfield 35, 3) := by decide +kernel
theorem dL_areMoves_42 : decode cL_areMoves 42 = .ok (.iload_n 2, 1) := by decide +kernel
theorem dL_areMoves_43 : decode cL_areMoves 43 = .ok (.aaload, 1) := by decide +kernel
theorem dL_areMoves_44 : decode cL_areMoves 44 = .ok (.aload_n 1, 1) := by decide +kernel
theorem dL_areMoves_45 : decode cL_areMoves 45 = .ok (.getfield 41, 3) := by decide +kernel
theorem dL_areMoves_48 : decode cL_areMoves 48 = .ok (.iload 4, 2) := by decide +kernel
theorem dL_areMoves_50 : decode cL_areMoves 50 = .ok (.iload 5, 2) := by decide +kernel
theorem dL_areMoves_52 : decode cL_areMoves 52 = .ok (.invokevirtual 246, 3) := by decide +kernel
theorem dL_areMoves_55 : decode cL_areMoves 55 = .ok (.istore 6, 2) := by decide +kernel
theorem dL_areMoves_57 : decode cL_areMoves 57 = .ok (.aload_n 0, 1) := by decide +kernel
theorem dL_areMoves_58 : decode cL_areMoves 58 = .ok (.iload_n 2, 1) := by decide +kernel
theorem dL_areMoves_59 : decode cL_areMoves 59 = .ok (.iload 4, 2) := by decide +kernel
theorem dL_areMoves_61 : decode cL_areMoves 61 = .ok (.iload 5, 2) := by decide +kernel
theorem dL_areMoves_63 : decode cL_areMoves 63 = .ok (.invokevirtual 250, 3) := by decide +kernel
theorem dL_areMoves_66 : decode cL_areMoves 66 = .ok (.iload 6, 2) := by decide +kernel
theorem dL_areMoves_68 : decode cL_areMoves 68 = .ok (.if_icmp .eq 5, 3) := by decide +kernel
theorem dL_areMoves_71 : decode cL_areMoves 71 = .ok (.iconst 0, 1) := by decide +kernel
theorem dL_areMoves_72 : decode cL_areMoves 72 = .ok (.ireturn, 1) := by decide +kernel
theorem dL_areMoves_73 : decode cL_areMoves 73 = .ok (.iload 6, 2) := by decide +kernel
theorem dL_areMoves_75 : decode cL_areMoves 75 = .ok (.ifCond .eq 21, 3) := by decide +kernel
theorem dL_areMoves_78 : decode cL_areMoves 78 = .ok (.aload_n 3, 1) := by decide +kernel
theorem dL_areMoves_79 : decode cL_areMoves 79 = .ok (.aload_n 1, 1) := by decide +kernel
theorem dL_areMoves_80 : decode cL_areMoves 80 = .ok (.getfield 35, 3) := by decide +kernel
theorem dL_areMoves_83 : decode cL_areMoves 83 = .ok (.iload_n 2, 1) := by decide +kernel
theorem dL_areMoves_84 : decode cL_areMoves 84 = .ok (.aaload, 1) := by decide +kernel
theorem dL_areMoves_85 : decode cL_areMoves 85 = .ok (.getfield 49, 3) := by decide +kernel
theorem dL_areMoves_88 : decode cL_areMoves 88 = .ok (.iload 4, 2) := by decide +kernel
theorem dL_areMoves_90 : decode cL_areMoves 90 = .ok (.iaload, 1) := by decide +kernel
theorem dL_areMoves_91 : decode cL_areMoves 91 = .ok (.dup2, 1) := by decide +kernel
theorem dL_areMoves_92 : decode cL_areMoves 92 = .ok (.iaload, 1) := by decide +kernel
theorem dL_areMoves_93 : decode cL_areMoves 93 = .ok (.iconst 1, 1) := by decide +kernel
theorem dL_areMoves_94 : decode cL_areMoves 94 = .ok (.iadd, 1) := by decide +kernel
theorem dL_areMoves_95 : decode cL_areMoves 95 = .ok (.iastore, 1) := by decide +kernel
theorem dL_areMoves_96 : decode cL_areMoves 96 = .ok (.iinc 5 1, 3) := by decide +kernel
theorem dL_areMoves_99 : decode cL_areMoves 99 = .ok (.goto (-75), 3) := by decide +kernel
theorem dL_areMoves_102 : decode cL_areMoves 102 = .ok (.iinc 4 1, 3) := by decide +kernel
theorem dL_areMoves_105 : decode cL_areMoves 105 = .ok (.goto (-98), 3) := by decide +kernel
theorem dL_areMoves_108 : decode cL_areMoves 108 = .ok (.aload_n 0, 1) := by decide +kernel
theorem dL_areMoves_109 : decode cL_areMoves 109 = .ok (.iload_n 2, 1) := by decide +kernel
theorem dL_areMoves_110 : decode cL_areMoves 110 = .ok (.iconst 0, 1) := by decide +kernel
theorem dL_areMoves_111 : decode cL_areMoves 111 = .ok (.invokevirtual 253, 3) := by decide +kernel
theorem dL_areMoves_114 : decode cL_areMoves 114 = .ok (.aload_n 3, 1) := by decide +kernel
theorem dL_areMoves_115 : decode cL_areMoves 115 = .ok (.iconst 0, 1) := by decide +kernel
theorem dL_areMoves_116 : decode cL_areMoves 116 = .ok (.iaload, 1) := by decide +kernel
theorem dL_areMoves_117 : decode cL_areMoves 117 = .ok (.if_icmp .ne 19, 3) := by decide +kernel
theorem dL_areMoves_120 : decode cL_areMoves 120 = .ok (.aload_n 0, 1) := by decide +kernel
theorem dL_areMoves_121 : decode cL_areMoves 121 = .ok (.iload_n 2, 1) := by decide +kernel
theorem dL_areMoves_122 : decode cL_areMoves 122 = .ok (.iconst 1, 1) := by decide +kernel
theorem dL_areMoves_123 : decode cL_areMoves 123 = .ok (.invokevirtual 253, 3) := by decide +kernel
theorem dL_areMoves_126 : decode cL_areMoves 126 = .ok (.aload_n 3, 1) := by decide +kernel
theorem dL_areMoves_127 : decode cL_areMoves 127 = .ok (.iconst 1, 1) := by decide +kernel
theorem dL_areMoves_128 : decode cL_areMoves 128 = .ok (.iaload, 1) := by decide +kernel
theorem dL_areMoves_129 : decode cL_areMoves 129 = .ok (.if_icmp .ne 7, 3) := by decide +kernel
theorem dL_areMoves_132 : decode cL_areMoves 132 = .ok (.iconst 1, 1) := by decide +kernel
theorem dL_areMoves_133 : decode cL_areMoves 133 = .ok (.goto 4, 3) := by decide +kernel
theorem dL_areMoves_136 : decode cL_areMoves 136 = .ok (.iconst 0, 1) := by decide +kernel
theorem dL_areMoves_137 : decode cL_areMoves 137 = .ok (.ireturn, 1) := by decide +kernel
theorem dL_isForetold_0 : decode cL_isForetold 0 = .ok (.aload_n 1, 1) := by decide +kernel
theorem dL_isForetold_1 : decode cL_isForetold 1 = .ok (.invokevirtual 256, 3) := by decide +kernel
theorem dL_isForetold_4 : decode cL_isForetold 4 = .ok (.astore_n 3, 1) := by decide +kernel
theorem dL_isForetold_5 : decode cL_isForetold 5 = .ok (.iconst 2, 1) := by decide +kernel
theorem dL_isForetold_6 : decode cL_isForetold 6 = .ok (.newarray .int, 2) := by decide +kernel
theorem dL_isForetold_8 : decode cL_isForetold 8 = .ok (.dup, 1) := by decide +kernel
theorem dL_isForetold_9 : decode cL_isForetold 9 = .ok (.iconst 0, 1) := by decide +kernel
theorem dL_isForetold_10 : decode cL_isForetold 10 = .ok (.iconst (-1), 1) := by decide +kernel
theorem dL_isForetold_11 : decode cL_isForetold 11 = .ok (.iastore, 1) := by decide +kernel
theorem dL_isForetold_12 : decode cL_isForetold 12 = .ok (.dup, 1) := by decide +kernel
theorem dL_isForetold_13 : decode cL_isForetold 13 = .ok (.iconst 1, 1) := by decide +kernel
theorem dL_isForetold_14 : decode cL_isForetold 14 = .ok (.iconst (-1), 1) := by decide +kernel
theorem dL_isForetold_15 : decode cL_isForetold 15 = .ok (.iastore, 1) := by decide +kernel
theorem dL_isForetold_16 : decode cL_isForetold 16 = .ok (.astore 4, 2) := by decide +kernel
theorem dL_isForetold_18 : decode cL_isForetold 18 = .ok (.iconst (-1), 1) := by decide +kernel
theorem dL_isForetold_19 : decode cL_isForetold 19 = .ok (.istore 5, 2) := by decide +kernel
theorem dL_isForetold_21 : decode cL_isForetold 21 = .ok (.iconst 0, 1) := by decide +kernel
theorem dL_isForetold_22 : decode cL_isForetold 22 = .ok (.istore 6, 2) := by decide +kernel
theorem dL_isForetold_24 : decode cL_isForetold 24 = .ok (.iload 6, 2) := by decide +kernel
theorem dL_isForetold_26 : decode cL_isForetold 26 = .ok (.sipush 400, 3) := by decide +kernel
theorem dL_isForetold_29 : decode cL_isForetold 29 = .ok (.if_icmp .gt 81, 3) := by decide +kernel
theorem dL_isForetold_32 : decode cL_isForetold 32 = .ok (.iconst 0, 1) := by decide +kernel
theorem dL_isForetold_33 : decode cL_isForetold 33 = .ok (.istore 7, 2) := by decide +kernel
theorem dL_isForetold_35 : decode cL_isForetold 35 = .ok (.iload 7, 2) := by decide +kernel
theorem dL_isForetold_37 : decode cL_isForetold 37 = .ok (.iconst 2, 1) := by decide +kernel
theorem dL_isForetold_38 : decode cL_isForetold 38 = .ok (.if_icmp .ge 41, 3) := by decide +kernel
theorem dL_isForetold_41 : decode cL_isForetold 41 = .ok (.aload 4, 2) := by decide +kernel
theorem dL_isForetold_43 : decode cL_isForetold 43 = .ok (.iload 7, 2) := by decide +kernel
theorem dL_isForetold_45 : decode cL_isForetold 45 = .ok (.aload 4, 2) := by decide +kernel
theorem dL_isForetold_47 : decode cL_isForetold 47 = .ok (.iload 7, 2) := by decide +kernel
theorem dL_isForetold_49 : decode cL_isForetold 49 = .ok (.iaload, 1) := by decide +kernel
theorem dL_isForetold_50 : decode cL_isForetold 50 = .ok (.ifCond .ge 17, 3) := by decide +kernel
theorem dL_isForetold_53 : decode cL_isForetold 53 = .ok (.aload_n 3, 1) := by decide +kernel
theorem dL_isForetold_54 : decode cL_isForetold 54 = .ok (.iload 7, 2) := by decide +kernel
theorem dL_isForetold_56 : decode cL_isForetold 56 = .ok (.invokevirtual 83, 3) := by decide +kernel
theorem dL_isForetold_59 : decode cL_isForetold 59 = .ok (.ifCond .eq 8, 3) := by decide +kernel
theorem dL_isForetold_62 : decode cL_isForetold 62 = .ok (.iload 6, 2) := by decide +kernel
theorem dL_isForetold_64 : decode cL_isForetold 64 = .ok (.goto 8, 3) := by decide +kernel
theorem dL_isForetold_67 : decode cL_isForetold 67 = .ok (.aload 4, 2) := by decide +kernel
theorem dL_isForetold_69 : decode cL_isForetold 69 = .ok (.iload 7, 2) := by decide +kernel
theorem dL_isForetold_71 : decode cL_isForetold 71 = .ok (.iaload, 1) := by decide +kernel
theorem dL_isForetold_72 : decode cL_isForetold 72 = .ok (.iastore, 1) := by decide +kernel
theorem dL_isForetold_73 : decode cL_isForetold 73 = .ok (.iinc 7 1, 3) := by decide +kernel
theorem dL_isForetold_76 : decode cL_isForetold 76 = .ok (.goto (-41), 3) := by decide +kernel
theorem dL_isForetold_79 : decode cL_isForetold 79 = .ok (.iload 5, 2) := by decide +kernel
theorem dL_isForetold_81 : decode cL_isForetold 81 = .ok (.ifCond .ge 15, 3) := by decide +kernel
theorem dL_isForetold_84 : decode cL_isForetold 84 = .ok (.aload_n 3, 1) := by decide +kernel
theorem dL_isForetold_85 : decode cL_isForetold 85 = .ok (.invokevirtual 218, 3) := by decide +kernel
theorem dL_isForetold_88 : decode cL_isForetold 88 = .ok (.ifCond .eq 8, 3) := by decide +kernel
theorem dL_isForetold_91 : decode cL_isForetold 91 = .ok (.iload 6, 2) := by decide +kernel
theorem dL_isForetold_93 : decode cL_isForetold 93 = .ok (.goto 5, 3) := by decide +kernel
theorem dL_isForetold_96 : decode cL_isForetold 96 = .ok (.iload 5, 2) := by decide +kernel
theorem dL_isForetold_98 : decode cL_isForetold 98 = .ok (.istore 5, 2) := by decide +kernel
theorem dL_isForetold_100 : decode cL_isForetold 100 = .ok (.aload_n 3, 1) := by decide +kernel
theorem dL_isForetold_101 : decode cL_isForetold 101 = .ok (.invokevirtual 260, 3) := by decide +kernel
theorem dL_isForetold_104 : decode cL_isForetold 104 = .ok (.iinc 6 1, 3) := by decide +kernel
theorem dL_isForetold_107 : decode cL_isForetold 107 = .ok (.goto (-83), 3) := by decide +kernel
theorem dL_isForetold_110 : decode cL_isForetold 110 = .ok (.aload_n 0, 1) := by decide +kernel
theorem dL_isForetold_111 : decode cL_isForetold 111 = .ok (.iconst 0, 1) := by decide +kernel
theorem dL_isForetold_112 : decode cL_isForetold 112 = .ok (.invokevirtual 262, 3) := by decide +kernel
theorem dL_isForetold_115 : decode cL_isForetold 115 = .ok (.aload 4, 2) := by decide +kernel
theorem dL_isForetold_117 : decode cL_isForetold 117 = .ok (.iconst 0, 1) := by decide +kernel
theorem dL_isForetold_118 : decode cL_isForetold 118 = .ok (.iaload, 1) := by decide +kernel
theorem dL_isForetold_119 : decode cL_isForetold 119 = .ok (.if_icmp .ne 24, 3) := by decide +kernel
theorem dL_isForetold_122 : decode cL_isForetold 122 = .ok (.aload_n 0, 1) := by decide +kernel
theorem dL_isForetold_123 : decode cL_isForetold 123 = .ok (.iconst 1, 1) := by decide +kernel
theorem dL_isForetold_124 : decode cL_isForetold 124 = .ok (.invokevirtual 262, 3) := by decide +kernel
theorem dL_isForetold_127 : decode cL_isForetold 127 = .ok (.aload 4, 2) := by decide +kernel
theorem dL_isForetold_129 : decode cL_isForetold 129 = .ok (.iconst 1, 1) := by decide +kernel
theorem dL_isForetold_130 : decode cL_isForetold 130 = .ok (.iaload, 1) := by decide +kernel
theorem dL_isForetold_131 : decode cL_isForetold 131 = .ok (.if_icmp .ne 12, 3) := by decide +kernel
theorem dL_isForetold_134 : decode cL_isForetold 134 = .ok (.aload_n 0, 1) := by decide +kernel
theorem dL_isForetold_135 : decode cL_isForetold 135 = .ok (.invokevirtual 265, 3) := by decide +kernel
theorem dL_isForetold_138 : decode cL_isForetold 138 = .ok (.iload 5, 2) := by decide +kernel
theorem dL_isForetold_140 : decode cL_isForetold 140 = .ok (.if_icmp .eq 5, 3) := by decide +kernel
theorem dL_isForetold_143 : decode cL_isForetold 143 = .ok (.iconst 0, 1) := by decide +kernel
theorem dL_isForetold_144 : decode cL_isForetold 144 = .ok (.ireturn, 1) := by decide +kernel
theorem dL_isForetold_145 : decode cL_isForetold 145 = .ok (.iload_n 2, 1) := by decide +kernel
theorem dL_isForetold_146 : decode cL_isForetold 146 = .ok (.aload_n 1, 1) := by decide +kernel
theorem dL_isForetold_147 : decode cL_isForetold 147 = .ok (.getfield 169, 3) := by decide +kernel
theorem dL_isForetold_150 : decode cL_isForetold 150 = .ok (.if_icmp .ge 16, 3) := by decide +kernel
theorem dL_isForetold_153 : decode cL_isForetold 153 = .ok (.aload_n 0, 1) := by decide +kernel
theorem dL_isForetold_154 : decode cL_isForetold 154 = .ok (.iload_n 2, 1) := by decide +kernel
theorem dL_isForetold_155 : decode cL_isForetold 155 = .ok (.invokevirtual 268, 3) := by decide +kernel
theorem dL_isForetold_158 : decode cL_isForetold 158 = .ok (.aload_n 1, 1) := by decide +kernel
theorem dL_isForetold_159 : decode cL_isForetold 159 = .ok (.iload_n 2, 1) := by decide +kernel
theorem dL_isForetold_160 : decode cL_isForetold 160 = .ok (.invokevirtual 271, 3) := by decide +kernel
theorem dL_isForetold_163 : decode cL_isForetold 163 = .ok (.if_icmp .ne 33, 3) := by decide +kernel
theorem dL_isForetold_166 : decode cL_isForetold 166 = .ok (.aload_n 0, 1) := by decide +kernel
theorem dL_isForetold_167 : decode cL_isForetold 167 = .ok (.iconst 0, 1) := by decide +kernel
theorem dL_isForetold_168 : decode cL_isForetold 168 = .ok (.invokevirtual 274, 3) := by decide +kernel
theorem dL_isForetold_171 : decode cL_isForetold 171 = .ok (.aload_n 1, 1) := by decide +kernel
theorem dL_isForetold_172 : decode cL_isForetold 172 = .ok (.iconst 0, 1) := by decide +kernel
theorem dL_isForetold_173 : decode cL_isForetold 173 = .ok (.invokevirtual 277, 3) := by decide +kernel
theorem dL_isForetold_176 : decode cL_isForetold 176 = .ok (.if_icmp .ne 20, 3) := by decide +kernel
theorem dL_isForetold_179 : decode cL_isForetold 179 = .ok (.aload_n 0, 1) := by decide +kernel
theorem dL_isForetold_180 : decode cL_isForetold 180 = .ok (.iconst 1, 1) := by decide +kernel
theorem dL_isForetold_181 : decode cL_isForetold 181 = .ok (.invokevirtual 274, 3) := by decide +kernel
theorem dL_isForetold_184 : decode cL_isForetold 184 = .ok (.aload_n 1, 1) := by decide +kernel
theorem dL_isForetold_185 : decode cL_isForetold 185 = .ok (.iconst 1, 1) := by decide +kernel
theorem dL_isForetold_186 : decode cL_isForetold 186 = .ok (.invokevirtual 277, 3) := by decide +kernel
theorem dL_isForetold_189 : decode cL_isForetold 189 = .ok (.if_icmp .ne 7, 3) := by decide +kernel
theorem dL_isForetold_192 : decode cL_isForetold 192 = .ok (.iconst 1, 1) := by decide +kernel
theorem dL_isForetold_193 : decode cL_isForetold 193 = .ok (.goto 4, 3) := by decide +kernel
theorem dL_isForetold_196 : decode cL_isForetold 196 = .ok (.iconst 0, 1) := by decide +kernel
theorem dL_isForetold_197 : decode cL_isForetold 197 = .ok (.ireturn, 1) := by decide +kernel
theorem dL_some_0 : decode cL_some 0 = .ok (.iconst 0, 1) := by decide +kernel
theorem dL_some_1 : decode cL_some 1 = .ok (.istore 4, 2) := by decide +kernel
theorem dL_some_3 : decode cL_some 3 = .ok (.iconst 0, 1) := by decide +kernel
theorem dL_some_4 : decode cL_some 4 = .ok (.istore 5, 2) := by decide +kernel
theorem dL_some_6 : decode cL_some 6 = .ok (.iload 5, 2) := by decide +kernel
theorem dL_some_8 : decode cL_some 8 = .ok (.aload_n 0, 1) := by decide +kernel
theorem dL_some_9 : decode cL_some 9 = .ok (.getfield 41, 3) := by decide +kernel
theorem dL_some_12 : decode cL_some 12 = .ok (.aload_n 0, 1) := by decide +kernel
theorem dL_some_13 : decode cL_some 13 = .ok (.getfield 41, 3) := by decide +kernel
theorem dL_some_16 : decode cL_some 16 = .ok (.imul, 1) := by decide +kernel
theorem dL_some_17 : decode cL_some 17 = .ok (.if_icmp .ge 68, 3) := by decide +kernel
theorem dL_some_20 : decode cL_some 20 = .ok (.iconst 0, 1) := by decide +kernel
theorem dL_some_21 : decode cL_some 21 = .ok (.istore 6, 2) := by decide +kernel
theorem dL_some_23 : decode cL_some 23 = .ok (.iload 6, 2) := by decide +kernel
theorem dL_some_25 : decode cL_some 25 = .ok (.aload_n 0, 1) := by decide +kernel
theorem dL_some_26 : decode cL_some 26 = .ok (.getfield 41, 3) := by decide +kernel
theorem dL_some_29 : decode cL_some 29 = .ok (.aload_n 0, 1) := by decide +kernel
theorem dL_some_30 : decode cL_some 30 = .ok (.getfield 41, 3) := by decide +kernel
theorem dL_some_33 : decode cL_some 33 = .ok (.imul, 1) := by decide +kernel
theorem dL_some_34 : decode cL_some 34 = .ok (.if_icmp .ge 45, 3) := by decide +kernel
theorem dL_some_37 : decode cL_some 37 = .ok (.aload_n 1, 1) := by decide +kernel
theorem dL_some_38 : decode cL_some 38 = .ok (.getfield 49, 3) := by decide +kernel
theorem dL_some_41 : decode cL_some 41 = .ok (.iload 5, 2) := by decide +kernel
theorem dL_some_43 : decode cL_some 43 = .ok (.iaload, 1) := by decide +kernel
theorem dL_some_44 : decode cL_some 44 = .ok (.iload_n 2, 1) := by decide +kernel
theorem dL_some_45 : decode cL_some 45 = .ok (.if_icmp .ne 34, 3) := by decide +kernel
theorem dL_some_48 : decode cL_some 48 = .ok (.iload 4, 2) := by decide +kernel
theorem dL_some_50 : decode cL_some 50 = .ok (.aload_n 1, 1) := by decide +kernel
theorem dL_some_51 : decode cL_some 51 = .ok (.aload_n 0, 1) := by decide +kernel
theorem dL_some_52 : decode cL_some 52 = .ok (.getfield 41, 3) := by decide +kernel
theorem dL_some_55 : decode cL_some 55 = .ok (.iload 5, 2) := by decide +kernel
theorem dL_some_57 : decode cL_some 57 = .ok (.iload 6, 2) := by decide +kernel
theorem dL_some_59 : decode cL_some 59 = .ok (.invokevirtual 246, 3) := by decide +kernel
theorem dL_some_62 : decode cL_some 62 = .ok (.ifCond .eq 7, 3) := by decide +kernel
theorem dL_some_65 : decode cL_some 65 = .ok (.iconst 1, 1) := by decide +kernel
theorem dL_some_66 : decode cL_some 66 = .ok (.goto 4, 3) := by decide +kernel
theorem dL_some_69 : decode cL_some 69 = .ok (.iconst 0, 1) := by decide +kernel
theorem dL_some_70 : decode cL_some 70 = .ok (.iadd, 1) := by decide +kernel
theorem dL_some_71 : decode cL_some 71 = .ok (.istore 4, 2) := by decide +kernel
theorem dL_some_73 : decode cL_some 73 = .ok (.iinc 6 1, 3) := by decide +kernel
theorem dL_some_76 : decode cL_some 76 = .ok (.goto (-53), 3) := by decide +kernel
theorem dL_some_79 : decode cL_some 79 = .ok (.iinc 5 1, 3) := by decide +kernel
theorem dL_some_82 : decode cL_some 82 = .ok (.goto (-76), 3) := by decide +kernel
theorem dL_some_85 : decode cL_some 85 = .ok (.iload 4, 2) := by decide +kernel
theorem dL_some_87 : decode cL_some 87 = .ok (.ifCond .ne 5, 3) := by decide +kernel
theorem dL_some_90 : decode cL_some 90 = .ok (.iconst (-1), 1) := by decide +kernel
theorem dL_some_91 : decode cL_some 91 = .ok (.ireturn, 1) := by decide +kernel
theorem dL_some_92 : decode cL_some 92 = .ok (.iload_n 3, 1) := by decide +kernel
theorem dL_some_93 : decode cL_some 93 = .ok (.iload 4, 2) := by decide +kernel
theorem dL_some_95 : decode cL_some 95 = .ok (.irem, 1) := by decide +kernel
theorem dL_some_96 : decode cL_some 96 = .ok (.istore 5, 2) := by decide +kernel
theorem dL_some_98 : decode cL_some 98 = .ok (.iconst 0, 1) := by decide +kernel
theorem dL_some_99 : decode cL_some 99 = .ok (.istore 6, 2) := by decide +kernel
theorem dL_some_101 : decode cL_some 101 = .ok (.iload 6, 2) := by decide +kernel
theorem dL_some_103 : decode cL_some 103 = .ok (.aload_n 0, 1) := by decide +kernel
theorem dL_some_104 : decode cL_some 104 = .ok (.getfield 41, 3) := by decide +kernel
theorem dL_some_107 : decode cL_some 107 = .ok (.aload_n 0, 1) := by decide +kernel
theorem dL_some_108 : decode cL_some 108 = .ok (.getfield 41, 3) := by decide +kernel
theorem dL_some_111 : decode cL_some 111 = .ok (.imul, 1) := by decide +kernel
theorem dL_some_112 : decode cL_some 112 = .ok (.if_icmp .ge 78, 3) := by decide +kernel
theorem dL_some_115 : decode cL_some 115 = .ok (.iconst 0, 1) := by decide +kernel
theorem dL_some_116 : decode cL_some 116 = .ok (.istore 7, 2) := by decide +kernel
theorem dL_some_118 : decode cL_some 118 = .ok (.iload 7, 2) := by decide +kernel
theorem dL_some_120 : decode cL_some 120 = .ok (.aload_n 0, 1) := by decide +kernel
theorem dL_some_121 : decode cL_some 121 = .ok (.getfield 41, 3) := by decide +kernel
theorem dL_some_124 : decode cL_some 124 = .ok (.aload_n 0, 1) := by decide +kernel
theorem dL_some_125 : decode cL_some 125 = .ok (.getfield 41, 3) := by decide +kernel
theorem dL_some_128 : decode cL_some 128 = .ok (.imul, 1) := by decide +kernel
theorem dL_some_129 : decode cL_some 129 = .ok (.if_icmp .ge 55, 3) := by decide +kernel
theorem dL_some_132 : decode cL_some 132 = .ok (.aload_n 1, 1) := by decide +kernel
theorem dL_some_133 : decode cL_some 133 = .ok (.getfield 49, 3) := by decide +kernel
theorem dL_some_136 : decode cL_some 136 = .ok (.iload 6, 2) := by decide +kernel
theorem dL_some_138 : decode cL_some 138 = .ok (.iaload, 1) := by decide +kernel
theorem dL_some_139 : decode cL_some 139 = .ok (.iload_n 2, 1) := by decide +kernel
theorem dL_some_140 : decode cL_some 140 = .ok (.if_icmp .ne 44, 3) := by decide +kernel
theorem dL_some_143 : decode cL_some 143 = .ok (.aload_n 1, 1) := by decide +kernel
theorem dL_some_144 : decode cL_some 144 = .ok (.aload_n 0, 1) := by decide +kernel
theorem dL_some_145 : decode cL_some 145 = .ok (.getfield 41, 3) := by decide +kernel
theorem dL_some_148 : decode cL_some 148 = .ok (.iload 6, 2) := by decide +kernel
theorem dL_some_150 : decode cL_some 150 = .ok (.iload 7, 2) := by decide +kernel
theorem dL_some_152 : decode cL_some 152 = .ok (.invokevirtual 246, 3) := by decide +kernel
theorem dL_some_155 : decode cL_some 155 = .ok (.ifCond .ne 6, 3) := by decide +kernel
theorem dL_some_158 : decode cL_some 158 = .ok (.goto 20, 3) := by decide +kernel
theorem dL_some_161 : decode cL_some 161 = .ok (.iload 5, 2) := by decide +kernel
theorem dL_some_163 : decode cL_some 163 = .ok (.ifCond .ne 12, 3) := by decide +kernel
theorem dL_some_166 : decode cL_some 166 = .ok (.bipush 64, 2) := by decide +kernel
theorem dL_some_168 : decode cL_some 168 = .ok (.iload 6, 2) := by decide +kernel
theorem dL_some_170 : decode cL_some 170 = .ok (.imul, 1) := by decide +kernel
theorem dL_some_171 : decode cL_some 171 = .ok (.iload 7, 2) := by decide +kernel
theorem dL_some_173 : decode cL_some 173 = .ok (.iadd, 1) := by decide +kernel
theorem dL_some_174 : decode cL_some 174 = .ok (.ireturn, 1) := by decide +kernel
theorem dL_some_175 : decode cL_some 175 = .ok (.iinc 5 (-1), 3) := by decide +kernel
theorem dL_some_178 : decode cL_some 178 = .ok (.iinc 7 1, 3) := by decide +kernel
theorem dL_some_181 : decode cL_some 181 = .ok (.goto (-63), 3) := by decide +kernel
theorem dL_some_184 : decode cL_some 184 = .ok (.iinc 6 1, 3) := by decide +kernel
theorem dL_some_187 : decode cL_some 187 = .ok (.goto (-86), 3) := by decide +kernel
theorem dL_some_190 : decode cL_some 190 = .ok (.iconst (-1), 1) := by decide +kernel
theorem dL_some_191 : decode cL_some 191 = .ok (.ireturn, 1) := by decide +kernel
theorem dL_moves_0 : decode cL_moves 0 = .ok (.aload_n 1, 1) := by decide +kernel
theorem dL_moves_1 : decode cL_moves 1 = .ok (.iload_n 2, 1) := by decide +kernel
theorem dL_moves_2 : decode cL_moves 2 = .ok (.invokevirtual 83, 3) := by decide +kernel
theorem dL_moves_5 : decode cL_moves 5 = .ok (.ifCond .eq 12, 3) := by decide +kernel
theorem dL_moves_8 : decode cL_moves 8 = .ok (.aload_n 1, 1) := by decide +kernel
theorem dL_moves_9 : decode cL_moves 9 = .ok (.getfield 169, 3) := by decide +kernel
theorem dL_moves_12 : decode cL_moves 12 = .ok (.bipush 80, 2) := by decide +kernel
theorem dL_moves_14 : decode cL_moves 14 = .ok (.if_icmp .ne 8, 3) := by decide +kernel
theorem dL_moves_17 : decode cL_moves 17 = .ok (.aload_n 1, 1) := by decide +kernel
theorem dL_moves_18 : decode cL_moves 18 = .ok (.invokevirtual 280, 3) := by decide +kernel
theorem dL_moves_21 : decode cL_moves 21 = .ok (.ireturn, 1) := by decide +kernel
theorem dL_moves_22 : decode cL_moves 22 = .ok (.aload_n 1, 1) := by decide +kernel
theorem dL_moves_23 : decode cL_moves 23 = .ok (.aload_n 1, 1) := by decide +kernel
theorem dL_moves_24 : decode cL_moves 24 = .ok (.getfield 35, 3) := by decide +kernel
theorem dL_moves_27 : decode cL_moves 27 = .ok (.iload_n 2, 1) := by decide +kernel
theorem dL_moves_28 : decode cL_moves 28 = .ok (.aaload, 1) := by decide +kernel
theorem dL_moves_29 : decode cL_moves 29 = .ok (.iload_n 2, 1) := by decide +kernel
theorem dL_moves_30 : decode cL_moves 30 = .ok (.iload_n 3, 1) := by decide +kernel
theorem dL_moves_31 : decode cL_moves 31 = .ok (.invokestatic 283, 3) := by decide +kernel
theorem dL_moves_34 : decode cL_moves 34 = .ok (.istore 5, 2) := by decide +kernel
theorem dL_moves_36 : decode cL_moves 36 = .ok (.iload 5, 2) := by decide +kernel
theorem dL_moves_38 : decode cL_moves 38 = .ok (.ifCond .ge 8, 3) := by decide +kernel
theorem dL_moves_41 : decode cL_moves 41 = .ok (.aload_n 1, 1) := by decide +kernel
theorem dL_moves_42 : decode cL_moves 42 = .ok (.invokevirtual 280, 3) := by decide +kernel
theorem dL_moves_45 : decode cL_moves 45 = .ok (.ireturn, 1) := by decide +kernel
theorem dL_moves_46 : decode cL_moves 46 = .ok (.aload_n 1, 1) := by decide +kernel
theorem dL_moves_47 : decode cL_moves 47 = .ok (.getfield 35, 3) := by decide +kernel
theorem dL_moves_50 : decode cL_moves 50 = .ok (.iload_n 2, 1) := by decide +kernel
theorem dL_moves_51 : decode cL_moves 51 = .ok (.aaload, 1) := by decide +kernel
theorem dL_moves_52 : decode cL_moves 52 = .ok (.getfield 61, 3) := by decide +kernel
theorem dL_moves_55 : decode cL_moves 55 = .ok (.iconst 1, 1) := by decide +kernel
theorem dL_moves_56 : decode cL_moves 56 = .ok (.iadd, 1) := by decide +kernel
theorem dL_moves_57 : decode cL_moves 57 = .ok (.istore 6, 2) := by decide +kernel
theorem dL_moves_59 : decode cL_moves 59 = .ok (.aload_n 1, 1) := by decide +kernel
theorem dL_moves_60 : decode cL_moves 60 = .ok (.iload_n 2, 1) := by decide +kernel
theorem dL_moves_61 : decode cL_moves 61 = .ok (.iload 5, 2) := by decide +kernel
theorem dL_moves_63 : decode cL_moves 63 = .ok (.bipush 64, 2) := by decide +kernel
theorem dL_moves_65 : decode cL_moves 65 = .ok (.idiv, 1) := by decide +kernel
theorem dL_moves_66 : decode cL_moves 66 = .ok (.iload 5, 2) := by decide +kernel
theorem dL_moves_68 : decode cL_moves 68 = .ok (.bipush 64, 2) := by decide +kernel
theorem dL_moves_70 : decode cL_moves 70 = .ok (.irem, 1) := by decide +kernel
theorem dL_moves_71 : decode cL_moves 71 = .ok (.invokevirtual 287, 3) := by decide +kernel
theorem dL_moves_74 : decode cL_moves 74 = .ok (.aload_n 1, 1) := by decide +kernel
theorem dL_moves_75 : decode cL_moves 75 = .ok (.iload_n 2, 1) := by decide +kernel
theorem dL_moves_76 : decode cL_moves 76 = .ok (.iload 4, 2) := by decide +kernel
theorem dL_moves_78 : decode cL_moves 78 = .ok (.iconst 0, 1) := by decide +kernel
theorem dL_moves_79 : decode cL_moves 79 = .ok (.iload 6, 2) := by decide +kernel
theorem dL_moves_81 : decode cL_moves 81 = .ok (.iload 5, 2) := by decide +kernel
theorem dL_moves_83 : decode cL_moves 83 = .ok (.bipush 64, 2) := by decide +kernel
theorem dL_moves_85 : decode cL_moves 85 = .ok (.idiv, 1) := by decide +kernel
theorem dL_moves_86 : decode cL_moves 86 = .ok (.iload 5, 2) := by decide +kernel
theorem dL_moves_88 : decode cL_moves 88 = .ok (.bipush 64, 2) := by decide +kernel
theorem dL_moves_90 : decode cL_moves 90 = .ok (.irem, 1) := by decide +kernel
theorem dL_moves_91 : decode cL_moves 91 = .ok (.invokevirtual 291, 3) := by decide +kernel
theorem dL_moves_94 : decode cL_moves 94 = .ok (.istore 7, 2) := by decide +kernel
theorem dL_moves_96 : decode cL_moves 96 = .ok (.aload_n 1, 1) := by decide +kernel
theorem dL_moves_97 : decode cL_moves 97 = .ok (.iload_n 2, 1) := by decide +kernel
theorem dL_moves_98 : decode cL_moves 98 = .ok (.invokevirtual 295, 3) := by decide +kernel
theorem dL_moves_101 : decode cL_moves 101 = .ok (.aload_n 0, 1) := by decide +kernel
theorem dL_moves_102 : decode cL_moves 102 = .ok (.iload_n 2, 1) := by decide +kernel
theorem dL_moves_103 : decode cL_moves 103 = .ok (.iload 5, 2) := by decide +kernel
theorem dL_moves_105 : decode cL_moves 105 = .ok (.bipush 64, 2) := by decide +kernel
theorem dL_moves_107 : decode cL_moves 107 = .ok (.idiv, 1) := by decide +kernel
theorem dL_moves_108 : decode cL_moves 108 = .ok (.iload 5, 2) := by decide +kernel
theorem dL_moves_110 : decode cL_moves 110 = .ok (.bipush 64, 2) := by decide +kernel
theorem dL_moves_112 : decode cL_moves 112 = .ok (.irem, 1) := by decide +kernel
theorem dL_moves_113 : decode cL_moves 113 = .ok (.iload 4, 2) := by decide +kernel
theorem dL_moves_115 : decode cL_moves 115 = .ok (.invokevirtual 299, 3) := by decide +kernel
theorem dL_moves_118 : decode cL_moves 118 = .ok (.iload 6, 2) := by decide +kernel
theorem dL_moves_120 : decode cL_moves 120 = .ok (.if_icmp .ne 7, 3) := by decide +kernel
theorem dL_moves_123 : decode cL_moves 123 = .ok (.iconst 1, 1) := by decide +kernel
theorem dL_moves_124 : decode cL_moves 124 = .ok (.goto 4, 3) := by decide +kernel
theorem dL_moves_127 : decode cL_moves 127 = .ok (.iconst 0, 1) := by decide +kernel
theorem dL_moves_128 : decode cL_moves 128 = .ok (.ireturn, 1) := by decide +kernel
theorem dL_promises_0 : decode cL_promises 0 = .ok (.aload_n 1, 1) := by decide +kernel
theorem dL_promises_1 : decode cL_promises 1 = .ok (.getfield 35, 3) := by decide +kernel
theorem dL_promises_4 : decode cL_promises 4 = .ok (.iload_n 2, 1) := by decide +kernel
theorem dL_promises_5 : decode cL_promises 5 = .ok (.aaload, 1) := by decide +kernel
theorem dL_promises_6 : decode cL_promises 6 = .ok (.getfield 61, 3) := by decide +kernel
theorem dL_promises_9 : decode cL_promises 9 = .ok (.iconst 2, 1) := by decide +kernel
theorem dL_promises_10 : decode cL_promises 10 = .ok (.iadd, 1) := by decide +kernel
theorem dL_promises_11 : decode cL_promises 11 = .ok (.istore 6, 2) := by decide +kernel
theorem dL_promises_13 : decode cL_promises 13 = .ok (.aload_n 1, 1) := by decide +kernel
theorem dL_promises_14 : decode cL_promises 14 = .ok (.iload_n 2, 1) := by decide +kernel
theorem dL_promises_15 : decode cL_promises 15 = .ok (.invokevirtual 87, 3) := by decide +kernel
theorem dL_promises_18 : decode cL_promises 18 = .ok (.ifCond .ne 48, 3) := by decide +kernel
theorem dL_promises_21 : decode cL_promises 21 = .ok (.aload_n 1, 1) := by decide +kernel
theorem dL_promises_22 : decode cL_promises 22 = .ok (.iload_n 2, 1) := by decide +kernel
theorem dL_promises_23 : decode cL_promises 23 = .ok (.invokevirtual 83, 3) := by decide +kernel
theorem dL_promises_26 : decode cL_promises 26 = .ok (.ifCond .ne 40, 3) := by decide +kernel
theorem dL_promises_29 : decode cL_promises 29 = .ok (.aload_n 1, 1) := by decide +kernel
theorem dL_promises_30 : decode cL_promises 30 = .ok (.getfield 169, 3) := by decide +kernel
theorem dL_promises_33 : decode cL_promises 33 = .ok (.bipush 80, 2) := by decide +kernel
theorem dL_promises_35 : decode cL_promises 35 = .ok (.if_icmp .eq 31, 3) := by decide +kernel
theorem dL_promises_38 : decode cL_promises 38 = .ok (.aload_n 1, 1) := by decide +kernel
theorem dL_promises_39 : decode cL_promises 39 = .ok (.getfield 303, 3) := by decide +kernel
theorem dL_promises_42 : decode cL_promises 42 = .ok (.iload 6, 2) := by decide +kernel
theorem dL_promises_44 : decode cL_promises 44 = .ok (.baload, 1) := by decide +kernel
theorem dL_promises_45 : decode cL_promises 45 = .ok (.ifCond .ne 21, 3) := by decide +kernel
theorem dL_promises_48 : decode cL_promises 48 = .ok (.aload_n 1, 1) := by decide +kernel
theorem dL_promises_49 : decode cL_promises 49 = .ok (.getfield 35, 3) := by decide +kernel
theorem dL_promises_52 : decode cL_promises 52 = .ok (.iload_n 2, 1) := by decide +kernel
theorem dL_promises_53 : decode cL_promises 53 = .ok (.aaload, 1) := by decide +kernel
theorem dL_promises_54 : decode cL_promises 54 = .ok (.getfield 61, 3) := by decide +kernel
theorem dL_promises_57 : decode cL_promises 57 = .ok (.iconst 1, 1) := by decide +kernel
theorem dL_promises_58 : decode cL_promises 58 = .ok (.iadd, 1) := by decide +kernel
theorem dL_promises_59 : decode cL_promises 59 = .ok (.aload_n 1, 1) := by decide +kernel
theorem dL_promises_60 : decode cL_promises 60 = .ok (.getfield 55, 3) := by decide +kernel
theorem dL_promises_63 : decode cL_promises 63 = .ok (.if_icmp .ne 8, 3) := by decide +kernel
theorem dL_promises_66 : decode cL_promises 66 = .ok (.aload_n 1, 1) := by decide +kernel
theorem dL_promises_67 : decode cL_promises 67 = .ok (.invokevirtual 280, 3) := by decide +kernel
theorem dL_promises_70 : decode cL_promises 70 = .ok (.ireturn, 1) := by decide +kernel
theorem dL_promises_71 : decode cL_promises 71 = .ok (.aload_n 1, 1) := by decide +kernel
theorem dL_promises_72 : decode cL_promises 72 = .ok (.aload_n 1, 1) := by decide +kernel
theorem dL_promises_73 : decode cL_promises 73 = .ok (.getfield 35, 3) := by decide +kernel
theorem dL_promises_76 : decode cL_promises 76 = .ok (.iload_n 2, 1) := by decide +kernel
theorem dL_promises_77 : decode cL_promises 77 = .ok (.aaload, 1) := by decide +kernel
theorem dL_promises_78 : decode cL_promises 78 = .ok (.iconst 1, 1) := by decide +kernel
theorem dL_promises_79 : decode cL_promises 79 = .ok (.iload_n 2, 1) := by decide +kernel
theorem dL_promises_80 : decode cL_promises 80 = .ok (.isub, 1) := by decide +kernel
theorem dL_promises_81 : decode cL_promises 81 = .ok (.iload_n 3, 1) := by decide +kernel
theorem dL_promises_82 : decode cL_promises 82 = .ok (.invokestatic 283, 3) := by decide +kernel
theorem dL_promises_85 : decode cL_promises 85 = .ok (.istore 7, 2) := by decide +kernel
theorem dL_promises_87 : decode cL_promises 87 = .ok (.iload 7, 2) := by decide +kernel
theorem dL_promises_89 : decode cL_promises 89 = .ok (.ifCond .ge 8, 3) := by decide +kernel
theorem dL_promises_92 : decode cL_promises 92 = .ok (.aload_n 1, 1) := by decide +kernel
theorem dL_promises_93 : decode cL_promises 93 = .ok (.invokevirtual 280, 3) := by decide +kernel
theorem dL_promises_96 : decode cL_promises 96 = .ok (.ireturn, 1) := by decide +kernel
theorem dL_promises_97 : decode cL_promises 97 = .ok (.new 50, 3) := by decide +kernel
theorem dL_promises_100 : decode cL_promises 100 = .ok (.dup, 1) := by decide +kernel
theorem dL_promises_101 : decode cL_promises 101 = .ok (.invokespecial 306, 3) := by decide +kernel
theorem dL_promises_104 : decode cL_promises 104 = .ok (.astore 8, 2) := by decide +kernel
theorem dL_promises_106 : decode cL_promises 106 = .ok (.aload 8, 2) := by decide +kernel
theorem dL_promises_108 : decode cL_promises 108 = .ok (.aload_n 1, 1) := by decide +kernel
theorem dL_promises_109 : decode cL_promises 109 = .ok (.getfield 35, 3) := by decide +kernel
theorem dL_promises_112 : decode cL_promises 112 = .ok (.iload_n 2, 1) := by decide +kernel
theorem dL_promises_113 : decode cL_promises 113 = .ok (.aaload, 1) := by decide +kernel
theorem dL_promises_114 : decode cL_promises 114 = .ok (.invokevirtual 307, 3) := by decide +kernel
theorem dL_promises_117 : decode cL_promises 117 = .ok (.aload 8, 2) := by decide +kernel
theorem dL_promises_119 : decode cL_promises 119 = .ok (.getfield 49, 3) := by decide +kernel
theorem dL_promises_122 : decode cL_promises 122 = .ok (.iload 7, 2) := by decide +kernel
theorem dL_promises_124 : decode cL_promises 124 = .ok (.bipush 64, 2) := by decide +kernel
theorem dL_promises_126 : decode cL_promises 126 = .ok (.irem, 1) := by decide +kernel
theorem dL_promises_127 : decode cL_promises 127 = .ok (.iconst 1, 1) := by decide +kernel
theorem dL_promises_128 : decode cL_promises 128 = .ok (.iload_n 2, 1) := by decide +kernel
theorem dL_promises_129 : decode cL_promises 129 = .ok (.isub, 1) := by decide +kernel
theorem dL_promises_130 : decode cL_promises 130 = .ok (.iastore, 1) := by decide +kernel
theorem dL_promises_131 : decode cL_promises 131 = .ok (.aload 8, 2) := by decide +kernel
theorem dL_promises_133 : decode cL_promises 133 = .ok (.getfield 49, 3) := by decide +kernel
theorem dL_promises_136 : decode cL_promises 136 = .ok (.iload 7, 2) := by decide +kernel
theorem dL_promises_138 : decode cL_promises 138 = .ok (.bipush 64, 2) := by decide +kernel
theorem dL_promises_140 : decode cL_promises 140 = .ok (.idiv, 1) := by decide +kernel
theorem dL_promises_141 : decode cL_promises 141 = .ok (.iconst (-1), 1) := by decide +kernel
theorem dL_promises_142 : decode cL_promises 142 = .ok (.iastore, 1) := by decide +kernel
theorem dL_promises_143 : decode cL_promises 143 = .ok (.aload 8, 2) := by decide +kernel
theorem dL_promises_145 : decode cL_promises 145 = .ok (.iload_n 2, 1) := by decide +kernel
theorem dL_promises_146 : decode cL_promises 146 = .ok (.invokevirtual 76, 3) := by decide +kernel
theorem dL_promises_149 : decode cL_promises 149 = .ok (.ifCond .ne 7, 3) := by decide +kernel
theorem dL_promises_152 : decode cL_promises 152 = .ok (.iconst (-1), 1) := by decide +kernel
theorem dL_promises_153 : decode cL_promises 153 = .ok (.goto 12, 3) := by decide +kernel
theorem dL_promises_156 : decode cL_promises 156 = .ok (.aload_n 1, 1) := by decide +kernel
theorem dL_promises_157 : decode cL_promises 157 = .ok (.aload 8, 2) := by decide +kernel
theorem dL_promises_159 : decode cL_promises 159 = .ok (.iload_n 2, 1) := by decide +kernel
theorem dL_promises_160 : decode cL_promises 160 = .ok (.iload 4, 2) := by decide +kernel
theorem dL_promises_162 : decode cL_promises 162 = .ok (.invokestatic 283, 3) := by decide +kernel
theorem dL_promises_165 : decode cL_promises 165 = .ok (.istore 9, 2) := by decide +kernel
theorem dL_promises_167 : decode cL_promises 167 = .ok (.iload 9, 2) := by decide +kernel
theorem dL_promises_169 : decode cL_promises 169 = .ok (.ifCond .ge 8, 3) := by decide +kernel
theorem dL_promises_172 : decode cL_promises 172 = .ok (.aload_n 1, 1) := by decide +kernel
theorem dL_promises_173 : decode cL_promises 173 = .ok (.invokevirtual 280, 3) := by decide +kernel
theorem dL_promises_176 : decode cL_promises 176 = .ok (.ireturn, 1) := by decide +kernel
theorem dL_promises_177 : decode cL_promises 177 = .ok (.aload_n 1, 1) := by decide +kernel
theorem dL_promises_178 : decode cL_promises 178 = .ok (.getfield 303, 3) := by decide +kernel
theorem dL_promises_181 : decode cL_promises 181 = .ok (.iload 6, 2) := by decide +kernel
theorem dL_promises_183 : decode cL_promises 183 = .ok (.iconst 1, 1) := by decide +kernel
theorem dL_promises_184 : decode cL_promises 184 = .ok (.bastore, 1) := by decide +kernel
theorem dL_promises_185 : decode cL_promises 185 = .ok (.aload_n 1, 1) := by decide +kernel
theorem dL_promises_186 : decode cL_promises 186 = .ok (.getfield 311, 3) := by decide +kernel
theorem dL_promises_189 : decode cL_promises 189 = .ok (.iload 6, 2) := by decide +kernel
theorem dL_promises_191 : decode cL_promises 191 = .ok (.iload 7, 2) := by decide +kernel
theorem dL_promises_193 : decode cL_promises 193 = .ok (.bipush 64, 2) := by decide +kernel
theorem dL_promises_195 : decode cL_promises 195 = .ok (.idiv, 1) := by decide +kernel
theorem dL_promises_196 : decode cL_promises 196 = .ok (.iastore, 1) := by decide +kernel
theorem dL_promises_197 : decode cL_promises 197 = .ok (.aload_n 1, 1) := by decide +kernel
theorem dL_promises_198 : decode cL_promises 198 = .ok (.getfield 314, 3) := by decide +kernel
theorem dL_promises_201 : decode cL_promises 201 = .ok (.iload 6, 2) := by decide +kernel
theorem dL_promises_203 : decode cL_promises 203 = .ok (.iload 7, 2) := by decide +kernel
theorem dL_promises_205 : decode cL_promises 205 = .ok (.bipush 64, 2) := by decide +kernel
theorem dL_promises_207 : decode cL_promises 207 = .ok (.irem, 1) := by decide +kernel
theorem dL_promises_208 : decode cL_promises 208 = .ok (.iastore, 1) := by decide +kernel
theorem dL_promises_209 : decode cL_promises 209 = .ok (.aload_n 1, 1) := by decide +kernel
theorem dL_promises_210 : decode cL_promises 210 = .ok (.getfield 317, 3) := by decide +kernel
theorem dL_promises_213 : decode cL_promises 213 = .ok (.iload 6, 2) := by decide +kernel
theorem dL_promises_215 : decode cL_promises 215 = .ok (.iload 9, 2) := by decide +kernel
theorem dL_promises_217 : decode cL_promises 217 = .ok (.bipush 64, 2) := by decide +kernel
theorem dL_promises_219 : decode cL_promises 219 = .ok (.idiv, 1) := by decide +kernel
theorem dL_promises_220 : decode cL_promises 220 = .ok (.iastore, 1) := by decide +kernel
theorem dL_promises_221 : decode cL_promises 221 = .ok (.aload_n 1, 1) := by decide +kernel
theorem dL_promises_222 : decode cL_promises 222 = .ok (.getfield 320, 3) := by decide +kernel
theorem dL_promises_225 : decode cL_promises 225 = .ok (.iload 6, 2) := by decide +kernel
theorem dL_promises_227 : decode cL_promises 227 = .ok (.iload 9, 2) := by decide +kernel
theorem dL_promises_229 : decode cL_promises 229 = .ok (.bipush 64, 2) := by decide +kernel
theorem dL_promises_231 : decode cL_promises 231 = .ok (.irem, 1) := by decide +kernel
theorem dL_promises_232 : decode cL_promises 232 = .ok (.iastore, 1) := by decide +kernel
theorem dL_promises_233 : decode cL_promises 233 = .ok (.aload_n 1, 1) := by decide +kernel
theorem dL_promises_234 : decode cL_promises 234 = .ok (.iload_n 2, 1) := by decide +kernel
theorem dL_promises_235 : decode cL_promises 235 = .ok (.iload 5, 2) := by decide +kernel
theorem dL_promises_237 : decode cL_promises 237 = .ok (.iconst 1, 1) := by decide +kernel
theorem dL_promises_238 : decode cL_promises 238 = .ok (.iload 6, 2) := by decide +kernel
theorem dL_promises_240 : decode cL_promises 240 = .ok (.iload 9, 2) := by decide +kernel
theorem dL_promises_242 : decode cL_promises 242 = .ok (.bipush 64, 2) := by decide +kernel
theorem dL_promises_244 : decode cL_promises 244 = .ok (.idiv, 1) := by decide +kernel
theorem dL_promises_245 : decode cL_promises 245 = .ok (.iload 9, 2) := by decide +kernel
theorem dL_promises_247 : decode cL_promises 247 = .ok (.bipush 64, 2) := by decide +kernel
theorem dL_promises_249 : decode cL_promises 249 = .ok (.irem, 1) := by decide +kernel
theorem dL_promises_250 : decode cL_promises 250 = .ok (.invokevirtual 291, 3) := by decide +kernel
theorem dL_promises_253 : decode cL_promises 253 = .ok (.istore 10, 2) := by decide +kernel
theorem dL_promises_255 : decode cL_promises 255 = .ok (.aload_n 0, 1) := by decide +kernel
theorem dL_promises_256 : decode cL_promises 256 = .ok (.iload_n 2, 1) := by decide +kernel
theorem dL_promises_257 : decode cL_promises 257 = .ok (.iload 5, 2) := by decide +kernel
theorem dL_promises_259 : decode cL_promises 259 = .ok (.iload 7, 2) := by decide +kernel
theorem dL_promises_261 : decode cL_promises 261 = .ok (.bipush 64, 2) := by decide +kernel
theorem dL_promises_263 : decode cL_promises 263 = .ok (.idiv, 1) := by decide +kernel
theorem dL_promises_264 : decode cL_promises 264 = .ok (.iload 7, 2) := by decide +kernel
theorem dL_promises_266 : decode cL_promises 266 = .ok (.bipush 64, 2) := by decide +kernel
theorem dL_promises_268 : decode cL_promises 268 = .ok (.irem, 1) := by decide +kernel
theorem dL_promises_269 : decode cL_promises 269 = .ok (.iload 9, 2) := by decide +kernel
theorem dL_promises_271 : decode cL_promises 271 = .ok (.bipush 64, 2) := by decide +kernel
theorem dL_promises_273 : decode cL_promises 273 = .ok (.idiv, 1) := by decide +kernel
theorem dL_promises_274 : decode cL_promises 274 = .ok (.iload 9, 2) := by decide +kernel
theorem dL_promises_276 : decode cL_promises 276 = .ok (.bipush 64, 2) := by decide +kernel
theorem dL_promises_278 : decode cL_promises 278 = .ok (.irem, 1) := by decide +kernel
theorem dL_promises_279 : decode cL_promises 279 = .ok (.invokevirtual 323, 3) := by decide +kernel
theorem dL_promises_282 : decode cL_promises 282 = .ok (.iload 6, 2) := by decide +kernel
theorem dL_promises_284 : decode cL_promises 284 = .ok (.if_icmp .ne 7, 3) := by decide +kernel
theorem dL_promises_287 : decode cL_promises 287 = .ok (.iconst 1, 1) := by decide +kernel
theorem dL_promises_288 : decode cL_promises 288 = .ok (.goto 4, 3) := by decide +kernel
theorem dL_promises_291 : decode cL_promises 291 = .ok (.iconst 0, 1) := by decide +kernel
theorem dL_promises_292 : decode cL_promises 292 = .ok (.ireturn, 1) := by decide +kernel
theorem dL_acts_0 : decode cL_acts 0 = .ok (.aload_n 2, 1) := by decide +kernel
theorem dL_acts_1 : decode cL_acts 1 = .ok (.iload_n 3, 1) := by decide +kernel
theorem dL_acts_2 : decode cL_acts 2 = .ok (.bipush 16, 2) := by decide +kernel
theorem dL_acts_4 : decode cL_acts 4 = .ok (.invokestatic 327, 3) := by decide +kernel
theorem dL_acts_7 : decode cL_acts 7 = .ok (.istore 4, 2) := by decide +kernel
theorem dL_acts_9 : decode cL_acts 9 = .ok (.aload_n 2, 1) := by decide +kernel
theorem dL_acts_10 : decode cL_acts 10 = .ok (.iload_n 3, 1) := by decide +kernel
theorem dL_acts_11 : decode cL_acts 11 = .ok (.iconst 1, 1) := by decide +kernel
theorem dL_acts_12 : decode cL_acts 12 = .ok (.iadd, 1) := by decide +kernel
theorem dL_acts_13 : decode cL_acts 13 = .ok (.sipush 10000, 3) := by decide +kernel
theorem dL_acts_16 : decode cL_acts 16 = .ok (.invokestatic 327, 3) := by decide +kernel
theorem dL_acts_19 : decode cL_acts 19 = .ok (.istore 5, 2) := by decide +kernel
theorem dL_acts_21 : decode cL_acts 21 = .ok (.aload_n 2, 1) := by decide +kernel
theorem dL_acts_22 : decode cL_acts 22 = .ok (.iload_n 3, 1) := by decide +kernel
theorem dL_acts_23 : decode cL_acts 23 = .ok (.iconst 2, 1) := by decide +kernel
theorem dL_acts_24 : decode cL_acts 24 = .ok (.iadd, 1) := by decide +kernel
theorem dL_acts_25 : decode cL_acts 25 = .ok (.aload_n 1, 1) := by decide +kernel
theorem dL_acts_26 : decode cL_acts 26 = .ok (.getfield 139, 3) := by decide +kernel
theorem dL_acts_29 : decode cL_acts 29 = .ok (.invokestatic 327, 3) := by decide +kernel
theorem dL_acts_32 : decode cL_acts 32 = .ok (.istore 6, 2) := by decide +kernel
theorem dL_acts_34 : decode cL_acts 34 = .ok (.aload_n 1, 1) := by decide +kernel
theorem dL_acts_35 : decode cL_acts 35 = .ok (.iconst 0, 1) := by decide +kernel
theorem dL_acts_36 : decode cL_acts 36 = .ok (.invokevirtual 83, 3) := by decide +kernel
theorem dL_acts_39 : decode cL_acts 39 = .ok (.ifCond .eq 7, 3) := by decide +kernel
theorem dL_acts_42 : decode cL_acts 42 = .ok (.iconst 0, 1) := by decide +kernel
theorem dL_acts_43 : decode cL_acts 43 = .ok (.goto 19, 3) := by decide +kernel
theorem dL_acts_46 : decode cL_acts 46 = .ok (.aload_n 1, 1) := by decide +kernel
theorem dL_acts_47 : decode cL_acts 47 = .ok (.iconst 1, 1) := by decide +kernel
theorem dL_acts_48 : decode cL_acts 48 = .ok (.invokevirtual 83, 3) := by decide +kernel
theorem dL_acts_51 : decode cL_acts 51 = .ok (.ifCond .eq 7, 3) := by decide +kernel
theorem dL_acts_54 : decode cL_acts 54 = .ok (.iconst 1, 1) := by decide +kernel
theorem dL_acts_55 : decode cL_acts 55 = .ok (.goto 7, 3) := by decide +kernel
theorem dL_acts_58 : decode cL_acts 58 = .ok (.iload 5, 2) := by decide +kernel
theorem dL_acts_60 : decode cL_acts 60 = .ok (.iconst 2, 1) := by decide +kernel
theorem dL_acts_61 : decode cL_acts 61 = .ok (.irem, 1) := by decide +kernel
theorem dL_acts_62 : decode cL_acts 62 = .ok (.istore 7, 2) := by decide +kernel
theorem dL_acts_64 : decode cL_acts 64 = .ok (.iload 4, 2) := by decide +kernel
theorem dL_acts_66 : decode cL_acts 66 = .ok (.bipush 6, 2) := by decide +kernel
theorem dL_acts_68 : decode cL_acts 68 = .ok (.if_icmp .ge 28, 3) := by decide +kernel
theorem dL_acts_71 : decode cL_acts 71 = .ok (.aload_n 0, 1) := by decide +kernel
theorem dL_acts_72 : decode cL_acts 72 = .ok (.aload_n 1, 1) := by decide +kernel
theorem dL_acts_73 : decode cL_acts 73 = .ok (.iload 4, 2) := by decide +kernel
theorem dL_acts_75 : decode cL_acts 75 = .ok (.iconst 5, 1) := by decide +kernel
theorem dL_acts_76 : decode cL_acts 76 = .ok (.if_icmp .ne 10, 3) := by decide +kernel
theorem dL_acts_79 : decode cL_acts 79 = .ok (.iconst 1, 1) := by decide +kernel
theorem dL_acts_80 : decode cL_acts 80 = .ok (.iload 7, 2) := by decide +kernel
theorem dL_acts_82 : decode cL_acts 82 = .ok (.isub, 1) := by decide +kernel
theorem dL_acts_83 : decode cL_acts 83 = .ok (.goto 5, 3) := by decide +kernel
theorem dL_acts_86 : decode cL_acts 86 = .ok (.iload 7, 2) := by decide +kernel
theorem dL_acts_88 : decode cL_acts 88 = .ok (.iload 5, 2) := by decide +kernel
theorem dL_acts_90 : decode cL_acts 90 = .ok (.iload 6, 2) := by decide +kernel
theorem dL_acts_92 : decode cL_acts 92 = .ok (.invokestatic 331, 3) := by decide +kernel
theorem dL_acts_95 : decode cL_acts 95 = .ok (.ireturn, 1) := by decide +kernel
theorem dL_acts_96 : decode cL_acts 96 = .ok (.iload 4, 2) := by decide +kernel
theorem dL_acts_98 : decode cL_acts 98 = .ok (.bipush 9, 2) := by decide +kernel
theorem dL_acts_100 : decode cL_acts 100 = .ok (.if_icmp .ge 39, 3) := by decide +kernel
theorem dL_acts_103 : decode cL_acts 103 = .ok (.aload_n 0, 1) := by decide +kernel
theorem dL_acts_104 : decode cL_acts 104 = .ok (.aload_n 1, 1) := by decide +kernel
theorem dL_acts_105 : decode cL_acts 105 = .ok (.iload 4, 2) := by decide +kernel
theorem dL_acts_107 : decode cL_acts 107 = .ok (.bipush 8, 2) := by decide +kernel
theorem dL_acts_109 : decode cL_acts 109 = .ok (.if_icmp .ne 8, 3) := by decide +kernel
theorem dL_acts_112 : decode cL_acts 112 = .ok (.iload 7, 2) := by decide +kernel
theorem dL_acts_114 : decode cL_acts 114 = .ok (.goto 7, 3) := by decide +kernel
theorem dL_acts_117 : decode cL_acts 117 = .ok (.iconst 1, 1) := by decide +kernel
theorem dL_acts_118 : decode cL_acts 118 = .ok (.iload 7, 2) := by decide +kernel
theorem dL_acts_120 : decode cL_acts 120 = .ok (.isub, 1) := by decide +kernel
theorem dL_acts_121 : decode cL_acts 121 = .ok (.iload 5, 2) := by decide +kernel
theorem dL_acts_123 : decode cL_acts 123 = .ok (.aload_n 2, 1) := by decide +kernel
theorem dL_acts_124 : decode cL_acts 124 = .ok (.iload_n 3, 1) := by decide +kernel
theorem dL_acts_125 : decode cL_acts 125 = .ok (.iconst 3, 1) := by decide +kernel
theorem dL_acts_126 : decode cL_acts 126 = .ok (.iadd, 1) := by decide +kernel
theorem dL_acts_127 : decode cL_acts 127 = .ok (.sipush 1000, 3) := by decide +kernel
theorem dL_acts_130 : decode cL_acts 130 = .ok (.invokestatic 327, 3) := by decide +kernel
theorem dL_acts_133 : decode cL_acts 133 = .ok (.iload 6, 2) := by decide +kernel
theorem dL_acts_135 : decode cL_acts 135 = .ok (.invokestatic 335, 3) := by decide +kernel
theorem dL_acts_138 : decode cL_acts 138 = .ok (.ireturn, 1) := by decide +kernel
theorem dL_acts_139 : decode cL_acts 139 = .ok (.iload 4, 2) := by decide +kernel
theorem dL_acts_141 : decode cL_acts 141 = .ok (.bipush 9, 2) := by decide +kernel
theorem dL_acts_143 : decode cL_acts 143 = .ok (.if_icmp .ne 90, 3) := by decide +kernel
theorem dL_acts_146 : decode cL_acts 146 = .ok (.aload_n 1, 1) := by decide +kernel
theorem dL_acts_147 : decode cL_acts 147 = .ok (.getfield 169, 3) := by decide +kernel
theorem dL_acts_150 : decode cL_acts 150 = .ok (.ifCond .le 83, 3) := by decide +kernel
theorem dL_acts_153 : decode cL_acts 153 = .ok (.aload_n 1, 1) := by decide +kernel
theorem dL_acts_154 : decode cL_acts 154 = .ok (.getfield 169, 3) := by decide +kernel
theorem dL_acts_157 : decode cL_acts 157 = .ok (.bipush 80, 2) := by decide +kernel
theorem dL_acts_159 : decode cL_acts 159 = .ok (.if_icmp .ge 74, 3) := by decide +kernel
theorem dL_acts_162 : decode cL_acts 162 = .ok (.iload 5, 2) := by decide +kernel
theorem dL_acts_164 : decode cL_acts 164 = .ok (.aload_n 1, 1) := by decide +kernel
theorem dL_acts_165 : decode cL_acts 165 = .ok (.getfield 169, 3) := by decide +kernel
theorem dL_acts_168 : decode cL_acts 168 = .ok (.irem, 1) := by decide +kernel
theorem dL_acts_169 : decode cL_acts 169 = .ok (.istore 8, 2) := by decide +kernel
theorem dL_acts_171 : decode cL_acts 171 = .ok (.aload_n 1, 1) := by decide +kernel
theorem dL_acts_172 : decode cL_acts 172 = .ok (.aload_n 1, 1) := by decide +kernel
theorem dL_acts_173 : decode cL_acts 173 = .ok (.getfield 175, 3) := by decide +kernel
theorem dL_acts_176 : decode cL_acts 176 = .ok (.iload 8, 2) := by decide +kernel
theorem dL_acts_178 : decode cL_acts 178 = .ok (.iaload, 1) := by decide +kernel
theorem dL_acts_179 : decode cL_acts 179 = .ok (.iload 6, 2) := by decide +kernel
theorem dL_acts_181 : decode cL_acts 181 = .ok (.aload_n 1, 1) := by decide +kernel
theorem dL_acts_182 : decode cL_acts 182 = .ok (.getfield 187, 3) := by decide +kernel
theorem dL_acts_185 : decode cL_acts 185 = .ok (.iload 8, 2) := by decide +kernel
theorem dL_acts_187 : decode cL_acts 187 = .ok (.baload, 1) := by decide +kernel
theorem dL_acts_188 : decode cL_acts 188 = .ok (.aload_n 1, 1) := by decide +kernel
theorem dL_acts_189 : decode cL_acts 189 = .ok (.getfield 181, 3) := by decide +kernel
theorem dL_acts_192 : decode cL_acts 192 = .ok (.iload 8, 2) := by decide +kernel
theorem dL_acts_194 : decode cL_acts 194 = .ok (.iaload, 1) := by decide +kernel
theorem dL_acts_195 : decode cL_acts 195 = .ok (.aload_n 1, 1) := by decide +kernel
theorem dL_acts_196 : decode cL_acts 196 = .ok (.getfield 339, 3) := by decide +kernel
theorem dL_acts_199 : decode cL_acts 199 = .ok (.iload 8, 2) := by decide +kernel
theorem dL_acts_201 : decode cL_acts 201 = .ok (.iaload, 1) := by decide +kernel
theorem dL_acts_202 : decode cL_acts 202 = .ok (.aload_n 1, 1) := by decide +kernel
theorem dL_acts_203 : decode cL_acts 203 = .ok (.getfield 340, 3) := by decide +kernel
theorem dL_acts_206 : decode cL_acts 206 = .ok (.iload 8, 2) := by decide +kernel
theorem dL_acts_208 : decode cL_acts 208 = .ok (.iaload, 1) := by decide +kernel
theorem dL_acts_209 : decode cL_acts 209 = .ok (.invokevirtual 291, 3) := by decide +kernel
theorem dL_acts_212 : decode cL_acts 212 = .ok (.istore 9, 2) := by decide +kernel
theorem dL_acts_214 : decode cL_acts 214 = .ok (.aload_n 0, 1) := by decide +kernel
theorem dL_acts_215 : decode cL_acts 215 = .ok (.iload 8, 2) := by decide +kernel
theorem dL_acts_217 : decode cL_acts 217 = .ok (.iload 6, 2) := by decide +kernel
theorem dL_acts_219 : decode cL_acts 219 = .ok (.invokevirtual 341, 3) := by decide +kernel
theorem dL_acts_222 : decode cL_acts 222 = .ok (.iload 9, 2) := by decide +kernel
theorem dL_acts_224 : decode cL_acts 224 = .ok (.if_icmp .ne 7, 3) := by decide +kernel
theorem dL_acts_227 : decode cL_acts 227 = .ok (.iconst 1, 1) := by decide +kernel
theorem dL_acts_228 : decode cL_acts 228 = .ok (.goto 4, 3) := by decide +kernel
theorem dL_acts_231 : decode cL_acts 231 = .ok (.iconst 0, 1) := by decide +kernel
theorem dL_acts_232 : decode cL_acts 232 = .ok (.ireturn, 1) := by decide +kernel
theorem dL_acts_233 : decode cL_acts 233 = .ok (.iload 4, 2) := by decide +kernel
theorem dL_acts_235 : decode cL_acts 235 = .ok (.bipush 10, 2) := by decide +kernel
theorem dL_acts_237 : decode cL_acts 237 = .ok (.if_icmp .ne 86, 3) := by decide +kernel
theorem dL_acts_240 : decode cL_acts 240 = .ok (.iload 5, 2) := by decide +kernel
theorem dL_acts_242 : decode cL_acts 242 = .ok (.iconst 2, 1) := by decide +kernel
theorem dL_acts_243 : decode cL_acts 243 = .ok (.irem, 1) := by decide +kernel
theorem dL_acts_244 : decode cL_acts 244 = .ok (.istore 8, 2) := by decide +kernel
theorem dL_acts_246 : decode cL_acts 246 = .ok (.aload_n 1, 1) := by decide +kernel
theorem dL_acts_247 : decode cL_acts 247 = .ok (.getfield 160, 3) := by decide +kernel
theorem dL_acts_250 : decode cL_acts 250 = .ok (.iconst 2, 1) := by decide +kernel
theorem dL_acts_251 : decode cL_acts 251 = .ok (.iload 6, 2) := by decide +kernel
theorem dL_acts_253 : decode cL_acts 253 = .ok (.imul, 1) := by decide +kernel
theorem dL_acts_254 : decode cL_acts 254 = .ok (.iload 8, 2) := by decide +kernel
theorem dL_acts_256 : decode cL_acts 256 = .ok (.iadd, 1) := by decide +kernel
theorem dL_acts_257 : decode cL_acts 257 = .ok (.iaload, 1) := by decide +kernel
theorem dL_acts_258 : decode cL_acts 258 = .ok (.bipush 8, 2) := by decide +kernel
theorem dL_acts_260 : decode cL_acts 260 = .ok (.if_icmp .le 8, 3) := by decide +kernel
theorem dL_acts_263 : decode cL_acts 263 = .ok (.aload_n 1, 1) := by decide +kernel
theorem dL_acts_264 : decode cL_acts 264 = .ok (.invokevirtual 280, 3) := by decide +kernel
theorem dL_acts_267 : decode cL_acts 267 = .ok (.ireturn, 1) := by decide +kernel
theorem dL_acts_268 : decode cL_acts 268 = .ok (.aload_n 1, 1) := by decide +kernel
theorem dL_acts_269 : decode cL_acts 269 = .ok (.getfield 160, 3) := by decide +kernel
theorem dL_acts_272 : decode cL_acts 272 = .ok (.iconst 2, 1) := by decide +kernel
theorem dL_acts_273 : decode cL_acts 273 = .ok (.iload 6, 2) := by decide +kernel
theorem dL_acts_275 : decode cL_acts 275 = .ok (.imul, 1) := by decide +kernel
theorem dL_acts_276 : decode cL_acts 276 = .ok (.iload 8, 2) := by decide +kernel
theorem dL_acts_278 : decode cL_acts 278 = .ok (.iadd, 1) := by decide +kernel
theorem dL_acts_279 : decode cL_acts 279 = .ok (.dup2, 1) := by decide +kernel
theorem dL_acts_280 : decode cL_acts 280 = .ok (.iaload, 1) := by decide +kernel
theorem dL_acts_281 : decode cL_acts 281 = .ok (.iconst 1, 1) := by decide +kernel
theorem dL_acts_282 : decode cL_acts 282 = .ok (.iadd, 1) := by decide +kernel
theorem dL_acts_283 : decode cL_acts 283 = .ok (.iastore, 1) := by decide +kernel
theorem dL_acts_284 : decode cL_acts 284 = .ok (.aload_n 1, 1) := by decide +kernel
theorem dL_acts_285 : decode cL_acts 285 = .ok (.dup, 1) := by decide +kernel
theorem dL_acts_286 : decode cL_acts 286 = .ok (.getfield 344, 3) := by decide +kernel
theorem dL_acts_289 : decode cL_acts 289 = .ok (.iconst 1, 1) := by decide +kernel
theorem dL_acts_290 : decode cL_acts 290 = .ok (.iadd, 1) := by decide +kernel
theorem dL_acts_291 : decode cL_acts 291 = .ok (.putfield 344, 3) := by decide +kernel
theorem dL_acts_294 : decode cL_acts 294 = .ok (.aload_n 0, 1) := by decide +kernel
theorem dL_acts_295 : decode cL_acts 295 = .ok (.iload 6, 2) := by decide +kernel
theorem dL_acts_297 : decode cL_acts 297 = .ok (.iload 8, 2) := by decide +kernel
theorem dL_acts_299 : decode cL_acts 299 = .ok (.invokevirtual 346, 3) := by decide +kernel
theorem dL_acts_302 : decode cL_acts 302 = .ok (.aload_n 1, 1) := by decide +kernel
theorem dL_acts_303 : decode cL_acts 303 = .ok (.getfield 160, 3) := by decide +kernel
theorem dL_acts_306 : decode cL_acts 306 = .ok (.iconst 2, 1) := by decide +kernel
theorem dL_acts_307 : decode cL_acts 307 = .ok (.iload 6, 2) := by decide +kernel
theorem dL_acts_309 : decode cL_acts 309 = .ok (.imul, 1) := by decide +kernel
theorem dL_acts_310 : decode cL_acts 310 = .ok (.iload 8, 2) := by decide +kernel
theorem dL_acts_312 : decode cL_acts 312 = .ok (.iadd, 1) := by decide +kernel
theorem dL_acts_313 : decode cL_acts 313 = .ok (.iaload, 1) := by decide +kernel
theorem dL_acts_314 : decode cL_acts 314 = .ok (.if_icmp .ne 7, 3) := by decide +kernel
theorem dL_acts_317 : decode cL_acts 317 = .ok (.iconst 1, 1) := by decide +kernel
theorem dL_acts_318 : decode cL_acts 318 = .ok (.goto 4, 3) := by decide +kernel
theorem dL_acts_321 : decode cL_acts 321 = .ok (.iconst 0, 1) := by decide +kernel
theorem dL_acts_322 : decode cL_acts 322 = .ok (.ireturn, 1) := by decide +kernel
theorem dL_acts_323 : decode cL_acts 323 = .ok (.iload 4, 2) := by decide +kernel
theorem dL_acts_325 : decode cL_acts 325 = .ok (.bipush 11, 2) := by decide +kernel
theorem dL_acts_327 : decode cL_acts 327 = .ok (.if_icmp .ne 87, 3) := by decide +kernel
theorem dL_acts_330 : decode cL_acts 330 = .ok (.iload 5, 2) := by decide +kernel
theorem dL_acts_332 : decode cL_acts 332 = .ok (.iconst 3, 1) := by decide +kernel
theorem dL_acts_333 : decode cL_acts 333 = .ok (.irem, 1) := by decide +kernel
theorem dL_acts_334 : decode cL_acts 334 = .ok (.ifCond .ne 10, 3) := by decide +kernel
theorem dL_acts_337 : decode cL_acts 337 = .ok (.aload_n 1, 1) := by decide +kernel
theorem dL_acts_338 : decode cL_acts 338 = .ok (.invokevirtual 207, 3) := by decide +kernel
theorem dL_acts_341 : decode cL_acts 341 = .ok (.goto 8, 3) := by decide +kernel
theorem dL_acts_344 : decode cL_acts 344 = .ok (.iload 5, 2) := by decide +kernel
theorem dL_acts_346 : decode cL_acts 346 = .ok (.bipush 12, 2) := by decide +kernel
theorem dL_acts_348 : decode cL_acts 348 = .ok (.irem, 1) := by decide +kernel
theorem dL_acts_349 : decode cL_acts 349 = .ok (.istore 8, 2) := by decide +kernel
theorem dL_acts_351 : decode cL_acts 351 = .ok (.aload_n 1, 1) := by decide +kernel
theorem dL_acts_352 : decode cL_acts 352 = .ok (.getfield 145, 3) := by decide +kernel
theorem dL_acts_355 : decode cL_acts 355 = .ok (.bipush 12, 2) := by decide +kernel
theorem dL_acts_357 : decode cL_acts 357 = .ok (.iload 6, 2) := by decide +kernel
theorem dL_acts_359 : decode cL_acts 359 = .ok (.imul, 1) := by decide +kernel
theorem dL_acts_360 : decode cL_acts 360 = .ok (.iload 8, 2) := by decide +kernel
theorem dL_acts_362 : decode cL_acts 362 = .ok (.iadd, 1) := by decide +kernel
theorem dL_acts_363 : decode cL_acts 363 = .ok (.iaload, 1) := by decide +kernel
theorem dL_acts_364 : decode cL_acts 364 = .ok (.istore 9, 2) := by decide +kernel
theorem dL_acts_366 : decode cL_acts 366 = .ok (.aload_n 1, 1) := by decide +kernel
theorem dL_acts_367 : decode cL_acts 367 = .ok (.getfield 145, 3) := by decide +kernel
theorem dL_acts_370 : decode cL_acts 370 = .ok (.bipush 12, 2) := by decide +kernel
theorem dL_acts_372 : decode cL_acts 372 = .ok (.iload 6, 2) := by decide +kernel
theorem dL_acts_374 : decode cL_acts 374 = .ok (.imul, 1) := by decide +kernel
theorem dL_acts_375 : decode cL_acts 375 = .ok (.iload 8, 2) := by decide +kernel
theorem dL_acts_377 : decode cL_acts 377 = .ok (.iadd, 1) := by decide +kernel
theorem dL_acts_378 : decode cL_acts 378 = .ok (.iload 5, 2) := by decide +kernel
theorem dL_acts_380 : decode cL_acts 380 = .ok (.bipush 12, 2) := by decide +kernel
theorem dL_acts_382 : decode cL_acts 382 = .ok (.idiv, 1) := by decide +kernel
theorem dL_acts_383 : decode cL_acts 383 = .ok (.bipush 10, 2) := by decide +kernel
theorem dL_acts_385 : decode cL_acts 385 = .ok (.irem, 1) := by decide +kernel
theorem dL_acts_386 : decode cL_acts 386 = .ok (.iastore, 1) := by decide +kernel
theorem dL_acts_387 : decode cL_acts 387 = .ok (.aload_n 0, 1) := by decide +kernel
theorem dL_acts_388 : decode cL_acts 388 = .ok (.iload 6, 2) := by decide +kernel
theorem dL_acts_390 : decode cL_acts 390 = .ok (.iload 8, 2) := by decide +kernel
theorem dL_acts_392 : decode cL_acts 392 = .ok (.iload 5, 2) := by decide +kernel
theorem dL_acts_394 : decode cL_acts 394 = .ok (.bipush 12, 2) := by decide +kernel
theorem dL_acts_396 : decode cL_acts 396 = .ok (.idiv, 1) := by decide +kernel
theorem dL_acts_397 : decode cL_acts 397 = .ok (.bipush 10, 2) := by decide +kernel
theorem dL_acts_399 : decode cL_acts 399 = .ok (.irem, 1) := by decide +kernel
theorem dL_acts_400 : decode cL_acts 400 = .ok (.invokevirtual 349, 3) := by decide +kernel
theorem dL_acts_403 : decode cL_acts 403 = .ok (.iload 9, 2) := by decide +kernel
theorem dL_acts_405 : decode cL_acts 405 = .ok (.if_icmp .ne 7, 3) := by decide +kernel
theorem dL_acts_408 : decode cL_acts 408 = .ok (.iconst 1, 1) := by decide +kernel
theorem dL_acts_409 : decode cL_acts 409 = .ok (.goto 4, 3) := by decide +kernel
theorem dL_acts_412 : decode cL_acts 412 = .ok (.iconst 0, 1) := by decide +kernel
theorem dL_acts_413 : decode cL_acts 413 = .ok (.ireturn, 1) := by decide +kernel
theorem dL_acts_414 : decode cL_acts 414 = .ok (.aload_n 1, 1) := by decide +kernel
theorem dL_acts_415 : decode cL_acts 415 = .ok (.getfield 240, 3) := by decide +kernel
theorem dL_acts_418 : decode cL_acts 418 = .ok (.istore 8, 2) := by decide +kernel
theorem dL_acts_420 : decode cL_acts 420 = .ok (.iload 4, 2) := by decide +kernel
theorem dL_acts_422 : decode cL_acts 422 = .ok (.bipush 12, 2) := by decide +kernel
theorem dL_acts_424 : decode cL_acts 424 = .ok (.if_icmp .ne 13, 3) := by decide +kernel
theorem dL_acts_427 : decode cL_acts 427 = .ok (.iconst 1, 1) := by decide +kernel
theorem dL_acts_428 : decode cL_acts 428 = .ok (.iload 5, 2) := by decide +kernel
theorem dL_acts_430 : decode cL_acts 430 = .ok (.bipush 60, 2) := by decide +kernel
theorem dL_acts_432 : decode cL_acts 432 = .ok (.irem, 1) := by decide +kernel
theorem dL_acts_433 : decode cL_acts 433 = .ok (.iadd, 1) := by decide +kernel
theorem dL_acts_434 : decode cL_acts 434 = .ok (.goto 10, 3) := by decide +kernel
theorem dL_acts_437 : decode cL_acts 437 = .ok (.iconst 1, 1) := by decide +kernel
theorem dL_acts_438 : decode cL_acts 438 = .ok (.iload 5, 2) := by decide +kernel
theorem dL_acts_440 : decode cL_acts 440 = .ok (.bipush 6, 2) := by decide +kernel
theorem dL_acts_442 : decode cL_acts 442 = .ok (.irem, 1) := by decide +kernel
theorem dL_acts_443 : decode cL_acts 443 = .ok (.iadd, 1) := by decide +kernel
theorem dL_acts_444 : decode cL_acts 444 = .ok (.istore 9, 2) := by decide +kernel
theorem dL_acts_446 : decode cL_acts 446 = .ok (.iconst 0, 1) := by decide +kernel
theorem dL_acts_447 : decode cL_acts 447 = .ok (.istore 10, 2) := by decide +kernel
theorem dL_acts_449 : decode cL_acts 449 = .ok (.iload 10, 2) := by decide +kernel
theorem dL_acts_451 : decode cL_acts 451 = .ok (.iload 9, 2) := by decide +kernel
theorem dL_acts_453 : decode cL_acts 453 = .ok (.if_icmp .ge 13, 3) := by decide +kernel
theorem dL_acts_456 : decode cL_acts 456 = .ok (.aload_n 1, 1) := by decide +kernel
theorem dL_acts_457 : decode cL_acts 457 = .ok (.invokevirtual 260, 3) := by decide +kernel
theorem dL_acts_460 : decode cL_acts 460 = .ok (.iinc 10 1, 3) := by decide +kernel
theorem dL_acts_463 : decode cL_acts 463 = .ok (.goto (-14), 3) := by decide +kernel
theorem dL_acts_466 : decode cL_acts 466 = .ok (.aload_n 0, 1) := by decide +kernel
theorem dL_acts_467 : decode cL_acts 467 = .ok (.iload 9, 2) := by decide +kernel
theorem dL_acts_469 : decode cL_acts 469 = .ok (.invokevirtual 353, 3) := by decide +kernel
theorem dL_acts_472 : decode cL_acts 472 = .ok (.aload_n 1, 1) := by decide +kernel
theorem dL_acts_473 : decode cL_acts 473 = .ok (.getfield 240, 3) := by decide +kernel
theorem dL_acts_476 : decode cL_acts 476 = .ok (.iload 8, 2) := by decide +kernel
theorem dL_acts_478 : decode cL_acts 478 = .ok (.isub, 1) := by decide +kernel
theorem dL_acts_479 : decode cL_acts 479 = .ok (.if_icmp .ne 7, 3) := by decide +kernel
theorem dL_acts_482 : decode cL_acts 482 = .ok (.iconst 1, 1) := by decide +kernel
theorem dL_acts_483 : decode cL_acts 483 = .ok (.goto 4, 3) := by decide +kernel
theorem dL_acts_486 : decode cL_acts 486 = .ok (.iconst 0, 1) := by decide +kernel
theorem dL_acts_487 : decode cL_acts 487 = .ok (.ireturn, 1) := by decide +kernel
theorem dL_begins_0 : decode cL_begins 0 = .ok (.aload_n 1, 1) := by decide +kernel
theorem dL_begins_1 : decode cL_begins 1 = .ok (.iconst 4, 1) := by decide +kernel
theorem dL_begins_2 : decode cL_begins 2 = .ok (.aload_n 2, 1) := by decide +kernel
theorem dL_begins_3 : decode cL_begins 3 = .ok (.iconst 0, 1) := by decide +kernel
theorem dL_begins_4 : decode cL_begins 4 = .ok (.iconst 5, 1) := by decide +kernel
theorem dL_begins_5 : decode cL_begins 5 = .ok (.invokestatic 327, 3) := by decide +kernel
theorem dL_begins_8 : decode cL_begins 8 = .ok (.iadd, 1) := by decide +kernel
theorem dL_begins_9 : decode cL_begins 9 = .ok (.putfield 41, 3) := by decide +kernel
theorem dL_begins_12 : decode cL_begins 12 = .ok (.aload_n 1, 1) := by decide +kernel
theorem dL_begins_13 : decode cL_begins 13 = .ok (.iconst 2, 1) := by decide +kernel
theorem dL_begins_14 : decode cL_begins 14 = .ok (.aload_n 2, 1) := by decide +kernel
theorem dL_begins_15 : decode cL_begins 15 = .ok (.iconst 1, 1) := by decide +kernel
theorem dL_begins_16 : decode cL_begins 16 = .ok (.bipush 30, 2) := by decide +kernel
theorem dL_begins_18 : decode cL_begins 18 = .ok (.invokestatic 327, 3) := by decide +kernel
theorem dL_begins_21 : decode cL_begins 21 = .ok (.iadd, 1) := by decide +kernel
theorem dL_begins_22 : decode cL_begins 22 = .ok (.putfield 55, 3) := by decide +kernel
theorem dL_begins_25 : decode cL_begins 25 = .ok (.aload_n 1, 1) := by decide +kernel
theorem dL_begins_26 : decode cL_begins 26 = .ok (.iconst 1, 1) := by decide +kernel
theorem dL_begins_27 : decode cL_begins 27 = .ok (.aload_n 2, 1) := by decide +kernel
theorem dL_begins_28 : decode cL_begins 28 = .ok (.iconst 2, 1) := by decide +kernel
theorem dL_begins_29 : decode cL_begins 29 = .ok (.iconst 4, 1) := by decide +kernel
theorem dL_begins_30 : decode cL_begins 30 = .ok (.invokestatic 327, 3) := by decide +kernel
theorem dL_begins_33 : decode cL_begins 33 = .ok (.iadd, 1) := by decide +kernel
theorem dL_begins_34 : decode cL_begins 34 = .ok (.putfield 139, 3) := by decide +kernel
theorem dL_begins_37 : decode cL_begins 37 = .ok (.new 356, 3) := by decide +kernel
theorem dL_begins_40 : decode cL_begins 40 = .ok (.dup, 1) := by decide +kernel
theorem dL_begins_41 : decode cL_begins 41 = .ok (.ldc_w 358, 3) := by decide +kernel
theorem dL_begins_44 : decode cL_begins 44 = .ok (.invokespecial 360, 3) := by decide +kernel
theorem dL_begins_47 : decode cL_begins 47 = .ok (.aload_n 1, 1) := by decide +kernel
theorem dL_begins_48 : decode cL_begins 48 = .ok (.getfield 41, 3) := by decide +kernel
theorem dL_begins_51 : decode cL_begins 51 = .ok (.invokevirtual 363, 3) := by decide +kernel
theorem dL_begins_54 : decode cL_begins 54 = .ok (.bipush 32, 2) := by decide +kernel
theorem dL_begins_56 : decode cL_begins 56 = .ok (.invokevirtual 366, 3) := by decide +kernel
theorem dL_begins_59 : decode cL_begins 59 = .ok (.aload_n 1, 1) := by decide +kernel
theorem dL_begins_60 : decode cL_begins 60 = .ok (.getfield 55, 3) := by decide +kernel
theorem dL_begins_63 : decode cL_begins 63 = .ok (.invokevirtual 363, 3) := by decide +kernel
theorem dL_begins_66 : decode cL_begins 66 = .ok (.bipush 59, 2) := by decide +kernel
theorem dL_begins_68 : decode cL_begins 68 = .ok (.invokevirtual 366, 3) := by decide +kernel
theorem dL_begins_71 : decode cL_begins 71 = .ok (.astore_n 3, 1) := by decide +kernel
theorem dL_begins_72 : decode cL_begins 72 = .ok (.iconst 0, 1) := by decide +kernel
theorem dL_begins_73 : decode cL_begins 73 = .ok (.istore 4, 2) := by decide +kernel
theorem dL_begins_75 : decode cL_begins 75 = .ok (.iload 4, 2) := by decide +kernel
theorem dL_begins_77 : decode cL_begins 77 = .ok (.iconst 2, 1) := by decide +kernel
theorem dL_begins_78 : decode cL_begins 78 = .ok (.if_icmp .ge 69, 3) := by decide +kernel
theorem dL_begins_81 : decode cL_begins 81 = .ok (.iconst 0, 1) := by decide +kernel
theorem dL_begins_82 : decode cL_begins 82 = .ok (.istore 5, 2) := by decide +kernel
theorem dL_begins_84 : decode cL_begins 84 = .ok (.iload 5, 2) := by decide +kernel
theorem dL_begins_86 : decode cL_begins 86 = .ok (.bipush 64, 2) := by decide +kernel
theorem dL_begins_88 : decode cL_begins 88 = .ok (.if_icmp .ge 23, 3) := by decide +kernel
theorem dL_begins_91 : decode cL_begins 91 = .ok (.aload_n 1, 1) := by decide +kernel
theorem dL_begins_92 : decode cL_begins 92 = .ok (.getfield 35, 3) := by decide +kernel
theorem dL_begins_95 : decode cL_begins 95 = .ok (.iload 4, 2) := by decide +kernel
theorem dL_begins_97 : decode cL_begins 97 = .ok (.aaload, 1) := by decide +kernel
theorem dL_begins_98 : decode cL_begins 98 = .ok (.getfield 49, 3) := by decide +kernel
theorem dL_begins_101 : decode cL_begins 101 = .ok (.iload 5, 2) := by decide +kernel
theorem dL_begins_103 : decode cL_begins 103 = .ok (.iconst (-1), 1) := by decide +kernel
theorem dL_begins_104 : decode cL_begins 104 = .ok (.iastore, 1) := by decide +kernel
theorem dL_begins_105 : decode cL_begins 105 = .ok (.iinc 5 1, 3) := by decide +kernel
theorem dL_begins_108 : decode cL_begins 108 = .ok (.goto (-24), 3) := by decide +kernel
theorem dL_begins_111 : decode cL_begins 111 = .ok (.iconst 0, 1) := by decide +kernel
theorem dL_begins_112 : decode cL_begins 112 = .ok (.istore 5, 2) := by decide +kernel
theorem dL_begins_114 : decode cL_begins 114 = .ok (.iload 5, 2) := by decide +kernel
theorem dL_begins_116 : decode cL_begins 116 = .ok (.bipush 61, 2) := by decide +kernel
theorem dL_begins_118 : decode cL_begins 118 = .ok (.if_icmp .ge 23, 3) := by decide +kernel
theorem dL_begins_121 : decode cL_begins 121 = .ok (.aload_n 1, 1) := by decide +kernel
theorem dL_begins_122 : decode cL_begins 122 = .ok (.getfield 35, 3) := by decide +kernel
theorem dL_begins_125 : decode cL_begins 125 = .ok (.iload 4, 2) := by decide +kernel
theorem dL_begins_127 : decode cL_begins 127 = .ok (.aaload, 1) := by decide +kernel
theorem dL_begins_128 : decode cL_begins 128 = .ok (.getfield 58, 3) := by decide +kernel
theorem dL_begins_131 : decode cL_begins 131 = .ok (.iload 5, 2) := by decide +kernel
theorem dL_begins_133 : decode cL_begins 133 = .ok (.iconst (-1), 1) := by decide +kernel
theorem dL_begins_134 : decode cL_begins 134 = .ok (.iastore, 1) := by decide +kernel
theorem dL_begins_135 : decode cL_begins 135 = .ok (.iinc 5 1, 3) := by decide +kernel
theorem dL_begins_138 : decode cL_begins 138 = .ok (.goto (-24), 3) := by decide +kernel
theorem dL_begins_141 : decode cL_begins 141 = .ok (.iinc 4 1, 3) := by decide +kernel
theorem dL_begins_144 : decode cL_begins 144 = .ok (.goto (-69), 3) := by decide +kernel
theorem dL_begins_147 : decode cL_begins 147 = .ok (.iconst 0, 1) := by decide +kernel
theorem dL_begins_148 : decode cL_begins 148 = .ok (.istore 4, 2) := by decide +kernel
theorem dL_begins_150 : decode cL_begins 150 = .ok (.iload 4, 2) := by decide +kernel
theorem dL_begins_152 : decode cL_begins 152 = .ok (.bipush 12, 2) := by decide +kernel
theorem dL_begins_154 : decode cL_begins 154 = .ok (.if_icmp .ge 138, 3) := by decide +kernel
theorem dL_begins_157 : decode cL_begins 157 = .ok (.iload 4, 2) := by decide +kernel
theorem dL_begins_159 : decode cL_begins 159 = .ok (.iconst 2, 1) := by decide +kernel
theorem dL_begins_160 : decode cL_begins 160 = .ok (.irem, 1) := by decide +kernel
theorem dL_begins_161 : decode cL_begins 161 = .ok (.istore 5, 2) := by decide +kernel
theorem dL_begins_163 : decode cL_begins 163 = .ok (.aload_n 2, 1) := by decide +kernel
theorem dL_begins_164 : decode cL_begins 164 = .ok (.iconst 3, 1) := by decide +kernel
theorem dL_begins_165 : decode cL_begins 165 = .ok (.iload 4, 2) := by decide +kernel
theorem dL_begins_167 : decode cL_begins 167 = .ok (.iadd, 1) := by decide +kernel
theorem dL_begins_168 : decode cL_begins 168 = .ok (.aload_n 1, 1) := by decide +kernel
theorem dL_begins_169 : decode cL_begins 169 = .ok (.getfield 41, 3) := by decide +kernel
theorem dL_begins_172 : decode cL_begins 172 = .ok (.aload_n 1, 1) := by decide +kernel
theorem dL_begins_173 : decode cL_begins 173 = .ok (.getfield 41, 3) := by decide +kernel
theorem dL_begins_176 : decode cL_begins 176 = .ok (.imul, 1) := by decide +kernel
theorem dL_begins_177 : decode cL_begins 177 = .ok (.invokestatic 327, 3) := by decide +kernel
theorem dL_begins_180 : decode cL_begins 180 = .ok (.istore 6, 2) := by decide +kernel
theorem dL_begins_182 : decode cL_begins 182 = .ok (.aload_n 1, 1) := by decide +kernel
theorem dL_begins_183 : decode cL_begins 183 = .ok (.getfield 35, 3) := by decide +kernel
theorem dL_begins_186 : decode cL_begins 186 = .ok (.iconst 0, 1) := by decide +kernel
theorem dL_begins_187 : decode cL_begins 187 = .ok (.aaload, 1) := by decide +kernel
theorem dL_begins_188 : decode cL_begins 188 = .ok (.getfield 49, 3) := by decide +kernel
theorem dL_begins_191 : decode cL_begins 191 = .ok (.iload 6, 2) := by decide +kernel
theorem dL_begins_193 : decode cL_begins 193 = .ok (.iaload, 1) := by decide +kernel
theorem dL_begins_194 : decode cL_begins 194 = .ok (.ifCond .lt 6, 3) := by decide +kernel
theorem dL_begins_197 : decode cL_begins 197 = .ok (.goto 89, 3) := by decide +kernel
theorem dL_begins_200 : decode cL_begins 200 = .ok (.aload_n 1, 1) := by decide +kernel
theorem dL_begins_201 : decode cL_begins 201 = .ok (.getfield 35, 3) := by decide +kernel
theorem dL_begins_204 : decode cL_begins 204 = .ok (.iconst 0, 1) := by decide +kernel
theorem dL_begins_205 : decode cL_begins 205 = .ok (.aaload, 1) := by decide +kernel
theorem dL_begins_206 : decode cL_begins 206 = .ok (.getfield 49, 3) := by decide +kernel
theorem dL_begins_209 : decode cL_begins 209 = .ok (.iload 6, 2) := by decide +kernel
theorem dL_begins_211 : decode cL_begins 211 = .ok (.iload 5, 2) := by decide +kernel
theorem dL_begins_213 : decode cL_begins 213 = .ok (.iastore, 1) := by decide +kernel
theorem dL_begins_214 : decode cL_begins 214 = .ok (.aload_n 1, 1) := by decide +kernel
theorem dL_begins_215 : decode cL_begins 215 = .ok (.getfield 35, 3) := by decide +kernel
theorem dL_begins_218 : decode cL_begins 218 = .ok (.iconst 1, 1) := by decide +kernel
theorem dL_begins_219 : decode cL_begins 219 = .ok (.aaload, 1) := by decide +kernel
theorem dL_begins_220 : decode cL_begins 220 = .ok (.getfield 49, 3) := by decide +kernel
theorem dL_begins_223 : decode cL_begins 223 = .ok (.iload 6, 2) := by decide +kernel
theorem dL_begins_225 : decode cL_begins 225 = .ok (.iload 5, 2) := by decide +kernel
theorem dL_begins_227 : decode cL_begins 227 = .ok (.iastore, 1) := by decide +kernel
theorem dL_begins_228 : decode cL_begins 228 = .ok (.aload_n 1, 1) := by decide +kernel
theorem dL_begins_229 : decode cL_begins 229 = .ok (.dup, 1) := by decide +kernel
theorem dL_begins_230 : decode cL_begins 230 = .ok (.getfield 369, 3) := by decide +kernel
theorem dL_begins_233 : decode cL_begins 233 = .ok (.iconst 1, 1) := by decide +kernel
theorem dL_begins_234 : decode cL_begins 234 = .ok (.iadd, 1) := by decide +kernel
theorem dL_begins_235 : decode cL_begins 235 = .ok (.putfield 369, 3) := by decide +kernel
theorem dL_begins_238 : decode cL_begins 238 = .ok (.aload_n 3, 1) := by decide +kernel
theorem dL_begins_239 : decode cL_begins 239 = .ok (.ldc_w 371, 3) := by decide +kernel
theorem dL_begins_242 : decode cL_begins 242 = .ok (.invokevirtual 373, 3) := by decide +kernel
theorem dL_begins_245 : decode cL_begins 245 = .ok (.iload 5, 2) := by decide +kernel
theorem dL_begins_247 : decode cL_begins 247 = .ok (.invokevirtual 363, 3) := by decide +kernel
theorem dL_begins_250 : decode cL_begins 250 = .ok (.bipush 32, 2) := by decide +kernel
theorem dL_begins_252 : decode cL_begins 252 = .ok (.invokevirtual 366, 3) := by decide +kernel
theorem dL_begins_255 : decode cL_begins 255 = .ok (.iload 6, 2) := by decide +kernel
theorem dL_begins_257 : decode cL_begins 257 = .ok (.aload_n 1, 1) := by decide +kernel
theorem dL_begins_258 : decode cL_begins 258 = .ok (.getfield 41, 3) := by decide +kernel
theorem dL_begins_261 : decode cL_begins 261 = .ok (.idiv, 1) := by decide +kernel
theorem dL_begins_262 : decode cL_begins 262 = .ok (.invokevirtual 363, 3) := by decide +kernel
theorem dL_begins_265 : decode cL_begins 265 = .ok (.bipush 32, 2) := by decide +kernel
theorem dL_begins_267 : decode cL_begins 267 = .ok (.invokevirtual 366, 3) := by decide +kernel
theorem dL_begins_270 : decode cL_begins 270 = .ok (.iload 6, 2) := by decide +kernel
theorem dL_begins_272 : decode cL_begins 272 = .ok (.aload_n 1, 1) := by decide +kernel
theorem dL_begins_273 : decode cL_begins 273 = .ok (.getfield 41, 3) := by decide +kernel
theorem dL_begins_276 : decode cL_begins 276 = .ok (.irem, 1) := by decide +kernel
