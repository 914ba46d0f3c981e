theorem dX10_ofP_11 : decode cX10_ofP 11 = .ok (.iload_n 2, 1) := by decide +kernel
theorem dX10_ofP_12 : decode cX10_ofP 12 = .ok (.iadd, 1) := by decide +kernel
theorem dX10_ofP_13 : decode cX10_ofP 13 = .ok (.iaload, 1) := by decide +kernel
theorem dX10_ofP_14 : decode cX10_ofP 14 = .ok (.ireturn, 1) := by decide +kernel
theorem dX10_putP_0 : decode cX10_putP 0 = .ok (.aload_n 0, 1) := by decide +kernel
theorem dX10_putP_1 : decode cX10_putP 1 = .ok (.getfield 7, 3) := by decide +kernel
theorem dX10_putP_4 : decode cX10_putP 4 = .ok (.bipush 12, 2) := by decide +kernel
theorem dX10_putP_6 : decode cX10_putP 6 = .ok (.bipush 7, 2) := by decide +kernel
theorem dX10_putP_8 : decode cX10_putP 8 = .ok (.iload_n 1, 1) := by decide +kernel
theorem dX10_putP_9 : decode cX10_putP 9 = .ok (.imul, 1) := by decide +kernel
theorem dX10_putP_10 : decode cX10_putP 10 = .ok (.iadd, 1) := by decide +kernel
theorem dX10_putP_11 : decode cX10_putP 11 = .ok (.iload_n 2, 1) := by decide +kernel
theorem dX10_putP_12 : decode cX10_putP 12 = .ok (.iadd, 1) := by decide +kernel
theorem dX10_putP_13 : decode cX10_putP 13 = .ok (.iload_n 3, 1) := by decide +kernel
theorem dX10_putP_14 : decode cX10_putP 14 = .ok (.iastore, 1) := by decide +kernel
theorem dX10_putP_15 : decode cX10_putP 15 = .ok (.return_, 1) := by decide +kernel
theorem dX10_ofPass_0 : decode cX10_ofPass 0 = .ok (.aload_n 0, 1) := by decide +kernel
theorem dX10_ofPass_1 : decode cX10_ofPass 1 = .ok (.getfield 7, 3) := by decide +kernel
theorem dX10_ofPass_4 : decode cX10_ofPass 4 = .ok (.sipush 1140, 3) := by decide +kernel
theorem dX10_ofPass_7 : decode cX10_ofPass 7 = .ok (.bipush 15, 2) := by decide +kernel
theorem dX10_ofPass_9 : decode cX10_ofPass 9 = .ok (.iload_n 1, 1) := by decide +kernel
theorem dX10_ofPass_10 : decode cX10_ofPass 10 = .ok (.imul, 1) := by decide +kernel
theorem dX10_ofPass_11 : decode cX10_ofPass 11 = .ok (.iadd, 1) := by decide +kernel
theorem dX10_ofPass_12 : decode cX10_ofPass 12 = .ok (.iload_n 2, 1) := by decide +kernel
theorem dX10_ofPass_13 : decode cX10_ofPass 13 = .ok (.iadd, 1) := by decide +kernel
theorem dX10_ofPass_14 : decode cX10_ofPass 14 = .ok (.iaload, 1) := by decide +kernel
theorem dX10_ofPass_15 : decode cX10_ofPass 15 = .ok (.ireturn, 1) := by decide +kernel
theorem dX10_putPass_0 : decode cX10_putPass 0 = .ok (.aload_n 0, 1) := by decide +kernel
theorem dX10_putPass_1 : decode cX10_putPass 1 = .ok (.getfield 7, 3) := by decide +kernel
theorem dX10_putPass_4 : decode cX10_putPass 4 = .ok (.sipush 1140, 3) := by decide +kernel
theorem dX10_putPass_7 : decode cX10_putPass 7 = .ok (.bipush 15, 2) := by decide +kernel
theorem dX10_putPass_9 : decode cX10_putPass 9 = .ok (.iload_n 1, 1) := by decide +kernel
theorem dX10_putPass_10 : decode cX10_putPass 10 = .ok (.imul, 1) := by decide +kernel
theorem dX10_putPass_11 : decode cX10_putPass 11 = .ok (.iadd, 1) := by decide +kernel
theorem dX10_putPass_12 : decode cX10_putPass 12 = .ok (.iload_n 2, 1) := by decide +kernel
theorem dX10_putPass_13 : decode cX10_putPass 13 = .ok (.iadd, 1) := by decide +kernel
theorem dX10_putPass_14 : decode cX10_putPass 14 = .ok (.iload_n 3, 1) := by decide +kernel
theorem dX10_putPass_15 : decode cX10_putPass 15 = .ok (.iastore, 1) := by decide +kernel
theorem dX10_putPass_16 : decode cX10_putPass 16 = .ok (.return_, 1) := by decide +kernel
theorem dX10_ofL_0 : decode cX10_ofL 0 = .ok (.aload_n 0, 1) := by decide +kernel
theorem dX10_ofL_1 : decode cX10_ofL 1 = .ok (.getfield 7, 3) := by decide +kernel
theorem dX10_ofL_4 : decode cX10_ofL 4 = .ok (.sipush 1200, 3) := by decide +kernel
theorem dX10_ofL_7 : decode cX10_ofL 7 = .ok (.bipush 11, 2) := by decide +kernel
theorem dX10_ofL_9 : decode cX10_ofL 9 = .ok (.iload_n 1, 1) := by decide +kernel
theorem dX10_ofL_10 : decode cX10_ofL 10 = .ok (.imul, 1) := by decide +kernel
theorem dX10_ofL_11 : decode cX10_ofL 11 = .ok (.iadd, 1) := by decide +kernel
theorem dX10_ofL_12 : decode cX10_ofL 12 = .ok (.iload_n 2, 1) := by decide +kernel
theorem dX10_ofL_13 : decode cX10_ofL 13 = .ok (.iadd, 1) := by decide +kernel
theorem dX10_ofL_14 : decode cX10_ofL 14 = .ok (.iaload, 1) := by decide +kernel
theorem dX10_ofL_15 : decode cX10_ofL 15 = .ok (.ireturn, 1) := by decide +kernel
theorem dX10_putL_0 : decode cX10_putL 0 = .ok (.aload_n 0, 1) := by decide +kernel
theorem dX10_putL_1 : decode cX10_putL 1 = .ok (.getfield 7, 3) := by decide +kernel
theorem dX10_putL_4 : decode cX10_putL 4 = .ok (.sipush 1200, 3) := by decide +kernel
theorem dX10_putL_7 : decode cX10_putL 7 = .ok (.bipush 11, 2) := by decide +kernel
theorem dX10_putL_9 : decode cX10_putL 9 = .ok (.iload_n 1, 1) := by decide +kernel
theorem dX10_putL_10 : decode cX10_putL 10 = .ok (.imul, 1) := by decide +kernel
theorem dX10_putL_11 : decode cX10_putL 11 = .ok (.iadd, 1) := by decide +kernel
theorem dX10_putL_12 : decode cX10_putL 12 = .ok (.iload_n 2, 1) := by decide +kernel
theorem dX10_putL_13 : decode cX10_putL 13 = .ok (.iadd, 1) := by decide +kernel
theorem dX10_putL_14 : decode cX10_putL 14 = .ok (.iload_n 3, 1) := by decide +kernel
theorem dX10_putL_15 : decode cX10_putL 15 = .ok (.iastore, 1) := by decide +kernel
theorem dX10_putL_16 : decode cX10_putL 16 = .ok (.return_, 1) := by decide +kernel
theorem dX10_promised_0 : decode cX10_promised 0 = .ok (.aload_n 0, 1) := by decide +kernel
theorem dX10_promised_1 : decode cX10_promised 1 = .ok (.getfield 7, 3) := by decide +kernel
theorem dX10_promised_4 : decode cX10_promised 4 = .ok (.sipush 762, 3) := by decide +kernel
theorem dX10_promised_7 : decode cX10_promised 7 = .ok (.bipush 6, 2) := by decide +kernel
theorem dX10_promised_9 : decode cX10_promised 9 = .ok (.iload_n 1, 1) := by decide +kernel
theorem dX10_promised_10 : decode cX10_promised 10 = .ok (.imul, 1) := by decide +kernel
theorem dX10_promised_11 : decode cX10_promised 11 = .ok (.iadd, 1) := by decide +kernel
theorem dX10_promised_12 : decode cX10_promised 12 = .ok (.iload_n 2, 1) := by decide +kernel
theorem dX10_promised_13 : decode cX10_promised 13 = .ok (.iadd, 1) := by decide +kernel
theorem dX10_promised_14 : decode cX10_promised 14 = .ok (.iaload, 1) := by decide +kernel
theorem dX10_promised_15 : decode cX10_promised 15 = .ok (.ireturn, 1) := by decide +kernel
theorem dX10_storedAt_0 : decode cX10_storedAt 0 = .ok (.aload_n 0, 1) := by decide +kernel
theorem dX10_storedAt_1 : decode cX10_storedAt 1 = .ok (.getfield 7, 3) := by decide +kernel
theorem dX10_storedAt_4 : decode cX10_storedAt 4 = .ok (.sipush 514, 3) := by decide +kernel
theorem dX10_storedAt_7 : decode cX10_storedAt 7 = .ok (.bipush 124, 2) := by decide +kernel
theorem dX10_storedAt_9 : decode cX10_storedAt 9 = .ok (.iload_n 1, 1) := by decide +kernel
theorem dX10_storedAt_10 : decode cX10_storedAt 10 = .ok (.imul, 1) := by decide +kernel
theorem dX10_storedAt_11 : decode cX10_storedAt 11 = .ok (.iadd, 1) := by decide +kernel
theorem dX10_storedAt_12 : decode cX10_storedAt 12 = .ok (.iconst 2, 1) := by decide +kernel
theorem dX10_storedAt_13 : decode cX10_storedAt 13 = .ok (.iload_n 2, 1) := by decide +kernel
theorem dX10_storedAt_14 : decode cX10_storedAt 14 = .ok (.imul, 1) := by decide +kernel
theorem dX10_storedAt_15 : decode cX10_storedAt 15 = .ok (.iadd, 1) := by decide +kernel
theorem dX10_storedAt_16 : decode cX10_storedAt 16 = .ok (.iload_n 3, 1) := by decide +kernel
theorem dX10_storedAt_17 : decode cX10_storedAt 17 = .ok (.iadd, 1) := by decide +kernel
theorem dX10_storedAt_18 : decode cX10_storedAt 18 = .ok (.iaload, 1) := by decide +kernel
theorem dX10_storedAt_19 : decode cX10_storedAt 19 = .ok (.ireturn, 1) := by decide +kernel
theorem dX10_stores_0 : decode cX10_stores 0 = .ok (.aload_n 0, 1) := by decide +kernel
theorem dX10_stores_1 : decode cX10_stores 1 = .ok (.getfield 7, 3) := by decide +kernel
theorem dX10_stores_4 : decode cX10_stores 4 = .ok (.sipush 514, 3) := by decide +kernel
theorem dX10_stores_7 : decode cX10_stores 7 = .ok (.bipush 124, 2) := by decide +kernel
theorem dX10_stores_9 : decode cX10_stores 9 = .ok (.iload_n 1, 1) := by decide +kernel
theorem dX10_stores_10 : decode cX10_stores 10 = .ok (.imul, 1) := by decide +kernel
theorem dX10_stores_11 : decode cX10_stores 11 = .ok (.iadd, 1) := by decide +kernel
theorem dX10_stores_12 : decode cX10_stores 12 = .ok (.iconst 2, 1) := by decide +kernel
theorem dX10_stores_13 : decode cX10_stores 13 = .ok (.iload_n 2, 1) := by decide +kernel
theorem dX10_stores_14 : decode cX10_stores 14 = .ok (.imul, 1) := by decide +kernel
theorem dX10_stores_15 : decode cX10_stores 15 = .ok (.iadd, 1) := by decide +kernel
theorem dX10_stores_16 : decode cX10_stores 16 = .ok (.iload_n 3, 1) := by decide +kernel
theorem dX10_stores_17 : decode cX10_stores 17 = .ok (.iastore, 1) := by decide +kernel
theorem dX10_stores_18 : decode cX10_stores 18 = .ok (.aload_n 0, 1) := by decide +kernel
theorem dX10_stores_19 : decode cX10_stores 19 = .ok (.getfield 7, 3) := by decide +kernel
theorem dX10_stores_22 : decode cX10_stores 22 = .ok (.sipush 514, 3) := by decide +kernel
theorem dX10_stores_25 : decode cX10_stores 25 = .ok (.bipush 124, 2) := by decide +kernel
theorem dX10_stores_27 : decode cX10_stores 27 = .ok (.iload_n 1, 1) := by decide +kernel
theorem dX10_stores_28 : decode cX10_stores 28 = .ok (.imul, 1) := by decide +kernel
theorem dX10_stores_29 : decode cX10_stores 29 = .ok (.iadd, 1) := by decide +kernel
theorem dX10_stores_30 : decode cX10_stores 30 = .ok (.iconst 2, 1) := by decide +kernel
theorem dX10_stores_31 : decode cX10_stores 31 = .ok (.iload_n 2, 1) := by decide +kernel
theorem dX10_stores_32 : decode cX10_stores 32 = .ok (.imul, 1) := by decide +kernel
theorem dX10_stores_33 : decode cX10_stores 33 = .ok (.iadd, 1) := by decide +kernel
theorem dX10_stores_34 : decode cX10_stores 34 = .ok (.iconst 1, 1) := by decide +kernel
theorem dX10_stores_35 : decode cX10_stores 35 = .ok (.iadd, 1) := by decide +kernel
theorem dX10_stores_36 : decode cX10_stores 36 = .ok (.iload 4, 2) := by decide +kernel
theorem dX10_stores_38 : decode cX10_stores 38 = .ok (.iastore, 1) := by decide +kernel
theorem dX10_stores_39 : decode cX10_stores 39 = .ok (.return_, 1) := by decide +kernel
theorem dX10_madeAt_0 : decode cX10_madeAt 0 = .ok (.aload_n 0, 1) := by decide +kernel
theorem dX10_madeAt_1 : decode cX10_madeAt 1 = .ok (.getfield 7, 3) := by decide +kernel
theorem dX10_madeAt_4 : decode cX10_madeAt 4 = .ok (.sipush 154, 3) := by decide +kernel
theorem dX10_madeAt_7 : decode cX10_madeAt 7 = .ok (.sipush 180, 3) := by decide +kernel
theorem dX10_madeAt_10 : decode cX10_madeAt 10 = .ok (.iload_n 1, 1) := by decide +kernel
theorem dX10_madeAt_11 : decode cX10_madeAt 11 = .ok (.imul, 1) := by decide +kernel
theorem dX10_madeAt_12 : decode cX10_madeAt 12 = .ok (.iadd, 1) := by decide +kernel
theorem dX10_madeAt_13 : decode cX10_madeAt 13 = .ok (.iconst 3, 1) := by decide +kernel
theorem dX10_madeAt_14 : decode cX10_madeAt 14 = .ok (.iload_n 2, 1) := by decide +kernel
theorem dX10_madeAt_15 : decode cX10_madeAt 15 = .ok (.iconst 1, 1) := by decide +kernel
theorem dX10_madeAt_16 : decode cX10_madeAt 16 = .ok (.isub, 1) := by decide +kernel
theorem dX10_madeAt_17 : decode cX10_madeAt 17 = .ok (.imul, 1) := by decide +kernel
theorem dX10_madeAt_18 : decode cX10_madeAt 18 = .ok (.iadd, 1) := by decide +kernel
theorem dX10_madeAt_19 : decode cX10_madeAt 19 = .ok (.iload_n 3, 1) := by decide +kernel
theorem dX10_madeAt_20 : decode cX10_madeAt 20 = .ok (.iadd, 1) := by decide +kernel
theorem dX10_madeAt_21 : decode cX10_madeAt 21 = .ok (.iaload, 1) := by decide +kernel
theorem dX10_madeAt_22 : decode cX10_madeAt 22 = .ok (.ireturn, 1) := by decide +kernel
theorem dX10_owner_0 : decode cX10_owner 0 = .ok (.aload_n 0, 1) := by decide +kernel
theorem dX10_owner_1 : decode cX10_owner 1 = .ok (.getfield 7, 3) := by decide +kernel
theorem dX10_owner_4 : decode cX10_owner 4 = .ok (.bipush 26, 2) := by decide +kernel
theorem dX10_owner_6 : decode cX10_owner 6 = .ok (.bipush 64, 2) := by decide +kernel
theorem dX10_owner_8 : decode cX10_owner 8 = .ok (.iload_n 1, 1) := by decide +kernel
theorem dX10_owner_9 : decode cX10_owner 9 = .ok (.imul, 1) := by decide +kernel
theorem dX10_owner_10 : decode cX10_owner 10 = .ok (.iadd, 1) := by decide +kernel
theorem dX10_owner_11 : decode cX10_owner 11 = .ok (.iload_n 2, 1) := by decide +kernel
theorem dX10_owner_12 : decode cX10_owner 12 = .ok (.iadd, 1) := by decide +kernel
theorem dX10_owner_13 : decode cX10_owner 13 = .ok (.iaload, 1) := by decide +kernel
theorem dX10_owner_14 : decode cX10_owner 14 = .ok (.ireturn, 1) := by decide +kernel
theorem dX10_lays_0 : decode cX10_lays 0 = .ok (.aload_n 0, 1) := by decide +kernel
theorem dX10_lays_1 : decode cX10_lays 1 = .ok (.getfield 7, 3) := by decide +kernel
theorem dX10_lays_4 : decode cX10_lays 4 = .ok (.bipush 26, 2) := by decide +kernel
theorem dX10_lays_6 : decode cX10_lays 6 = .ok (.bipush 64, 2) := by decide +kernel
theorem dX10_lays_8 : decode cX10_lays 8 = .ok (.iload_n 1, 1) := by decide +kernel
theorem dX10_lays_9 : decode cX10_lays 9 = .ok (.imul, 1) := by decide +kernel
theorem dX10_lays_10 : decode cX10_lays 10 = .ok (.iadd, 1) := by decide +kernel
theorem dX10_lays_11 : decode cX10_lays 11 = .ok (.iload_n 2, 1) := by decide +kernel
theorem dX10_lays_12 : decode cX10_lays 12 = .ok (.iadd, 1) := by decide +kernel
theorem dX10_lays_13 : decode cX10_lays 13 = .ok (.iload_n 3, 1) := by decide +kernel
theorem dX10_lays_14 : decode cX10_lays 14 = .ok (.iastore, 1) := by decide +kernel
theorem dX10_lays_15 : decode cX10_lays 15 = .ok (.return_, 1) := by decide +kernel
theorem dX10_squares_0 : decode cX10_squares 0 = .ok (.aload_n 0, 1) := by decide +kernel
theorem dX10_squares_1 : decode cX10_squares 1 = .ok (.getfield 7, 3) := by decide +kernel
theorem dX10_squares_4 : decode cX10_squares 4 = .ok (.iconst 0, 1) := by decide +kernel
theorem dX10_squares_5 : decode cX10_squares 5 = .ok (.iaload, 1) := by decide +kernel
theorem dX10_squares_6 : decode cX10_squares 6 = .ok (.aload_n 0, 1) := by decide +kernel
theorem dX10_squares_7 : decode cX10_squares 7 = .ok (.getfield 7, 3) := by decide +kernel
theorem dX10_squares_10 : decode cX10_squares 10 = .ok (.iconst 0, 1) := by decide +kernel
theorem dX10_squares_11 : decode cX10_squares 11 = .ok (.iaload, 1) := by decide +kernel
theorem dX10_squares_12 : decode cX10_squares 12 = .ok (.imul, 1) := by decide +kernel
theorem dX10_squares_13 : decode cX10_squares 13 = .ok (.ireturn, 1) := by decide +kernel
theorem dX10_isPlayer_0 : decode cX10_isPlayer 0 = .ok (.iload_n 0, 1) := by decide +kernel
theorem dX10_isPlayer_1 : decode cX10_isPlayer 1 = .ok (.iconst 0, 1) := by decide +kernel
theorem dX10_isPlayer_2 : decode cX10_isPlayer 2 = .ok (.iconst 1, 1) := by decide +kernel
theorem dX10_isPlayer_3 : decode cX10_isPlayer 3 = .ok (.invokestatic 83, 3) := by decide +kernel
theorem dX10_isPlayer_6 : decode cX10_isPlayer 6 = .ok (.ireturn, 1) := by decide +kernel
theorem dX10_isSquare_0 : decode cX10_isSquare 0 = .ok (.iload_n 1, 1) := by decide +kernel
theorem dX10_isSquare_1 : decode cX10_isSquare 1 = .ok (.iconst 0, 1) := by decide +kernel
theorem dX10_isSquare_2 : decode cX10_isSquare 2 = .ok (.aload_n 0, 1) := by decide +kernel
theorem dX10_isSquare_3 : decode cX10_isSquare 3 = .ok (.invokevirtual 87, 3) := by decide +kernel
theorem dX10_isSquare_6 : decode cX10_isSquare 6 = .ok (.iconst 1, 1) := by decide +kernel
theorem dX10_isSquare_7 : decode cX10_isSquare 7 = .ok (.isub, 1) := by decide +kernel
theorem dX10_isSquare_8 : decode cX10_isSquare 8 = .ok (.invokestatic 83, 3) := by decide +kernel
theorem dX10_isSquare_11 : decode cX10_isSquare 11 = .ok (.ireturn, 1) := by decide +kernel
theorem dX10_isPass_0 : decode cX10_isPass 0 = .ok (.iload_n 1, 1) := by decide +kernel
theorem dX10_isPass_1 : decode cX10_isPass 1 = .ok (.iconst 0, 1) := by decide +kernel
theorem dX10_isPass_2 : decode cX10_isPass 2 = .ok (.aload_n 0, 1) := by decide +kernel
theorem dX10_isPass_3 : decode cX10_isPass 3 = .ok (.getfield 7, 3) := by decide +kernel
theorem dX10_isPass_6 : decode cX10_isPass 6 = .ok (.iconst 3, 1) := by decide +kernel
theorem dX10_isPass_7 : decode cX10_isPass 7 = .ok (.iaload, 1) := by decide +kernel
theorem dX10_isPass_8 : decode cX10_isPass 8 = .ok (.iconst 1, 1) := by decide +kernel
theorem dX10_isPass_9 : decode cX10_isPass 9 = .ok (.isub, 1) := by decide +kernel
theorem dX10_isPass_10 : decode cX10_isPass 10 = .ok (.invokestatic 83, 3) := by decide +kernel
theorem dX10_isPass_13 : decode cX10_isPass 13 = .ok (.ireturn, 1) := by decide +kernel
theorem dX10_isLetter_0 : decode cX10_isLetter 0 = .ok (.iload_n 1, 1) := by decide +kernel
theorem dX10_isLetter_1 : decode cX10_isLetter 1 = .ok (.iconst 0, 1) := by decide +kernel
theorem dX10_isLetter_2 : decode cX10_isLetter 2 = .ok (.aload_n 0, 1) := by decide +kernel
theorem dX10_isLetter_3 : decode cX10_isLetter 3 = .ok (.getfield 7, 3) := by decide +kernel
theorem dX10_isLetter_6 : decode cX10_isLetter 6 = .ok (.iconst 4, 1) := by decide +kernel
theorem dX10_isLetter_7 : decode cX10_isLetter 7 = .ok (.iaload, 1) := by decide +kernel
theorem dX10_isLetter_8 : decode cX10_isLetter 8 = .ok (.iconst 1, 1) := by decide +kernel
theorem dX10_isLetter_9 : decode cX10_isLetter 9 = .ok (.isub, 1) := by decide +kernel
theorem dX10_isLetter_10 : decode cX10_isLetter 10 = .ok (.invokestatic 83, 3) := by decide +kernel
theorem dX10_isLetter_13 : decode cX10_isLetter 13 = .ok (.ireturn, 1) := by decide +kernel
theorem dX10_bishopsOf_0 : decode cX10_bishopsOf 0 = .ok (.iconst 0, 1) := by decide +kernel
theorem dX10_bishopsOf_1 : decode cX10_bishopsOf 1 = .ok (.istore_n 3, 1) := by decide +kernel
theorem dX10_bishopsOf_2 : decode cX10_bishopsOf 2 = .ok (.iconst 0, 1) := by decide +kernel
theorem dX10_bishopsOf_3 : decode cX10_bishopsOf 3 = .ok (.istore 4, 2) := by decide +kernel
theorem dX10_bishopsOf_5 : decode cX10_bishopsOf 5 = .ok (.iload 4, 2) := by decide +kernel
theorem dX10_bishopsOf_7 : decode cX10_bishopsOf 7 = .ok (.aload_n 0, 1) := by decide +kernel
theorem dX10_bishopsOf_8 : decode cX10_bishopsOf 8 = .ok (.invokevirtual 87, 3) := by decide +kernel
theorem dX10_bishopsOf_11 : decode cX10_bishopsOf 11 = .ok (.if_icmp .ge 23, 3) := by decide +kernel
theorem dX10_bishopsOf_14 : decode cX10_bishopsOf 14 = .ok (.aload_n 0, 1) := by decide +kernel
theorem dX10_bishopsOf_15 : decode cX10_bishopsOf 15 = .ok (.iload_n 1, 1) := by decide +kernel
theorem dX10_bishopsOf_16 : decode cX10_bishopsOf 16 = .ok (.iload 4, 2) := by decide +kernel
theorem dX10_bishopsOf_18 : decode cX10_bishopsOf 18 = .ok (.invokevirtual 90, 3) := by decide +kernel
theorem dX10_bishopsOf_21 : decode cX10_bishopsOf 21 = .ok (.iload_n 2, 1) := by decide +kernel
theorem dX10_bishopsOf_22 : decode cX10_bishopsOf 22 = .ok (.if_icmp .ne 6, 3) := by decide +kernel
theorem dX10_bishopsOf_25 : decode cX10_bishopsOf 25 = .ok (.iinc 3 1, 3) := by decide +kernel
theorem dX10_bishopsOf_28 : decode cX10_bishopsOf 28 = .ok (.iinc 4 1, 3) := by decide +kernel
theorem dX10_bishopsOf_31 : decode cX10_bishopsOf 31 = .ok (.goto (-26), 3) := by decide +kernel
theorem dX10_bishopsOf_34 : decode cX10_bishopsOf 34 = .ok (.iload_n 3, 1) := by decide +kernel
theorem dX10_bishopsOf_35 : decode cX10_bishopsOf 35 = .ok (.ireturn, 1) := by decide +kernel
theorem dX10_overOn_0 : decode cX10_overOn 0 = .ok (.aload_n 0, 1) := by decide +kernel
theorem dX10_overOn_1 : decode cX10_overOn 1 = .ok (.iload_n 1, 1) := by decide +kernel
theorem dX10_overOn_2 : decode cX10_overOn 2 = .ok (.iconst 0, 1) := by decide +kernel
theorem dX10_overOn_3 : decode cX10_overOn 3 = .ok (.invokevirtual 94, 3) := by decide +kernel
theorem dX10_overOn_6 : decode cX10_overOn 6 = .ok (.ifCond .eq 27, 3) := by decide +kernel
theorem dX10_overOn_9 : decode cX10_overOn 9 = .ok (.aload_n 0, 1) := by decide +kernel
theorem dX10_overOn_10 : decode cX10_overOn 10 = .ok (.iload_n 1, 1) := by decide +kernel
theorem dX10_overOn_11 : decode cX10_overOn 11 = .ok (.iconst 1, 1) := by decide +kernel
theorem dX10_overOn_12 : decode cX10_overOn 12 = .ok (.invokevirtual 94, 3) := by decide +kernel
theorem dX10_overOn_15 : decode cX10_overOn 15 = .ok (.ifCond .eq 18, 3) := by decide +kernel
theorem dX10_overOn_18 : decode cX10_overOn 18 = .ok (.aload_n 0, 1) := by decide +kernel
theorem dX10_overOn_19 : decode cX10_overOn 19 = .ok (.iload_n 1, 1) := by decide +kernel
theorem dX10_overOn_20 : decode cX10_overOn 20 = .ok (.iconst 0, 1) := by decide +kernel
theorem dX10_overOn_21 : decode cX10_overOn 21 = .ok (.invokevirtual 97, 3) := by decide +kernel
theorem dX10_overOn_24 : decode cX10_overOn 24 = .ok (.aload_n 0, 1) := by decide +kernel
theorem dX10_overOn_25 : decode cX10_overOn 25 = .ok (.getfield 7, 3) := by decide +kernel
theorem dX10_overOn_28 : decode cX10_overOn 28 = .ok (.iconst 1, 1) := by decide +kernel
theorem dX10_overOn_29 : decode cX10_overOn 29 = .ok (.iaload, 1) := by decide +kernel
theorem dX10_overOn_30 : decode cX10_overOn 30 = .ok (.if_icmp .ne 7, 3) := by decide +kernel
theorem dX10_overOn_33 : decode cX10_overOn 33 = .ok (.iconst 1, 1) := by decide +kernel
theorem dX10_overOn_34 : decode cX10_overOn 34 = .ok (.goto 4, 3) := by decide +kernel
theorem dX10_overOn_37 : decode cX10_overOn 37 = .ok (.iconst 0, 1) := by decide +kernel
theorem dX10_overOn_38 : decode cX10_overOn 38 = .ok (.ireturn, 1) := by decide +kernel
theorem dX10_nextNumber_0 : decode cX10_nextNumber 0 = .ok (.aload_n 0, 1) := by decide +kernel
theorem dX10_nextNumber_1 : decode cX10_nextNumber 1 = .ok (.iload_n 1, 1) := by decide +kernel
theorem dX10_nextNumber_2 : decode cX10_nextNumber 2 = .ok (.iconst 0, 1) := by decide +kernel
theorem dX10_nextNumber_3 : decode cX10_nextNumber 3 = .ok (.invokevirtual 97, 3) := by decide +kernel
theorem dX10_nextNumber_6 : decode cX10_nextNumber 6 = .ok (.iconst 1, 1) := by decide +kernel
theorem dX10_nextNumber_7 : decode cX10_nextNumber 7 = .ok (.iadd, 1) := by decide +kernel
theorem dX10_nextNumber_8 : decode cX10_nextNumber 8 = .ok (.ireturn, 1) := by decide +kernel
theorem dX10_maker_0 : decode cX10_maker 0 = .ok (.iload_n 0, 1) := by decide +kernel
theorem dX10_maker_1 : decode cX10_maker 1 = .ok (.iconst 2, 1) := by decide +kernel
theorem dX10_maker_2 : decode cX10_maker 2 = .ok (.irem, 1) := by decide +kernel
theorem dX10_maker_3 : decode cX10_maker 3 = .ok (.iconst 1, 1) := by decide +kernel
theorem dX10_maker_4 : decode cX10_maker 4 = .ok (.if_icmp .ne 7, 3) := by decide +kernel
theorem dX10_maker_7 : decode cX10_maker 7 = .ok (.iconst 0, 1) := by decide +kernel
theorem dX10_maker_8 : decode cX10_maker 8 = .ok (.goto 4, 3) := by decide +kernel
theorem dX10_maker_11 : decode cX10_maker 11 = .ok (.iconst 1, 1) := by decide +kernel
theorem dX10_maker_12 : decode cX10_maker 12 = .ok (.ireturn, 1) := by decide +kernel
theorem dX10_turnOf_0 : decode cX10_turnOf 0 = .ok (.aload_n 0, 1) := by decide +kernel
theorem dX10_turnOf_1 : decode cX10_turnOf 1 = .ok (.iload_n 1, 1) := by decide +kernel
theorem dX10_turnOf_2 : decode cX10_turnOf 2 = .ok (.invokevirtual 100, 3) := by decide +kernel
theorem dX10_turnOf_5 : decode cX10_turnOf 5 = .ok (.ifCond .ne 19, 3) := by decide +kernel
theorem dX10_turnOf_8 : decode cX10_turnOf 8 = .ok (.aload_n 0, 1) := by decide +kernel
theorem dX10_turnOf_9 : decode cX10_turnOf 9 = .ok (.iload_n 1, 1) := by decide +kernel
theorem dX10_turnOf_10 : decode cX10_turnOf 10 = .ok (.invokevirtual 104, 3) := by decide +kernel
theorem dX10_turnOf_13 : decode cX10_turnOf 13 = .ok (.invokestatic 108, 3) := by decide +kernel
theorem dX10_turnOf_16 : decode cX10_turnOf 16 = .ok (.iload_n 1, 1) := by decide +kernel
theorem dX10_turnOf_17 : decode cX10_turnOf 17 = .ok (.if_icmp .ne 7, 3) := by decide +kernel
theorem dX10_turnOf_20 : decode cX10_turnOf 20 = .ok (.iconst 1, 1) := by decide +kernel
theorem dX10_turnOf_21 : decode cX10_turnOf 21 = .ok (.goto 4, 3) := by decide +kernel
theorem dX10_turnOf_24 : decode cX10_turnOf 24 = .ok (.iconst 0, 1) := by decide +kernel
theorem dX10_turnOf_25 : decode cX10_turnOf 25 = .ok (.ireturn, 1) := by decide +kernel
theorem dX10_isEmptyBetween_0 : decode cX10_isEmptyBetween 0 = .ok (.iload_n 2, 1) := by decide +kernel
theorem dX10_isEmptyBetween_1 : decode cX10_isEmptyBetween 1 = .ok (.iload 4, 2) := by decide +kernel
theorem dX10_isEmptyBetween_3 : decode cX10_isEmptyBetween 3 = .ok (.iadd, 1) := by decide +kernel
theorem dX10_isEmptyBetween_4 : decode cX10_isEmptyBetween 4 = .ok (.istore 5, 2) := by decide +kernel
theorem dX10_isEmptyBetween_6 : decode cX10_isEmptyBetween 6 = .ok (.iload 5, 2) := by decide +kernel
theorem dX10_isEmptyBetween_8 : decode cX10_isEmptyBetween 8 = .ok (.iload_n 3, 1) := by decide +kernel
theorem dX10_isEmptyBetween_9 : decode cX10_isEmptyBetween 9 = .ok (.if_icmp .eq 26, 3) := by decide +kernel
theorem dX10_isEmptyBetween_12 : decode cX10_isEmptyBetween 12 = .ok (.aload_n 0, 1) := by decide +kernel
theorem dX10_isEmptyBetween_13 : decode cX10_isEmptyBetween 13 = .ok (.iload_n 1, 1) := by decide +kernel
theorem dX10_isEmptyBetween_14 : decode cX10_isEmptyBetween 14 = .ok (.iload 5, 2) := by decide +kernel
theorem dX10_isEmptyBetween_16 : decode cX10_isEmptyBetween 16 = .ok (.invokevirtual 90, 3) := by decide +kernel
theorem dX10_isEmptyBetween_19 : decode cX10_isEmptyBetween 19 = .ok (.iconst (-1), 1) := by decide +kernel
theorem dX10_isEmptyBetween_20 : decode cX10_isEmptyBetween 20 = .ok (.if_icmp .eq 5, 3) := by decide +kernel
theorem dX10_isEmptyBetween_23 : decode cX10_isEmptyBetween 23 = .ok (.iconst 0, 1) := by decide +kernel
theorem dX10_isEmptyBetween_24 : decode cX10_isEmptyBetween 24 = .ok (.ireturn, 1) := by decide +kernel
theorem dX10_isEmptyBetween_25 : decode cX10_isEmptyBetween 25 = .ok (.iload 5, 2) := by decide +kernel
theorem dX10_isEmptyBetween_27 : decode cX10_isEmptyBetween 27 = .ok (.iload 4, 2) := by decide +kernel
theorem dX10_isEmptyBetween_29 : decode cX10_isEmptyBetween 29 = .ok (.iadd, 1) := by decide +kernel
theorem dX10_isEmptyBetween_30 : decode cX10_isEmptyBetween 30 = .ok (.istore 5, 2) := by decide +kernel
theorem dX10_isEmptyBetween_32 : decode cX10_isEmptyBetween 32 = .ok (.goto (-26), 3) := by decide +kernel
theorem dX10_isEmptyBetween_35 : decode cX10_isEmptyBetween 35 = .ok (.iconst 1, 1) := by decide +kernel
theorem dX10_isEmptyBetween_36 : decode cX10_isEmptyBetween 36 = .ok (.ireturn, 1) := by decide +kernel
theorem dX10_moves_0 : decode cX10_moves 0 = .ok (.aload_n 0, 1) := by decide +kernel
theorem dX10_moves_1 : decode cX10_moves 1 = .ok (.getfield 7, 3) := by decide +kernel
theorem dX10_moves_4 : decode cX10_moves 4 = .ok (.iconst 0, 1) := by decide +kernel
theorem dX10_moves_5 : decode cX10_moves 5 = .ok (.iaload, 1) := by decide +kernel
theorem dX10_moves_6 : decode cX10_moves 6 = .ok (.istore 5, 2) := by decide +kernel
theorem dX10_moves_8 : decode cX10_moves 8 = .ok (.iload 4, 2) := by decide +kernel
theorem dX10_moves_10 : decode cX10_moves 10 = .ok (.iload 5, 2) := by decide +kernel
theorem dX10_moves_12 : decode cX10_moves 12 = .ok (.idiv, 1) := by decide +kernel
theorem dX10_moves_13 : decode cX10_moves 13 = .ok (.iload_n 3, 1) := by decide +kernel
theorem dX10_moves_14 : decode cX10_moves 14 = .ok (.iload 5, 2) := by decide +kernel
theorem dX10_moves_16 : decode cX10_moves 16 = .ok (.idiv, 1) := by decide +kernel
theorem dX10_moves_17 : decode cX10_moves 17 = .ok (.isub, 1) := by decide +kernel
theorem dX10_moves_18 : decode cX10_moves 18 = .ok (.istore 6, 2) := by decide +kernel
theorem dX10_moves_20 : decode cX10_moves 20 = .ok (.iload 4, 2) := by decide +kernel
theorem dX10_moves_22 : decode cX10_moves 22 = .ok (.iload 5, 2) := by decide +kernel
theorem dX10_moves_24 : decode cX10_moves 24 = .ok (.irem, 1) := by decide +kernel
theorem dX10_moves_25 : decode cX10_moves 25 = .ok (.iload_n 3, 1) := by decide +kernel
theorem dX10_moves_26 : decode cX10_moves 26 = .ok (.iload 5, 2) := by decide +kernel
theorem dX10_moves_28 : decode cX10_moves 28 = .ok (.irem, 1) := by decide +kernel
theorem dX10_moves_29 : decode cX10_moves 29 = .ok (.isub, 1) := by decide +kernel
theorem dX10_moves_30 : decode cX10_moves 30 = .ok (.istore 7, 2) := by decide +kernel
theorem dX10_moves_32 : decode cX10_moves 32 = .ok (.aload_n 0, 1) := by decide +kernel
theorem dX10_moves_33 : decode cX10_moves 33 = .ok (.iload_n 1, 1) := by decide +kernel
theorem dX10_moves_34 : decode cX10_moves 34 = .ok (.iload_n 3, 1) := by decide +kernel
theorem dX10_moves_35 : decode cX10_moves 35 = .ok (.invokevirtual 90, 3) := by decide +kernel
theorem dX10_moves_38 : decode cX10_moves 38 = .ok (.iload_n 2, 1) := by decide +kernel
theorem dX10_moves_39 : decode cX10_moves 39 = .ok (.if_icmp .ne 37, 3) := by decide +kernel
theorem dX10_moves_42 : decode cX10_moves 42 = .ok (.iload_n 2, 1) := by decide +kernel
theorem dX10_moves_43 : decode cX10_moves 43 = .ok (.iconst (-1), 1) := by decide +kernel
theorem dX10_moves_44 : decode cX10_moves 44 = .ok (.if_icmp .eq 32, 3) := by decide +kernel
theorem dX10_moves_47 : decode cX10_moves 47 = .ok (.iload 6, 2) := by decide +kernel
theorem dX10_moves_49 : decode cX10_moves 49 = .ok (.ifCond .eq 27, 3) := by decide +kernel
theorem dX10_moves_52 : decode cX10_moves 52 = .ok (.iload 6, 2) := by decide +kernel
theorem dX10_moves_54 : decode cX10_moves 54 = .ok (.invokestatic 111, 3) := by decide +kernel
theorem dX10_moves_57 : decode cX10_moves 57 = .ok (.iload 7, 2) := by decide +kernel
theorem dX10_moves_59 : decode cX10_moves 59 = .ok (.invokestatic 111, 3) := by decide +kernel
theorem dX10_moves_62 : decode cX10_moves 62 = .ok (.if_icmp .ne 14, 3) := by decide +kernel
theorem dX10_moves_65 : decode cX10_moves 65 = .ok (.aload_n 0, 1) := by decide +kernel
theorem dX10_moves_66 : decode cX10_moves 66 = .ok (.iload_n 1, 1) := by decide +kernel
theorem dX10_moves_67 : decode cX10_moves 67 = .ok (.iload 4, 2) := by decide +kernel
theorem dX10_moves_69 : decode cX10_moves 69 = .ok (.invokevirtual 90, 3) := by decide +kernel
theorem dX10_moves_72 : decode cX10_moves 72 = .ok (.iload_n 2, 1) := by decide +kernel
theorem dX10_moves_73 : decode cX10_moves 73 = .ok (.if_icmp .ne 5, 3) := by decide +kernel
theorem dX10_moves_76 : decode cX10_moves 76 = .ok (.iconst 0, 1) := by decide +kernel
theorem dX10_moves_77 : decode cX10_moves 77 = .ok (.ireturn, 1) := by decide +kernel
theorem dX10_moves_78 : decode cX10_moves 78 = .ok (.aload_n 0, 1) := by decide +kernel
theorem dX10_moves_79 : decode cX10_moves 79 = .ok (.iload_n 1, 1) := by decide +kernel
theorem dX10_moves_80 : decode cX10_moves 80 = .ok (.iload_n 3, 1) := by decide +kernel
theorem dX10_moves_81 : decode cX10_moves 81 = .ok (.iload 4, 2) := by decide +kernel
theorem dX10_moves_83 : decode cX10_moves 83 = .ok (.iload 6, 2) := by decide +kernel
theorem dX10_moves_85 : decode cX10_moves 85 = .ok (.ifCond .le 8, 3) := by decide +kernel
theorem dX10_moves_88 : decode cX10_moves 88 = .ok (.iload 5, 2) := by decide +kernel
theorem dX10_moves_90 : decode cX10_moves 90 = .ok (.goto 6, 3) := by decide +kernel
theorem dX10_moves_93 : decode cX10_moves 93 = .ok (.iload 5, 2) := by decide +kernel
theorem dX10_moves_95 : decode cX10_moves 95 = .ok (.ineg, 1) := by decide +kernel
theorem dX10_moves_96 : decode cX10_moves 96 = .ok (.iload 7, 2) := by decide +kernel
theorem dX10_moves_98 : decode cX10_moves 98 = .ok (.ifCond .le 7, 3) := by decide +kernel
theorem dX10_moves_101 : decode cX10_moves 101 = .ok (.iconst 1, 1) := by decide +kernel
theorem dX10_moves_102 : decode cX10_moves 102 = .ok (.goto 4, 3) := by decide +kernel
theorem dX10_moves_105 : decode cX10_moves 105 = .ok (.iconst (-1), 1) := by decide +kernel
theorem dX10_moves_106 : decode cX10_moves 106 = .ok (.iadd, 1) := by decide +kernel
theorem dX10_moves_107 : decode cX10_moves 107 = .ok (.invokevirtual 116, 3) := by decide +kernel
theorem dX10_moves_110 : decode cX10_moves 110 = .ok (.ireturn, 1) := by decide +kernel
theorem dX10_applies_0 : decode cX10_applies 0 = .ok (.aload_n 0, 1) := by decide +kernel
theorem dX10_applies_1 : decode cX10_applies 1 = .ok (.iload_n 1, 1) := by decide +kernel
theorem dX10_applies_2 : decode cX10_applies 2 = .ok (.iload_n 2, 1) := by decide +kernel
theorem dX10_applies_3 : decode cX10_applies 3 = .ok (.invokevirtual 90, 3) := by decide +kernel
theorem dX10_applies_6 : decode cX10_applies 6 = .ok (.istore 4, 2) := by decide +kernel
theorem dX10_applies_8 : decode cX10_applies 8 = .ok (.aload_n 0, 1) := by decide +kernel
theorem dX10_applies_9 : decode cX10_applies 9 = .ok (.iload_n 1, 1) := by decide +kernel
theorem dX10_applies_10 : decode cX10_applies 10 = .ok (.iload_n 3, 1) := by decide +kernel
theorem dX10_applies_11 : decode cX10_applies 11 = .ok (.invokevirtual 90, 3) := by decide +kernel
theorem dX10_applies_14 : decode cX10_applies 14 = .ok (.iconst (-1), 1) := by decide +kernel
theorem dX10_applies_15 : decode cX10_applies 15 = .ok (.if_icmp .eq 7, 3) := by decide +kernel
theorem dX10_applies_18 : decode cX10_applies 18 = .ok (.iconst 1, 1) := by decide +kernel
theorem dX10_applies_19 : decode cX10_applies 19 = .ok (.goto 4, 3) := by decide +kernel
theorem dX10_applies_22 : decode cX10_applies 22 = .ok (.iconst 0, 1) := by decide +kernel
theorem dX10_applies_23 : decode cX10_applies 23 = .ok (.istore 5, 2) := by decide +kernel
theorem dX10_applies_25 : decode cX10_applies 25 = .ok (.aload_n 0, 1) := by decide +kernel
theorem dX10_applies_26 : decode cX10_applies 26 = .ok (.iload_n 1, 1) := by decide +kernel
theorem dX10_applies_27 : decode cX10_applies 27 = .ok (.invokevirtual 104, 3) := by decide +kernel
theorem dX10_applies_30 : decode cX10_applies 30 = .ok (.istore 6, 2) := by decide +kernel
theorem dX10_applies_32 : decode cX10_applies 32 = .ok (.aload_n 0, 1) := by decide +kernel
theorem dX10_applies_33 : decode cX10_applies 33 = .ok (.getfield 7, 3) := by decide +kernel
theorem dX10_applies_36 : decode cX10_applies 36 = .ok (.sipush 154, 3) := by decide +kernel
theorem dX10_applies_39 : decode cX10_applies 39 = .ok (.sipush 180, 3) := by decide +kernel
theorem dX10_applies_42 : decode cX10_applies 42 = .ok (.iload_n 1, 1) := by decide +kernel
theorem dX10_applies_43 : decode cX10_applies 43 = .ok (.imul, 1) := by decide +kernel
theorem dX10_applies_44 : decode cX10_applies 44 = .ok (.iadd, 1) := by decide +kernel
theorem dX10_applies_45 : decode cX10_applies 45 = .ok (.iconst 3, 1) := by decide +kernel
theorem dX10_applies_46 : decode cX10_applies 46 = .ok (.iload 6, 2) := by decide +kernel
theorem dX10_applies_48 : decode cX10_applies 48 = .ok (.iconst 1, 1) := by decide +kernel
theorem dX10_applies_49 : decode cX10_applies 49 = .ok (.isub, 1) := by decide +kernel
theorem dX10_applies_50 : decode cX10_applies 50 = .ok (.imul, 1) := by decide +kernel
theorem dX10_applies_51 : decode cX10_applies 51 = .ok (.iadd, 1) := by decide +kernel
theorem dX10_applies_52 : decode cX10_applies 52 = .ok (.iload_n 2, 1) := by decide +kernel
theorem dX10_applies_53 : decode cX10_applies 53 = .ok (.iastore, 1) := by decide +kernel
theorem dX10_applies_54 : decode cX10_applies 54 = .ok (.aload_n 0, 1) := by decide +kernel
theorem dX10_applies_55 : decode cX10_applies 55 = .ok (.getfield 7, 3) := by decide +kernel
theorem dX10_applies_58 : decode cX10_applies 58 = .ok (.sipush 154, 3) := by decide +kernel
theorem dX10_applies_61 : decode cX10_applies 61 = .ok (.sipush 180, 3) := by decide +kernel
theorem dX10_applies_64 : decode cX10_applies 64 = .ok (.iload_n 1, 1) := by decide +kernel
theorem dX10_applies_65 : decode cX10_applies 65 = .ok (.imul, 1) := by decide +kernel
theorem dX10_applies_66 : decode cX10_applies 66 = .ok (.iadd, 1) := by decide +kernel
theorem dX10_applies_67 : decode cX10_applies 67 = .ok (.iconst 3, 1) := by decide +kernel
theorem dX10_applies_68 : decode cX10_applies 68 = .ok (.iload 6, 2) := by decide +kernel
theorem dX10_applies_70 : decode cX10_applies 70 = .ok (.iconst 1, 1) := by decide +kernel
theorem dX10_applies_71 : decode cX10_applies 71 = .ok (.isub, 1) := by decide +kernel
theorem dX10_applies_72 : decode cX10_applies 72 = .ok (.imul, 1) := by decide +kernel
theorem dX10_applies_73 : decode cX10_applies 73 = .ok (.iadd, 1) := by decide +kernel
theorem dX10_applies_74 : decode cX10_applies 74 = .ok (.iconst 1, 1) := by decide +kernel
theorem dX10_applies_75 : decode cX10_applies 75 = .ok (.iadd, 1) := by decide +kernel
theorem dX10_applies_76 : decode cX10_applies 76 = .ok (.iload_n 3, 1) := by decide +kernel
theorem dX10_applies_77 : decode cX10_applies 77 = .ok (.iastore, 1) := by decide +kernel
theorem dX10_applies_78 : decode cX10_applies 78 = .ok (.aload_n 0, 1) := by decide +kernel
theorem dX10_applies_79 : decode cX10_applies 79 = .ok (.getfield 7, 3) := by decide +kernel
theorem dX10_applies_82 : decode cX10_applies 82 = .ok (.sipush 154, 3) := by decide +kernel
theorem dX10_applies_85 : decode cX10_applies 85 = .ok (.sipush 180, 3) := by decide +kernel
theorem dX10_applies_88 : decode cX10_applies 88 = .ok (.iload_n 1, 1) := by decide +kernel
theorem dX10_applies_89 : decode cX10_applies 89 = .ok (.imul, 1) := by decide +kernel
theorem dX10_applies_90 : decode cX10_applies 90 = .ok (.iadd, 1) := by decide +kernel
theorem dX10_applies_91 : decode cX10_applies 91 = .ok (.iconst 3, 1) := by decide +kernel
theorem dX10_applies_92 : decode cX10_applies 92 = .ok (.iload 6, 2) := by decide +kernel
theorem dX10_applies_94 : decode cX10_applies 94 = .ok (.iconst 1, 1) := by decide +kernel
theorem dX10_applies_95 : decode cX10_applies 95 = .ok (.isub, 1) := by decide +kernel
theorem dX10_applies_96 : decode cX10_applies 96 = .ok (.imul, 1) := by decide +kernel
theorem dX10_applies_97 : decode cX10_applies 97 = .ok (.iadd, 1) := by decide +kernel
theorem dX10_applies_98 : decode cX10_applies 98 = .ok (.iconst 2, 1) := by decide +kernel
theorem dX10_applies_99 : decode cX10_applies 99 = .ok (.iadd, 1) := by decide +kernel
theorem dX10_applies_100 : decode cX10_applies 100 = .ok (.iload 5, 2) := by decide +kernel
theorem dX10_applies_102 : decode cX10_applies 102 = .ok (.ifCond .eq 7, 3) := by decide +kernel
theorem dX10_applies_105 : decode cX10_applies 105 = .ok (.iconst 1, 1) := by decide +kernel
theorem dX10_applies_106 : decode cX10_applies 106 = .ok (.goto 4, 3) := by decide +kernel
theorem dX10_applies_109 : decode cX10_applies 109 = .ok (.iconst 0, 1) := by decide +kernel
theorem dX10_applies_110 : decode cX10_applies 110 = .ok (.iastore, 1) := by decide +kernel
theorem dX10_applies_111 : decode cX10_applies 111 = .ok (.aload_n 0, 1) := by decide +kernel
theorem dX10_applies_112 : decode cX10_applies 112 = .ok (.iload_n 1, 1) := by decide +kernel
theorem dX10_applies_113 : decode cX10_applies 113 = .ok (.iload_n 3, 1) := by decide +kernel
theorem dX10_applies_114 : decode cX10_applies 114 = .ok (.iload 4, 2) := by decide +kernel
theorem dX10_applies_116 : decode cX10_applies 116 = .ok (.invokevirtual 120, 3) := by decide +kernel
theorem dX10_applies_119 : decode cX10_applies 119 = .ok (.aload_n 0, 1) := by decide +kernel
theorem dX10_applies_120 : decode cX10_applies 120 = .ok (.iload_n 1, 1) := by decide +kernel
theorem dX10_applies_121 : decode cX10_applies 121 = .ok (.iload_n 2, 1) := by decide +kernel
theorem dX10_applies_122 : decode cX10_applies 122 = .ok (.iconst (-1), 1) := by decide +kernel
theorem dX10_applies_123 : decode cX10_applies 123 = .ok (.invokevirtual 120, 3) := by decide +kernel
theorem dX10_applies_126 : decode cX10_applies 126 = .ok (.aload_n 0, 1) := by decide +kernel
theorem dX10_applies_127 : decode cX10_applies 127 = .ok (.iload_n 1, 1) := by decide +kernel
theorem dX10_applies_128 : decode cX10_applies 128 = .ok (.iconst 0, 1) := by decide +kernel
theorem dX10_applies_129 : decode cX10_applies 129 = .ok (.iload 6, 2) := by decide +kernel
theorem dX10_applies_131 : decode cX10_applies 131 = .ok (.invokevirtual 76, 3) := by decide +kernel
theorem dX10_applies_134 : decode cX10_applies 134 = .ok (.iload 5, 2) := by decide +kernel
theorem dX10_applies_136 : decode cX10_applies 136 = .ok (.ifCond .eq 17, 3) := by decide +kernel
theorem dX10_applies_139 : decode cX10_applies 139 = .ok (.aload_n 0, 1) := by decide +kernel
theorem dX10_applies_140 : decode cX10_applies 140 = .ok (.iload_n 1, 1) := by decide +kernel
theorem dX10_applies_141 : decode cX10_applies 141 = .ok (.iconst 1, 1) := by decide +kernel
theorem dX10_applies_142 : decode cX10_applies 142 = .ok (.aload_n 0, 1) := by decide +kernel
theorem dX10_applies_143 : decode cX10_applies 143 = .ok (.iload_n 1, 1) := by decide +kernel
theorem dX10_applies_144 : decode cX10_applies 144 = .ok (.iconst 1, 1) := by decide +kernel
theorem dX10_applies_145 : decode cX10_applies 145 = .ok (.invokevirtual 97, 3) := by decide +kernel
theorem dX10_applies_148 : decode cX10_applies 148 = .ok (.iconst 1, 1) := by decide +kernel
theorem dX10_applies_149 : decode cX10_applies 149 = .ok (.iadd, 1) := by decide +kernel
theorem dX10_applies_150 : decode cX10_applies 150 = .ok (.invokevirtual 76, 3) := by decide +kernel
theorem dX10_applies_153 : decode cX10_applies 153 = .ok (.iload 6, 2) := by decide +kernel
theorem dX10_applies_155 : decode cX10_applies 155 = .ok (.invokestatic 108, 3) := by decide +kernel
theorem dX10_applies_158 : decode cX10_applies 158 = .ok (.iload_n 1, 1) := by decide +kernel
theorem dX10_applies_159 : decode cX10_applies 159 = .ok (.if_icmp .ne 18, 3) := by decide +kernel
theorem dX10_applies_162 : decode cX10_applies 162 = .ok (.aload_n 0, 1) := by decide +kernel
theorem dX10_applies_163 : decode cX10_applies 163 = .ok (.iload_n 1, 1) := by decide +kernel
theorem dX10_applies_164 : decode cX10_applies 164 = .ok (.iconst 2, 1) := by decide +kernel
theorem dX10_applies_165 : decode cX10_applies 165 = .ok (.aload_n 0, 1) := by decide +kernel
theorem dX10_applies_166 : decode cX10_applies 166 = .ok (.getfield 7, 3) := by decide +kernel
theorem dX10_applies_169 : decode cX10_applies 169 = .ok (.iconst 2, 1) := by decide +kernel
theorem dX10_applies_170 : decode cX10_applies 170 = .ok (.iaload, 1) := by decide +kernel
theorem dX10_applies_171 : decode cX10_applies 171 = .ok (.invokevirtual 76, 3) := by decide +kernel
theorem dX10_applies_174 : decode cX10_applies 174 = .ok (.goto 31, 3) := by decide +kernel
theorem dX10_applies_177 : decode cX10_applies 177 = .ok (.aload_n 0, 1) := by decide +kernel
theorem dX10_applies_178 : decode cX10_applies 178 = .ok (.iload_n 1, 1) := by decide +kernel
theorem dX10_applies_179 : decode cX10_applies 179 = .ok (.iconst 2, 1) := by decide +kernel
theorem dX10_applies_180 : decode cX10_applies 180 = .ok (.invokevirtual 97, 3) := by decide +kernel
theorem dX10_applies_183 : decode cX10_applies 183 = .ok (.iconst (-1), 1) := by decide +kernel
theorem dX10_applies_184 : decode cX10_applies 184 = .ok (.if_icmp .eq 21, 3) := by decide +kernel
theorem dX10_applies_187 : decode cX10_applies 187 = .ok (.aload_n 0, 1) := by decide +kernel
theorem dX10_applies_188 : decode cX10_applies 188 = .ok (.iload_n 1, 1) := by decide +kernel
theorem dX10_applies_189 : decode cX10_applies 189 = .ok (.aload_n 0, 1) := by decide +kernel
theorem dX10_applies_190 : decode cX10_applies 190 = .ok (.getfield 7, 3) := by decide +kernel
theorem dX10_applies_193 : decode cX10_applies 193 = .ok (.iconst 2, 1) := by decide +kernel
theorem dX10_applies_194 : decode cX10_applies 194 = .ok (.iaload, 1) := by decide +kernel
theorem dX10_applies_195 : decode cX10_applies 195 = .ok (.aload_n 0, 1) := by decide +kernel
theorem dX10_applies_196 : decode cX10_applies 196 = .ok (.iload_n 1, 1) := by decide +kernel
theorem dX10_applies_197 : decode cX10_applies 197 = .ok (.iconst 2, 1) := by decide +kernel
theorem dX10_applies_198 : decode cX10_applies 198 = .ok (.invokevirtual 97, 3) := by decide +kernel
theorem dX10_applies_201 : decode cX10_applies 201 = .ok (.isub, 1) := by decide +kernel
theorem dX10_applies_202 : decode cX10_applies 202 = .ok (.invokevirtual 123, 3) := by decide +kernel
theorem dX10_applies_205 : decode cX10_applies 205 = .ok (.return_, 1) := by decide +kernel
theorem dX10_waits_0 : decode cX10_waits 0 = .ok (.aload_n 0, 1) := by decide +kernel
theorem dX10_waits_1 : decode cX10_waits 1 = .ok (.iload_n 1, 1) := by decide +kernel
theorem dX10_waits_2 : decode cX10_waits 2 = .ok (.iconst 3, 1) := by decide +kernel
theorem dX10_waits_3 : decode cX10_waits 3 = .ok (.aload_n 0, 1) := by decide +kernel
theorem dX10_waits_4 : decode cX10_waits 4 = .ok (.iload_n 1, 1) := by decide +kernel
theorem dX10_waits_5 : decode cX10_waits 5 = .ok (.iconst 3, 1) := by decide +kernel
theorem dX10_waits_6 : decode cX10_waits 6 = .ok (.invokevirtual 97, 3) := by decide +kernel
theorem dX10_waits_9 : decode cX10_waits 9 = .ok (.iload_n 2, 1) := by decide +kernel
theorem dX10_waits_10 : decode cX10_waits 10 = .ok (.invokestatic 127, 3) := by decide +kernel
theorem dX10_waits_13 : decode cX10_waits 13 = .ok (.invokevirtual 76, 3) := by decide +kernel
theorem dX10_waits_16 : decode cX10_waits 16 = .ok (.aload_n 0, 1) := by decide +kernel
theorem dX10_waits_17 : decode cX10_waits 17 = .ok (.iload_n 1, 1) := by decide +kernel
theorem dX10_waits_18 : decode cX10_waits 18 = .ok (.iconst 4, 1) := by decide +kernel
theorem dX10_waits_19 : decode cX10_waits 19 = .ok (.aload_n 0, 1) := by decide +kernel
theorem dX10_waits_20 : decode cX10_waits 20 = .ok (.iload_n 1, 1) := by decide +kernel
theorem dX10_waits_21 : decode cX10_waits 21 = .ok (.iconst 4, 1) := by decide +kernel
theorem dX10_waits_22 : decode cX10_waits 22 = .ok (.invokevirtual 97, 3) := by decide +kernel
theorem dX10_waits_25 : decode cX10_waits 25 = .ok (.iload_n 2, 1) := by decide +kernel
theorem dX10_waits_26 : decode cX10_waits 26 = .ok (.iadd, 1) := by decide +kernel
theorem dX10_waits_27 : decode cX10_waits 27 = .ok (.invokevirtual 76, 3) := by decide +kernel
theorem dX10_waits_30 : decode cX10_waits 30 = .ok (.aload_n 0, 1) := by decide +kernel
theorem dX10_waits_31 : decode cX10_waits 31 = .ok (.iload_n 1, 1) := by decide +kernel
theorem dX10_waits_32 : decode cX10_waits 32 = .ok (.iconst 5, 1) := by decide +kernel
theorem dX10_waits_33 : decode cX10_waits 33 = .ok (.aload_n 0, 1) := by decide +kernel
theorem dX10_waits_34 : decode cX10_waits 34 = .ok (.iload_n 1, 1) := by decide +kernel
theorem dX10_waits_35 : decode cX10_waits 35 = .ok (.iconst 5, 1) := by decide +kernel
theorem dX10_waits_36 : decode cX10_waits 36 = .ok (.invokevirtual 97, 3) := by decide +kernel
theorem dX10_waits_39 : decode cX10_waits 39 = .ok (.iconst 1, 1) := by decide +kernel
theorem dX10_waits_40 : decode cX10_waits 40 = .ok (.iadd, 1) := by decide +kernel
theorem dX10_waits_41 : decode cX10_waits 41 = .ok (.invokevirtual 76, 3) := by decide +kernel
theorem dX10_waits_44 : decode cX10_waits 44 = .ok (.return_, 1) := by decide +kernel
theorem dX10_isDue_0 : decode cX10_isDue 0 = .ok (.aload_n 0, 1) := by decide +kernel
theorem dX10_isDue_1 : decode cX10_isDue 1 = .ok (.iload_n 2, 1) := by decide +kernel
theorem dX10_isDue_2 : decode cX10_isDue 2 = .ok (.iload_n 2, 1) := by decide +kernel
theorem dX10_isDue_3 : decode cX10_isDue 3 = .ok (.invokestatic 108, 3) := by decide +kernel
theorem dX10_isDue_6 : decode cX10_isDue 6 = .ok (.iload_n 1, 1) := by decide +kernel
theorem dX10_isDue_7 : decode cX10_isDue 7 = .ok (.if_icmp .ne 7, 3) := by decide +kernel
theorem dX10_isDue_10 : decode cX10_isDue 10 = .ok (.iconst 4, 1) := by decide +kernel
theorem dX10_isDue_11 : decode cX10_isDue 11 = .ok (.goto 4, 3) := by decide +kernel
theorem dX10_isDue_14 : decode cX10_isDue 14 = .ok (.iconst 5, 1) := by decide +kernel
theorem dX10_isDue_15 : decode cX10_isDue 15 = .ok (.invokevirtual 130, 3) := by decide +kernel
theorem dX10_isDue_18 : decode cX10_isDue 18 = .ok (.ifCond .eq 8, 3) := by decide +kernel
theorem dX10_isDue_21 : decode cX10_isDue 21 = .ok (.iload_n 2, 1) := by decide +kernel
theorem dX10_isDue_22 : decode cX10_isDue 22 = .ok (.iconst 2, 1) := by decide +kernel
theorem dX10_isDue_23 : decode cX10_isDue 23 = .ok (.if_icmp .ge 5, 3) := by decide +kernel
theorem dX10_isDue_26 : decode cX10_isDue 26 = .ok (.iconst 0, 1) := by decide +kernel
theorem dX10_isDue_27 : decode cX10_isDue 27 = .ok (.ireturn, 1) := by decide +kernel
theorem dX10_isDue_28 : decode cX10_isDue 28 = .ok (.aload_n 0, 1) := by decide +kernel
theorem dX10_isDue_29 : decode cX10_isDue 29 = .ok (.iload_n 1, 1) := by decide +kernel
theorem dX10_isDue_30 : decode cX10_isDue 30 = .ok (.iload_n 2, 1) := by decide +kernel
theorem dX10_isDue_31 : decode cX10_isDue 31 = .ok (.iconst 1, 1) := by decide +kernel
theorem dX10_isDue_32 : decode cX10_isDue 32 = .ok (.isub, 1) := by decide +kernel
theorem dX10_isDue_33 : decode cX10_isDue 33 = .ok (.iconst 0, 1) := by decide +kernel
theorem dX10_isDue_34 : decode cX10_isDue 34 = .ok (.invokevirtual 133, 3) := by decide +kernel
theorem dX10_isDue_37 : decode cX10_isDue 37 = .ok (.aload_n 0, 1) := by decide +kernel
theorem dX10_isDue_38 : decode cX10_isDue 38 = .ok (.iload_n 2, 1) := by decide +kernel
theorem dX10_isDue_39 : decode cX10_isDue 39 = .ok (.iconst 0, 1) := by decide +kernel
theorem dX10_isDue_40 : decode cX10_isDue 40 = .ok (.invokevirtual 130, 3) := by decide +kernel
theorem dX10_isDue_43 : decode cX10_isDue 43 = .ok (.if_icmp .ne 25, 3) := by decide +kernel
theorem dX10_isDue_46 : decode cX10_isDue 46 = .ok (.aload_n 0, 1) := by decide +kernel
theorem dX10_isDue_47 : decode cX10_isDue 47 = .ok (.iload_n 1, 1) := by decide +kernel
theorem dX10_isDue_48 : decode cX10_isDue 48 = .ok (.iload_n 2, 1) := by decide +kernel
theorem dX10_isDue_49 : decode cX10_isDue 49 = .ok (.iconst 1, 1) := by decide +kernel
theorem dX10_isDue_50 : decode cX10_isDue 50 = .ok (.isub, 1) := by decide +kernel
theorem dX10_isDue_51 : decode cX10_isDue 51 = .ok (.iconst 1, 1) := by decide +kernel
theorem dX10_isDue_52 : decode cX10_isDue 52 = .ok (.invokevirtual 133, 3) := by decide +kernel
theorem dX10_isDue_55 : decode cX10_isDue 55 = .ok (.aload_n 0, 1) := by decide +kernel
theorem dX10_isDue_56 : decode cX10_isDue 56 = .ok (.iload_n 2, 1) := by decide +kernel
theorem dX10_isDue_57 : decode cX10_isDue 57 = .ok (.iconst 1, 1) := by decide +kernel
theorem dX10_isDue_58 : decode cX10_isDue 58 = .ok (.invokevirtual 130, 3) := by decide +kernel
theorem dX10_isDue_61 : decode cX10_isDue 61 = .ok (.if_icmp .ne 7, 3) := by decide +kernel
theorem dX10_isDue_64 : decode cX10_isDue 64 = .ok (.iconst 1, 1) := by decide +kernel
theorem dX10_isDue_65 : decode cX10_isDue 65 = .ok (.goto 4, 3) := by decide +kernel
theorem dX10_isDue_68 : decode cX10_isDue 68 = .ok (.iconst 0, 1) := by decide +kernel
theorem dX10_isDue_69 : decode cX10_isDue 69 = .ok (.ireturn, 1) := by decide +kernel
theorem dX10_appliesAll_0 : decode cX10_appliesAll 0 = .ok (.iconst 1, 1) := by decide +kernel
theorem dX10_appliesAll_1 : decode cX10_appliesAll 1 = .ok (.istore_n 2, 1) := by decide +kernel
theorem dX10_appliesAll_2 : decode cX10_appliesAll 2 = .ok (.iload_n 2, 1) := by decide +kernel
theorem dX10_appliesAll_3 : decode cX10_appliesAll 3 = .ok (.ifCond .eq 131, 3) := by decide +kernel
theorem dX10_appliesAll_6 : decode cX10_appliesAll 6 = .ok (.aload_n 0, 1) := by decide +kernel
theorem dX10_appliesAll_7 : decode cX10_appliesAll 7 = .ok (.iload_n 1, 1) := by decide +kernel
theorem dX10_appliesAll_8 : decode cX10_appliesAll 8 = .ok (.invokevirtual 100, 3) := by decide +kernel
theorem dX10_appliesAll_11 : decode cX10_appliesAll 11 = .ok (.ifCond .ne 123, 3) := by decide +kernel
theorem dX10_appliesAll_14 : decode cX10_appliesAll 14 = .ok (.aload_n 0, 1) := by decide +kernel
theorem dX10_appliesAll_15 : decode cX10_appliesAll 15 = .ok (.iload_n 1, 1) := by decide +kernel
theorem dX10_appliesAll_16 : decode cX10_appliesAll 16 = .ok (.invokevirtual 104, 3) := by decide +kernel
theorem dX10_appliesAll_19 : decode cX10_appliesAll 19 = .ok (.istore_n 3, 1) := by decide +kernel
theorem dX10_appliesAll_20 : decode cX10_appliesAll 20 = .ok (.aload_n 0, 1) := by decide +kernel
theorem dX10_appliesAll_21 : decode cX10_appliesAll 21 = .ok (.iload_n 1, 1) := by decide +kernel
theorem dX10_appliesAll_22 : decode cX10_appliesAll 22 = .ok (.iload_n 3, 1) := by decide +kernel
theorem dX10_appliesAll_23 : decode cX10_appliesAll 23 = .ok (.iconst 0, 1) := by decide +kernel
theorem dX10_appliesAll_24 : decode cX10_appliesAll 24 = .ok (.invokevirtual 137, 3) := by decide +kernel
theorem dX10_appliesAll_27 : decode cX10_appliesAll 27 = .ok (.istore 4, 2) := by decide +kernel
theorem dX10_appliesAll_29 : decode cX10_appliesAll 29 = .ok (.aload_n 0, 1) := by decide +kernel
theorem dX10_appliesAll_30 : decode cX10_appliesAll 30 = .ok (.iload_n 1, 1) := by decide +kernel
theorem dX10_appliesAll_31 : decode cX10_appliesAll 31 = .ok (.iload_n 3, 1) := by decide +kernel
theorem dX10_appliesAll_32 : decode cX10_appliesAll 32 = .ok (.iconst 1, 1) := by decide +kernel
theorem dX10_appliesAll_33 : decode cX10_appliesAll 33 = .ok (.invokevirtual 137, 3) := by decide +kernel
theorem dX10_appliesAll_36 : decode cX10_appliesAll 36 = .ok (.istore 5, 2) := by decide +kernel
theorem dX10_appliesAll_38 : decode cX10_appliesAll 38 = .ok (.iload 4, 2) := by decide +kernel
theorem dX10_appliesAll_40 : decode cX10_appliesAll 40 = .ok (.iconst (-1), 1) := by decide +kernel
theorem dX10_appliesAll_41 : decode cX10_appliesAll 41 = .ok (.if_icmp .ne 12, 3) := by decide +kernel
theorem dX10_appliesAll_44 : decode cX10_appliesAll 44 = .ok (.aload_n 0, 1) := by decide +kernel
theorem dX10_appliesAll_45 : decode cX10_appliesAll 45 = .ok (.iload_n 1, 1) := by decide +kernel
theorem dX10_appliesAll_46 : decode cX10_appliesAll 46 = .ok (.iload_n 3, 1) := by decide +kernel
theorem dX10_appliesAll_47 : decode cX10_appliesAll 47 = .ok (.invokevirtual 140, 3) := by decide +kernel
theorem dX10_appliesAll_50 : decode cX10_appliesAll 50 = .ok (.ifCond .eq 7, 3) := by decide +kernel
theorem dX10_appliesAll_53 : decode cX10_appliesAll 53 = .ok (.iconst 1, 1) := by decide +kernel
theorem dX10_appliesAll_54 : decode cX10_appliesAll 54 = .ok (.goto 4, 3) := by decide +kernel
theorem dX10_appliesAll_57 : decode cX10_appliesAll 57 = .ok (.iconst 0, 1) := by decide +kernel
theorem dX10_appliesAll_58 : decode cX10_appliesAll 58 = .ok (.istore_n 2, 1) := by decide +kernel
theorem dX10_appliesAll_59 : decode cX10_appliesAll 59 = .ok (.iload_n 2, 1) := by decide +kernel
theorem dX10_appliesAll_60 : decode cX10_appliesAll 60 = .ok (.ifCond .ne 4, 3) := by decide +kernel
theorem dX10_appliesAll_63 : decode cX10_appliesAll 63 = .ok (.return_, 1) := by decide +kernel
theorem dX10_appliesAll_64 : decode cX10_appliesAll 64 = .ok (.aload_n 0, 1) := by decide +kernel
theorem dX10_appliesAll_65 : decode cX10_appliesAll 65 = .ok (.iload_n 1, 1) := by decide +kernel
theorem dX10_appliesAll_66 : decode cX10_appliesAll 66 = .ok (.iload_n 3, 1) := by decide +kernel
theorem dX10_appliesAll_67 : decode cX10_appliesAll 67 = .ok (.iconst (-1), 1) := by decide +kernel
theorem dX10_appliesAll_68 : decode cX10_appliesAll 68 = .ok (.iconst (-1), 1) := by decide +kernel
theorem dX10_appliesAll_69 : decode cX10_appliesAll 69 = .ok (.invokevirtual 144, 3) := by decide +kernel
theorem dX10_appliesAll_72 : decode cX10_appliesAll 72 = .ok (.iload 4, 2) := by decide +kernel
theorem dX10_appliesAll_74 : decode cX10_appliesAll 74 = .ok (.iconst (-1), 1) := by decide +kernel
theorem dX10_appliesAll_75 : decode cX10_appliesAll 75 = .ok (.if_icmp .eq 15, 3) := by decide +kernel
theorem dX10_appliesAll_78 : decode cX10_appliesAll 78 = .ok (.aload_n 0, 1) := by decide +kernel
theorem dX10_appliesAll_79 : decode cX10_appliesAll 79 = .ok (.iload_n 1, 1) := by decide +kernel
theorem dX10_appliesAll_80 : decode cX10_appliesAll 80 = .ok (.iload 4, 2) := by decide +kernel
theorem dX10_appliesAll_82 : decode cX10_appliesAll 82 = .ok (.iload 5, 2) := by decide +kernel
theorem dX10_appliesAll_84 : decode cX10_appliesAll 84 = .ok (.invokevirtual 148, 3) := by decide +kernel
theorem dX10_appliesAll_87 : decode cX10_appliesAll 87 = .ok (.goto 44, 3) := by decide +kernel
theorem dX10_appliesAll_90 : decode cX10_appliesAll 90 = .ok (.aload_n 0, 1) := by decide +kernel
theorem dX10_appliesAll_91 : decode cX10_appliesAll 91 = .ok (.iload_n 1, 1) := by decide +kernel
theorem dX10_appliesAll_92 : decode cX10_appliesAll 92 = .ok (.aload_n 0, 1) := by decide +kernel
theorem dX10_appliesAll_93 : decode cX10_appliesAll 93 = .ok (.iload_n 3, 1) := by decide +kernel
theorem dX10_appliesAll_94 : decode cX10_appliesAll 94 = .ok (.iconst 2, 1) := by decide +kernel
theorem dX10_appliesAll_95 : decode cX10_appliesAll 95 = .ok (.invokevirtual 130, 3) := by decide +kernel
theorem dX10_appliesAll_98 : decode cX10_appliesAll 98 = .ok (.aload_n 0, 1) := by decide +kernel
theorem dX10_appliesAll_99 : decode cX10_appliesAll 99 = .ok (.iload_n 3, 1) := by decide +kernel
theorem dX10_appliesAll_100 : decode cX10_appliesAll 100 = .ok (.iconst 3, 1) := by decide +kernel
theorem dX10_appliesAll_101 : decode cX10_appliesAll 101 = .ok (.invokevirtual 130, 3) := by decide +kernel
theorem dX10_appliesAll_104 : decode cX10_appliesAll 104 = .ok (.invokevirtual 148, 3) := by decide +kernel
theorem dX10_appliesAll_107 : decode cX10_appliesAll 107 = .ok (.iload_n 3, 1) := by decide +kernel
theorem dX10_appliesAll_108 : decode cX10_appliesAll 108 = .ok (.invokestatic 108, 3) := by decide +kernel
theorem dX10_appliesAll_111 : decode cX10_appliesAll 111 = .ok (.iload_n 1, 1) := by decide +kernel
theorem dX10_appliesAll_112 : decode cX10_appliesAll 112 = .ok (.if_icmp .ne 19, 3) := by decide +kernel
theorem dX10_appliesAll_115 : decode cX10_appliesAll 115 = .ok (.aload_n 0, 1) := by decide +kernel
theorem dX10_appliesAll_116 : decode cX10_appliesAll 116 = .ok (.iload_n 1, 1) := by decide +kernel
theorem dX10_appliesAll_117 : decode cX10_appliesAll 117 = .ok (.bipush 6, 2) := by decide +kernel
theorem dX10_appliesAll_119 : decode cX10_appliesAll 119 = .ok (.aload_n 0, 1) := by decide +kernel
theorem dX10_appliesAll_120 : decode cX10_appliesAll 120 = .ok (.iload_n 1, 1) := by decide +kernel
theorem dX10_appliesAll_121 : decode cX10_appliesAll 121 = .ok (.bipush 6, 2) := by decide +kernel
theorem dX10_appliesAll_123 : decode cX10_appliesAll 123 = .ok (.invokevirtual 97, 3) := by decide +kernel
theorem dX10_appliesAll_126 : decode cX10_appliesAll 126 = .ok (.iconst 1, 1) := by decide +kernel
theorem dX10_appliesAll_127 : decode cX10_appliesAll 127 = .ok (.iadd, 1) := by decide +kernel
theorem dX10_appliesAll_128 : decode cX10_appliesAll 128 = .ok (.invokevirtual 76, 3) := by decide +kernel
theorem dX10_appliesAll_131 : decode cX10_appliesAll 131 = .ok (.goto (-129), 3) := by decide +kernel
theorem dX10_appliesAll_134 : decode cX10_appliesAll 134 = .ok (.return_, 1) := by decide +kernel
theorem dX10_storedOf_0 : decode cX10_storedOf 0 = .ok (.iconst 0, 1) := by decide +kernel
theorem dX10_storedOf_1 : decode cX10_storedOf 1 = .ok (.istore_n 2, 1) := by decide +kernel
theorem dX10_storedOf_2 : decode cX10_storedOf 2 = .ok (.iconst 1, 1) := by decide +kernel
theorem dX10_storedOf_3 : decode cX10_storedOf 3 = .ok (.istore_n 3, 1) := by decide +kernel
theorem dX10_storedOf_4 : decode cX10_storedOf 4 = .ok (.iload_n 3, 1) := by decide +kernel
theorem dX10_storedOf_5 : decode cX10_storedOf 5 = .ok (.bipush 60, 2) := by decide +kernel
theorem dX10_storedOf_7 : decode cX10_storedOf 7 = .ok (.if_icmp .gt 23, 3) := by decide +kernel
theorem dX10_storedOf_10 : decode cX10_storedOf 10 = .ok (.aload_n 0, 1) := by decide +kernel
theorem dX10_storedOf_11 : decode cX10_storedOf 11 = .ok (.iload_n 1, 1) := by decide +kernel
theorem dX10_storedOf_12 : decode cX10_storedOf 12 = .ok (.iload_n 3, 1) := by decide +kernel
theorem dX10_storedOf_13 : decode cX10_storedOf 13 = .ok (.iconst 0, 1) := by decide +kernel
theorem dX10_storedOf_14 : decode cX10_storedOf 14 = .ok (.invokevirtual 137, 3) := by decide +kernel
theorem dX10_storedOf_17 : decode cX10_storedOf 17 = .ok (.iconst (-1), 1) := by decide +kernel
theorem dX10_storedOf_18 : decode cX10_storedOf 18 = .ok (.if_icmp .eq 6, 3) := by decide +kernel
theorem dX10_storedOf_21 : decode cX10_storedOf 21 = .ok (.iinc 2 1, 3) := by decide +kernel
theorem dX10_storedOf_24 : decode cX10_storedOf 24 = .ok (.iinc 3 1, 3) := by decide +kernel
theorem dX10_storedOf_27 : decode cX10_storedOf 27 = .ok (.goto (-23), 3) := by decide +kernel
theorem dX10_storedOf_30 : decode cX10_storedOf 30 = .ok (.iload_n 2, 1) := by decide +kernel
theorem dX10_storedOf_31 : decode cX10_storedOf 31 = .ok (.ireturn, 1) := by decide +kernel
theorem dX10_areEqual_0 : decode cX10_areEqual 0 = .ok (.aload_n 0, 1) := by decide +kernel
theorem dX10_areEqual_1 : decode cX10_areEqual 1 = .ok (.iconst 0, 1) := by decide +kernel
theorem dX10_areEqual_2 : decode cX10_areEqual 2 = .ok (.iconst 0, 1) := by decide +kernel
theorem dX10_areEqual_3 : decode cX10_areEqual 3 = .ok (.invokevirtual 97, 3) := by decide +kernel
theorem dX10_areEqual_6 : decode cX10_areEqual 6 = .ok (.aload_n 0, 1) := by decide +kernel
theorem dX10_areEqual_7 : decode cX10_areEqual 7 = .ok (.iconst 1, 1) := by decide +kernel
theorem dX10_areEqual_8 : decode cX10_areEqual 8 = .ok (.iconst 0, 1) := by decide +kernel
theorem dX10_areEqual_9 : decode cX10_areEqual 9 = .ok (.invokevirtual 97, 3) := by decide +kernel
theorem dX10_areEqual_12 : decode cX10_areEqual 12 = .ok (.if_icmp .eq 5, 3) := by decide +kernel
theorem dX10_areEqual_15 : decode cX10_areEqual 15 = .ok (.iconst 0, 1) := by decide +kernel
theorem dX10_areEqual_16 : decode cX10_areEqual 16 = .ok (.ireturn, 1) := by decide +kernel
theorem dX10_areEqual_17 : decode cX10_areEqual 17 = .ok (.iconst 0, 1) := by decide +kernel
theorem dX10_areEqual_18 : decode cX10_areEqual 18 = .ok (.istore_n 1, 1) := by decide +kernel
theorem dX10_areEqual_19 : decode cX10_areEqual 19 = .ok (.iload_n 1, 1) := by decide +kernel
theorem dX10_areEqual_20 : decode cX10_areEqual 20 = .ok (.aload_n 0, 1) := by decide +kernel
theorem dX10_areEqual_21 : decode cX10_areEqual 21 = .ok (.invokevirtual 87, 3) := by decide +kernel
theorem dX10_areEqual_24 : decode cX10_areEqual 24 = .ok (.if_icmp .ge 26, 3) := by decide +kernel
theorem dX10_areEqual_27 : decode cX10_areEqual 27 = .ok (.aload_n 0, 1) := by decide +kernel
theorem dX10_areEqual_28 : decode cX10_areEqual 28 = .ok (.iconst 0, 1) := by decide +kernel
theorem dX10_areEqual_29 : decode cX10_areEqual 29 = .ok (.iload_n 1, 1) := by decide +kernel
theorem dX10_areEqual_30 : decode cX10_areEqual 30 = .ok (.invokevirtual 90, 3) := by decide +kernel
theorem dX10_areEqual_33 : decode cX10_areEqual 33 = .ok (.aload_n 0, 1) := by decide +kernel
theorem dX10_areEqual_34 : decode cX10_areEqual 34 = .ok (.iconst 1, 1) := by decide +kernel
theorem dX10_areEqual_35 : decode cX10_areEqual 35 = .ok (.iload_n 1, 1) := by decide +kernel
theorem dX10_areEqual_36 : decode cX10_areEqual 36 = .ok (.invokevirtual 90, 3) := by decide +kernel
theorem dX10_areEqual_39 : decode cX10_areEqual 39 = .ok (.if_icmp .eq 5, 3) := by decide +kernel
theorem dX10_areEqual_42 : decode cX10_areEqual 42 = .ok (.iconst 0, 1) := by decide +kernel
theorem dX10_areEqual_43 : decode cX10_areEqual 43 = .ok (.ireturn, 1) := by decide +kernel
theorem dX10_areEqual_44 : decode cX10_areEqual 44 = .ok (.iinc 1 1, 3) := by decide +kernel
theorem dX10_areEqual_47 : decode cX10_areEqual 47 = .ok (.goto (-28), 3) := by decide +kernel
theorem dX10_areEqual_50 : decode cX10_areEqual 50 = .ok (.iconst 1, 1) := by decide +kernel
theorem dX10_areEqual_51 : decode cX10_areEqual 51 = .ok (.ireturn, 1) := by decide +kernel
theorem dX10_monthNow_0 : decode cX10_monthNow 0 = .ok (.aload_n 0, 1) := by decide +kernel
theorem dX10_monthNow_1 : decode cX10_monthNow 1 = .ok (.getfield 7, 3) := by decide +kernel
theorem dX10_monthNow_4 : decode cX10_monthNow 4 = .ok (.iconst 2, 1) := by decide +kernel
theorem dX10_monthNow_5 : decode cX10_monthNow 5 = .ok (.iaload, 1) := by decide +kernel
theorem dX10_monthNow_6 : decode cX10_monthNow 6 = .ok (.bipush 30, 2) := by decide +kernel
theorem dX10_monthNow_8 : decode cX10_monthNow 8 = .ok (.idiv, 1) := by decide +kernel
theorem dX10_monthNow_9 : decode cX10_monthNow 9 = .ok (.bipush 12, 2) := by decide +kernel
theorem dX10_monthNow_11 : decode cX10_monthNow 11 = .ok (.irem, 1) := by decide +kernel
theorem dX10_monthNow_12 : decode cX10_monthNow 12 = .ok (.ireturn, 1) := by decide +kernel
theorem dX10_snowNow_0 : decode cX10_snowNow 0 = .ok (.aload_n 0, 1) := by decide +kernel
theorem dX10_snowNow_1 : decode cX10_snowNow 1 = .ok (.iload_n 1, 1) := by decide +kernel
theorem dX10_snowNow_2 : decode cX10_snowNow 2 = .ok (.iconst 3, 1) := by decide +kernel
theorem dX10_snowNow_3 : decode cX10_snowNow 3 = .ok (.aload_n 0, 1) := by decide +kernel
theorem dX10_snowNow_4 : decode cX10_snowNow 4 = .ok (.invokevirtual 151, 3) := by decide +kernel
theorem dX10_snowNow_7 : decode cX10_snowNow 7 = .ok (.iadd, 1) := by decide +kernel
theorem dX10_snowNow_8 : decode cX10_snowNow 8 = .ok (.invokevirtual 154, 3) := by decide +kernel
theorem dX10_snowNow_11 : decode cX10_snowNow 11 = .ok (.ireturn, 1) := by decide +kernel
theorem dX10_isClosed_0 : decode cX10_isClosed 0 = .ok (.aload_n 0, 1) := by decide +kernel
theorem dX10_isClosed_1 : decode cX10_isClosed 1 = .ok (.iload_n 1, 1) := by decide +kernel
theorem dX10_isClosed_2 : decode cX10_isClosed 2 = .ok (.invokevirtual 157, 3) := by decide +kernel
theorem dX10_isClosed_5 : decode cX10_isClosed 5 = .ok (.bipush 9, 2) := by decide +kernel
theorem dX10_isClosed_7 : decode cX10_isClosed 7 = .ok (.if_icmp .ne 7, 3) := by decide +kernel
theorem dX10_isClosed_10 : decode cX10_isClosed 10 = .ok (.iconst 1, 1) := by decide +kernel
theorem dX10_isClosed_11 : decode cX10_isClosed 11 = .ok (.goto 4, 3) := by decide +kernel
theorem dX10_isClosed_14 : decode cX10_isClosed 14 = .ok (.iconst 0, 1) := by decide +kernel
theorem dX10_isClosed_15 : decode cX10_isClosed 15 = .ok (.ireturn, 1) := by decide +kernel
theorem dX10_posts_0 : decode cX10_posts 0 = .ok (.aload_n 0, 1) := by decide +kernel
theorem dX10_posts_1 : decode cX10_posts 1 = .ok (.getfield 7, 3) := by decide +kernel
theorem dX10_posts_4 : decode cX10_posts 4 = .ok (.iconst 4, 1) := by decide +kernel
theorem dX10_posts_5 : decode cX10_posts 5 = .ok (.iaload, 1) := by decide +kernel
theorem dX10_posts_6 : decode cX10_posts 6 = .ok (.istore 7, 2) := by decide +kernel
theorem dX10_posts_8 : decode cX10_posts 8 = .ok (.aload_n 0, 1) := by decide +kernel
theorem dX10_posts_9 : decode cX10_posts 9 = .ok (.iload 7, 2) := by decide +kernel
theorem dX10_posts_11 : decode cX10_posts 11 = .ok (.iconst 0, 1) := by decide +kernel
theorem dX10_posts_12 : decode cX10_posts 12 = .ok (.iload_n 1, 1) := by decide +kernel
theorem dX10_posts_13 : decode cX10_posts 13 = .ok (.invokevirtual 160, 3) := by decide +kernel
theorem dX10_posts_16 : decode cX10_posts 16 = .ok (.aload_n 0, 1) := by decide +kernel
theorem dX10_posts_17 : decode cX10_posts 17 = .ok (.iload 7, 2) := by decide +kernel
theorem dX10_posts_19 : decode cX10_posts 19 = .ok (.iconst 1, 1) := by decide +kernel
theorem dX10_posts_20 : decode cX10_posts 20 = .ok (.iload_n 2, 1) := by decide +kernel
theorem dX10_posts_21 : decode cX10_posts 21 = .ok (.invokevirtual 160, 3) := by decide +kernel
theorem dX10_posts_24 : decode cX10_posts 24 = .ok (.aload_n 0, 1) := by decide +kernel
theorem dX10_posts_25 : decode cX10_posts 25 = .ok (.iload 7, 2) := by decide +kernel
theorem dX10_posts_27 : decode cX10_posts 27 = .ok (.iconst 2, 1) := by decide +kernel
theorem dX10_posts_28 : decode cX10_posts 28 = .ok (.iload_n 3, 1) := by decide +kernel
theorem dX10_posts_29 : decode cX10_posts 29 = .ok (.ifCond .eq 7, 3) := by decide +kernel
theorem dX10_posts_32 : decode cX10_posts 32 = .ok (.iconst 1, 1) := by decide +kernel
theorem dX10_posts_33 : decode cX10_posts 33 = .ok (.goto 4, 3) := by decide +kernel
theorem dX10_posts_36 : decode cX10_posts 36 = .ok (.iconst 0, 1) := by decide +kernel
theorem dX10_posts_37 : decode cX10_posts 37 = .ok (.invokevirtual 160, 3) := by decide +kernel
theorem dX10_posts_40 : decode cX10_posts 40 = .ok (.aload_n 0, 1) := by decide +kernel
theorem dX10_posts_41 : decode cX10_posts 41 = .ok (.iload 7, 2) := by decide +kernel
theorem dX10_posts_43 : decode cX10_posts 43 = .ok (.iconst 3, 1) := by decide +kernel
theorem dX10_posts_44 : decode cX10_posts 44 = .ok (.iload 4, 2) := by decide +kernel
theorem dX10_posts_46 : decode cX10_posts 46 = .ok (.invokevirtual 160, 3) := by decide +kernel
theorem dX10_posts_49 : decode cX10_posts 49 = .ok (.aload_n 0, 1) := by decide +kernel
theorem dX10_posts_50 : decode cX10_posts 50 = .ok (.iload 7, 2) := by decide +kernel
theorem dX10_posts_52 : decode cX10_posts 52 = .ok (.iconst 4, 1) := by decide +kernel
theorem dX10_posts_53 : decode cX10_posts 53 = .ok (.iload 5, 2) := by decide +kernel
theorem dX10_posts_55 : decode cX10_posts 55 = .ok (.invokevirtual 160, 3) := by decide +kernel
theorem dX10_posts_58 : decode cX10_posts 58 = .ok (.aload_n 0, 1) := by decide +kernel
theorem dX10_posts_59 : decode cX10_posts 59 = .ok (.iload 7, 2) := by decide +kernel
theorem dX10_posts_61 : decode cX10_posts 61 = .ok (.iconst 5, 1) := by decide +kernel
theorem dX10_posts_62 : decode cX10_posts 62 = .ok (.iload 6, 2) := by decide +kernel
theorem dX10_posts_64 : decode cX10_posts 64 = .ok (.invokevirtual 160, 3) := by decide +kernel
theorem dX10_posts_67 : decode cX10_posts 67 = .ok (.aload_n 0, 1) := by decide +kernel
theorem dX10_posts_68 : decode cX10_posts 68 = .ok (.iload 7, 2) := by decide +kernel
theorem dX10_posts_70 : decode cX10_posts 70 = .ok (.bipush 6, 2) := by decide +kernel
theorem dX10_posts_72 : decode cX10_posts 72 = .ok (.iconst 0, 1) := by decide +kernel
theorem dX10_posts_73 : decode cX10_posts 73 = .ok (.invokevirtual 160, 3) := by decide +kernel
theorem dX10_posts_76 : decode cX10_posts 76 = .ok (.aload_n 0, 1) := by decide +kernel
theorem dX10_posts_77 : decode cX10_posts 77 = .ok (.iload 7, 2) := by decide +kernel
theorem dX10_posts_79 : decode cX10_posts 79 = .ok (.bipush 7, 2) := by decide +kernel
theorem dX10_posts_81 : decode cX10_posts 81 = .ok (.aload_n 0, 1) := by decide +kernel
theorem dX10_posts_82 : decode cX10_posts 82 = .ok (.getfield 7, 3) := by decide +kernel
theorem dX10_posts_85 : decode cX10_posts 85 = .ok (.iconst 2, 1) := by decide +kernel
theorem dX10_posts_86 : decode cX10_posts 86 = .ok (.iaload, 1) := by decide +kernel
theorem dX10_posts_87 : decode cX10_posts 87 = .ok (.invokevirtual 160, 3) := by decide +kernel
theorem dX10_posts_90 : decode cX10_posts 90 = .ok (.aload_n 0, 1) := by decide +kernel
theorem dX10_posts_91 : decode cX10_posts 91 = .ok (.getfield 7, 3) := by decide +kernel
theorem dX10_posts_94 : decode cX10_posts 94 = .ok (.iconst 4, 1) := by decide +kernel
theorem dX10_posts_95 : decode cX10_posts 95 = .ok (.dup2, 1) := by decide +kernel
theorem dX10_posts_96 : decode cX10_posts 96 = .ok (.iaload, 1) := by decide +kernel
theorem dX10_posts_97 : decode cX10_posts 97 = .ok (.iconst 1, 1) := by decide +kernel
theorem dX10_posts_98 : decode cX10_posts 98 = .ok (.iadd, 1) := by decide +kernel
theorem dX10_posts_99 : decode cX10_posts 99 = .ok (.iastore, 1) := by decide +kernel
theorem dX10_posts_100 : decode cX10_posts 100 = .ok (.iload 7, 2) := by decide +kernel
theorem dX10_posts_102 : decode cX10_posts 102 = .ok (.ireturn, 1) := by decide +kernel
theorem dX10_firstInQueue_0 : decode cX10_firstInQueue 0 = .ok (.iconst 0, 1) := by decide +kernel
theorem dX10_firstInQueue_1 : decode cX10_firstInQueue 1 = .ok (.istore_n 3, 1) := by decide +kernel
theorem dX10_firstInQueue_2 : decode cX10_firstInQueue 2 = .ok (.iload_n 3, 1) := by decide +kernel
theorem dX10_firstInQueue_3 : decode cX10_firstInQueue 3 = .ok (.aload_n 0, 1) := by decide +kernel
theorem dX10_firstInQueue_4 : decode cX10_firstInQueue 4 = .ok (.getfield 7, 3) := by decide +kernel
theorem dX10_firstInQueue_7 : decode cX10_firstInQueue 7 = .ok (.iconst 4, 1) := by decide +kernel
theorem dX10_firstInQueue_8 : decode cX10_firstInQueue 8 = .ok (.iaload, 1) := by decide +kernel
theorem dX10_firstInQueue_9 : decode cX10_firstInQueue 9 = .ok (.if_icmp .ge 41, 3) := by decide +kernel
theorem dX10_firstInQueue_12 : decode cX10_firstInQueue 12 = .ok (.aload_n 0, 1) := by decide +kernel
theorem dX10_firstInQueue_13 : decode cX10_firstInQueue 13 = .ok (.iload_n 3, 1) := by decide +kernel
theorem dX10_firstInQueue_14 : decode cX10_firstInQueue 14 = .ok (.bipush 6, 2) := by decide +kernel
theorem dX10_firstInQueue_16 : decode cX10_firstInQueue 16 = .ok (.invokevirtual 163, 3) := by decide +kernel
theorem dX10_firstInQueue_19 : decode cX10_firstInQueue 19 = .ok (.ifCond .ne 25, 3) := by decide +kernel
theorem dX10_firstInQueue_22 : decode cX10_firstInQueue 22 = .ok (.aload_n 0, 1) := by decide +kernel
theorem dX10_firstInQueue_23 : decode cX10_firstInQueue 23 = .ok (.iload_n 3, 1) := by decide +kernel
theorem dX10_firstInQueue_24 : decode cX10_firstInQueue 24 = .ok (.iconst 1, 1) := by decide +kernel
theorem dX10_firstInQueue_25 : decode cX10_firstInQueue 25 = .ok (.invokevirtual 163, 3) := by decide +kernel
theorem dX10_firstInQueue_28 : decode cX10_firstInQueue 28 = .ok (.iload_n 1, 1) := by decide +kernel
theorem dX10_firstInQueue_29 : decode cX10_firstInQueue 29 = .ok (.if_icmp .ne 15, 3) := by decide +kernel
theorem dX10_firstInQueue_32 : decode cX10_firstInQueue 32 = .ok (.aload_n 0, 1) := by decide +kernel
theorem dX10_firstInQueue_33 : decode cX10_firstInQueue 33 = .ok (.iload_n 3, 1) := by decide +kernel
theorem dX10_firstInQueue_34 : decode cX10_firstInQueue 34 = .ok (.iconst 0, 1) := by decide +kernel
theorem dX10_firstInQueue_35 : decode cX10_firstInQueue 35 = .ok (.invokevirtual 163, 3) := by decide +kernel
theorem dX10_firstInQueue_38 : decode cX10_firstInQueue 38 = .ok (.iload_n 2, 1) := by decide +kernel
theorem dX10_firstInQueue_39 : decode cX10_firstInQueue 39 = .ok (.if_icmp .ne 5, 3) := by decide +kernel
theorem dX10_firstInQueue_42 : decode cX10_firstInQueue 42 = .ok (.iload_n 3, 1) := by decide +kernel
theorem dX10_firstInQueue_43 : decode cX10_firstInQueue 43 = .ok (.ireturn, 1) := by decide +kernel
theorem dX10_firstInQueue_44 : decode cX10_firstInQueue 44 = .ok (.iinc 3 1, 3) := by decide +kernel
theorem dX10_firstInQueue_47 : decode cX10_firstInQueue 47 = .ok (.goto (-45), 3) := by decide +kernel
theorem dX10_firstInQueue_50 : decode cX10_firstInQueue 50 = .ok (.iconst (-1), 1) := by decide +kernel
theorem dX10_firstInQueue_51 : decode cX10_firstInQueue 51 = .ok (.ireturn, 1) := by decide +kernel
theorem dX10_queued_0 : decode cX10_queued 0 = .ok (.iconst 0, 1) := by decide +kernel
theorem dX10_queued_1 : decode cX10_queued 1 = .ok (.istore_n 3, 1) := by decide +kernel
theorem dX10_queued_2 : decode cX10_queued 2 = .ok (.iconst 0, 1) := by decide +kernel
theorem dX10_queued_3 : decode cX10_queued 3 = .ok (.istore 4, 2) := by decide +kernel
theorem dX10_queued_5 : decode cX10_queued 5 = .ok (.iload 4, 2) := by decide +kernel
theorem dX10_queued_7 : decode cX10_queued 7 = .ok (.aload_n 0, 1) := by decide +kernel
theorem dX10_queued_8 : decode cX10_queued 8 = .ok (.getfield 7, 3) := by decide +kernel
theorem dX10_queued_11 : decode cX10_queued 11 = .ok (.iconst 4, 1) := by decide +kernel
theorem dX10_queued_12 : decode cX10_queued 12 = .ok (.iaload, 1) := by decide +kernel
theorem dX10_queued_13 : decode cX10_queued 13 = .ok (.if_icmp .ge 45, 3) := by decide +kernel
theorem dX10_queued_16 : decode cX10_queued 16 = .ok (.aload_n 0, 1) := by decide +kernel
theorem dX10_queued_17 : decode cX10_queued 17 = .ok (.iload 4, 2) := by decide +kernel
theorem dX10_queued_19 : decode cX10_queued 19 = .ok (.bipush 6, 2) := by decide +kernel
theorem dX10_queued_21 : decode cX10_queued 21 = .ok (.invokevirtual 163, 3) := by decide +kernel
theorem dX10_queued_24 : decode cX10_queued 24 = .ok (.ifCond .ne 28, 3) := by decide +kernel
theorem dX10_queued_27 : decode cX10_queued 27 = .ok (.aload_n 0, 1) := by decide +kernel
theorem dX10_queued_28 : decode cX10_queued 28 = .ok (.iload 4, 2) := by decide +kernel
theorem dX10_queued_30 : decode cX10_queued 30 = .ok (.iconst 1, 1) := by decide +kernel
theorem dX10_queued_31 : decode cX10_queued 31 = .ok (.invokevirtual 163, 3) := by decide +kernel
theorem dX10_queued_34 : decode cX10_queued 34 = .ok (.iload_n 1, 1) := by decide +kernel
theorem dX10_queued_35 : decode cX10_queued 35 = .ok (.if_icmp .ne 17, 3) := by decide +kernel
theorem dX10_queued_38 : decode cX10_queued 38 = .ok (.aload_n 0, 1) := by decide +kernel
theorem dX10_queued_39 : decode cX10_queued 39 = .ok (.iload 4, 2) := by decide +kernel
theorem dX10_queued_41 : decode cX10_queued 41 = .ok (.iconst 0, 1) := by decide +kernel
theorem dX10_queued_42 : decode cX10_queued 42 = .ok (.invokevirtual 163, 3) := by decide +kernel
theorem dX10_queued_45 : decode cX10_queued 45 = .ok (.iload_n 2, 1) := by decide +kernel
theorem dX10_queued_46 : decode cX10_queued 46 = .ok (.if_icmp .ne 6, 3) := by decide +kernel
theorem dX10_queued_49 : decode cX10_queued 49 = .ok (.iinc 3 1, 3) := by decide +kernel
theorem dX10_queued_52 : decode cX10_queued 52 = .ok (.iinc 4 1, 3) := by decide +kernel
theorem dX10_queued_55 : decode cX10_queued 55 = .ok (.goto (-50), 3) := by decide +kernel
theorem dX10_queued_58 : decode cX10_queued 58 = .ok (.iload_n 3, 1) := by decide +kernel
theorem dX10_queued_59 : decode cX10_queued 59 = .ok (.ireturn, 1) := by decide +kernel
theorem dX10_isRead_0 : decode cX10_isRead 0 = .ok (.iconst 1, 1) := by decide +kernel
theorem dX10_isRead_1 : decode cX10_isRead 1 = .ok (.aload_n 0, 1) := by decide +kernel
theorem dX10_isRead_2 : decode cX10_isRead 2 = .ok (.iload_n 1, 1) := by decide +kernel
theorem dX10_isRead_3 : decode cX10_isRead 3 = .ok (.iconst 0, 1) := by decide +kernel
theorem dX10_isRead_4 : decode cX10_isRead 4 = .ok (.invokevirtual 163, 3) := by decide +kernel
theorem dX10_isRead_7 : decode cX10_isRead 7 = .ok (.isub, 1) := by decide +kernel
theorem dX10_isRead_8 : decode cX10_isRead 8 = .ok (.istore_n 2, 1) := by decide +kernel
theorem dX10_isRead_9 : decode cX10_isRead 9 = .ok (.aload_n 0, 1) := by decide +kernel
theorem dX10_isRead_10 : decode cX10_isRead 10 = .ok (.iload_n 1, 1) := by decide +kernel
theorem dX10_isRead_11 : decode cX10_isRead 11 = .ok (.iconst 3, 1) := by decide +kernel
theorem dX10_isRead_12 : decode cX10_isRead 12 = .ok (.invokevirtual 163, 3) := by decide +kernel
theorem dX10_isRead_15 : decode cX10_isRead 15 = .ok (.istore_n 3, 1) := by decide +kernel
theorem dX10_isRead_16 : decode cX10_isRead 16 = .ok (.aload_n 0, 1) := by decide +kernel
theorem dX10_isRead_17 : decode cX10_isRead 17 = .ok (.iload_n 1, 1) := by decide +kernel
theorem dX10_isRead_18 : decode cX10_isRead 18 = .ok (.iconst 2, 1) := by decide +kernel
theorem dX10_isRead_19 : decode cX10_isRead 19 = .ok (.invokevirtual 163, 3) := by decide +kernel
theorem dX10_isRead_22 : decode cX10_isRead 22 = .ok (.iconst 1, 1) := by decide +kernel
theorem dX10_isRead_23 : decode cX10_isRead 23 = .ok (.if_icmp .ne 21, 3) := by decide +kernel
theorem dX10_isRead_26 : decode cX10_isRead 26 = .ok (.aload_n 0, 1) := by decide +kernel
theorem dX10_isRead_27 : decode cX10_isRead 27 = .ok (.iload_n 3, 1) := by decide +kernel
theorem dX10_isRead_28 : decode cX10_isRead 28 = .ok (.iconst 5, 1) := by decide +kernel
theorem dX10_isRead_29 : decode cX10_isRead 29 = .ok (.invokevirtual 130, 3) := by decide +kernel
theorem dX10_isRead_32 : decode cX10_isRead 32 = .ok (.iconst 1, 1) := by decide +kernel
theorem dX10_isRead_33 : decode cX10_isRead 33 = .ok (.if_icmp .ne 7, 3) := by decide +kernel
theorem dX10_isRead_36 : decode cX10_isRead 36 = .ok (.iconst 1, 1) := by decide +kernel
theorem dX10_isRead_37 : decode cX10_isRead 37 = .ok (.goto 33, 3) := by decide +kernel
theorem dX10_isRead_40 : decode cX10_isRead 40 = .ok (.iconst 0, 1) := by decide +kernel
theorem dX10_isRead_41 : decode cX10_isRead 41 = .ok (.goto 29, 3) := by decide +kernel
theorem dX10_isRead_44 : decode cX10_isRead 44 = .ok (.iload_n 3, 1) := by decide +kernel
theorem dX10_isRead_45 : decode cX10_isRead 45 = .ok (.aload_n 0, 1) := by decide +kernel
theorem dX10_isRead_46 : decode cX10_isRead 46 = .ok (.iload_n 2, 1) := by decide +kernel
theorem dX10_isRead_47 : decode cX10_isRead 47 = .ok (.iconst 0, 1) := by decide +kernel
theorem dX10_isRead_48 : decode cX10_isRead 48 = .ok (.invokevirtual 97, 3) := by decide +kernel
theorem dX10_isRead_51 : decode cX10_isRead 51 = .ok (.if_icmp .le 14, 3) := by decide +kernel
theorem dX10_isRead_54 : decode cX10_isRead 54 = .ok (.aload_n 0, 1) := by decide +kernel
theorem dX10_isRead_55 : decode cX10_isRead 55 = .ok (.iload_n 2, 1) := by decide +kernel
theorem dX10_isRead_56 : decode cX10_isRead 56 = .ok (.iload_n 3, 1) := by decide +kernel
theorem dX10_isRead_57 : decode cX10_isRead 57 = .ok (.iconst 0, 1) := by decide +kernel
theorem dX10_isRead_58 : decode cX10_isRead 58 = .ok (.invokevirtual 137, 3) := by decide +kernel
theorem dX10_isRead_61 : decode cX10_isRead 61 = .ok (.iconst (-1), 1) := by decide +kernel
theorem dX10_isRead_62 : decode cX10_isRead 62 = .ok (.if_icmp .eq 7, 3) := by decide +kernel
theorem dX10_isRead_65 : decode cX10_isRead 65 = .ok (.iconst 1, 1) := by decide +kernel
theorem dX10_isRead_66 : decode cX10_isRead 66 = .ok (.goto 4, 3) := by decide +kernel
theorem dX10_isRead_69 : decode cX10_isRead 69 = .ok (.iconst 0, 1) := by decide +kernel
theorem dX10_isRead_70 : decode cX10_isRead 70 = .ok (.istore 4, 2) := by decide +kernel
theorem dX10_isRead_72 : decode cX10_isRead 72 = .ok (.iload 4, 2) := by decide +kernel
theorem dX10_isRead_74 : decode cX10_isRead 74 = .ok (.ifCond .eq 16, 3) := by decide +kernel
theorem dX10_isRead_77 : decode cX10_isRead 77 = .ok (.aload_n 0, 1) := by decide +kernel
theorem dX10_isRead_78 : decode cX10_isRead 78 = .ok (.getfield 7, 3) := by decide +kernel
theorem dX10_isRead_81 : decode cX10_isRead 81 = .ok (.iconst 5, 1) := by decide +kernel
theorem dX10_isRead_82 : decode cX10_isRead 82 = .ok (.dup2, 1) := by decide +kernel
theorem dX10_isRead_83 : decode cX10_isRead 83 = .ok (.iaload, 1) := by decide +kernel
theorem dX10_isRead_84 : decode cX10_isRead 84 = .ok (.iconst 1, 1) := by decide +kernel
theorem dX10_isRead_85 : decode cX10_isRead 85 = .ok (.iadd, 1) := by decide +kernel
theorem dX10_isRead_86 : decode cX10_isRead 86 = .ok (.iastore, 1) := by decide +kernel
theorem dX10_isRead_87 : decode cX10_isRead 87 = .ok (.goto 50, 3) := by decide +kernel
theorem dX10_isRead_90 : decode cX10_isRead 90 = .ok (.aload_n 0, 1) := by decide +kernel
theorem dX10_isRead_91 : decode cX10_isRead 91 = .ok (.iload_n 1, 1) := by decide +kernel
theorem dX10_isRead_92 : decode cX10_isRead 92 = .ok (.iconst 2, 1) := by decide +kernel
theorem dX10_isRead_93 : decode cX10_isRead 93 = .ok (.invokevirtual 163, 3) := by decide +kernel
theorem dX10_isRead_96 : decode cX10_isRead 96 = .ok (.iconst 1, 1) := by decide +kernel
theorem dX10_isRead_97 : decode cX10_isRead 97 = .ok (.if_icmp .ne 22, 3) := by decide +kernel
theorem dX10_isRead_100 : decode cX10_isRead 100 = .ok (.aload_n 0, 1) := by decide +kernel
theorem dX10_isRead_101 : decode cX10_isRead 101 = .ok (.getfield 7, 3) := by decide +kernel
theorem dX10_isRead_104 : decode cX10_isRead 104 = .ok (.sipush 762, 3) := by decide +kernel
theorem dX10_isRead_107 : decode cX10_isRead 107 = .ok (.bipush 6, 2) := by decide +kernel
theorem dX10_isRead_109 : decode cX10_isRead 109 = .ok (.iload_n 3, 1) := by decide +kernel
theorem dX10_isRead_110 : decode cX10_isRead 110 = .ok (.imul, 1) := by decide +kernel
theorem dX10_isRead_111 : decode cX10_isRead 111 = .ok (.iadd, 1) := by decide +kernel
theorem dX10_isRead_112 : decode cX10_isRead 112 = .ok (.iconst 5, 1) := by decide +kernel
theorem dX10_isRead_113 : decode cX10_isRead 113 = .ok (.iadd, 1) := by decide +kernel
theorem dX10_isRead_114 : decode cX10_isRead 114 = .ok (.iconst 1, 1) := by decide +kernel
theorem dX10_isRead_115 : decode cX10_isRead 115 = .ok (.iastore, 1) := by decide +kernel
theorem dX10_isRead_116 : decode cX10_isRead 116 = .ok (.goto 21, 3) := by decide +kernel
theorem dX10_isRead_119 : decode cX10_isRead 119 = .ok (.aload_n 0, 1) := by decide +kernel
theorem dX10_isRead_120 : decode cX10_isRead 120 = .ok (.iload_n 2, 1) := by decide +kernel
theorem dX10_isRead_121 : decode cX10_isRead 121 = .ok (.iload_n 3, 1) := by decide +kernel
theorem dX10_isRead_122 : decode cX10_isRead 122 = .ok (.aload_n 0, 1) := by decide +kernel
theorem dX10_isRead_123 : decode cX10_isRead 123 = .ok (.iload_n 1, 1) := by decide +kernel
theorem dX10_isRead_124 : decode cX10_isRead 124 = .ok (.iconst 4, 1) := by decide +kernel
theorem dX10_isRead_125 : decode cX10_isRead 125 = .ok (.invokevirtual 163, 3) := by decide +kernel
theorem dX10_isRead_128 : decode cX10_isRead 128 = .ok (.aload_n 0, 1) := by decide +kernel
theorem dX10_isRead_129 : decode cX10_isRead 129 = .ok (.iload_n 1, 1) := by decide +kernel
theorem dX10_isRead_130 : decode cX10_isRead 130 = .ok (.iconst 5, 1) := by decide +kernel
theorem dX10_isRead_131 : decode cX10_isRead 131 = .ok (.invokevirtual 163, 3) := by decide +kernel
theorem dX10_isRead_134 : decode cX10_isRead 134 = .ok (.invokevirtual 144, 3) := by decide +kernel
theorem dX10_isRead_137 : decode cX10_isRead 137 = .ok (.aload_n 0, 1) := by decide +kernel
theorem dX10_isRead_138 : decode cX10_isRead 138 = .ok (.iload_n 2, 1) := by decide +kernel
theorem dX10_isRead_139 : decode cX10_isRead 139 = .ok (.invokevirtual 166, 3) := by decide +kernel
theorem dX10_isRead_142 : decode cX10_isRead 142 = .ok (.return_, 1) := by decide +kernel
theorem dX10_arrives_0 : decode cX10_arrives 0 = .ok (.aload_n 0, 1) := by decide +kernel
theorem dX10_arrives_1 : decode cX10_arrives 1 = .ok (.iload_n 1, 1) := by decide +kernel
theorem dX10_arrives_2 : decode cX10_arrives 2 = .ok (.iconst 1, 1) := by decide +kernel
theorem dX10_arrives_3 : decode cX10_arrives 3 = .ok (.invokevirtual 163, 3) := by decide +kernel
theorem dX10_arrives_6 : decode cX10_arrives 6 = .ok (.istore_n 2, 1) := by decide +kernel
theorem dX10_arrives_7 : decode cX10_arrives 7 = .ok (.iconst 1, 1) := by decide +kernel
theorem dX10_arrives_8 : decode cX10_arrives 8 = .ok (.aload_n 0, 1) := by decide +kernel
theorem dX10_arrives_9 : decode cX10_arrives 9 = .ok (.iload_n 1, 1) := by decide +kernel
theorem dX10_arrives_10 : decode cX10_arrives 10 = .ok (.iconst 0, 1) := by decide +kernel
theorem dX10_arrives_11 : decode cX10_arrives 11 = .ok (.invokevirtual 163, 3) := by decide +kernel
theorem dX10_arrives_14 : decode cX10_arrives 14 = .ok (.isub, 1) := by decide +kernel
theorem dX10_arrives_15 : decode cX10_arrives 15 = .ok (.istore_n 3, 1) := by decide +kernel
theorem dX10_arrives_16 : decode cX10_arrives 16 = .ok (.aload_n 0, 1) := by decide +kernel
theorem dX10_arrives_17 : decode cX10_arrives 17 = .ok (.iload_n 1, 1) := by decide +kernel
theorem dX10_arrives_18 : decode cX10_arrives 18 = .ok (.bipush 6, 2) := by decide +kernel
theorem dX10_arrives_20 : decode cX10_arrives 20 = .ok (.iconst 2, 1) := by decide +kernel
theorem dX10_arrives_21 : decode cX10_arrives 21 = .ok (.invokevirtual 160, 3) := by decide +kernel
theorem dX10_arrives_24 : decode cX10_arrives 24 = .ok (.aload_n 0, 1) := by decide +kernel
theorem dX10_arrives_25 : decode cX10_arrives 25 = .ok (.iload_n 1, 1) := by decide +kernel
theorem dX10_arrives_26 : decode cX10_arrives 26 = .ok (.bipush 10, 2) := by decide +kernel
theorem dX10_arrives_28 : decode cX10_arrives 28 = .ok (.aload_n 0, 1) := by decide +kernel
theorem dX10_arrives_29 : decode cX10_arrives 29 = .ok (.getfield 7, 3) := by decide +kernel
theorem dX10_arrives_32 : decode cX10_arrives 32 = .ok (.iconst 2, 1) := by decide +kernel
theorem dX10_arrives_33 : decode cX10_arrives 33 = .ok (.iaload, 1) := by decide +kernel
theorem dX10_arrives_34 : decode cX10_arrives 34 = .ok (.invokevirtual 160, 3) := by decide +kernel
theorem dX10_arrives_37 : decode cX10_arrives 37 = .ok (.aload_n 0, 1) := by decide +kernel
theorem dX10_arrives_38 : decode cX10_arrives 38 = .ok (.iload_n 2, 1) := by decide +kernel
theorem dX10_arrives_39 : decode cX10_arrives 39 = .ok (.iconst 1, 1) := by decide +kernel
theorem dX10_arrives_40 : decode cX10_arrives 40 = .ok (.iload_n 3, 1) := by decide +kernel
theorem dX10_arrives_41 : decode cX10_arrives 41 = .ok (.iadd, 1) := by decide +kernel
theorem dX10_arrives_42 : decode cX10_arrives 42 = .ok (.aload_n 0, 1) := by decide +kernel
theorem dX10_arrives_43 : decode cX10_arrives 43 = .ok (.iload_n 2, 1) := by decide +kernel
theorem dX10_arrives_44 : decode cX10_arrives 44 = .ok (.iconst 1, 1) := by decide +kernel
theorem dX10_arrives_45 : decode cX10_arrives 45 = .ok (.iload_n 3, 1) := by decide +kernel
theorem dX10_arrives_46 : decode cX10_arrives 46 = .ok (.iadd, 1) := by decide +kernel
theorem dX10_arrives_47 : decode cX10_arrives 47 = .ok (.invokevirtual 154, 3) := by decide +kernel
theorem dX10_arrives_50 : decode cX10_arrives 50 = .ok (.iconst 1, 1) := by decide +kernel
theorem dX10_arrives_51 : decode cX10_arrives 51 = .ok (.iadd, 1) := by decide +kernel
theorem dX10_arrives_52 : decode cX10_arrives 52 = .ok (.invokevirtual 170, 3) := by decide +kernel
theorem dX10_arrives_55 : decode cX10_arrives 55 = .ok (.aload_n 0, 1) := by decide +kernel
theorem dX10_arrives_56 : decode cX10_arrives 56 = .ok (.getfield 7, 3) := by decide +kernel
theorem dX10_arrives_59 : decode cX10_arrives 59 = .ok (.bipush 7, 2) := by decide +kernel
theorem dX10_arrives_61 : decode cX10_arrives 61 = .ok (.dup2, 1) := by decide +kernel
theorem dX10_arrives_62 : decode cX10_arrives 62 = .ok (.iaload, 1) := by decide +kernel
theorem dX10_arrives_63 : decode cX10_arrives 63 = .ok (.aload_n 0, 1) := by decide +kernel
theorem dX10_arrives_64 : decode cX10_arrives 64 = .ok (.getfield 7, 3) := by decide +kernel
theorem dX10_arrives_67 : decode cX10_arrives 67 = .ok (.iconst 2, 1) := by decide +kernel
theorem dX10_arrives_68 : decode cX10_arrives 68 = .ok (.iaload, 1) := by decide +kernel
theorem dX10_arrives_69 : decode cX10_arrives 69 = .ok (.aload_n 0, 1) := by decide +kernel
theorem dX10_arrives_70 : decode cX10_arrives 70 = .ok (.iload_n 1, 1) := by decide +kernel
theorem dX10_arrives_71 : decode cX10_arrives 71 = .ok (.bipush 7, 2) := by decide +kernel
theorem dX10_arrives_73 : decode cX10_arrives 73 = .ok (.invokevirtual 163, 3) := by decide +kernel
theorem dX10_arrives_76 : decode cX10_arrives 76 = .ok (.isub, 1) := by decide +kernel
theorem dX10_arrives_77 : decode cX10_arrives 77 = .ok (.iadd, 1) := by decide +kernel
theorem dX10_arrives_78 : decode cX10_arrives 78 = .ok (.iastore, 1) := by decide +kernel
theorem dX10_arrives_79 : decode cX10_arrives 79 = .ok (.aload_n 0, 1) := by decide +kernel
theorem dX10_arrives_80 : decode cX10_arrives 80 = .ok (.getfield 7, 3) := by decide +kernel
theorem dX10_arrives_83 : decode cX10_arrives 83 = .ok (.bipush 8, 2) := by decide +kernel
theorem dX10_arrives_85 : decode cX10_arrives 85 = .ok (.dup2, 1) := by decide +kernel
theorem dX10_arrives_86 : decode cX10_arrives 86 = .ok (.iaload, 1) := by decide +kernel
theorem dX10_arrives_87 : decode cX10_arrives 87 = .ok (.iconst 1, 1) := by decide +kernel
theorem dX10_arrives_88 : decode cX10_arrives 88 = .ok (.iadd, 1) := by decide +kernel
theorem dX10_arrives_89 : decode cX10_arrives 89 = .ok (.iastore, 1) := by decide +kernel
theorem dX10_arrives_90 : decode cX10_arrives 90 = .ok (.iload_n 1, 1) := by decide +kernel
