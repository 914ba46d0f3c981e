theorem dX9_writer_4 : decode cX9_writer 4 = .ok (.invokevirtual 237, 3) := by decide +kernel
theorem dX9_writer_7 : decode cX9_writer 7 = .ok (.iload_n 1, 1) := by decide +kernel
theorem dX9_writer_8 : decode cX9_writer 8 = .ok (.invokevirtual 247, 3) := by decide +kernel
theorem dX9_writer_11 : decode cX9_writer 11 = .ok (.invokestatic 164, 3) := by decide +kernel
theorem dX9_writer_14 : decode cX9_writer 14 = .ok (.aload_n 0, 1) := by decide +kernel
theorem dX9_writer_15 : decode cX9_writer 15 = .ok (.getfield 33, 3) := by decide +kernel
theorem dX9_writer_18 : decode cX9_writer 18 = .ok (.invokevirtual 237, 3) := by decide +kernel
theorem dX9_writer_21 : decode cX9_writer 21 = .ok (.iload_n 1, 1) := by decide +kernel
theorem dX9_writer_22 : decode cX9_writer 22 = .ok (.invokevirtual 248, 3) := by decide +kernel
theorem dX9_writer_25 : decode cX9_writer 25 = .ok (.ireturn, 1) := by decide +kernel
theorem dX9_letterNumber_0 : decode cX9_letterNumber 0 = .ok (.aload_n 0, 1) := by decide +kernel
theorem dX9_letterNumber_1 : decode cX9_letterNumber 1 = .ok (.getfield 33, 3) := by decide +kernel
theorem dX9_letterNumber_4 : decode cX9_letterNumber 4 = .ok (.invokevirtual 237, 3) := by decide +kernel
theorem dX9_letterNumber_7 : decode cX9_letterNumber 7 = .ok (.iload_n 1, 1) := by decide +kernel
theorem dX9_letterNumber_8 : decode cX9_letterNumber 8 = .ok (.invokevirtual 247, 3) := by decide +kernel
theorem dX9_letterNumber_11 : decode cX9_letterNumber 11 = .ok (.invokestatic 164, 3) := by decide +kernel
theorem dX9_letterNumber_14 : decode cX9_letterNumber 14 = .ok (.aload_n 0, 1) := by decide +kernel
theorem dX9_letterNumber_15 : decode cX9_letterNumber 15 = .ok (.getfield 33, 3) := by decide +kernel
theorem dX9_letterNumber_18 : decode cX9_letterNumber 18 = .ok (.invokevirtual 237, 3) := by decide +kernel
theorem dX9_letterNumber_21 : decode cX9_letterNumber 21 = .ok (.iload_n 1, 1) := by decide +kernel
theorem dX9_letterNumber_22 : decode cX9_letterNumber 22 = .ok (.invokevirtual 251, 3) := by decide +kernel
theorem dX9_letterNumber_25 : decode cX9_letterNumber 25 = .ok (.ireturn, 1) := by decide +kernel
theorem dX9_isPromise_0 : decode cX9_isPromise 0 = .ok (.aload_n 0, 1) := by decide +kernel
theorem dX9_isPromise_1 : decode cX9_isPromise 1 = .ok (.getfield 33, 3) := by decide +kernel
theorem dX9_isPromise_4 : decode cX9_isPromise 4 = .ok (.invokevirtual 237, 3) := by decide +kernel
theorem dX9_isPromise_7 : decode cX9_isPromise 7 = .ok (.iload_n 1, 1) := by decide +kernel
theorem dX9_isPromise_8 : decode cX9_isPromise 8 = .ok (.invokevirtual 247, 3) := by decide +kernel
theorem dX9_isPromise_11 : decode cX9_isPromise 11 = .ok (.invokestatic 164, 3) := by decide +kernel
theorem dX9_isPromise_14 : decode cX9_isPromise 14 = .ok (.aload_n 0, 1) := by decide +kernel
theorem dX9_isPromise_15 : decode cX9_isPromise 15 = .ok (.getfield 33, 3) := by decide +kernel
theorem dX9_isPromise_18 : decode cX9_isPromise 18 = .ok (.invokevirtual 237, 3) := by decide +kernel
theorem dX9_isPromise_21 : decode cX9_isPromise 21 = .ok (.iload_n 1, 1) := by decide +kernel
theorem dX9_isPromise_22 : decode cX9_isPromise 22 = .ok (.invokevirtual 254, 3) := by decide +kernel
theorem dX9_isPromise_25 : decode cX9_isPromise 25 = .ok (.iconst (-1), 1) := by decide +kernel
theorem dX9_isPromise_26 : decode cX9_isPromise 26 = .ok (.if_icmp .eq 7, 3) := by decide +kernel
theorem dX9_isPromise_29 : decode cX9_isPromise 29 = .ok (.iconst 1, 1) := by decide +kernel
theorem dX9_isPromise_30 : decode cX9_isPromise 30 = .ok (.goto 4, 3) := by decide +kernel
theorem dX9_isPromise_33 : decode cX9_isPromise 33 = .ok (.iconst 0, 1) := by decide +kernel
theorem dX9_isPromise_34 : decode cX9_isPromise 34 = .ok (.ireturn, 1) := by decide +kernel
theorem dX9_letterState_0 : decode cX9_letterState 0 = .ok (.aload_n 0, 1) := by decide +kernel
theorem dX9_letterState_1 : decode cX9_letterState 1 = .ok (.getfield 33, 3) := by decide +kernel
theorem dX9_letterState_4 : decode cX9_letterState 4 = .ok (.invokevirtual 237, 3) := by decide +kernel
theorem dX9_letterState_7 : decode cX9_letterState 7 = .ok (.iload_n 1, 1) := by decide +kernel
theorem dX9_letterState_8 : decode cX9_letterState 8 = .ok (.invokevirtual 247, 3) := by decide +kernel
theorem dX9_letterState_11 : decode cX9_letterState 11 = .ok (.invokestatic 164, 3) := by decide +kernel
theorem dX9_letterState_14 : decode cX9_letterState 14 = .ok (.aload_n 0, 1) := by decide +kernel
theorem dX9_letterState_15 : decode cX9_letterState 15 = .ok (.getfield 33, 3) := by decide +kernel
theorem dX9_letterState_18 : decode cX9_letterState 18 = .ok (.invokevirtual 237, 3) := by decide +kernel
theorem dX9_letterState_21 : decode cX9_letterState 21 = .ok (.iload_n 1, 1) := by decide +kernel
theorem dX9_letterState_22 : decode cX9_letterState 22 = .ok (.invokevirtual 257, 3) := by decide +kernel
theorem dX9_letterState_25 : decode cX9_letterState 25 = .ok (.ireturn, 1) := by decide +kernel
theorem dX9_awaitedLetter_0 : decode cX9_awaitedLetter 0 = .ok (.iload_n 1, 1) := by decide +kernel
theorem dX9_awaitedLetter_1 : decode cX9_awaitedLetter 1 = .ok (.invokestatic 158, 3) := by decide +kernel
theorem dX9_awaitedLetter_4 : decode cX9_awaitedLetter 4 = .ok (.invokestatic 164, 3) := by decide +kernel
theorem dX9_awaitedLetter_7 : decode cX9_awaitedLetter 7 = .ok (.aload_n 0, 1) := by decide +kernel
theorem dX9_awaitedLetter_8 : decode cX9_awaitedLetter 8 = .ok (.getfield 33, 3) := by decide +kernel
theorem dX9_awaitedLetter_11 : decode cX9_awaitedLetter 11 = .ok (.iload_n 1, 1) := by decide +kernel
theorem dX9_awaitedLetter_12 : decode cX9_awaitedLetter 12 = .ok (.invokevirtual 260, 3) := by decide +kernel
theorem dX9_awaitedLetter_15 : decode cX9_awaitedLetter 15 = .ok (.ireturn, 1) := by decide +kernel
theorem dX9_reasonToWait_0 : decode cX9_reasonToWait 0 = .ok (.iload_n 1, 1) := by decide +kernel
theorem dX9_reasonToWait_1 : decode cX9_reasonToWait 1 = .ok (.invokestatic 158, 3) := by decide +kernel
theorem dX9_reasonToWait_4 : decode cX9_reasonToWait 4 = .ok (.invokestatic 164, 3) := by decide +kernel
theorem dX9_reasonToWait_7 : decode cX9_reasonToWait 7 = .ok (.aload_n 0, 1) := by decide +kernel
theorem dX9_reasonToWait_8 : decode cX9_reasonToWait 8 = .ok (.getfield 33, 3) := by decide +kernel
theorem dX9_reasonToWait_11 : decode cX9_reasonToWait 11 = .ok (.iload_n 1, 1) := by decide +kernel
theorem dX9_reasonToWait_12 : decode cX9_reasonToWait 12 = .ok (.invokevirtual 177, 3) := by decide +kernel
theorem dX9_reasonToWait_15 : decode cX9_reasonToWait 15 = .ok (.invokevirtual 181, 3) := by decide +kernel
theorem dX9_reasonToWait_18 : decode cX9_reasonToWait 18 = .ok (.ifCond .eq 5, 3) := by decide +kernel
theorem dX9_reasonToWait_21 : decode cX9_reasonToWait 21 = .ok (.iconst 0, 1) := by decide +kernel
theorem dX9_reasonToWait_22 : decode cX9_reasonToWait 22 = .ok (.ireturn, 1) := by decide +kernel
theorem dX9_reasonToWait_23 : decode cX9_reasonToWait 23 = .ok (.aload_n 0, 1) := by decide +kernel
theorem dX9_reasonToWait_24 : decode cX9_reasonToWait 24 = .ok (.getfield 33, 3) := by decide +kernel
theorem dX9_reasonToWait_27 : decode cX9_reasonToWait 27 = .ok (.iload_n 1, 1) := by decide +kernel
theorem dX9_reasonToWait_28 : decode cX9_reasonToWait 28 = .ok (.invokevirtual 140, 3) := by decide +kernel
theorem dX9_reasonToWait_31 : decode cX9_reasonToWait 31 = .ok (.invokevirtual 187, 3) := by decide +kernel
theorem dX9_reasonToWait_34 : decode cX9_reasonToWait 34 = .ok (.ifCond .eq 5, 3) := by decide +kernel
theorem dX9_reasonToWait_37 : decode cX9_reasonToWait 37 = .ok (.iconst 1, 1) := by decide +kernel
theorem dX9_reasonToWait_38 : decode cX9_reasonToWait 38 = .ok (.ireturn, 1) := by decide +kernel
theorem dX9_reasonToWait_39 : decode cX9_reasonToWait 39 = .ok (.aload_n 0, 1) := by decide +kernel
theorem dX9_reasonToWait_40 : decode cX9_reasonToWait 40 = .ok (.getfield 33, 3) := by decide +kernel
theorem dX9_reasonToWait_43 : decode cX9_reasonToWait 43 = .ok (.iload_n 1, 1) := by decide +kernel
theorem dX9_reasonToWait_44 : decode cX9_reasonToWait 44 = .ok (.invokevirtual 260, 3) := by decide +kernel
theorem dX9_reasonToWait_47 : decode cX9_reasonToWait 47 = .ok (.istore_n 2, 1) := by decide +kernel
theorem dX9_reasonToWait_48 : decode cX9_reasonToWait 48 = .ok (.iload_n 2, 1) := by decide +kernel
theorem dX9_reasonToWait_49 : decode cX9_reasonToWait 49 = .ok (.iconst (-1), 1) := by decide +kernel
theorem dX9_reasonToWait_50 : decode cX9_reasonToWait 50 = .ok (.if_icmp .ne 5, 3) := by decide +kernel
theorem dX9_reasonToWait_53 : decode cX9_reasonToWait 53 = .ok (.iconst 2, 1) := by decide +kernel
theorem dX9_reasonToWait_54 : decode cX9_reasonToWait 54 = .ok (.ireturn, 1) := by decide +kernel
theorem dX9_reasonToWait_55 : decode cX9_reasonToWait 55 = .ok (.aload_n 0, 1) := by decide +kernel
theorem dX9_reasonToWait_56 : decode cX9_reasonToWait 56 = .ok (.getfield 33, 3) := by decide +kernel
theorem dX9_reasonToWait_59 : decode cX9_reasonToWait 59 = .ok (.invokevirtual 237, 3) := by decide +kernel
theorem dX9_reasonToWait_62 : decode cX9_reasonToWait 62 = .ok (.iload_n 2, 1) := by decide +kernel
theorem dX9_reasonToWait_63 : decode cX9_reasonToWait 63 = .ok (.invokevirtual 257, 3) := by decide +kernel
theorem dX9_reasonToWait_66 : decode cX9_reasonToWait 66 = .ok (.ifCond .ne 7, 3) := by decide +kernel
theorem dX9_reasonToWait_69 : decode cX9_reasonToWait 69 = .ok (.iconst 3, 1) := by decide +kernel
theorem dX9_reasonToWait_70 : decode cX9_reasonToWait 70 = .ok (.goto 4, 3) := by decide +kernel
theorem dX9_reasonToWait_73 : decode cX9_reasonToWait 73 = .ok (.iconst 4, 1) := by decide +kernel
theorem dX9_reasonToWait_74 : decode cX9_reasonToWait 74 = .ok (.ireturn, 1) := by decide +kernel
theorem dX9_duplicateCount_0 : decode cX9_duplicateCount 0 = .ok (.aload_n 0, 1) := by decide +kernel
theorem dX9_duplicateCount_1 : decode cX9_duplicateCount 1 = .ok (.getfield 33, 3) := by decide +kernel
theorem dX9_duplicateCount_4 : decode cX9_duplicateCount 4 = .ok (.invokevirtual 263, 3) := by decide +kernel
theorem dX9_duplicateCount_7 : decode cX9_duplicateCount 7 = .ok (.ireturn, 1) := by decide +kernel
theorem dX9_keptPromises_0 : decode cX9_keptPromises 0 = .ok (.iload_n 1, 1) := by decide +kernel
theorem dX9_keptPromises_1 : decode cX9_keptPromises 1 = .ok (.invokestatic 158, 3) := by decide +kernel
theorem dX9_keptPromises_4 : decode cX9_keptPromises 4 = .ok (.invokestatic 164, 3) := by decide +kernel
theorem dX9_keptPromises_7 : decode cX9_keptPromises 7 = .ok (.aload_n 0, 1) := by decide +kernel
theorem dX9_keptPromises_8 : decode cX9_keptPromises 8 = .ok (.getfield 33, 3) := by decide +kernel
theorem dX9_keptPromises_11 : decode cX9_keptPromises 11 = .ok (.iload_n 1, 1) := by decide +kernel
theorem dX9_keptPromises_12 : decode cX9_keptPromises 12 = .ok (.invokevirtual 177, 3) := by decide +kernel
theorem dX9_keptPromises_15 : decode cX9_keptPromises 15 = .ok (.invokevirtual 266, 3) := by decide +kernel
theorem dX9_keptPromises_18 : decode cX9_keptPromises 18 = .ok (.ireturn, 1) := by decide +kernel
theorem dX9_longestWait_0 : decode cX9_longestWait 0 = .ok (.iload_n 1, 1) := by decide +kernel
theorem dX9_longestWait_1 : decode cX9_longestWait 1 = .ok (.invokestatic 158, 3) := by decide +kernel
theorem dX9_longestWait_4 : decode cX9_longestWait 4 = .ok (.invokestatic 164, 3) := by decide +kernel
theorem dX9_longestWait_7 : decode cX9_longestWait 7 = .ok (.aload_n 0, 1) := by decide +kernel
theorem dX9_longestWait_8 : decode cX9_longestWait 8 = .ok (.getfield 33, 3) := by decide +kernel
theorem dX9_longestWait_11 : decode cX9_longestWait 11 = .ok (.iload_n 1, 1) := by decide +kernel
theorem dX9_longestWait_12 : decode cX9_longestWait 12 = .ok (.invokevirtual 177, 3) := by decide +kernel
theorem dX9_longestWait_15 : decode cX9_longestWait 15 = .ok (.invokevirtual 269, 3) := by decide +kernel
theorem dX9_longestWait_18 : decode cX9_longestWait 18 = .ok (.ireturn, 1) := by decide +kernel
theorem dX9_meanWait_0 : decode cX9_meanWait 0 = .ok (.iload_n 1, 1) := by decide +kernel
theorem dX9_meanWait_1 : decode cX9_meanWait 1 = .ok (.invokestatic 158, 3) := by decide +kernel
theorem dX9_meanWait_4 : decode cX9_meanWait 4 = .ok (.invokestatic 164, 3) := by decide +kernel
theorem dX9_meanWait_7 : decode cX9_meanWait 7 = .ok (.aload_n 0, 1) := by decide +kernel
theorem dX9_meanWait_8 : decode cX9_meanWait 8 = .ok (.getfield 33, 3) := by decide +kernel
theorem dX9_meanWait_11 : decode cX9_meanWait 11 = .ok (.iload_n 1, 1) := by decide +kernel
theorem dX9_meanWait_12 : decode cX9_meanWait 12 = .ok (.invokevirtual 177, 3) := by decide +kernel
theorem dX9_meanWait_15 : decode cX9_meanWait 15 = .ok (.astore_n 2, 1) := by decide +kernel
theorem dX9_meanWait_16 : decode cX9_meanWait 16 = .ok (.aload_n 2, 1) := by decide +kernel
theorem dX9_meanWait_17 : decode cX9_meanWait 17 = .ok (.invokevirtual 272, 3) := by decide +kernel
theorem dX9_meanWait_20 : decode cX9_meanWait 20 = .ok (.istore_n 3, 1) := by decide +kernel
theorem dX9_meanWait_21 : decode cX9_meanWait 21 = .ok (.iload_n 3, 1) := by decide +kernel
theorem dX9_meanWait_22 : decode cX9_meanWait 22 = .ok (.ifCond .ne 7, 3) := by decide +kernel
theorem dX9_meanWait_25 : decode cX9_meanWait 25 = .ok (.dconst 0, 1) := by decide +kernel
theorem dX9_meanWait_26 : decode cX9_meanWait 26 = .ok (.goto 11, 3) := by decide +kernel
theorem dX9_meanWait_29 : decode cX9_meanWait 29 = .ok (.aload_n 2, 1) := by decide +kernel
theorem dX9_meanWait_30 : decode cX9_meanWait 30 = .ok (.invokevirtual 275, 3) := by decide +kernel
theorem dX9_meanWait_33 : decode cX9_meanWait 33 = .ok (.i2d, 1) := by decide +kernel
theorem dX9_meanWait_34 : decode cX9_meanWait 34 = .ok (.iload_n 3, 1) := by decide +kernel
theorem dX9_meanWait_35 : decode cX9_meanWait 35 = .ok (.i2d, 1) := by decide +kernel
theorem dX9_meanWait_36 : decode cX9_meanWait 36 = .ok (.ddiv, 1) := by decide +kernel
theorem dX9_meanWait_37 : decode cX9_meanWait 37 = .ok (.dreturn, 1) := by decide +kernel
theorem dX9_meanTravel_0 : decode cX9_meanTravel 0 = .ok (.aload_n 0, 1) := by decide +kernel
theorem dX9_meanTravel_1 : decode cX9_meanTravel 1 = .ok (.getfield 33, 3) := by decide +kernel
theorem dX9_meanTravel_4 : decode cX9_meanTravel 4 = .ok (.invokevirtual 237, 3) := by decide +kernel
theorem dX9_meanTravel_7 : decode cX9_meanTravel 7 = .ok (.invokevirtual 278, 3) := by decide +kernel
theorem dX9_meanTravel_10 : decode cX9_meanTravel 10 = .ok (.istore_n 1, 1) := by decide +kernel
theorem dX9_meanTravel_11 : decode cX9_meanTravel 11 = .ok (.iload_n 1, 1) := by decide +kernel
theorem dX9_meanTravel_12 : decode cX9_meanTravel 12 = .ok (.ifCond .ne 7, 3) := by decide +kernel
theorem dX9_meanTravel_15 : decode cX9_meanTravel 15 = .ok (.fconst 0, 1) := by decide +kernel
theorem dX9_meanTravel_16 : decode cX9_meanTravel 16 = .ok (.goto 17, 3) := by decide +kernel
theorem dX9_meanTravel_19 : decode cX9_meanTravel 19 = .ok (.aload_n 0, 1) := by decide +kernel
theorem dX9_meanTravel_20 : decode cX9_meanTravel 20 = .ok (.getfield 33, 3) := by decide +kernel
theorem dX9_meanTravel_23 : decode cX9_meanTravel 23 = .ok (.invokevirtual 237, 3) := by decide +kernel
theorem dX9_meanTravel_26 : decode cX9_meanTravel 26 = .ok (.invokevirtual 281, 3) := by decide +kernel
theorem dX9_meanTravel_29 : decode cX9_meanTravel 29 = .ok (.i2f, 1) := by decide +kernel
theorem dX9_meanTravel_30 : decode cX9_meanTravel 30 = .ok (.iload_n 1, 1) := by decide +kernel
theorem dX9_meanTravel_31 : decode cX9_meanTravel 31 = .ok (.i2f, 1) := by decide +kernel
theorem dX9_meanTravel_32 : decode cX9_meanTravel 32 = .ok (.fdiv, 1) := by decide +kernel
theorem dX9_meanTravel_33 : decode cX9_meanTravel 33 = .ok (.freturn, 1) := by decide +kernel
theorem dX9_contradictions_0 : decode cX9_contradictions 0 = .ok (.aload_n 0, 1) := by decide +kernel
theorem dX9_contradictions_1 : decode cX9_contradictions 1 = .ok (.getfield 33, 3) := by decide +kernel
theorem dX9_contradictions_4 : decode cX9_contradictions 4 = .ok (.invokevirtual 284, 3) := by decide +kernel
theorem dX9_contradictions_7 : decode cX9_contradictions 7 = .ok (.ireturn, 1) := by decide +kernel
theorem dX9_arrivalDay_0 : decode cX9_arrivalDay 0 = .ok (.aload_n 0, 1) := by decide +kernel
theorem dX9_arrivalDay_1 : decode cX9_arrivalDay 1 = .ok (.getfield 33, 3) := by decide +kernel
theorem dX9_arrivalDay_4 : decode cX9_arrivalDay 4 = .ok (.invokevirtual 237, 3) := by decide +kernel
theorem dX9_arrivalDay_7 : decode cX9_arrivalDay 7 = .ok (.iload_n 1, 1) := by decide +kernel
theorem dX9_arrivalDay_8 : decode cX9_arrivalDay 8 = .ok (.invokevirtual 247, 3) := by decide +kernel
theorem dX9_arrivalDay_11 : decode cX9_arrivalDay 11 = .ok (.invokestatic 164, 3) := by decide +kernel
theorem dX9_arrivalDay_14 : decode cX9_arrivalDay 14 = .ok (.aload_n 0, 1) := by decide +kernel
theorem dX9_arrivalDay_15 : decode cX9_arrivalDay 15 = .ok (.getfield 33, 3) := by decide +kernel
theorem dX9_arrivalDay_18 : decode cX9_arrivalDay 18 = .ok (.invokevirtual 237, 3) := by decide +kernel
theorem dX9_arrivalDay_21 : decode cX9_arrivalDay 21 = .ok (.iload_n 1, 1) := by decide +kernel
theorem dX9_arrivalDay_22 : decode cX9_arrivalDay 22 = .ok (.invokevirtual 257, 3) := by decide +kernel
theorem dX9_arrivalDay_25 : decode cX9_arrivalDay 25 = .ok (.iconst 2, 1) := by decide +kernel
theorem dX9_arrivalDay_26 : decode cX9_arrivalDay 26 = .ok (.if_icmp .ne 15, 3) := by decide +kernel
theorem dX9_arrivalDay_29 : decode cX9_arrivalDay 29 = .ok (.aload_n 0, 1) := by decide +kernel
theorem dX9_arrivalDay_30 : decode cX9_arrivalDay 30 = .ok (.getfield 33, 3) := by decide +kernel
theorem dX9_arrivalDay_33 : decode cX9_arrivalDay 33 = .ok (.invokevirtual 237, 3) := by decide +kernel
theorem dX9_arrivalDay_36 : decode cX9_arrivalDay 36 = .ok (.iload_n 1, 1) := by decide +kernel
theorem dX9_arrivalDay_37 : decode cX9_arrivalDay 37 = .ok (.invokevirtual 287, 3) := by decide +kernel
theorem dX9_arrivalDay_40 : decode cX9_arrivalDay 40 = .ok (.ireturn, 1) := by decide +kernel
theorem dX9_arrivalDay_41 : decode cX9_arrivalDay 41 = .ok (.aload_n 0, 1) := by decide +kernel
theorem dX9_arrivalDay_42 : decode cX9_arrivalDay 42 = .ok (.getfield 37, 3) := by decide +kernel
theorem dX9_arrivalDay_45 : decode cX9_arrivalDay 45 = .ok (.invokevirtual 237, 3) := by decide +kernel
theorem dX9_arrivalDay_48 : decode cX9_arrivalDay 48 = .ok (.astore_n 2, 1) := by decide +kernel
theorem dX9_arrivalDay_49 : decode cX9_arrivalDay 49 = .ok (.aload_n 2, 1) := by decide +kernel
theorem dX9_arrivalDay_50 : decode cX9_arrivalDay 50 = .ok (.aload_n 0, 1) := by decide +kernel
theorem dX9_arrivalDay_51 : decode cX9_arrivalDay 51 = .ok (.getfield 33, 3) := by decide +kernel
theorem dX9_arrivalDay_54 : decode cX9_arrivalDay 54 = .ok (.invokevirtual 237, 3) := by decide +kernel
theorem dX9_arrivalDay_57 : decode cX9_arrivalDay 57 = .ok (.invokevirtual 290, 3) := by decide +kernel
theorem dX9_arrivalDay_60 : decode cX9_arrivalDay 60 = .ok (.iconst 1, 1) := by decide +kernel
theorem dX9_arrivalDay_61 : decode cX9_arrivalDay 61 = .ok (.istore_n 3, 1) := by decide +kernel
theorem dX9_arrivalDay_62 : decode cX9_arrivalDay 62 = .ok (.iload_n 3, 1) := by decide +kernel
theorem dX9_arrivalDay_63 : decode cX9_arrivalDay 63 = .ok (.sipush 400, 3) := by decide +kernel
theorem dX9_arrivalDay_66 : decode cX9_arrivalDay 66 = .ok (.if_icmp .gt 42, 3) := by decide +kernel
theorem dX9_arrivalDay_69 : decode cX9_arrivalDay 69 = .ok (.aload_n 2, 1) := by decide +kernel
theorem dX9_arrivalDay_70 : decode cX9_arrivalDay 70 = .ok (.aload_n 0, 1) := by decide +kernel
theorem dX9_arrivalDay_71 : decode cX9_arrivalDay 71 = .ok (.getfield 33, 3) := by decide +kernel
theorem dX9_arrivalDay_74 : decode cX9_arrivalDay 74 = .ok (.invokevirtual 152, 3) := by decide +kernel
theorem dX9_arrivalDay_77 : decode cX9_arrivalDay 77 = .ok (.iload_n 3, 1) := by decide +kernel
theorem dX9_arrivalDay_78 : decode cX9_arrivalDay 78 = .ok (.iadd, 1) := by decide +kernel
theorem dX9_arrivalDay_79 : decode cX9_arrivalDay 79 = .ok (.invokevirtual 293, 3) := by decide +kernel
theorem dX9_arrivalDay_82 : decode cX9_arrivalDay 82 = .ok (.pop, 1) := by decide +kernel
theorem dX9_arrivalDay_83 : decode cX9_arrivalDay 83 = .ok (.aload_n 2, 1) := by decide +kernel
theorem dX9_arrivalDay_84 : decode cX9_arrivalDay 84 = .ok (.iload_n 1, 1) := by decide +kernel
theorem dX9_arrivalDay_85 : decode cX9_arrivalDay 85 = .ok (.invokevirtual 257, 3) := by decide +kernel
theorem dX9_arrivalDay_88 : decode cX9_arrivalDay 88 = .ok (.iconst 2, 1) := by decide +kernel
theorem dX9_arrivalDay_89 : decode cX9_arrivalDay 89 = .ok (.if_icmp .ne 13, 3) := by decide +kernel
theorem dX9_arrivalDay_92 : decode cX9_arrivalDay 92 = .ok (.aload_n 0, 1) := by decide +kernel
theorem dX9_arrivalDay_93 : decode cX9_arrivalDay 93 = .ok (.getfield 33, 3) := by decide +kernel
theorem dX9_arrivalDay_96 : decode cX9_arrivalDay 96 = .ok (.invokevirtual 152, 3) := by decide +kernel
theorem dX9_arrivalDay_99 : decode cX9_arrivalDay 99 = .ok (.iload_n 3, 1) := by decide +kernel
theorem dX9_arrivalDay_100 : decode cX9_arrivalDay 100 = .ok (.iadd, 1) := by decide +kernel
theorem dX9_arrivalDay_101 : decode cX9_arrivalDay 101 = .ok (.ireturn, 1) := by decide +kernel
theorem dX9_arrivalDay_102 : decode cX9_arrivalDay 102 = .ok (.iinc 3 1, 3) := by decide +kernel
theorem dX9_arrivalDay_105 : decode cX9_arrivalDay 105 = .ok (.goto (-43), 3) := by decide +kernel
theorem dX9_arrivalDay_108 : decode cX9_arrivalDay 108 = .ok (.iconst (-1), 1) := by decide +kernel
theorem dX9_arrivalDay_109 : decode cX9_arrivalDay 109 = .ok (.ireturn, 1) := by decide +kernel
theorem dX9_daysUntilTurn_0 : decode cX9_daysUntilTurn 0 = .ok (.iload_n 1, 1) := by decide +kernel
theorem dX9_daysUntilTurn_1 : decode cX9_daysUntilTurn 1 = .ok (.invokestatic 158, 3) := by decide +kernel
theorem dX9_daysUntilTurn_4 : decode cX9_daysUntilTurn 4 = .ok (.invokestatic 164, 3) := by decide +kernel
theorem dX9_daysUntilTurn_7 : decode cX9_daysUntilTurn 7 = .ok (.aload_n 0, 1) := by decide +kernel
theorem dX9_daysUntilTurn_8 : decode cX9_daysUntilTurn 8 = .ok (.getfield 33, 3) := by decide +kernel
theorem dX9_daysUntilTurn_11 : decode cX9_daysUntilTurn 11 = .ok (.iload_n 1, 1) := by decide +kernel
theorem dX9_daysUntilTurn_12 : decode cX9_daysUntilTurn 12 = .ok (.invokevirtual 177, 3) := by decide +kernel
theorem dX9_daysUntilTurn_15 : decode cX9_daysUntilTurn 15 = .ok (.invokevirtual 181, 3) := by decide +kernel
theorem dX9_daysUntilTurn_18 : decode cX9_daysUntilTurn 18 = .ok (.ifCond .eq 5, 3) := by decide +kernel
theorem dX9_daysUntilTurn_21 : decode cX9_daysUntilTurn 21 = .ok (.iconst 0, 1) := by decide +kernel
theorem dX9_daysUntilTurn_22 : decode cX9_daysUntilTurn 22 = .ok (.ireturn, 1) := by decide +kernel
theorem dX9_daysUntilTurn_23 : decode cX9_daysUntilTurn 23 = .ok (.aload_n 0, 1) := by decide +kernel
theorem dX9_daysUntilTurn_24 : decode cX9_daysUntilTurn 24 = .ok (.getfield 37, 3) := by decide +kernel
theorem dX9_daysUntilTurn_27 : decode cX9_daysUntilTurn 27 = .ok (.aload_n 0, 1) := by decide +kernel
theorem dX9_daysUntilTurn_28 : decode cX9_daysUntilTurn 28 = .ok (.getfield 33, 3) := by decide +kernel
theorem dX9_daysUntilTurn_31 : decode cX9_daysUntilTurn 31 = .ok (.invokevirtual 76, 3) := by decide +kernel
theorem dX9_daysUntilTurn_34 : decode cX9_daysUntilTurn 34 = .ok (.iconst 1, 1) := by decide +kernel
theorem dX9_daysUntilTurn_35 : decode cX9_daysUntilTurn 35 = .ok (.istore_n 2, 1) := by decide +kernel
theorem dX9_daysUntilTurn_36 : decode cX9_daysUntilTurn 36 = .ok (.iload_n 2, 1) := by decide +kernel
theorem dX9_daysUntilTurn_37 : decode cX9_daysUntilTurn 37 = .ok (.sipush 400, 3) := by decide +kernel
theorem dX9_daysUntilTurn_40 : decode cX9_daysUntilTurn 40 = .ok (.if_icmp .gt 46, 3) := by decide +kernel
theorem dX9_daysUntilTurn_43 : decode cX9_daysUntilTurn 43 = .ok (.aload_n 0, 1) := by decide +kernel
theorem dX9_daysUntilTurn_44 : decode cX9_daysUntilTurn 44 = .ok (.getfield 37, 3) := by decide +kernel
theorem dX9_daysUntilTurn_47 : decode cX9_daysUntilTurn 47 = .ok (.invokevirtual 237, 3) := by decide +kernel
theorem dX9_daysUntilTurn_50 : decode cX9_daysUntilTurn 50 = .ok (.invokevirtual 296, 3) := by decide +kernel
theorem dX9_daysUntilTurn_53 : decode cX9_daysUntilTurn 53 = .ok (.ifCond .ne 33, 3) := by decide +kernel
theorem dX9_daysUntilTurn_56 : decode cX9_daysUntilTurn 56 = .ok (.aload_n 0, 1) := by decide +kernel
theorem dX9_daysUntilTurn_57 : decode cX9_daysUntilTurn 57 = .ok (.getfield 37, 3) := by decide +kernel
theorem dX9_daysUntilTurn_60 : decode cX9_daysUntilTurn 60 = .ok (.invokevirtual 299, 3) := by decide +kernel
theorem dX9_daysUntilTurn_63 : decode cX9_daysUntilTurn 63 = .ok (.pop, 1) := by decide +kernel
theorem dX9_daysUntilTurn_64 : decode cX9_daysUntilTurn 64 = .ok (.aload_n 0, 1) := by decide +kernel
theorem dX9_daysUntilTurn_65 : decode cX9_daysUntilTurn 65 = .ok (.getfield 37, 3) := by decide +kernel
theorem dX9_daysUntilTurn_68 : decode cX9_daysUntilTurn 68 = .ok (.iload_n 1, 1) := by decide +kernel
theorem dX9_daysUntilTurn_69 : decode cX9_daysUntilTurn 69 = .ok (.invokevirtual 177, 3) := by decide +kernel
theorem dX9_daysUntilTurn_72 : decode cX9_daysUntilTurn 72 = .ok (.invokevirtual 181, 3) := by decide +kernel
theorem dX9_daysUntilTurn_75 : decode cX9_daysUntilTurn 75 = .ok (.ifCond .eq 5, 3) := by decide +kernel
theorem dX9_daysUntilTurn_78 : decode cX9_daysUntilTurn 78 = .ok (.iload_n 2, 1) := by decide +kernel
theorem dX9_daysUntilTurn_79 : decode cX9_daysUntilTurn 79 = .ok (.ireturn, 1) := by decide +kernel
theorem dX9_daysUntilTurn_80 : decode cX9_daysUntilTurn 80 = .ok (.iinc 2 1, 3) := by decide +kernel
theorem dX9_daysUntilTurn_83 : decode cX9_daysUntilTurn 83 = .ok (.goto (-47), 3) := by decide +kernel
theorem dX9_daysUntilTurn_86 : decode cX9_daysUntilTurn 86 = .ok (.iconst (-1), 1) := by decide +kernel
theorem dX9_daysUntilTurn_87 : decode cX9_daysUntilTurn 87 = .ok (.ireturn, 1) := by decide +kernel
theorem dX9_daysUntilEqual_0 : decode cX9_daysUntilEqual 0 = .ok (.aload_n 0, 1) := by decide +kernel
theorem dX9_daysUntilEqual_1 : decode cX9_daysUntilEqual 1 = .ok (.getfield 33, 3) := by decide +kernel
theorem dX9_daysUntilEqual_4 : decode cX9_daysUntilEqual 4 = .ok (.invokevirtual 210, 3) := by decide +kernel
theorem dX9_daysUntilEqual_7 : decode cX9_daysUntilEqual 7 = .ok (.ifCond .eq 5, 3) := by decide +kernel
theorem dX9_daysUntilEqual_10 : decode cX9_daysUntilEqual 10 = .ok (.iconst 0, 1) := by decide +kernel
theorem dX9_daysUntilEqual_11 : decode cX9_daysUntilEqual 11 = .ok (.ireturn, 1) := by decide +kernel
theorem dX9_daysUntilEqual_12 : decode cX9_daysUntilEqual 12 = .ok (.aload_n 0, 1) := by decide +kernel
theorem dX9_daysUntilEqual_13 : decode cX9_daysUntilEqual 13 = .ok (.getfield 37, 3) := by decide +kernel
theorem dX9_daysUntilEqual_16 : decode cX9_daysUntilEqual 16 = .ok (.aload_n 0, 1) := by decide +kernel
theorem dX9_daysUntilEqual_17 : decode cX9_daysUntilEqual 17 = .ok (.getfield 33, 3) := by decide +kernel
theorem dX9_daysUntilEqual_20 : decode cX9_daysUntilEqual 20 = .ok (.invokevirtual 76, 3) := by decide +kernel
theorem dX9_daysUntilEqual_23 : decode cX9_daysUntilEqual 23 = .ok (.iconst 1, 1) := by decide +kernel
theorem dX9_daysUntilEqual_24 : decode cX9_daysUntilEqual 24 = .ok (.istore_n 1, 1) := by decide +kernel
theorem dX9_daysUntilEqual_25 : decode cX9_daysUntilEqual 25 = .ok (.iload_n 1, 1) := by decide +kernel
theorem dX9_daysUntilEqual_26 : decode cX9_daysUntilEqual 26 = .ok (.sipush 400, 3) := by decide +kernel
theorem dX9_daysUntilEqual_29 : decode cX9_daysUntilEqual 29 = .ok (.if_icmp .gt 42, 3) := by decide +kernel
theorem dX9_daysUntilEqual_32 : decode cX9_daysUntilEqual 32 = .ok (.aload_n 0, 1) := by decide +kernel
theorem dX9_daysUntilEqual_33 : decode cX9_daysUntilEqual 33 = .ok (.getfield 37, 3) := by decide +kernel
theorem dX9_daysUntilEqual_36 : decode cX9_daysUntilEqual 36 = .ok (.invokevirtual 237, 3) := by decide +kernel
theorem dX9_daysUntilEqual_39 : decode cX9_daysUntilEqual 39 = .ok (.invokevirtual 296, 3) := by decide +kernel
theorem dX9_daysUntilEqual_42 : decode cX9_daysUntilEqual 42 = .ok (.ifCond .ne 29, 3) := by decide +kernel
theorem dX9_daysUntilEqual_45 : decode cX9_daysUntilEqual 45 = .ok (.aload_n 0, 1) := by decide +kernel
theorem dX9_daysUntilEqual_46 : decode cX9_daysUntilEqual 46 = .ok (.getfield 37, 3) := by decide +kernel
theorem dX9_daysUntilEqual_49 : decode cX9_daysUntilEqual 49 = .ok (.invokevirtual 299, 3) := by decide +kernel
theorem dX9_daysUntilEqual_52 : decode cX9_daysUntilEqual 52 = .ok (.pop, 1) := by decide +kernel
theorem dX9_daysUntilEqual_53 : decode cX9_daysUntilEqual 53 = .ok (.aload_n 0, 1) := by decide +kernel
theorem dX9_daysUntilEqual_54 : decode cX9_daysUntilEqual 54 = .ok (.getfield 37, 3) := by decide +kernel
theorem dX9_daysUntilEqual_57 : decode cX9_daysUntilEqual 57 = .ok (.invokevirtual 210, 3) := by decide +kernel
theorem dX9_daysUntilEqual_60 : decode cX9_daysUntilEqual 60 = .ok (.ifCond .eq 5, 3) := by decide +kernel
theorem dX9_daysUntilEqual_63 : decode cX9_daysUntilEqual 63 = .ok (.iload_n 1, 1) := by decide +kernel
theorem dX9_daysUntilEqual_64 : decode cX9_daysUntilEqual 64 = .ok (.ireturn, 1) := by decide +kernel
theorem dX9_daysUntilEqual_65 : decode cX9_daysUntilEqual 65 = .ok (.iinc 1 1, 3) := by decide +kernel
theorem dX9_daysUntilEqual_68 : decode cX9_daysUntilEqual 68 = .ok (.goto (-43), 3) := by decide +kernel
theorem dX9_daysUntilEqual_71 : decode cX9_daysUntilEqual 71 = .ok (.iconst (-1), 1) := by decide +kernel
theorem dX9_daysUntilEqual_72 : decode cX9_daysUntilEqual 72 = .ok (.ireturn, 1) := by decide +kernel
theorem dX9_fastestPass_0 : decode cX9_fastestPass 0 = .ok (.iload_n 1, 1) := by decide +kernel
theorem dX9_fastestPass_1 : decode cX9_fastestPass 1 = .ok (.invokestatic 158, 3) := by decide +kernel
theorem dX9_fastestPass_4 : decode cX9_fastestPass 4 = .ok (.invokestatic 164, 3) := by decide +kernel
theorem dX9_fastestPass_7 : decode cX9_fastestPass 7 = .ok (.aload_n 0, 1) := by decide +kernel
theorem dX9_fastestPass_8 : decode cX9_fastestPass 8 = .ok (.getfield 37, 3) := by decide +kernel
theorem dX9_fastestPass_11 : decode cX9_fastestPass 11 = .ok (.invokevirtual 237, 3) := by decide +kernel
theorem dX9_fastestPass_14 : decode cX9_fastestPass 14 = .ok (.astore_n 2, 1) := by decide +kernel
theorem dX9_fastestPass_15 : decode cX9_fastestPass 15 = .ok (.aload_n 2, 1) := by decide +kernel
theorem dX9_fastestPass_16 : decode cX9_fastestPass 16 = .ok (.aload_n 0, 1) := by decide +kernel
theorem dX9_fastestPass_17 : decode cX9_fastestPass 17 = .ok (.getfield 33, 3) := by decide +kernel
theorem dX9_fastestPass_20 : decode cX9_fastestPass 20 = .ok (.invokevirtual 237, 3) := by decide +kernel
theorem dX9_fastestPass_23 : decode cX9_fastestPass 23 = .ok (.invokevirtual 290, 3) := by decide +kernel
theorem dX9_fastestPass_26 : decode cX9_fastestPass 26 = .ok (.aload_n 2, 1) := by decide +kernel
theorem dX9_fastestPass_27 : decode cX9_fastestPass 27 = .ok (.invokevirtual 246, 3) := by decide +kernel
theorem dX9_fastestPass_30 : decode cX9_fastestPass 30 = .ok (.istore_n 3, 1) := by decide +kernel
theorem dX9_fastestPass_31 : decode cX9_fastestPass 31 = .ok (.aload_n 0, 1) := by decide +kernel
theorem dX9_fastestPass_32 : decode cX9_fastestPass 32 = .ok (.getfield 33, 3) := by decide +kernel
theorem dX9_fastestPass_35 : decode cX9_fastestPass 35 = .ok (.invokevirtual 213, 3) := by decide +kernel
theorem dX9_fastestPass_38 : decode cX9_fastestPass 38 = .ok (.invokevirtual 217, 3) := by decide +kernel
theorem dX9_fastestPass_41 : decode cX9_fastestPass 41 = .ok (.istore 4, 2) := by decide +kernel
theorem dX9_fastestPass_43 : decode cX9_fastestPass 43 = .ok (.iconst 0, 1) := by decide +kernel
theorem dX9_fastestPass_44 : decode cX9_fastestPass 44 = .ok (.istore 5, 2) := by decide +kernel
theorem dX9_fastestPass_46 : decode cX9_fastestPass 46 = .ok (.iload 5, 2) := by decide +kernel
theorem dX9_fastestPass_48 : decode cX9_fastestPass 48 = .ok (.iload 4, 2) := by decide +kernel
theorem dX9_fastestPass_50 : decode cX9_fastestPass 50 = .ok (.if_icmp .ge 27, 3) := by decide +kernel
theorem dX9_fastestPass_53 : decode cX9_fastestPass 53 = .ok (.aload_n 2, 1) := by decide +kernel
theorem dX9_fastestPass_54 : decode cX9_fastestPass 54 = .ok (.iload_n 1, 1) := by decide +kernel
theorem dX9_fastestPass_55 : decode cX9_fastestPass 55 = .ok (.iconst 0, 1) := by decide +kernel
theorem dX9_fastestPass_56 : decode cX9_fastestPass 56 = .ok (.iconst (-1), 1) := by decide +kernel
theorem dX9_fastestPass_57 : decode cX9_fastestPass 57 = .ok (.iconst (-1), 1) := by decide +kernel
theorem dX9_fastestPass_58 : decode cX9_fastestPass 58 = .ok (.iload 5, 2) := by decide +kernel
theorem dX9_fastestPass_60 : decode cX9_fastestPass 60 = .ok (.aload_n 0, 1) := by decide +kernel
theorem dX9_fastestPass_61 : decode cX9_fastestPass 61 = .ok (.getfield 33, 3) := by decide +kernel
theorem dX9_fastestPass_64 : decode cX9_fastestPass 64 = .ok (.invokevirtual 152, 3) := by decide +kernel
theorem dX9_fastestPass_67 : decode cX9_fastestPass 67 = .ok (.invokevirtual 301, 3) := by decide +kernel
theorem dX9_fastestPass_70 : decode cX9_fastestPass 70 = .ok (.pop, 1) := by decide +kernel
theorem dX9_fastestPass_71 : decode cX9_fastestPass 71 = .ok (.iinc 5 1, 3) := by decide +kernel
theorem dX9_fastestPass_74 : decode cX9_fastestPass 74 = .ok (.goto (-28), 3) := by decide +kernel
theorem dX9_fastestPass_77 : decode cX9_fastestPass 77 = .ok (.iconst 1, 1) := by decide +kernel
theorem dX9_fastestPass_78 : decode cX9_fastestPass 78 = .ok (.istore 5, 2) := by decide +kernel
theorem dX9_fastestPass_80 : decode cX9_fastestPass 80 = .ok (.iload 5, 2) := by decide +kernel
theorem dX9_fastestPass_82 : decode cX9_fastestPass 82 = .ok (.sipush 400, 3) := by decide +kernel
theorem dX9_fastestPass_85 : decode cX9_fastestPass 85 = .ok (.if_icmp .gt 55, 3) := by decide +kernel
theorem dX9_fastestPass_88 : decode cX9_fastestPass 88 = .ok (.aload_n 2, 1) := by decide +kernel
theorem dX9_fastestPass_89 : decode cX9_fastestPass 89 = .ok (.aload_n 0, 1) := by decide +kernel
theorem dX9_fastestPass_90 : decode cX9_fastestPass 90 = .ok (.getfield 33, 3) := by decide +kernel
theorem dX9_fastestPass_93 : decode cX9_fastestPass 93 = .ok (.invokevirtual 152, 3) := by decide +kernel
theorem dX9_fastestPass_96 : decode cX9_fastestPass 96 = .ok (.iload 5, 2) := by decide +kernel
theorem dX9_fastestPass_98 : decode cX9_fastestPass 98 = .ok (.iadd, 1) := by decide +kernel
theorem dX9_fastestPass_99 : decode cX9_fastestPass 99 = .ok (.invokevirtual 293, 3) := by decide +kernel
theorem dX9_fastestPass_102 : decode cX9_fastestPass 102 = .ok (.pop, 1) := by decide +kernel
theorem dX9_fastestPass_103 : decode cX9_fastestPass 103 = .ok (.iconst 0, 1) := by decide +kernel
theorem dX9_fastestPass_104 : decode cX9_fastestPass 104 = .ok (.istore 6, 2) := by decide +kernel
theorem dX9_fastestPass_106 : decode cX9_fastestPass 106 = .ok (.iload 6, 2) := by decide +kernel
theorem dX9_fastestPass_108 : decode cX9_fastestPass 108 = .ok (.iload 4, 2) := by decide +kernel
theorem dX9_fastestPass_110 : decode cX9_fastestPass 110 = .ok (.if_icmp .ge 24, 3) := by decide +kernel
theorem dX9_fastestPass_113 : decode cX9_fastestPass 113 = .ok (.aload_n 2, 1) := by decide +kernel
theorem dX9_fastestPass_114 : decode cX9_fastestPass 114 = .ok (.iload_n 3, 1) := by decide +kernel
theorem dX9_fastestPass_115 : decode cX9_fastestPass 115 = .ok (.iload 6, 2) := by decide +kernel
theorem dX9_fastestPass_117 : decode cX9_fastestPass 117 = .ok (.iadd, 1) := by decide +kernel
theorem dX9_fastestPass_118 : decode cX9_fastestPass 118 = .ok (.invokevirtual 257, 3) := by decide +kernel
theorem dX9_fastestPass_121 : decode cX9_fastestPass 121 = .ok (.iconst 2, 1) := by decide +kernel
theorem dX9_fastestPass_122 : decode cX9_fastestPass 122 = .ok (.if_icmp .ne 6, 3) := by decide +kernel
theorem dX9_fastestPass_125 : decode cX9_fastestPass 125 = .ok (.iload 6, 2) := by decide +kernel
theorem dX9_fastestPass_127 : decode cX9_fastestPass 127 = .ok (.ireturn, 1) := by decide +kernel
theorem dX9_fastestPass_128 : decode cX9_fastestPass 128 = .ok (.iinc 6 1, 3) := by decide +kernel
theorem dX9_fastestPass_131 : decode cX9_fastestPass 131 = .ok (.goto (-25), 3) := by decide +kernel
theorem dX9_fastestPass_134 : decode cX9_fastestPass 134 = .ok (.iinc 5 1, 3) := by decide +kernel
theorem dX9_fastestPass_137 : decode cX9_fastestPass 137 = .ok (.goto (-57), 3) := by decide +kernel
theorem dX9_fastestPass_140 : decode cX9_fastestPass 140 = .ok (.iconst (-1), 1) := by decide +kernel
theorem dX9_fastestPass_141 : decode cX9_fastestPass 141 = .ok (.ireturn, 1) := by decide +kernel
theorem dX9_move_0 : decode cX9_move 0 = .ok (.aload_n 0, 1) := by decide +kernel
theorem dX9_move_1 : decode cX9_move 1 = .ok (.getfield 33, 3) := by decide +kernel
theorem dX9_move_4 : decode cX9_move 4 = .ok (.iload_n 1, 1) := by decide +kernel
theorem dX9_move_5 : decode cX9_move 5 = .ok (.iload_n 2, 1) := by decide +kernel
theorem dX9_move_6 : decode cX9_move 6 = .ok (.iload_n 3, 1) := by decide +kernel
theorem dX9_move_7 : decode cX9_move 7 = .ok (.iload 4, 2) := by decide +kernel
theorem dX9_move_9 : decode cX9_move 9 = .ok (.invokevirtual 304, 3) := by decide +kernel
theorem dX9_move_12 : decode cX9_move 12 = .ok (.invokestatic 308, 3) := by decide +kernel
theorem dX9_move_15 : decode cX9_move 15 = .ok (.aload_n 0, 1) := by decide +kernel
theorem dX9_move_16 : decode cX9_move 16 = .ok (.getfield 43, 3) := by decide +kernel
theorem dX9_move_19 : decode cX9_move 19 = .ok (.aload_n 0, 1) := by decide +kernel
theorem dX9_move_20 : decode cX9_move 20 = .ok (.getfield 33, 3) := by decide +kernel
theorem dX9_move_23 : decode cX9_move 23 = .ok (.invokevirtual 126, 3) := by decide +kernel
theorem dX9_move_26 : decode cX9_move 26 = .ok (.aload_n 0, 1) := by decide +kernel
theorem dX9_move_27 : decode cX9_move 27 = .ok (.getfield 33, 3) := by decide +kernel
theorem dX9_move_30 : decode cX9_move 30 = .ok (.iload_n 1, 1) := by decide +kernel
theorem dX9_move_31 : decode cX9_move 31 = .ok (.iload_n 2, 1) := by decide +kernel
theorem dX9_move_32 : decode cX9_move 32 = .ok (.iload_n 3, 1) := by decide +kernel
theorem dX9_move_33 : decode cX9_move 33 = .ok (.iload 4, 2) := by decide +kernel
theorem dX9_move_35 : decode cX9_move 35 = .ok (.invokevirtual 311, 3) := by decide +kernel
theorem dX9_move_38 : decode cX9_move 38 = .ok (.ireturn, 1) := by decide +kernel
theorem dX9_promise_0 : decode cX9_promise 0 = .ok (.aload_n 0, 1) := by decide +kernel
theorem dX9_promise_1 : decode cX9_promise 1 = .ok (.getfield 33, 3) := by decide +kernel
theorem dX9_promise_4 : decode cX9_promise 4 = .ok (.iload_n 1, 1) := by decide +kernel
theorem dX9_promise_5 : decode cX9_promise 5 = .ok (.iload_n 2, 1) := by decide +kernel
theorem dX9_promise_6 : decode cX9_promise 6 = .ok (.iload_n 3, 1) := by decide +kernel
theorem dX9_promise_7 : decode cX9_promise 7 = .ok (.iload 4, 2) := by decide +kernel
theorem dX9_promise_9 : decode cX9_promise 9 = .ok (.iload 5, 2) := by decide +kernel
theorem dX9_promise_11 : decode cX9_promise 11 = .ok (.iload 6, 2) := by decide +kernel
theorem dX9_promise_13 : decode cX9_promise 13 = .ok (.invokevirtual 314, 3) := by decide +kernel
theorem dX9_promise_16 : decode cX9_promise 16 = .ok (.invokestatic 308, 3) := by decide +kernel
theorem dX9_promise_19 : decode cX9_promise 19 = .ok (.aload_n 0, 1) := by decide +kernel
theorem dX9_promise_20 : decode cX9_promise 20 = .ok (.getfield 43, 3) := by decide +kernel
theorem dX9_promise_23 : decode cX9_promise 23 = .ok (.aload_n 0, 1) := by decide +kernel
theorem dX9_promise_24 : decode cX9_promise 24 = .ok (.getfield 33, 3) := by decide +kernel
theorem dX9_promise_27 : decode cX9_promise 27 = .ok (.invokevirtual 126, 3) := by decide +kernel
theorem dX9_promise_30 : decode cX9_promise 30 = .ok (.aload_n 0, 1) := by decide +kernel
theorem dX9_promise_31 : decode cX9_promise 31 = .ok (.getfield 33, 3) := by decide +kernel
theorem dX9_promise_34 : decode cX9_promise 34 = .ok (.iload_n 1, 1) := by decide +kernel
theorem dX9_promise_35 : decode cX9_promise 35 = .ok (.iload_n 2, 1) := by decide +kernel
theorem dX9_promise_36 : decode cX9_promise 36 = .ok (.iload_n 3, 1) := by decide +kernel
theorem dX9_promise_37 : decode cX9_promise 37 = .ok (.iload 4, 2) := by decide +kernel
theorem dX9_promise_39 : decode cX9_promise 39 = .ok (.invokestatic 317, 3) := by decide +kernel
theorem dX9_promise_42 : decode cX9_promise 42 = .ok (.iload 5, 2) := by decide +kernel
theorem dX9_promise_44 : decode cX9_promise 44 = .ok (.iload 6, 2) := by decide +kernel
theorem dX9_promise_46 : decode cX9_promise 46 = .ok (.invokestatic 317, 3) := by decide +kernel
theorem dX9_promise_49 : decode cX9_promise 49 = .ok (.invokevirtual 320, 3) := by decide +kernel
theorem dX9_promise_52 : decode cX9_promise 52 = .ok (.ireturn, 1) := by decide +kernel
theorem dX9_resend_0 : decode cX9_resend 0 = .ok (.aload_n 0, 1) := by decide +kernel
theorem dX9_resend_1 : decode cX9_resend 1 = .ok (.getfield 33, 3) := by decide +kernel
theorem dX9_resend_4 : decode cX9_resend 4 = .ok (.iload_n 1, 1) := by decide +kernel
theorem dX9_resend_5 : decode cX9_resend 5 = .ok (.iload_n 2, 1) := by decide +kernel
theorem dX9_resend_6 : decode cX9_resend 6 = .ok (.invokevirtual 323, 3) := by decide +kernel
theorem dX9_resend_9 : decode cX9_resend 9 = .ok (.invokestatic 308, 3) := by decide +kernel
theorem dX9_resend_12 : decode cX9_resend 12 = .ok (.aload_n 0, 1) := by decide +kernel
theorem dX9_resend_13 : decode cX9_resend 13 = .ok (.getfield 43, 3) := by decide +kernel
theorem dX9_resend_16 : decode cX9_resend 16 = .ok (.aload_n 0, 1) := by decide +kernel
theorem dX9_resend_17 : decode cX9_resend 17 = .ok (.getfield 33, 3) := by decide +kernel
theorem dX9_resend_20 : decode cX9_resend 20 = .ok (.invokevirtual 126, 3) := by decide +kernel
theorem dX9_resend_23 : decode cX9_resend 23 = .ok (.aload_n 0, 1) := by decide +kernel
theorem dX9_resend_24 : decode cX9_resend 24 = .ok (.getfield 33, 3) := by decide +kernel
theorem dX9_resend_27 : decode cX9_resend 27 = .ok (.iload_n 1, 1) := by decide +kernel
theorem dX9_resend_28 : decode cX9_resend 28 = .ok (.iload_n 2, 1) := by decide +kernel
theorem dX9_resend_29 : decode cX9_resend 29 = .ok (.invokevirtual 326, 3) := by decide +kernel
theorem dX9_resend_32 : decode cX9_resend 32 = .ok (.ireturn, 1) := by decide +kernel
theorem dX9_advance_0 : decode cX9_advance 0 = .ok (.aload_n 0, 1) := by decide +kernel
theorem dX9_advance_1 : decode cX9_advance 1 = .ok (.getfield 33, 3) := by decide +kernel
theorem dX9_advance_4 : decode cX9_advance 4 = .ok (.iload_n 1, 1) := by decide +kernel
theorem dX9_advance_5 : decode cX9_advance 5 = .ok (.invokevirtual 329, 3) := by decide +kernel
theorem dX9_advance_8 : decode cX9_advance 8 = .ok (.invokestatic 308, 3) := by decide +kernel
theorem dX9_advance_11 : decode cX9_advance 11 = .ok (.aload_n 0, 1) := by decide +kernel
theorem dX9_advance_12 : decode cX9_advance 12 = .ok (.getfield 43, 3) := by decide +kernel
theorem dX9_advance_15 : decode cX9_advance 15 = .ok (.aload_n 0, 1) := by decide +kernel
theorem dX9_advance_16 : decode cX9_advance 16 = .ok (.getfield 33, 3) := by decide +kernel
theorem dX9_advance_19 : decode cX9_advance 19 = .ok (.invokevirtual 126, 3) := by decide +kernel
theorem dX9_advance_22 : decode cX9_advance 22 = .ok (.aload_n 0, 1) := by decide +kernel
theorem dX9_advance_23 : decode cX9_advance 23 = .ok (.getfield 33, 3) := by decide +kernel
theorem dX9_advance_26 : decode cX9_advance 26 = .ok (.iload_n 1, 1) := by decide +kernel
theorem dX9_advance_27 : decode cX9_advance 27 = .ok (.invokevirtual 332, 3) := by decide +kernel
theorem dX9_advance_30 : decode cX9_advance 30 = .ok (.ireturn, 1) := by decide +kernel
theorem dX9_addMule_0 : decode cX9_addMule 0 = .ok (.aload_n 0, 1) := by decide +kernel
theorem dX9_addMule_1 : decode cX9_addMule 1 = .ok (.getfield 33, 3) := by decide +kernel
theorem dX9_addMule_4 : decode cX9_addMule 4 = .ok (.iload_n 1, 1) := by decide +kernel
theorem dX9_addMule_5 : decode cX9_addMule 5 = .ok (.iload_n 2, 1) := by decide +kernel
theorem dX9_addMule_6 : decode cX9_addMule 6 = .ok (.invokevirtual 335, 3) := by decide +kernel
theorem dX9_addMule_9 : decode cX9_addMule 9 = .ok (.invokestatic 308, 3) := by decide +kernel
theorem dX9_addMule_12 : decode cX9_addMule 12 = .ok (.aload_n 0, 1) := by decide +kernel
theorem dX9_addMule_13 : decode cX9_addMule 13 = .ok (.getfield 43, 3) := by decide +kernel
theorem dX9_addMule_16 : decode cX9_addMule 16 = .ok (.aload_n 0, 1) := by decide +kernel
theorem dX9_addMule_17 : decode cX9_addMule 17 = .ok (.getfield 33, 3) := by decide +kernel
theorem dX9_addMule_20 : decode cX9_addMule 20 = .ok (.invokevirtual 126, 3) := by decide +kernel
theorem dX9_addMule_23 : decode cX9_addMule 23 = .ok (.aload_n 0, 1) := by decide +kernel
theorem dX9_addMule_24 : decode cX9_addMule 24 = .ok (.getfield 33, 3) := by decide +kernel
theorem dX9_addMule_27 : decode cX9_addMule 27 = .ok (.invokevirtual 213, 3) := by decide +kernel
theorem dX9_addMule_30 : decode cX9_addMule 30 = .ok (.iload_n 1, 1) := by decide +kernel
theorem dX9_addMule_31 : decode cX9_addMule 31 = .ok (.iload_n 2, 1) := by decide +kernel
theorem dX9_addMule_32 : decode cX9_addMule 32 = .ok (.invokevirtual 338, 3) := by decide +kernel
theorem dX9_addMule_35 : decode cX9_addMule 35 = .ok (.ireturn, 1) := by decide +kernel
theorem dX9_setSnow_0 : decode cX9_setSnow 0 = .ok (.aload_n 0, 1) := by decide +kernel
theorem dX9_setSnow_1 : decode cX9_setSnow 1 = .ok (.getfield 33, 3) := by decide +kernel
theorem dX9_setSnow_4 : decode cX9_setSnow 4 = .ok (.iload_n 1, 1) := by decide +kernel
theorem dX9_setSnow_5 : decode cX9_setSnow 5 = .ok (.iload_n 2, 1) := by decide +kernel
theorem dX9_setSnow_6 : decode cX9_setSnow 6 = .ok (.iload_n 3, 1) := by decide +kernel
theorem dX9_setSnow_7 : decode cX9_setSnow 7 = .ok (.invokevirtual 341, 3) := by decide +kernel
theorem dX9_setSnow_10 : decode cX9_setSnow 10 = .ok (.invokestatic 308, 3) := by decide +kernel
theorem dX9_setSnow_13 : decode cX9_setSnow 13 = .ok (.aload_n 0, 1) := by decide +kernel
theorem dX9_setSnow_14 : decode cX9_setSnow 14 = .ok (.getfield 43, 3) := by decide +kernel
theorem dX9_setSnow_17 : decode cX9_setSnow 17 = .ok (.aload_n 0, 1) := by decide +kernel
theorem dX9_setSnow_18 : decode cX9_setSnow 18 = .ok (.getfield 33, 3) := by decide +kernel
theorem dX9_setSnow_21 : decode cX9_setSnow 21 = .ok (.invokevirtual 126, 3) := by decide +kernel
theorem dX9_setSnow_24 : decode cX9_setSnow 24 = .ok (.aload_n 0, 1) := by decide +kernel
theorem dX9_setSnow_25 : decode cX9_setSnow 25 = .ok (.getfield 33, 3) := by decide +kernel
theorem dX9_setSnow_28 : decode cX9_setSnow 28 = .ok (.invokevirtual 213, 3) := by decide +kernel
theorem dX9_setSnow_31 : decode cX9_setSnow 31 = .ok (.iload_n 1, 1) := by decide +kernel
theorem dX9_setSnow_32 : decode cX9_setSnow 32 = .ok (.iload_n 2, 1) := by decide +kernel
theorem dX9_setSnow_33 : decode cX9_setSnow 33 = .ok (.iload_n 3, 1) := by decide +kernel
theorem dX9_setSnow_34 : decode cX9_setSnow 34 = .ok (.invokevirtual 345, 3) := by decide +kernel
theorem dX9_setSnow_37 : decode cX9_setSnow 37 = .ok (.ireturn, 1) := by decide +kernel
theorem dX9_undoCount_0 : decode cX9_undoCount 0 = .ok (.aload_n 0, 1) := by decide +kernel
theorem dX9_undoCount_1 : decode cX9_undoCount 1 = .ok (.getfield 43, 3) := by decide +kernel
theorem dX9_undoCount_4 : decode cX9_undoCount 4 = .ok (.invokevirtual 359, 3) := by decide +kernel
theorem dX9_undoCount_7 : decode cX9_undoCount 7 = .ok (.ireturn, 1) := by decide +kernel
theorem dX9_undo_0 : decode cX9_undo 0 = .ok (.aload_n 0, 1) := by decide +kernel
theorem dX9_undo_1 : decode cX9_undo 1 = .ok (.getfield 43, 3) := by decide +kernel
theorem dX9_undo_4 : decode cX9_undo 4 = .ok (.invokevirtual 359, 3) := by decide +kernel
theorem dX9_undo_7 : decode cX9_undo 7 = .ok (.ifCond .ne 14, 3) := by decide +kernel
theorem dX9_undo_10 : decode cX9_undo 10 = .ok (.new 88, 3) := by decide +kernel
theorem dX9_undo_13 : decode cX9_undo 13 = .ok (.dup, 1) := by decide +kernel
theorem dX9_undo_14 : decode cX9_undo 14 = .ok (.ldc_w 360, 3) := by decide +kernel
theorem dX9_undo_17 : decode cX9_undo 17 = .ok (.invokespecial 92, 3) := by decide +kernel
theorem dX9_undo_20 : decode cX9_undo 20 = .ok (.athrow, 1) := by decide +kernel
theorem dX9_undo_21 : decode cX9_undo 21 = .ok (.aload_n 0, 1) := by decide +kernel
theorem dX9_undo_22 : decode cX9_undo 22 = .ok (.getfield 43, 3) := by decide +kernel
theorem dX9_undo_25 : decode cX9_undo 25 = .ok (.aload_n 0, 1) := by decide +kernel
theorem dX9_undo_26 : decode cX9_undo 26 = .ok (.getfield 33, 3) := by decide +kernel
theorem dX9_undo_29 : decode cX9_undo 29 = .ok (.invokevirtual 362, 3) := by decide +kernel
theorem dX9_undo_32 : decode cX9_undo 32 = .ok (.aload_n 0, 1) := by decide +kernel
theorem dX9_undo_33 : decode cX9_undo 33 = .ok (.getfield 43, 3) := by decide +kernel
theorem dX9_undo_36 : decode cX9_undo 36 = .ok (.invokevirtual 359, 3) := by decide +kernel
theorem dX9_undo_39 : decode cX9_undo 39 = .ok (.ireturn, 1) := by decide +kernel
theorem dX9_require_0 : decode cX9_require 0 = .ok (.iload_n 0, 1) := by decide +kernel
theorem dX9_require_1 : decode cX9_require 1 = .ok (.ifCond .ne 14, 3) := by decide +kernel
theorem dX9_require_4 : decode cX9_require 4 = .ok (.new 377, 3) := by decide +kernel
theorem dX9_require_7 : decode cX9_require 7 = .ok (.dup, 1) := by decide +kernel
theorem dX9_require_8 : decode cX9_require 8 = .ok (.ldc_w 379, 3) := by decide +kernel
theorem dX9_require_11 : decode cX9_require 11 = .ok (.invokespecial 381, 3) := by decide +kernel
theorem dX9_require_14 : decode cX9_require 14 = .ok (.athrow, 1) := by decide +kernel
theorem dX9_require_15 : decode cX9_require 15 = .ok (.return_, 1) := by decide +kernel
theorem dX9_refuse_0 : decode cX9_refuse 0 = .ok (.iload_n 0, 1) := by decide +kernel
theorem dX9_refuse_1 : decode cX9_refuse 1 = .ok (.iconst 1, 1) := by decide +kernel
theorem dX9_refuse_2 : decode cX9_refuse 2 = .ok (.if_icmp .ne 14, 3) := by decide +kernel
theorem dX9_refuse_5 : decode cX9_refuse 5 = .ok (.new 377, 3) := by decide +kernel
theorem dX9_refuse_8 : decode cX9_refuse 8 = .ok (.dup, 1) := by decide +kernel
theorem dX9_refuse_9 : decode cX9_refuse 9 = .ok (.ldc_w 379, 3) := by decide +kernel
theorem dX9_refuse_12 : decode cX9_refuse 12 = .ok (.invokespecial 381, 3) := by decide +kernel
theorem dX9_refuse_15 : decode cX9_refuse 15 = .ok (.athrow, 1) := by decide +kernel
theorem dX9_refuse_16 : decode cX9_refuse 16 = .ok (.iload_n 0, 1) := by decide +kernel
theorem dX9_refuse_17 : decode cX9_refuse 17 = .ok (.iconst 2, 1) := by decide +kernel
theorem dX9_refuse_18 : decode cX9_refuse 18 = .ok (.if_icmp .ne 14, 3) := by decide +kernel
theorem dX9_refuse_21 : decode cX9_refuse 21 = .ok (.new 88, 3) := by decide +kernel
theorem dX9_refuse_24 : decode cX9_refuse 24 = .ok (.dup, 1) := by decide +kernel
theorem dX9_refuse_25 : decode cX9_refuse 25 = .ok (.ldc_w 382, 3) := by decide +kernel
theorem dX9_refuse_28 : decode cX9_refuse 28 = .ok (.invokespecial 92, 3) := by decide +kernel
theorem dX9_refuse_31 : decode cX9_refuse 31 = .ok (.athrow, 1) := by decide +kernel
theorem dX9_refuse_32 : decode cX9_refuse 32 = .ok (.iload_n 0, 1) := by decide +kernel
theorem dX9_refuse_33 : decode cX9_refuse 33 = .ok (.iconst 3, 1) := by decide +kernel
theorem dX9_refuse_34 : decode cX9_refuse 34 = .ok (.if_icmp .ne 14, 3) := by decide +kernel
theorem dX9_refuse_37 : decode cX9_refuse 37 = .ok (.new 98, 3) := by decide +kernel
theorem dX9_refuse_40 : decode cX9_refuse 40 = .ok (.dup, 1) := by decide +kernel
theorem dX9_refuse_41 : decode cX9_refuse 41 = .ok (.ldc_w 384, 3) := by decide +kernel
theorem dX9_refuse_44 : decode cX9_refuse 44 = .ok (.invokespecial 102, 3) := by decide +kernel
theorem dX9_refuse_47 : decode cX9_refuse 47 = .ok (.athrow, 1) := by decide +kernel
theorem dX9_refuse_48 : decode cX9_refuse 48 = .ok (.return_, 1) := by decide +kernel
theorem dX9_appliedMove_0 : decode cX9_appliedMove 0 = .ok (.iload_n 1, 1) := by decide +kernel
theorem dX9_appliedMove_1 : decode cX9_appliedMove 1 = .ok (.invokestatic 158, 3) := by decide +kernel
theorem dX9_appliedMove_4 : decode cX9_appliedMove 4 = .ok (.invokestatic 164, 3) := by decide +kernel
theorem dX9_appliedMove_7 : decode cX9_appliedMove 7 = .ok (.aload_n 0, 1) := by decide +kernel
theorem dX9_appliedMove_8 : decode cX9_appliedMove 8 = .ok (.getfield 33, 3) := by decide +kernel
theorem dX9_appliedMove_11 : decode cX9_appliedMove 11 = .ok (.iload_n 1, 1) := by decide +kernel
theorem dX9_appliedMove_12 : decode cX9_appliedMove 12 = .ok (.invokevirtual 140, 3) := by decide +kernel
theorem dX9_appliedMove_15 : decode cX9_appliedMove 15 = .ok (.iload_n 2, 1) := by decide +kernel
theorem dX9_appliedMove_16 : decode cX9_appliedMove 16 = .ok (.invokevirtual 386, 3) := by decide +kernel
theorem dX9_appliedMove_19 : decode cX9_appliedMove 19 = .ok (.istore_n 3, 1) := by decide +kernel
theorem dX9_appliedMove_20 : decode cX9_appliedMove 20 = .ok (.iload_n 3, 1) := by decide +kernel
theorem dX9_appliedMove_21 : decode cX9_appliedMove 21 = .ok (.iconst (-1), 1) := by decide +kernel
theorem dX9_appliedMove_22 : decode cX9_appliedMove 22 = .ok (.if_icmp .ne 14, 3) := by decide +kernel
theorem dX9_appliedMove_25 : decode cX9_appliedMove 25 = .ok (.new 372, 3) := by decide +kernel
theorem dX9_appliedMove_28 : decode cX9_appliedMove 28 = .ok (.dup, 1) := by decide +kernel
theorem dX9_appliedMove_29 : decode cX9_appliedMove 29 = .ok (.ldc_w 389, 3) := by decide +kernel
theorem dX9_appliedMove_32 : decode cX9_appliedMove 32 = .ok (.invokespecial 376, 3) := by decide +kernel
theorem dX9_appliedMove_35 : decode cX9_appliedMove 35 = .ok (.athrow, 1) := by decide +kernel
theorem dX9_appliedMove_36 : decode cX9_appliedMove 36 = .ok (.iload_n 3, 1) := by decide +kernel
theorem dX9_appliedMove_37 : decode cX9_appliedMove 37 = .ok (.ireturn, 1) := by decide +kernel
theorem dX9_at_0 : decode cX9_at 0 = .ok (.iload_n 1, 1) := by decide +kernel
theorem dX9_at_1 : decode cX9_at 1 = .ok (.ifCond .lt 15, 3) := by decide +kernel
theorem dX9_at_4 : decode cX9_at 4 = .ok (.iload_n 1, 1) := by decide +kernel
theorem dX9_at_5 : decode cX9_at 5 = .ok (.aload_n 0, 1) := by decide +kernel
theorem dX9_at_6 : decode cX9_at 6 = .ok (.arraylength, 1) := by decide +kernel
theorem dX9_at_7 : decode cX9_at 7 = .ok (.if_icmp .ge 9, 3) := by decide +kernel
theorem dX9_at_10 : decode cX9_at 10 = .ok (.aload_n 0, 1) := by decide +kernel
theorem dX9_at_11 : decode cX9_at 11 = .ok (.iload_n 1, 1) := by decide +kernel
theorem dX9_at_12 : decode cX9_at 12 = .ok (.iaload, 1) := by decide +kernel
theorem dX9_at_13 : decode cX9_at 13 = .ok (.goto 4, 3) := by decide +kernel
theorem dX9_at_16 : decode cX9_at 16 = .ok (.iconst (-1), 1) := by decide +kernel
theorem dX9_at_17 : decode cX9_at 17 = .ok (.ireturn, 1) := by decide +kernel
theorem dX9_put_0 : decode cX9_put 0 = .ok (.iload_n 1, 1) := by decide +kernel
theorem dX9_put_1 : decode cX9_put 1 = .ok (.ifCond .lt 13, 3) := by decide +kernel
theorem dX9_put_4 : decode cX9_put 4 = .ok (.iload_n 1, 1) := by decide +kernel
theorem dX9_put_5 : decode cX9_put 5 = .ok (.aload_n 0, 1) := by decide +kernel
theorem dX9_put_6 : decode cX9_put 6 = .ok (.arraylength, 1) := by decide +kernel
theorem dX9_put_7 : decode cX9_put 7 = .ok (.if_icmp .ge 7, 3) := by decide +kernel
theorem dX9_put_10 : decode cX9_put 10 = .ok (.aload_n 0, 1) := by decide +kernel
theorem dX9_put_11 : decode cX9_put 11 = .ok (.iload_n 1, 1) := by decide +kernel
theorem dX9_put_12 : decode cX9_put 12 = .ok (.iload_n 2, 1) := by decide +kernel
theorem dX9_put_13 : decode cX9_put 13 = .ok (.iastore, 1) := by decide +kernel
theorem dX9_put_14 : decode cX9_put 14 = .ok (.return_, 1) := by decide +kernel
theorem dX9_copyRow_0 : decode cX9_copyRow 0 = .ok (.aload_n 0, 1) := by decide +kernel
theorem dX9_copyRow_1 : decode cX9_copyRow 1 = .ok (.iconst 0, 1) := by decide +kernel
theorem dX9_copyRow_2 : decode cX9_copyRow 2 = .ok (.aload_n 1, 1) := by decide +kernel
theorem dX9_copyRow_3 : decode cX9_copyRow 3 = .ok (.iconst 0, 1) := by decide +kernel
theorem dX9_copyRow_4 : decode cX9_copyRow 4 = .ok (.aload_n 0, 1) := by decide +kernel
theorem dX9_copyRow_5 : decode cX9_copyRow 5 = .ok (.arraylength, 1) := by decide +kernel
theorem dX9_copyRow_6 : decode cX9_copyRow 6 = .ok (.aload_n 1, 1) := by decide +kernel
theorem dX9_copyRow_7 : decode cX9_copyRow 7 = .ok (.arraylength, 1) := by decide +kernel
theorem dX9_copyRow_8 : decode cX9_copyRow 8 = .ok (.invokestatic 391, 3) := by decide +kernel
theorem dX9_copyRow_11 : decode cX9_copyRow 11 = .ok (.invokestatic 396, 3) := by decide +kernel
theorem dX9_copyRow_14 : decode cX9_copyRow 14 = .ok (.return_, 1) := by decide +kernel
theorem dX9_isPlayer_0 : decode cX9_isPlayer 0 = .ok (.iload_n 0, 1) := by decide +kernel
theorem dX9_isPlayer_1 : decode cX9_isPlayer 1 = .ok (.ifCond .eq 8, 3) := by decide +kernel
theorem dX9_isPlayer_4 : decode cX9_isPlayer 4 = .ok (.iload_n 0, 1) := by decide +kernel
theorem dX9_isPlayer_5 : decode cX9_isPlayer 5 = .ok (.iconst 1, 1) := by decide +kernel
theorem dX9_isPlayer_6 : decode cX9_isPlayer 6 = .ok (.if_icmp .ne 7, 3) := by decide +kernel
theorem dX9_isPlayer_9 : decode cX9_isPlayer 9 = .ok (.iconst 1, 1) := by decide +kernel
theorem dX9_isPlayer_10 : decode cX9_isPlayer 10 = .ok (.goto 4, 3) := by decide +kernel
theorem dX9_isPlayer_13 : decode cX9_isPlayer 13 = .ok (.iconst 0, 1) := by decide +kernel
theorem dX9_isPlayer_14 : decode cX9_isPlayer 14 = .ok (.ireturn, 1) := by decide +kernel
theorem dX9_isMonth_0 : decode cX9_isMonth 0 = .ok (.iload_n 0, 1) := by decide +kernel
theorem dX9_isMonth_1 : decode cX9_isMonth 1 = .ok (.ifCond .lt 13, 3) := by decide +kernel
theorem dX9_isMonth_4 : decode cX9_isMonth 4 = .ok (.iload_n 0, 1) := by decide +kernel
theorem dX9_isMonth_5 : decode cX9_isMonth 5 = .ok (.bipush 12, 2) := by decide +kernel
theorem dX9_isMonth_7 : decode cX9_isMonth 7 = .ok (.if_icmp .ge 7, 3) := by decide +kernel
theorem dX9_isMonth_10 : decode cX9_isMonth 10 = .ok (.iconst 1, 1) := by decide +kernel
theorem dX9_isMonth_11 : decode cX9_isMonth 11 = .ok (.goto 4, 3) := by decide +kernel
theorem dX9_isMonth_14 : decode cX9_isMonth 14 = .ok (.iconst 0, 1) := by decide +kernel
theorem dX9_isMonth_15 : decode cX9_isMonth 15 = .ok (.ireturn, 1) := by decide +kernel
theorem dX9_monthOf_0 : decode cX9_monthOf 0 = .ok (.iload_n 0, 1) := by decide +kernel
theorem dX9_monthOf_1 : decode cX9_monthOf 1 = .ok (.bipush 30, 2) := by decide +kernel
theorem dX9_monthOf_3 : decode cX9_monthOf 3 = .ok (.idiv, 1) := by decide +kernel
theorem dX9_monthOf_4 : decode cX9_monthOf 4 = .ok (.bipush 12, 2) := by decide +kernel
theorem dX9_monthOf_6 : decode cX9_monthOf 6 = .ok (.irem, 1) := by decide +kernel
theorem dX9_monthOf_7 : decode cX9_monthOf 7 = .ok (.ireturn, 1) := by decide +kernel
theorem dX9_moverOf_0 : decode cX9_moverOf 0 = .ok (.iload_n 0, 1) := by decide +kernel
theorem dX9_moverOf_1 : decode cX9_moverOf 1 = .ok (.iconst 2, 1) := by decide +kernel
theorem dX9_moverOf_2 : decode cX9_moverOf 2 = .ok (.irem, 1) := by decide +kernel
theorem dX9_moverOf_3 : decode cX9_moverOf 3 = .ok (.iconst 1, 1) := by decide +kernel
theorem dX9_moverOf_4 : decode cX9_moverOf 4 = .ok (.if_icmp .ne 7, 3) := by decide +kernel
theorem dX9_moverOf_7 : decode cX9_moverOf 7 = .ok (.iconst 0, 1) := by decide +kernel
theorem dX9_moverOf_8 : decode cX9_moverOf 8 = .ok (.goto 4, 3) := by decide +kernel
theorem dX9_moverOf_11 : decode cX9_moverOf 11 = .ok (.iconst 1, 1) := by decide +kernel
theorem dX9_moverOf_12 : decode cX9_moverOf 12 = .ok (.ireturn, 1) := by decide +kernel
theorem dX9_moveOf_0 : decode cX9_moveOf 0 = .ok (.iload_n 0, 1) := by decide +kernel
theorem dX9_moveOf_1 : decode cX9_moveOf 1 = .ok (.bipush 64, 2) := by decide +kernel
theorem dX9_moveOf_3 : decode cX9_moveOf 3 = .ok (.imul, 1) := by decide +kernel
theorem dX9_moveOf_4 : decode cX9_moveOf 4 = .ok (.iload_n 1, 1) := by decide +kernel
theorem dX9_moveOf_5 : decode cX9_moveOf 5 = .ok (.iadd, 1) := by decide +kernel
theorem dX9_moveOf_6 : decode cX9_moveOf 6 = .ok (.ireturn, 1) := by decide +kernel
theorem dX9_startOf_0 : decode cX9_startOf 0 = .ok (.iload_n 0, 1) := by decide +kernel
theorem dX9_startOf_1 : decode cX9_startOf 1 = .ok (.bipush 64, 2) := by decide +kernel
theorem dX9_startOf_3 : decode cX9_startOf 3 = .ok (.idiv, 1) := by decide +kernel
theorem dX9_startOf_4 : decode cX9_startOf 4 = .ok (.ireturn, 1) := by decide +kernel
theorem dX9_endOf_0 : decode cX9_endOf 0 = .ok (.iload_n 0, 1) := by decide +kernel
theorem dX9_endOf_1 : decode cX9_endOf 1 = .ok (.bipush 64, 2) := by decide +kernel
theorem dX9_endOf_3 : decode cX9_endOf 3 = .ok (.irem, 1) := by decide +kernel
theorem dX9_endOf_4 : decode cX9_endOf 4 = .ok (.ireturn, 1) := by decide +kernel
theorem dX9_bytesIn_0 : decode cX9_bytesIn 0 = .ok (.iconst 0, 1) := by decide +kernel
theorem dX9_bytesIn_1 : decode cX9_bytesIn 1 = .ok (.istore_n 1, 1) := by decide +kernel
theorem dX9_bytesIn_2 : decode cX9_bytesIn 2 = .ok (.bipush 24, 2) := by decide +kernel
theorem dX9_bytesIn_4 : decode cX9_bytesIn 4 = .ok (.istore_n 2, 1) := by decide +kernel
theorem dX9_bytesIn_5 : decode cX9_bytesIn 5 = .ok (.iload_n 2, 1) := by decide +kernel
theorem dX9_bytesIn_6 : decode cX9_bytesIn 6 = .ok (.ifCond .lt 22, 3) := by decide +kernel
theorem dX9_bytesIn_9 : decode cX9_bytesIn 9 = .ok (.iload_n 0, 1) := by decide +kernel
theorem dX9_bytesIn_10 : decode cX9_bytesIn 10 = .ok (.iload_n 2, 1) := by decide +kernel
theorem dX9_bytesIn_11 : decode cX9_bytesIn 11 = .ok (.iushr, 1) := by decide +kernel
theorem dX9_bytesIn_12 : decode cX9_bytesIn 12 = .ok (.sipush 255, 3) := by decide +kernel
theorem dX9_bytesIn_15 : decode cX9_bytesIn 15 = .ok (.iand, 1) := by decide +kernel
theorem dX9_bytesIn_16 : decode cX9_bytesIn 16 = .ok (.ifCond .eq 6, 3) := by decide +kernel
theorem dX9_bytesIn_19 : decode cX9_bytesIn 19 = .ok (.iinc 1 1, 3) := by decide +kernel
theorem dX9_bytesIn_22 : decode cX9_bytesIn 22 = .ok (.iinc 2 (-8), 3) := by decide +kernel
theorem dX9_bytesIn_25 : decode cX9_bytesIn 25 = .ok (.goto (-20), 3) := by decide +kernel
theorem dX9_bytesIn_28 : decode cX9_bytesIn 28 = .ok (.iload_n 1, 1) := by decide +kernel
theorem dX9_bytesIn_29 : decode cX9_bytesIn 29 = .ok (.ireturn, 1) := by decide +kernel
theorem dX9_addBytes_0 : decode cX9_addBytes 0 = .ok (.bipush 24, 2) := by decide +kernel
theorem dX9_addBytes_2 : decode cX9_addBytes 2 = .ok (.istore_n 2, 1) := by decide +kernel
theorem dX9_addBytes_3 : decode cX9_addBytes 3 = .ok (.iload_n 2, 1) := by decide +kernel
theorem dX9_addBytes_4 : decode cX9_addBytes 4 = .ok (.ifCond .lt 29, 3) := by decide +kernel
theorem dX9_addBytes_7 : decode cX9_addBytes 7 = .ok (.iload_n 1, 1) := by decide +kernel
theorem dX9_addBytes_8 : decode cX9_addBytes 8 = .ok (.iload_n 2, 1) := by decide +kernel
theorem dX9_addBytes_9 : decode cX9_addBytes 9 = .ok (.iushr, 1) := by decide +kernel
theorem dX9_addBytes_10 : decode cX9_addBytes 10 = .ok (.sipush 255, 3) := by decide +kernel
theorem dX9_addBytes_13 : decode cX9_addBytes 13 = .ok (.iand, 1) := by decide +kernel
theorem dX9_addBytes_14 : decode cX9_addBytes 14 = .ok (.istore_n 3, 1) := by decide +kernel
theorem dX9_addBytes_15 : decode cX9_addBytes 15 = .ok (.iload_n 3, 1) := by decide +kernel
theorem dX9_addBytes_16 : decode cX9_addBytes 16 = .ok (.ifCond .eq 11, 3) := by decide +kernel
theorem dX9_addBytes_19 : decode cX9_addBytes 19 = .ok (.aload_n 0, 1) := by decide +kernel
theorem dX9_addBytes_20 : decode cX9_addBytes 20 = .ok (.getfield 12, 3) := by decide +kernel
theorem dX9_addBytes_23 : decode cX9_addBytes 23 = .ok (.iload_n 3, 1) := by decide +kernel
theorem dX9_addBytes_24 : decode cX9_addBytes 24 = .ok (.invokevirtual 69, 3) := by decide +kernel
theorem dX9_addBytes_27 : decode cX9_addBytes 27 = .ok (.iinc 2 (-8), 3) := by decide +kernel
theorem dX9_addBytes_30 : decode cX9_addBytes 30 = .ok (.goto (-27), 3) := by decide +kernel
theorem dX9_addBytes_33 : decode cX9_addBytes 33 = .ok (.return_, 1) := by decide +kernel
theorem dX9_noteError_0 : decode cX9_noteError 0 = .ok (.aload_n 0, 1) := by decide +kernel
theorem dX9_noteError_1 : decode cX9_noteError 1 = .ok (.aload_n 0, 1) := by decide +kernel
theorem dX9_noteError_2 : decode cX9_noteError 2 = .ok (.getfield 12, 3) := by decide +kernel
theorem dX9_noteError_5 : decode cX9_noteError 5 = .ok (.invokevirtual 402, 3) := by decide +kernel
theorem dX9_noteError_8 : decode cX9_noteError 8 = .ok (.putfield 109, 3) := by decide +kernel
theorem dX9_noteError_11 : decode cX9_noteError 11 = .ok (.aload_n 0, 1) := by decide +kernel
theorem dX9_noteError_12 : decode cX9_noteError 12 = .ok (.aload_n 0, 1) := by decide +kernel
theorem dX9_noteError_13 : decode cX9_noteError 13 = .ok (.getfield 12, 3) := by decide +kernel
theorem dX9_noteError_16 : decode cX9_noteError 16 = .ok (.invokevirtual 405, 3) := by decide +kernel
theorem dX9_noteError_19 : decode cX9_noteError 19 = .ok (.putfield 53, 3) := by decide +kernel
theorem dX9_noteError_22 : decode cX9_noteError 22 = .ok (.return_, 1) := by decide +kernel
theorem dX9_readSetup_0 : decode cX9_readSetup 0 = .ok (.aload_n 0, 1) := by decide +kernel
theorem dX9_readSetup_1 : decode cX9_readSetup 1 = .ok (.getfield 12, 3) := by decide +kernel
theorem dX9_readSetup_4 : decode cX9_readSetup 4 = .ok (.invokevirtual 408, 3) := by decide +kernel
theorem dX9_readSetup_7 : decode cX9_readSetup 7 = .ok (.aload_n 0, 1) := by decide +kernel
theorem dX9_readSetup_8 : decode cX9_readSetup 8 = .ok (.getfield 12, 3) := by decide +kernel
theorem dX9_readSetup_11 : decode cX9_readSetup 11 = .ok (.ldc_w 411, 3) := by decide +kernel
theorem dX9_readSetup_14 : decode cX9_readSetup 14 = .ok (.invokevirtual 412, 3) := by decide +kernel
theorem dX9_readSetup_17 : decode cX9_readSetup 17 = .ok (.aload_n 0, 1) := by decide +kernel
theorem dX9_readSetup_18 : decode cX9_readSetup 18 = .ok (.getfield 12, 3) := by decide +kernel
theorem dX9_readSetup_21 : decode cX9_readSetup 21 = .ok (.iconst 4, 1) := by decide +kernel
theorem dX9_readSetup_22 : decode cX9_readSetup 22 = .ok (.bipush 8, 2) := by decide +kernel
theorem dX9_readSetup_24 : decode cX9_readSetup 24 = .ok (.invokevirtual 415, 3) := by decide +kernel
theorem dX9_readSetup_27 : decode cX9_readSetup 27 = .ok (.istore_n 1, 1) := by decide +kernel
theorem dX9_readSetup_28 : decode cX9_readSetup 28 = .ok (.aload_n 0, 1) := by decide +kernel
theorem dX9_readSetup_29 : decode cX9_readSetup 29 = .ok (.getfield 12, 3) := by decide +kernel
theorem dX9_readSetup_32 : decode cX9_readSetup 32 = .ok (.iconst 1, 1) := by decide +kernel
theorem dX9_readSetup_33 : decode cX9_readSetup 33 = .ok (.bipush 60, 2) := by decide +kernel
theorem dX9_readSetup_35 : decode cX9_readSetup 35 = .ok (.invokevirtual 415, 3) := by decide +kernel
theorem dX9_readSetup_38 : decode cX9_readSetup 38 = .ok (.istore_n 2, 1) := by decide +kernel
theorem dX9_readSetup_39 : decode cX9_readSetup 39 = .ok (.aload_n 0, 1) := by decide +kernel
theorem dX9_readSetup_40 : decode cX9_readSetup 40 = .ok (.getfield 12, 3) := by decide +kernel
theorem dX9_readSetup_43 : decode cX9_readSetup 43 = .ok (.bipush 59, 2) := by decide +kernel
theorem dX9_readSetup_45 : decode cX9_readSetup 45 = .ok (.invokevirtual 418, 3) := by decide +kernel
theorem dX9_readSetup_48 : decode cX9_readSetup 48 = .ok (.aload_n 0, 1) := by decide +kernel
theorem dX9_readSetup_49 : decode cX9_readSetup 49 = .ok (.getfield 37, 3) := by decide +kernel
theorem dX9_readSetup_52 : decode cX9_readSetup 52 = .ok (.iload_n 1, 1) := by decide +kernel
theorem dX9_readSetup_53 : decode cX9_readSetup 53 = .ok (.iload_n 2, 1) := by decide +kernel
theorem dX9_readSetup_54 : decode cX9_readSetup 54 = .ok (.invokevirtual 422, 3) := by decide +kernel
theorem dX9_readSetup_57 : decode cX9_readSetup 57 = .ok (.iconst 0, 1) := by decide +kernel
theorem dX9_readSetup_58 : decode cX9_readSetup 58 = .ok (.istore_n 3, 1) := by decide +kernel
theorem dX9_readSetup_59 : decode cX9_readSetup 59 = .ok (.iload_n 3, 1) := by decide +kernel
theorem dX9_readSetup_60 : decode cX9_readSetup 60 = .ok (.sipush 800, 3) := by decide +kernel
theorem dX9_readSetup_63 : decode cX9_readSetup 63 = .ok (.if_icmp .ge 27, 3) := by decide +kernel
theorem dX9_readSetup_66 : decode cX9_readSetup 66 = .ok (.aload_n 0, 1) := by decide +kernel
theorem dX9_readSetup_67 : decode cX9_readSetup 67 = .ok (.getfield 12, 3) := by decide +kernel
theorem dX9_readSetup_70 : decode cX9_readSetup 70 = .ok (.ldc_w 425, 3) := by decide +kernel
theorem dX9_readSetup_73 : decode cX9_readSetup 73 = .ok (.invokevirtual 427, 3) := by decide +kernel
theorem dX9_readSetup_76 : decode cX9_readSetup 76 = .ok (.ifCond .eq 14, 3) := by decide +kernel
theorem dX9_readSetup_79 : decode cX9_readSetup 79 = .ok (.aload_n 0, 1) := by decide +kernel
theorem dX9_readSetup_80 : decode cX9_readSetup 80 = .ok (.iload_n 1, 1) := by decide +kernel
theorem dX9_readSetup_81 : decode cX9_readSetup 81 = .ok (.invokevirtual 431, 3) := by decide +kernel
theorem dX9_readSetup_84 : decode cX9_readSetup 84 = .ok (.iinc 3 1, 3) := by decide +kernel
theorem dX9_readSetup_87 : decode cX9_readSetup 87 = .ok (.goto (-28), 3) := by decide +kernel
theorem dX9_readSetup_90 : decode cX9_readSetup 90 = .ok (.aload_n 0, 1) := by decide +kernel
theorem dX9_readSetup_91 : decode cX9_readSetup 91 = .ok (.getfield 12, 3) := by decide +kernel
theorem dX9_readSetup_94 : decode cX9_readSetup 94 = .ok (.ldc_w 434, 3) := by decide +kernel
theorem dX9_readSetup_97 : decode cX9_readSetup 97 = .ok (.invokevirtual 412, 3) := by decide +kernel
theorem dX9_readSetup_100 : decode cX9_readSetup 100 = .ok (.aload_n 0, 1) := by decide +kernel
theorem dX9_readSetup_101 : decode cX9_readSetup 101 = .ok (.invokevirtual 436, 3) := by decide +kernel
theorem dX9_readSetup_104 : decode cX9_readSetup 104 = .ok (.iconst 0, 1) := by decide +kernel
theorem dX9_readSetup_105 : decode cX9_readSetup 105 = .ok (.istore_n 3, 1) := by decide +kernel
theorem dX9_readSetup_106 : decode cX9_readSetup 106 = .ok (.iload_n 3, 1) := by decide +kernel
theorem dX9_readSetup_107 : decode cX9_readSetup 107 = .ok (.sipush 800, 3) := by decide +kernel
theorem dX9_readSetup_110 : decode cX9_readSetup 110 = .ok (.if_icmp .ge 59, 3) := by decide +kernel
theorem dX9_readSetup_113 : decode cX9_readSetup 113 = .ok (.aload_n 0, 1) := by decide +kernel
theorem dX9_readSetup_114 : decode cX9_readSetup 114 = .ok (.getfield 12, 3) := by decide +kernel
theorem dX9_readSetup_117 : decode cX9_readSetup 117 = .ok (.ldc_w 434, 3) := by decide +kernel
theorem dX9_readSetup_120 : decode cX9_readSetup 120 = .ok (.invokevirtual 439, 3) := by decide +kernel
theorem dX9_readSetup_123 : decode cX9_readSetup 123 = .ok (.ifCond .eq 46, 3) := by decide +kernel
theorem dX9_readSetup_126 : decode cX9_readSetup 126 = .ok (.aload_n 0, 1) := by decide +kernel
theorem dX9_readSetup_127 : decode cX9_readSetup 127 = .ok (.getfield 37, 3) := by decide +kernel
theorem dX9_readSetup_130 : decode cX9_readSetup 130 = .ok (.invokevirtual 213, 3) := by decide +kernel
theorem dX9_readSetup_133 : decode cX9_readSetup 133 = .ok (.invokevirtual 217, 3) := by decide +kernel
theorem dX9_readSetup_136 : decode cX9_readSetup 136 = .ok (.iconst 4, 1) := by decide +kernel
theorem dX9_readSetup_137 : decode cX9_readSetup 137 = .ok (.if_icmp .lt 11, 3) := by decide +kernel
theorem dX9_readSetup_140 : decode cX9_readSetup 140 = .ok (.aload_n 0, 1) := by decide +kernel
theorem dX9_readSetup_141 : decode cX9_readSetup 141 = .ok (.getfield 12, 3) := by decide +kernel
theorem dX9_readSetup_144 : decode cX9_readSetup 144 = .ok (.iconst 4, 1) := by decide +kernel
theorem dX9_readSetup_145 : decode cX9_readSetup 145 = .ok (.invokevirtual 442, 3) := by decide +kernel
theorem dX9_readSetup_148 : decode cX9_readSetup 148 = .ok (.aload_n 0, 1) := by decide +kernel
theorem dX9_readSetup_149 : decode cX9_readSetup 149 = .ok (.getfield 12, 3) := by decide +kernel
theorem dX9_readSetup_152 : decode cX9_readSetup 152 = .ok (.ldc_w 434, 3) := by decide +kernel
theorem dX9_readSetup_155 : decode cX9_readSetup 155 = .ok (.invokevirtual 427, 3) := by decide +kernel
theorem dX9_readSetup_158 : decode cX9_readSetup 158 = .ok (.pop, 1) := by decide +kernel
theorem dX9_readSetup_159 : decode cX9_readSetup 159 = .ok (.aload_n 0, 1) := by decide +kernel
theorem dX9_readSetup_160 : decode cX9_readSetup 160 = .ok (.invokevirtual 436, 3) := by decide +kernel
theorem dX9_readSetup_163 : decode cX9_readSetup 163 = .ok (.iinc 3 1, 3) := by decide +kernel
theorem dX9_readSetup_166 : decode cX9_readSetup 166 = .ok (.goto (-60), 3) := by decide +kernel
theorem dX9_readSetup_169 : decode cX9_readSetup 169 = .ok (.iconst 0, 1) := by decide +kernel
theorem dX9_readSetup_170 : decode cX9_readSetup 170 = .ok (.istore_n 3, 1) := by decide +kernel
theorem dX9_readSetup_171 : decode cX9_readSetup 171 = .ok (.iload_n 3, 1) := by decide +kernel
theorem dX9_readSetup_172 : decode cX9_readSetup 172 = .ok (.sipush 800, 3) := by decide +kernel
theorem dX9_readSetup_175 : decode cX9_readSetup 175 = .ok (.if_icmp .ge 26, 3) := by decide +kernel
theorem dX9_readSetup_178 : decode cX9_readSetup 178 = .ok (.aload_n 0, 1) := by decide +kernel
theorem dX9_readSetup_179 : decode cX9_readSetup 179 = .ok (.getfield 12, 3) := by decide +kernel
theorem dX9_readSetup_182 : decode cX9_readSetup 182 = .ok (.ldc_w 445, 3) := by decide +kernel
theorem dX9_readSetup_185 : decode cX9_readSetup 185 = .ok (.invokevirtual 427, 3) := by decide +kernel
theorem dX9_readSetup_188 : decode cX9_readSetup 188 = .ok (.ifCond .eq 13, 3) := by decide +kernel
theorem dX9_readSetup_191 : decode cX9_readSetup 191 = .ok (.aload_n 0, 1) := by decide +kernel
theorem dX9_readSetup_192 : decode cX9_readSetup 192 = .ok (.invokevirtual 447, 3) := by decide +kernel
theorem dX9_readSetup_195 : decode cX9_readSetup 195 = .ok (.iinc 3 1, 3) := by decide +kernel
theorem dX9_readSetup_198 : decode cX9_readSetup 198 = .ok (.goto (-27), 3) := by decide +kernel
theorem dX9_readSetup_201 : decode cX9_readSetup 201 = .ok (.aload_n 0, 1) := by decide +kernel
theorem dX9_readSetup_202 : decode cX9_readSetup 202 = .ok (.getfield 12, 3) := by decide +kernel
theorem dX9_readSetup_205 : decode cX9_readSetup 205 = .ok (.invokevirtual 450, 3) := by decide +kernel
theorem dX9_readSetup_208 : decode cX9_readSetup 208 = .ok (.return_, 1) := by decide +kernel
theorem dX9_readBishop_0 : decode cX9_readBishop 0 = .ok (.aload_n 0, 1) := by decide +kernel
theorem dX9_readBishop_1 : decode cX9_readBishop 1 = .ok (.getfield 12, 3) := by decide +kernel
theorem dX9_readBishop_4 : decode cX9_readBishop 4 = .ok (.iconst 0, 1) := by decide +kernel
theorem dX9_readBishop_5 : decode cX9_readBishop 5 = .ok (.iconst 1, 1) := by decide +kernel
theorem dX9_readBishop_6 : decode cX9_readBishop 6 = .ok (.invokevirtual 415, 3) := by decide +kernel
theorem dX9_readBishop_9 : decode cX9_readBishop 9 = .ok (.istore_n 2, 1) := by decide +kernel
theorem dX9_readBishop_10 : decode cX9_readBishop 10 = .ok (.aload_n 0, 1) := by decide +kernel
theorem dX9_readBishop_11 : decode cX9_readBishop 11 = .ok (.getfield 37, 3) := by decide +kernel
theorem dX9_readBishop_14 : decode cX9_readBishop 14 = .ok (.iconst 0, 1) := by decide +kernel
theorem dX9_readBishop_15 : decode cX9_readBishop 15 = .ok (.invokevirtual 140, 3) := by decide +kernel
theorem dX9_readBishop_18 : decode cX9_readBishop 18 = .ok (.iload_n 2, 1) := by decide +kernel
theorem dX9_readBishop_19 : decode cX9_readBishop 19 = .ok (.invokevirtual 171, 3) := by decide +kernel
theorem dX9_readBishop_22 : decode cX9_readBishop 22 = .ok (.bipush 8, 2) := by decide +kernel
theorem dX9_readBishop_24 : decode cX9_readBishop 24 = .ok (.if_icmp .lt 11, 3) := by decide +kernel
theorem dX9_readBishop_27 : decode cX9_readBishop 27 = .ok (.aload_n 0, 1) := by decide +kernel
theorem dX9_readBishop_28 : decode cX9_readBishop 28 = .ok (.getfield 12, 3) := by decide +kernel
theorem dX9_readBishop_31 : decode cX9_readBishop 31 = .ok (.iconst 4, 1) := by decide +kernel
theorem dX9_readBishop_32 : decode cX9_readBishop 32 = .ok (.invokevirtual 453, 3) := by decide +kernel
theorem dX9_readBishop_35 : decode cX9_readBishop 35 = .ok (.aload_n 0, 1) := by decide +kernel
theorem dX9_readBishop_36 : decode cX9_readBishop 36 = .ok (.getfield 12, 3) := by decide +kernel
theorem dX9_readBishop_39 : decode cX9_readBishop 39 = .ok (.iconst 0, 1) := by decide +kernel
theorem dX9_readBishop_40 : decode cX9_readBishop 40 = .ok (.iload_n 1, 1) := by decide +kernel
theorem dX9_readBishop_41 : decode cX9_readBishop 41 = .ok (.iconst 1, 1) := by decide +kernel
theorem dX9_readBishop_42 : decode cX9_readBishop 42 = .ok (.isub, 1) := by decide +kernel
theorem dX9_readBishop_43 : decode cX9_readBishop 43 = .ok (.invokevirtual 415, 3) := by decide +kernel
theorem dX9_readBishop_46 : decode cX9_readBishop 46 = .ok (.istore_n 3, 1) := by decide +kernel
theorem dX9_readBishop_47 : decode cX9_readBishop 47 = .ok (.aload_n 0, 1) := by decide +kernel
theorem dX9_readBishop_48 : decode cX9_readBishop 48 = .ok (.getfield 12, 3) := by decide +kernel
theorem dX9_readBishop_51 : decode cX9_readBishop 51 = .ok (.iconst 0, 1) := by decide +kernel
theorem dX9_readBishop_52 : decode cX9_readBishop 52 = .ok (.iload_n 1, 1) := by decide +kernel
theorem dX9_readBishop_53 : decode cX9_readBishop 53 = .ok (.iconst 1, 1) := by decide +kernel
theorem dX9_readBishop_54 : decode cX9_readBishop 54 = .ok (.isub, 1) := by decide +kernel
theorem dX9_readBishop_55 : decode cX9_readBishop 55 = .ok (.invokevirtual 415, 3) := by decide +kernel
theorem dX9_readBishop_58 : decode cX9_readBishop 58 = .ok (.istore 4, 2) := by decide +kernel
theorem dX9_readBishop_60 : decode cX9_readBishop 60 = .ok (.iload_n 3, 1) := by decide +kernel
theorem dX9_readBishop_61 : decode cX9_readBishop 61 = .ok (.iload_n 1, 1) := by decide +kernel
theorem dX9_readBishop_62 : decode cX9_readBishop 62 = .ok (.imul, 1) := by decide +kernel
theorem dX9_readBishop_63 : decode cX9_readBishop 63 = .ok (.iload 4, 2) := by decide +kernel
theorem dX9_readBishop_65 : decode cX9_readBishop 65 = .ok (.iadd, 1) := by decide +kernel
theorem dX9_readBishop_66 : decode cX9_readBishop 66 = .ok (.istore 5, 2) := by decide +kernel
theorem dX9_readBishop_68 : decode cX9_readBishop 68 = .ok (.aload_n 0, 1) := by decide +kernel
theorem dX9_readBishop_69 : decode cX9_readBishop 69 = .ok (.getfield 37, 3) := by decide +kernel
theorem dX9_readBishop_72 : decode cX9_readBishop 72 = .ok (.iconst 0, 1) := by decide +kernel
theorem dX9_readBishop_73 : decode cX9_readBishop 73 = .ok (.invokevirtual 140, 3) := by decide +kernel
theorem dX9_readBishop_76 : decode cX9_readBishop 76 = .ok (.iload 5, 2) := by decide +kernel
theorem dX9_readBishop_78 : decode cX9_readBishop 78 = .ok (.invokevirtual 168, 3) := by decide +kernel
theorem dX9_readBishop_81 : decode cX9_readBishop 81 = .ok (.iconst (-1), 1) := by decide +kernel
theorem dX9_readBishop_82 : decode cX9_readBishop 82 = .ok (.if_icmp .eq 11, 3) := by decide +kernel
theorem dX9_readBishop_85 : decode cX9_readBishop 85 = .ok (.aload_n 0, 1) := by decide +kernel
theorem dX9_readBishop_86 : decode cX9_readBishop 86 = .ok (.getfield 12, 3) := by decide +kernel
theorem dX9_readBishop_89 : decode cX9_readBishop 89 = .ok (.iconst 3, 1) := by decide +kernel
theorem dX9_readBishop_90 : decode cX9_readBishop 90 = .ok (.invokevirtual 453, 3) := by decide +kernel
theorem dX9_readBishop_93 : decode cX9_readBishop 93 = .ok (.aload_n 0, 1) := by decide +kernel
theorem dX9_readBishop_94 : decode cX9_readBishop 94 = .ok (.getfield 12, 3) := by decide +kernel
theorem dX9_readBishop_97 : decode cX9_readBishop 97 = .ok (.bipush 59, 2) := by decide +kernel
theorem dX9_readBishop_99 : decode cX9_readBishop 99 = .ok (.invokevirtual 418, 3) := by decide +kernel
theorem dX9_readBishop_102 : decode cX9_readBishop 102 = .ok (.aload_n 0, 1) := by decide +kernel
theorem dX9_readBishop_103 : decode cX9_readBishop 103 = .ok (.getfield 12, 3) := by decide +kernel
theorem dX9_readBishop_106 : decode cX9_readBishop 106 = .ok (.invokevirtual 456, 3) := by decide +kernel
theorem dX9_readBishop_109 : decode cX9_readBishop 109 = .ok (.ifCond .ne 31, 3) := by decide +kernel
theorem dX9_readBishop_112 : decode cX9_readBishop 112 = .ok (.aload_n 0, 1) := by decide +kernel
theorem dX9_readBishop_113 : decode cX9_readBishop 113 = .ok (.getfield 37, 3) := by decide +kernel
theorem dX9_readBishop_116 : decode cX9_readBishop 116 = .ok (.iconst 0, 1) := by decide +kernel
theorem dX9_readBishop_117 : decode cX9_readBishop 117 = .ok (.invokevirtual 140, 3) := by decide +kernel
theorem dX9_readBishop_120 : decode cX9_readBishop 120 = .ok (.iload_n 2, 1) := by decide +kernel
theorem dX9_readBishop_121 : decode cX9_readBishop 121 = .ok (.iload 5, 2) := by decide +kernel
theorem dX9_readBishop_123 : decode cX9_readBishop 123 = .ok (.invokevirtual 459, 3) := by decide +kernel
theorem dX9_readBishop_126 : decode cX9_readBishop 126 = .ok (.aload_n 0, 1) := by decide +kernel
theorem dX9_readBishop_127 : decode cX9_readBishop 127 = .ok (.getfield 37, 3) := by decide +kernel
theorem dX9_readBishop_130 : decode cX9_readBishop 130 = .ok (.iconst 1, 1) := by decide +kernel
theorem dX9_readBishop_131 : decode cX9_readBishop 131 = .ok (.invokevirtual 140, 3) := by decide +kernel
theorem dX9_readBishop_134 : decode cX9_readBishop 134 = .ok (.iload_n 2, 1) := by decide +kernel
theorem dX9_readBishop_135 : decode cX9_readBishop 135 = .ok (.iload 5, 2) := by decide +kernel
theorem dX9_readBishop_137 : decode cX9_readBishop 137 = .ok (.invokevirtual 459, 3) := by decide +kernel
theorem dX9_readBishop_140 : decode cX9_readBishop 140 = .ok (.return_, 1) := by decide +kernel
theorem dX9_readPass_0 : decode cX9_readPass 0 = .ok (.aload_n 0, 1) := by decide +kernel
theorem dX9_readPass_1 : decode cX9_readPass 1 = .ok (.getfield 12, 3) := by decide +kernel
theorem dX9_readPass_4 : decode cX9_readPass 4 = .ok (.iconst 1, 1) := by decide +kernel
theorem dX9_readPass_5 : decode cX9_readPass 5 = .ok (.bipush 9, 2) := by decide +kernel
theorem dX9_readPass_7 : decode cX9_readPass 7 = .ok (.invokevirtual 415, 3) := by decide +kernel
theorem dX9_readPass_10 : decode cX9_readPass 10 = .ok (.istore_n 1, 1) := by decide +kernel
theorem dX9_readPass_11 : decode cX9_readPass 11 = .ok (.aload_n 0, 1) := by decide +kernel
theorem dX9_readPass_12 : decode cX9_readPass 12 = .ok (.getfield 12, 3) := by decide +kernel
theorem dX9_readPass_15 : decode cX9_readPass 15 = .ok (.iconst 0, 1) := by decide +kernel
theorem dX9_readPass_16 : decode cX9_readPass 16 = .ok (.bipush 9, 2) := by decide +kernel
theorem dX9_readPass_18 : decode cX9_readPass 18 = .ok (.invokevirtual 415, 3) := by decide +kernel
theorem dX9_readPass_21 : decode cX9_readPass 21 = .ok (.istore_n 2, 1) := by decide +kernel
theorem dX9_readPass_22 : decode cX9_readPass 22 = .ok (.aload_n 0, 1) := by decide +kernel
theorem dX9_readPass_23 : decode cX9_readPass 23 = .ok (.getfield 12, 3) := by decide +kernel
theorem dX9_readPass_26 : decode cX9_readPass 26 = .ok (.iconst 0, 1) := by decide +kernel
theorem dX9_readPass_27 : decode cX9_readPass 27 = .ok (.bipush 9, 2) := by decide +kernel
theorem dX9_readPass_29 : decode cX9_readPass 29 = .ok (.invokevirtual 415, 3) := by decide +kernel
theorem dX9_readPass_32 : decode cX9_readPass 32 = .ok (.istore_n 3, 1) := by decide +kernel
theorem dX9_readPass_33 : decode cX9_readPass 33 = .ok (.aload_n 0, 1) := by decide +kernel
theorem dX9_readPass_34 : decode cX9_readPass 34 = .ok (.getfield 12, 3) := by decide +kernel
theorem dX9_readPass_37 : decode cX9_readPass 37 = .ok (.bipush 59, 2) := by decide +kernel
theorem dX9_readPass_39 : decode cX9_readPass 39 = .ok (.invokevirtual 418, 3) := by decide +kernel
theorem dX9_readPass_42 : decode cX9_readPass 42 = .ok (.aload_n 0, 1) := by decide +kernel
theorem dX9_readPass_43 : decode cX9_readPass 43 = .ok (.getfield 12, 3) := by decide +kernel
theorem dX9_readPass_46 : decode cX9_readPass 46 = .ok (.invokevirtual 456, 3) := by decide +kernel
theorem dX9_readPass_49 : decode cX9_readPass 49 = .ok (.ifCond .ne 16, 3) := by decide +kernel
theorem dX9_readPass_52 : decode cX9_readPass 52 = .ok (.aload_n 0, 1) := by decide +kernel
theorem dX9_readPass_53 : decode cX9_readPass 53 = .ok (.getfield 37, 3) := by decide +kernel
theorem dX9_readPass_56 : decode cX9_readPass 56 = .ok (.invokevirtual 213, 3) := by decide +kernel
theorem dX9_readPass_59 : decode cX9_readPass 59 = .ok (.iload_n 1, 1) := by decide +kernel
theorem dX9_readPass_60 : decode cX9_readPass 60 = .ok (.iload_n 2, 1) := by decide +kernel
theorem dX9_readPass_61 : decode cX9_readPass 61 = .ok (.iload_n 3, 1) := by decide +kernel
theorem dX9_readPass_62 : decode cX9_readPass 62 = .ok (.invokevirtual 462, 3) := by decide +kernel
theorem dX9_readPass_65 : decode cX9_readPass 65 = .ok (.return_, 1) := by decide +kernel
theorem dX9_readSnow_0 : decode cX9_readSnow 0 = .ok (.aload_n 0, 1) := by decide +kernel
theorem dX9_readSnow_1 : decode cX9_readSnow 1 = .ok (.getfield 12, 3) := by decide +kernel
theorem dX9_readSnow_4 : decode cX9_readSnow 4 = .ok (.iconst 0, 1) := by decide +kernel
theorem dX9_readSnow_5 : decode cX9_readSnow 5 = .ok (.aload_n 0, 1) := by decide +kernel
theorem dX9_readSnow_6 : decode cX9_readSnow 6 = .ok (.getfield 37, 3) := by decide +kernel
theorem dX9_readSnow_9 : decode cX9_readSnow 9 = .ok (.invokevirtual 213, 3) := by decide +kernel
theorem dX9_readSnow_12 : decode cX9_readSnow 12 = .ok (.invokevirtual 217, 3) := by decide +kernel
theorem dX9_readSnow_15 : decode cX9_readSnow 15 = .ok (.iconst 1, 1) := by decide +kernel
theorem dX9_readSnow_16 : decode cX9_readSnow 16 = .ok (.isub, 1) := by decide +kernel
theorem dX9_readSnow_17 : decode cX9_readSnow 17 = .ok (.invokevirtual 415, 3) := by decide +kernel
theorem dX9_readSnow_20 : decode cX9_readSnow 20 = .ok (.istore_n 1, 1) := by decide +kernel
theorem dX9_readSnow_21 : decode cX9_readSnow 21 = .ok (.aload_n 0, 1) := by decide +kernel
theorem dX9_readSnow_22 : decode cX9_readSnow 22 = .ok (.getfield 12, 3) := by decide +kernel
theorem dX9_readSnow_25 : decode cX9_readSnow 25 = .ok (.iconst 0, 1) := by decide +kernel
theorem dX9_readSnow_26 : decode cX9_readSnow 26 = .ok (.bipush 11, 2) := by decide +kernel
theorem dX9_readSnow_28 : decode cX9_readSnow 28 = .ok (.invokevirtual 415, 3) := by decide +kernel
theorem dX9_readSnow_31 : decode cX9_readSnow 31 = .ok (.istore_n 2, 1) := by decide +kernel
theorem dX9_readSnow_32 : decode cX9_readSnow 32 = .ok (.aload_n 0, 1) := by decide +kernel
theorem dX9_readSnow_33 : decode cX9_readSnow 33 = .ok (.getfield 12, 3) := by decide +kernel
theorem dX9_readSnow_36 : decode cX9_readSnow 36 = .ok (.iconst 0, 1) := by decide +kernel
theorem dX9_readSnow_37 : decode cX9_readSnow 37 = .ok (.bipush 9, 2) := by decide +kernel
theorem dX9_readSnow_39 : decode cX9_readSnow 39 = .ok (.invokevirtual 415, 3) := by decide +kernel
theorem dX9_readSnow_42 : decode cX9_readSnow 42 = .ok (.istore_n 3, 1) := by decide +kernel
theorem dX9_readSnow_43 : decode cX9_readSnow 43 = .ok (.aload_n 0, 1) := by decide +kernel
theorem dX9_readSnow_44 : decode cX9_readSnow 44 = .ok (.getfield 12, 3) := by decide +kernel
theorem dX9_readSnow_47 : decode cX9_readSnow 47 = .ok (.bipush 59, 2) := by decide +kernel
theorem dX9_readSnow_49 : decode cX9_readSnow 49 = .ok (.invokevirtual 418, 3) := by decide +kernel
theorem dX9_readSnow_52 : decode cX9_readSnow 52 = .ok (.aload_n 0, 1) := by decide +kernel
theorem dX9_readSnow_53 : decode cX9_readSnow 53 = .ok (.getfield 12, 3) := by decide +kernel
theorem dX9_readSnow_56 : decode cX9_readSnow 56 = .ok (.invokevirtual 456, 3) := by decide +kernel
theorem dX9_readSnow_59 : decode cX9_readSnow 59 = .ok (.ifCond .ne 17, 3) := by decide +kernel
theorem dX9_readSnow_62 : decode cX9_readSnow 62 = .ok (.aload_n 0, 1) := by decide +kernel
theorem dX9_readSnow_63 : decode cX9_readSnow 63 = .ok (.getfield 37, 3) := by decide +kernel
theorem dX9_readSnow_66 : decode cX9_readSnow 66 = .ok (.invokevirtual 213, 3) := by decide +kernel
theorem dX9_readSnow_69 : decode cX9_readSnow 69 = .ok (.iload_n 1, 1) := by decide +kernel
theorem dX9_readSnow_70 : decode cX9_readSnow 70 = .ok (.iload_n 2, 1) := by decide +kernel
theorem dX9_readSnow_71 : decode cX9_readSnow 71 = .ok (.iload_n 3, 1) := by decide +kernel
theorem dX9_readSnow_72 : decode cX9_readSnow 72 = .ok (.invokevirtual 345, 3) := by decide +kernel
theorem dX9_readSnow_75 : decode cX9_readSnow 75 = .ok (.pop, 1) := by decide +kernel
theorem dX9_readSnow_76 : decode cX9_readSnow 76 = .ok (.return_, 1) := by decide +kernel
theorem dX10_init_0 : decode cX10_init 0 = .ok (.aload_n 0, 1) := by decide +kernel
theorem dX10_init_1 : decode cX10_init 1 = .ok (.invokespecial 1, 3) := by decide +kernel
theorem dX10_init_4 : decode cX10_init 4 = .ok (.aload_n 0, 1) := by decide +kernel
theorem dX10_init_5 : decode cX10_init 5 = .ok (.bipush 64, 2) := by decide +kernel
theorem dX10_init_7 : decode cX10_init 7 = .ok (.newarray .int, 2) := by decide +kernel
theorem dX10_init_9 : decode cX10_init 9 = .ok (.putfield 7, 3) := by decide +kernel
theorem dX10_init_12 : decode cX10_init 12 = .ok (.aload_n 0, 1) := by decide +kernel
theorem dX10_init_13 : decode cX10_init 13 = .ok (.bipush 61, 2) := by decide +kernel
theorem dX10_init_15 : decode cX10_init 15 = .ok (.newarray .int, 2) := by decide +kernel
theorem dX10_init_17 : decode cX10_init 17 = .ok (.putfield 13, 3) := by decide +kernel
theorem dX10_init_20 : decode cX10_init 20 = .ok (.aload_n 0, 1) := by decide +kernel
theorem dX10_init_21 : decode cX10_init 21 = .ok (.bipush 61, 2) := by decide +kernel
theorem dX10_init_23 : decode cX10_init 23 = .ok (.newarray .int, 2) := by decide +kernel
theorem dX10_init_25 : decode cX10_init 25 = .ok (.putfield 16, 3) := by decide +kernel
theorem dX10_init_28 : decode cX10_init 28 = .ok (.aload_n 0, 1) := by decide +kernel
theorem dX10_init_29 : decode cX10_init 29 = .ok (.bipush 61, 2) := by decide +kernel
theorem dX10_init_31 : decode cX10_init 31 = .ok (.newarray .int, 2) := by decide +kernel
theorem dX10_init_33 : decode cX10_init 33 = .ok (.putfield 19, 3) := by decide +kernel
theorem dX10_init_36 : decode cX10_init 36 = .ok (.aload_n 0, 1) := by decide +kernel
theorem dX10_init_37 : decode cX10_init 37 = .ok (.bipush 61, 2) := by decide +kernel
theorem dX10_init_39 : decode cX10_init 39 = .ok (.newarray .int, 2) := by decide +kernel
theorem dX10_init_41 : decode cX10_init 41 = .ok (.putfield 22, 3) := by decide +kernel
theorem dX10_init_44 : decode cX10_init 44 = .ok (.aload_n 0, 1) := by decide +kernel
theorem dX10_init_45 : decode cX10_init 45 = .ok (.bipush 61, 2) := by decide +kernel
theorem dX10_init_47 : decode cX10_init 47 = .ok (.newarray .boolean, 2) := by decide +kernel
theorem dX10_init_49 : decode cX10_init 49 = .ok (.putfield 25, 3) := by decide +kernel
theorem dX10_init_52 : decode cX10_init 52 = .ok (.aload_n 0, 1) := by decide +kernel
theorem dX10_init_53 : decode cX10_init 53 = .ok (.iconst (-1), 1) := by decide +kernel
theorem dX10_init_54 : decode cX10_init 54 = .ok (.putfield 29, 3) := by decide +kernel
theorem dX10_init_57 : decode cX10_init 57 = .ok (.return_, 1) := by decide +kernel
theorem dX10_takes_0 : decode cX10_takes 0 = .ok (.iconst 0, 1) := by decide +kernel
theorem dX10_takes_1 : decode cX10_takes 1 = .ok (.istore_n 2, 1) := by decide +kernel
theorem dX10_takes_2 : decode cX10_takes 2 = .ok (.iload_n 2, 1) := by decide +kernel
theorem dX10_takes_3 : decode cX10_takes 3 = .ok (.bipush 64, 2) := by decide +kernel
theorem dX10_takes_5 : decode cX10_takes 5 = .ok (.if_icmp .ge 21, 3) := by decide +kernel
theorem dX10_takes_8 : decode cX10_takes 8 = .ok (.aload_n 0, 1) := by decide +kernel
theorem dX10_takes_9 : decode cX10_takes 9 = .ok (.getfield 7, 3) := by decide +kernel
theorem dX10_takes_12 : decode cX10_takes 12 = .ok (.iload_n 2, 1) := by decide +kernel
theorem dX10_takes_13 : decode cX10_takes 13 = .ok (.aload_n 1, 1) := by decide +kernel
theorem dX10_takes_14 : decode cX10_takes 14 = .ok (.getfield 7, 3) := by decide +kernel
theorem dX10_takes_17 : decode cX10_takes 17 = .ok (.iload_n 2, 1) := by decide +kernel
theorem dX10_takes_18 : decode cX10_takes 18 = .ok (.iaload, 1) := by decide +kernel
theorem dX10_takes_19 : decode cX10_takes 19 = .ok (.iastore, 1) := by decide +kernel
theorem dX10_takes_20 : decode cX10_takes 20 = .ok (.iinc 2 1, 3) := by decide +kernel
theorem dX10_takes_23 : decode cX10_takes 23 = .ok (.goto (-21), 3) := by decide +kernel
theorem dX10_takes_26 : decode cX10_takes 26 = .ok (.iconst 0, 1) := by decide +kernel
theorem dX10_takes_27 : decode cX10_takes 27 = .ok (.istore_n 2, 1) := by decide +kernel
theorem dX10_takes_28 : decode cX10_takes 28 = .ok (.iload_n 2, 1) := by decide +kernel
theorem dX10_takes_29 : decode cX10_takes 29 = .ok (.bipush 61, 2) := by decide +kernel
theorem dX10_takes_31 : decode cX10_takes 31 = .ok (.if_icmp .ge 69, 3) := by decide +kernel
theorem dX10_takes_34 : decode cX10_takes 34 = .ok (.aload_n 0, 1) := by decide +kernel
theorem dX10_takes_35 : decode cX10_takes 35 = .ok (.getfield 13, 3) := by decide +kernel
theorem dX10_takes_38 : decode cX10_takes 38 = .ok (.iload_n 2, 1) := by decide +kernel
theorem dX10_takes_39 : decode cX10_takes 39 = .ok (.aload_n 1, 1) := by decide +kernel
theorem dX10_takes_40 : decode cX10_takes 40 = .ok (.getfield 13, 3) := by decide +kernel
theorem dX10_takes_43 : decode cX10_takes 43 = .ok (.iload_n 2, 1) := by decide +kernel
theorem dX10_takes_44 : decode cX10_takes 44 = .ok (.iaload, 1) := by decide +kernel
theorem dX10_takes_45 : decode cX10_takes 45 = .ok (.iastore, 1) := by decide +kernel
theorem dX10_takes_46 : decode cX10_takes 46 = .ok (.aload_n 0, 1) := by decide +kernel
theorem dX10_takes_47 : decode cX10_takes 47 = .ok (.getfield 16, 3) := by decide +kernel
theorem dX10_takes_50 : decode cX10_takes 50 = .ok (.iload_n 2, 1) := by decide +kernel
theorem dX10_takes_51 : decode cX10_takes 51 = .ok (.aload_n 1, 1) := by decide +kernel
theorem dX10_takes_52 : decode cX10_takes 52 = .ok (.getfield 16, 3) := by decide +kernel
theorem dX10_takes_55 : decode cX10_takes 55 = .ok (.iload_n 2, 1) := by decide +kernel
theorem dX10_takes_56 : decode cX10_takes 56 = .ok (.iaload, 1) := by decide +kernel
theorem dX10_takes_57 : decode cX10_takes 57 = .ok (.iastore, 1) := by decide +kernel
