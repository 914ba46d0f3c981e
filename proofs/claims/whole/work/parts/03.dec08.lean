theorem dX10_letterState_22 : decode cX10_letterState 22 = .ok (.invokevirtual 163, 3) := by decide +kernel
theorem dX10_letterState_25 : decode cX10_letterState 25 = .ok (.goto 4, 3) := by decide +kernel
theorem dX10_letterState_28 : decode cX10_letterState 28 = .ok (.iconst 0, 1) := by decide +kernel
theorem dX10_letterState_29 : decode cX10_letterState 29 = .ok (.ireturn, 1) := by decide +kernel
theorem dX10_awaited_0 : decode cX10_awaited 0 = .ok (.iconst 0, 1) := by decide +kernel
theorem dX10_awaited_1 : decode cX10_awaited 1 = .ok (.istore_n 2, 1) := by decide +kernel
theorem dX10_awaited_2 : decode cX10_awaited 2 = .ok (.iload_n 2, 1) := by decide +kernel
theorem dX10_awaited_3 : decode cX10_awaited 3 = .ok (.aload_n 0, 1) := by decide +kernel
theorem dX10_awaited_4 : decode cX10_awaited 4 = .ok (.getfield 7, 3) := by decide +kernel
theorem dX10_awaited_7 : decode cX10_awaited 7 = .ok (.iconst 4, 1) := by decide +kernel
theorem dX10_awaited_8 : decode cX10_awaited 8 = .ok (.iaload, 1) := by decide +kernel
theorem dX10_awaited_9 : decode cX10_awaited 9 = .ok (.if_icmp .ge 46, 3) := by decide +kernel
theorem dX10_awaited_12 : decode cX10_awaited 12 = .ok (.aload_n 0, 1) := by decide +kernel
theorem dX10_awaited_13 : decode cX10_awaited 13 = .ok (.iload_n 2, 1) := by decide +kernel
theorem dX10_awaited_14 : decode cX10_awaited 14 = .ok (.iconst 0, 1) := by decide +kernel
theorem dX10_awaited_15 : decode cX10_awaited 15 = .ok (.invokevirtual 163, 3) := by decide +kernel
theorem dX10_awaited_18 : decode cX10_awaited 18 = .ok (.iload_n 1, 1) := by decide +kernel
theorem dX10_awaited_19 : decode cX10_awaited 19 = .ok (.if_icmp .eq 30, 3) := by decide +kernel
theorem dX10_awaited_22 : decode cX10_awaited 22 = .ok (.aload_n 0, 1) := by decide +kernel
theorem dX10_awaited_23 : decode cX10_awaited 23 = .ok (.iload_n 2, 1) := by decide +kernel
theorem dX10_awaited_24 : decode cX10_awaited 24 = .ok (.bipush 6, 2) := by decide +kernel
theorem dX10_awaited_26 : decode cX10_awaited 26 = .ok (.invokevirtual 163, 3) := by decide +kernel
theorem dX10_awaited_29 : decode cX10_awaited 29 = .ok (.iconst 2, 1) := by decide +kernel
theorem dX10_awaited_30 : decode cX10_awaited 30 = .ok (.if_icmp .eq 19, 3) := by decide +kernel
theorem dX10_awaited_33 : decode cX10_awaited 33 = .ok (.aload_n 0, 1) := by decide +kernel
theorem dX10_awaited_34 : decode cX10_awaited 34 = .ok (.iload_n 2, 1) := by decide +kernel
theorem dX10_awaited_35 : decode cX10_awaited 35 = .ok (.iconst 3, 1) := by decide +kernel
theorem dX10_awaited_36 : decode cX10_awaited 36 = .ok (.invokevirtual 163, 3) := by decide +kernel
theorem dX10_awaited_39 : decode cX10_awaited 39 = .ok (.aload_n 0, 1) := by decide +kernel
theorem dX10_awaited_40 : decode cX10_awaited 40 = .ok (.iload_n 1, 1) := by decide +kernel
theorem dX10_awaited_41 : decode cX10_awaited 41 = .ok (.invokevirtual 104, 3) := by decide +kernel
theorem dX10_awaited_44 : decode cX10_awaited 44 = .ok (.if_icmp .ne 5, 3) := by decide +kernel
theorem dX10_awaited_47 : decode cX10_awaited 47 = .ok (.iload_n 2, 1) := by decide +kernel
theorem dX10_awaited_48 : decode cX10_awaited 48 = .ok (.ireturn, 1) := by decide +kernel
theorem dX10_awaited_49 : decode cX10_awaited 49 = .ok (.iinc 2 1, 3) := by decide +kernel
theorem dX10_awaited_52 : decode cX10_awaited 52 = .ok (.goto (-50), 3) := by decide +kernel
theorem dX10_awaited_55 : decode cX10_awaited 55 = .ok (.iconst (-1), 1) := by decide +kernel
theorem dX10_awaited_56 : decode cX10_awaited 56 = .ok (.ireturn, 1) := by decide +kernel
theorem dX10_awaitedLetter_0 : decode cX10_awaitedLetter 0 = .ok (.aload_n 0, 1) := by decide +kernel
theorem dX10_awaitedLetter_1 : decode cX10_awaitedLetter 1 = .ok (.iconst 0, 1) := by decide +kernel
theorem dX10_awaitedLetter_2 : decode cX10_awaitedLetter 2 = .ok (.putfield 80, 3) := by decide +kernel
theorem dX10_awaitedLetter_5 : decode cX10_awaitedLetter 5 = .ok (.aload_n 0, 1) := by decide +kernel
theorem dX10_awaitedLetter_6 : decode cX10_awaitedLetter 6 = .ok (.iload_n 1, 1) := by decide +kernel
theorem dX10_awaitedLetter_7 : decode cX10_awaitedLetter 7 = .ok (.invokestatic 349, 3) := by decide +kernel
theorem dX10_awaitedLetter_10 : decode cX10_awaitedLetter 10 = .ok (.iconst 1, 1) := by decide +kernel
theorem dX10_awaitedLetter_11 : decode cX10_awaitedLetter 11 = .ok (.invokevirtual 197, 3) := by decide +kernel
theorem dX10_awaitedLetter_14 : decode cX10_awaitedLetter 14 = .ok (.ifCond .eq 11, 3) := by decide +kernel
theorem dX10_awaitedLetter_17 : decode cX10_awaitedLetter 17 = .ok (.aload_n 0, 1) := by decide +kernel
theorem dX10_awaitedLetter_18 : decode cX10_awaitedLetter 18 = .ok (.iload_n 1, 1) := by decide +kernel
theorem dX10_awaitedLetter_19 : decode cX10_awaitedLetter 19 = .ok (.invokevirtual 379, 3) := by decide +kernel
theorem dX10_awaitedLetter_22 : decode cX10_awaitedLetter 22 = .ok (.goto 4, 3) := by decide +kernel
theorem dX10_awaitedLetter_25 : decode cX10_awaitedLetter 25 = .ok (.iconst 0, 1) := by decide +kernel
theorem dX10_awaitedLetter_26 : decode cX10_awaitedLetter 26 = .ok (.ireturn, 1) := by decide +kernel
theorem dX10_reasonToWait_0 : decode cX10_reasonToWait 0 = .ok (.aload_n 0, 1) := by decide +kernel
theorem dX10_reasonToWait_1 : decode cX10_reasonToWait 1 = .ok (.iconst 0, 1) := by decide +kernel
theorem dX10_reasonToWait_2 : decode cX10_reasonToWait 2 = .ok (.putfield 80, 3) := by decide +kernel
theorem dX10_reasonToWait_5 : decode cX10_reasonToWait 5 = .ok (.aload_n 0, 1) := by decide +kernel
theorem dX10_reasonToWait_6 : decode cX10_reasonToWait 6 = .ok (.iload_n 1, 1) := by decide +kernel
theorem dX10_reasonToWait_7 : decode cX10_reasonToWait 7 = .ok (.invokestatic 349, 3) := by decide +kernel
theorem dX10_reasonToWait_10 : decode cX10_reasonToWait 10 = .ok (.iconst 1, 1) := by decide +kernel
theorem dX10_reasonToWait_11 : decode cX10_reasonToWait 11 = .ok (.invokevirtual 197, 3) := by decide +kernel
theorem dX10_reasonToWait_14 : decode cX10_reasonToWait 14 = .ok (.ifCond .eq 11, 3) := by decide +kernel
theorem dX10_reasonToWait_17 : decode cX10_reasonToWait 17 = .ok (.aload_n 0, 1) := by decide +kernel
theorem dX10_reasonToWait_18 : decode cX10_reasonToWait 18 = .ok (.iload_n 1, 1) := by decide +kernel
theorem dX10_reasonToWait_19 : decode cX10_reasonToWait 19 = .ok (.invokevirtual 355, 3) := by decide +kernel
theorem dX10_reasonToWait_22 : decode cX10_reasonToWait 22 = .ok (.ifCond .eq 5, 3) := by decide +kernel
theorem dX10_reasonToWait_25 : decode cX10_reasonToWait 25 = .ok (.iconst 0, 1) := by decide +kernel
theorem dX10_reasonToWait_26 : decode cX10_reasonToWait 26 = .ok (.ireturn, 1) := by decide +kernel
theorem dX10_reasonToWait_27 : decode cX10_reasonToWait 27 = .ok (.aload_n 0, 1) := by decide +kernel
theorem dX10_reasonToWait_28 : decode cX10_reasonToWait 28 = .ok (.iload_n 1, 1) := by decide +kernel
theorem dX10_reasonToWait_29 : decode cX10_reasonToWait 29 = .ok (.invokevirtual 100, 3) := by decide +kernel
theorem dX10_reasonToWait_32 : decode cX10_reasonToWait 32 = .ok (.ifCond .eq 5, 3) := by decide +kernel
theorem dX10_reasonToWait_35 : decode cX10_reasonToWait 35 = .ok (.iconst 1, 1) := by decide +kernel
theorem dX10_reasonToWait_36 : decode cX10_reasonToWait 36 = .ok (.ireturn, 1) := by decide +kernel
theorem dX10_reasonToWait_37 : decode cX10_reasonToWait 37 = .ok (.aload_n 0, 1) := by decide +kernel
theorem dX10_reasonToWait_38 : decode cX10_reasonToWait 38 = .ok (.iload_n 1, 1) := by decide +kernel
theorem dX10_reasonToWait_39 : decode cX10_reasonToWait 39 = .ok (.invokevirtual 379, 3) := by decide +kernel
theorem dX10_reasonToWait_42 : decode cX10_reasonToWait 42 = .ok (.istore_n 2, 1) := by decide +kernel
theorem dX10_reasonToWait_43 : decode cX10_reasonToWait 43 = .ok (.iload_n 2, 1) := by decide +kernel
theorem dX10_reasonToWait_44 : decode cX10_reasonToWait 44 = .ok (.iconst (-1), 1) := by decide +kernel
theorem dX10_reasonToWait_45 : decode cX10_reasonToWait 45 = .ok (.if_icmp .ne 7, 3) := by decide +kernel
theorem dX10_reasonToWait_48 : decode cX10_reasonToWait 48 = .ok (.iconst 2, 1) := by decide +kernel
theorem dX10_reasonToWait_49 : decode cX10_reasonToWait 49 = .ok (.goto 12, 3) := by decide +kernel
theorem dX10_reasonToWait_52 : decode cX10_reasonToWait 52 = .ok (.iconst 3, 1) := by decide +kernel
theorem dX10_reasonToWait_53 : decode cX10_reasonToWait 53 = .ok (.aload_n 0, 1) := by decide +kernel
theorem dX10_reasonToWait_54 : decode cX10_reasonToWait 54 = .ok (.iload_n 2, 1) := by decide +kernel
theorem dX10_reasonToWait_55 : decode cX10_reasonToWait 55 = .ok (.bipush 6, 2) := by decide +kernel
theorem dX10_reasonToWait_57 : decode cX10_reasonToWait 57 = .ok (.invokevirtual 163, 3) := by decide +kernel
theorem dX10_reasonToWait_60 : decode cX10_reasonToWait 60 = .ok (.iadd, 1) := by decide +kernel
theorem dX10_reasonToWait_61 : decode cX10_reasonToWait 61 = .ok (.ireturn, 1) := by decide +kernel
theorem dX10_duplicateCount_0 : decode cX10_duplicateCount 0 = .ok (.aload_n 0, 1) := by decide +kernel
theorem dX10_duplicateCount_1 : decode cX10_duplicateCount 1 = .ok (.iconst 0, 1) := by decide +kernel
theorem dX10_duplicateCount_2 : decode cX10_duplicateCount 2 = .ok (.putfield 80, 3) := by decide +kernel
theorem dX10_duplicateCount_5 : decode cX10_duplicateCount 5 = .ok (.aload_n 0, 1) := by decide +kernel
theorem dX10_duplicateCount_6 : decode cX10_duplicateCount 6 = .ok (.getfield 7, 3) := by decide +kernel
theorem dX10_duplicateCount_9 : decode cX10_duplicateCount 9 = .ok (.iconst 5, 1) := by decide +kernel
theorem dX10_duplicateCount_10 : decode cX10_duplicateCount 10 = .ok (.iaload, 1) := by decide +kernel
theorem dX10_duplicateCount_11 : decode cX10_duplicateCount 11 = .ok (.ireturn, 1) := by decide +kernel
theorem dX10_keptPromises_0 : decode cX10_keptPromises 0 = .ok (.aload_n 0, 1) := by decide +kernel
theorem dX10_keptPromises_1 : decode cX10_keptPromises 1 = .ok (.iconst 0, 1) := by decide +kernel
theorem dX10_keptPromises_2 : decode cX10_keptPromises 2 = .ok (.putfield 80, 3) := by decide +kernel
theorem dX10_keptPromises_5 : decode cX10_keptPromises 5 = .ok (.aload_n 0, 1) := by decide +kernel
theorem dX10_keptPromises_6 : decode cX10_keptPromises 6 = .ok (.iload_n 1, 1) := by decide +kernel
theorem dX10_keptPromises_7 : decode cX10_keptPromises 7 = .ok (.invokestatic 349, 3) := by decide +kernel
theorem dX10_keptPromises_10 : decode cX10_keptPromises 10 = .ok (.iconst 1, 1) := by decide +kernel
theorem dX10_keptPromises_11 : decode cX10_keptPromises 11 = .ok (.invokevirtual 197, 3) := by decide +kernel
theorem dX10_keptPromises_14 : decode cX10_keptPromises 14 = .ok (.ifCond .eq 13, 3) := by decide +kernel
theorem dX10_keptPromises_17 : decode cX10_keptPromises 17 = .ok (.aload_n 0, 1) := by decide +kernel
theorem dX10_keptPromises_18 : decode cX10_keptPromises 18 = .ok (.iload_n 1, 1) := by decide +kernel
theorem dX10_keptPromises_19 : decode cX10_keptPromises 19 = .ok (.bipush 6, 2) := by decide +kernel
theorem dX10_keptPromises_21 : decode cX10_keptPromises 21 = .ok (.invokevirtual 97, 3) := by decide +kernel
theorem dX10_keptPromises_24 : decode cX10_keptPromises 24 = .ok (.goto 4, 3) := by decide +kernel
theorem dX10_keptPromises_27 : decode cX10_keptPromises 27 = .ok (.iconst 0, 1) := by decide +kernel
theorem dX10_keptPromises_28 : decode cX10_keptPromises 28 = .ok (.ireturn, 1) := by decide +kernel
theorem dX10_longestWait_0 : decode cX10_longestWait 0 = .ok (.aload_n 0, 1) := by decide +kernel
theorem dX10_longestWait_1 : decode cX10_longestWait 1 = .ok (.iconst 0, 1) := by decide +kernel
theorem dX10_longestWait_2 : decode cX10_longestWait 2 = .ok (.putfield 80, 3) := by decide +kernel
theorem dX10_longestWait_5 : decode cX10_longestWait 5 = .ok (.aload_n 0, 1) := by decide +kernel
theorem dX10_longestWait_6 : decode cX10_longestWait 6 = .ok (.iload_n 1, 1) := by decide +kernel
theorem dX10_longestWait_7 : decode cX10_longestWait 7 = .ok (.invokestatic 349, 3) := by decide +kernel
theorem dX10_longestWait_10 : decode cX10_longestWait 10 = .ok (.iconst 1, 1) := by decide +kernel
theorem dX10_longestWait_11 : decode cX10_longestWait 11 = .ok (.invokevirtual 197, 3) := by decide +kernel
theorem dX10_longestWait_14 : decode cX10_longestWait 14 = .ok (.ifCond .eq 12, 3) := by decide +kernel
theorem dX10_longestWait_17 : decode cX10_longestWait 17 = .ok (.aload_n 0, 1) := by decide +kernel
theorem dX10_longestWait_18 : decode cX10_longestWait 18 = .ok (.iload_n 1, 1) := by decide +kernel
theorem dX10_longestWait_19 : decode cX10_longestWait 19 = .ok (.iconst 3, 1) := by decide +kernel
theorem dX10_longestWait_20 : decode cX10_longestWait 20 = .ok (.invokevirtual 97, 3) := by decide +kernel
theorem dX10_longestWait_23 : decode cX10_longestWait 23 = .ok (.goto 4, 3) := by decide +kernel
theorem dX10_longestWait_26 : decode cX10_longestWait 26 = .ok (.iconst 0, 1) := by decide +kernel
theorem dX10_longestWait_27 : decode cX10_longestWait 27 = .ok (.ireturn, 1) := by decide +kernel
theorem dX10_meanWait_0 : decode cX10_meanWait 0 = .ok (.aload_n 0, 1) := by decide +kernel
theorem dX10_meanWait_1 : decode cX10_meanWait 1 = .ok (.iconst 0, 1) := by decide +kernel
theorem dX10_meanWait_2 : decode cX10_meanWait 2 = .ok (.putfield 80, 3) := by decide +kernel
theorem dX10_meanWait_5 : decode cX10_meanWait 5 = .ok (.aload_n 0, 1) := by decide +kernel
theorem dX10_meanWait_6 : decode cX10_meanWait 6 = .ok (.iload_n 1, 1) := by decide +kernel
theorem dX10_meanWait_7 : decode cX10_meanWait 7 = .ok (.invokestatic 349, 3) := by decide +kernel
theorem dX10_meanWait_10 : decode cX10_meanWait 10 = .ok (.iconst 1, 1) := by decide +kernel
theorem dX10_meanWait_11 : decode cX10_meanWait 11 = .ok (.invokevirtual 197, 3) := by decide +kernel
theorem dX10_meanWait_14 : decode cX10_meanWait 14 = .ok (.ifCond .eq 12, 3) := by decide +kernel
theorem dX10_meanWait_17 : decode cX10_meanWait 17 = .ok (.aload_n 0, 1) := by decide +kernel
theorem dX10_meanWait_18 : decode cX10_meanWait 18 = .ok (.iload_n 1, 1) := by decide +kernel
theorem dX10_meanWait_19 : decode cX10_meanWait 19 = .ok (.iconst 5, 1) := by decide +kernel
theorem dX10_meanWait_20 : decode cX10_meanWait 20 = .ok (.invokevirtual 97, 3) := by decide +kernel
theorem dX10_meanWait_23 : decode cX10_meanWait 23 = .ok (.ifCond .ne 5, 3) := by decide +kernel
theorem dX10_meanWait_26 : decode cX10_meanWait 26 = .ok (.dconst 0, 1) := by decide +kernel
theorem dX10_meanWait_27 : decode cX10_meanWait 27 = .ok (.dreturn, 1) := by decide +kernel
theorem dX10_meanWait_28 : decode cX10_meanWait 28 = .ok (.aload_n 0, 1) := by decide +kernel
theorem dX10_meanWait_29 : decode cX10_meanWait 29 = .ok (.iload_n 1, 1) := by decide +kernel
theorem dX10_meanWait_30 : decode cX10_meanWait 30 = .ok (.iconst 4, 1) := by decide +kernel
theorem dX10_meanWait_31 : decode cX10_meanWait 31 = .ok (.invokevirtual 97, 3) := by decide +kernel
theorem dX10_meanWait_34 : decode cX10_meanWait 34 = .ok (.i2d, 1) := by decide +kernel
theorem dX10_meanWait_35 : decode cX10_meanWait 35 = .ok (.aload_n 0, 1) := by decide +kernel
theorem dX10_meanWait_36 : decode cX10_meanWait 36 = .ok (.iload_n 1, 1) := by decide +kernel
theorem dX10_meanWait_37 : decode cX10_meanWait 37 = .ok (.iconst 5, 1) := by decide +kernel
theorem dX10_meanWait_38 : decode cX10_meanWait 38 = .ok (.invokevirtual 97, 3) := by decide +kernel
theorem dX10_meanWait_41 : decode cX10_meanWait 41 = .ok (.i2d, 1) := by decide +kernel
theorem dX10_meanWait_42 : decode cX10_meanWait 42 = .ok (.ddiv, 1) := by decide +kernel
theorem dX10_meanWait_43 : decode cX10_meanWait 43 = .ok (.dreturn, 1) := by decide +kernel
theorem dX10_meanTravel_0 : decode cX10_meanTravel 0 = .ok (.aload_n 0, 1) := by decide +kernel
theorem dX10_meanTravel_1 : decode cX10_meanTravel 1 = .ok (.iconst 0, 1) := by decide +kernel
theorem dX10_meanTravel_2 : decode cX10_meanTravel 2 = .ok (.putfield 80, 3) := by decide +kernel
theorem dX10_meanTravel_5 : decode cX10_meanTravel 5 = .ok (.aload_n 0, 1) := by decide +kernel
theorem dX10_meanTravel_6 : decode cX10_meanTravel 6 = .ok (.getfield 7, 3) := by decide +kernel
theorem dX10_meanTravel_9 : decode cX10_meanTravel 9 = .ok (.bipush 8, 2) := by decide +kernel
theorem dX10_meanTravel_11 : decode cX10_meanTravel 11 = .ok (.iaload, 1) := by decide +kernel
theorem dX10_meanTravel_12 : decode cX10_meanTravel 12 = .ok (.ifCond .ne 7, 3) := by decide +kernel
theorem dX10_meanTravel_15 : decode cX10_meanTravel 15 = .ok (.fconst 0, 1) := by decide +kernel
theorem dX10_meanTravel_16 : decode cX10_meanTravel 16 = .ok (.goto 20, 3) := by decide +kernel
theorem dX10_meanTravel_19 : decode cX10_meanTravel 19 = .ok (.aload_n 0, 1) := by decide +kernel
theorem dX10_meanTravel_20 : decode cX10_meanTravel 20 = .ok (.getfield 7, 3) := by decide +kernel
theorem dX10_meanTravel_23 : decode cX10_meanTravel 23 = .ok (.bipush 7, 2) := by decide +kernel
theorem dX10_meanTravel_25 : decode cX10_meanTravel 25 = .ok (.iaload, 1) := by decide +kernel
theorem dX10_meanTravel_26 : decode cX10_meanTravel 26 = .ok (.i2f, 1) := by decide +kernel
theorem dX10_meanTravel_27 : decode cX10_meanTravel 27 = .ok (.aload_n 0, 1) := by decide +kernel
theorem dX10_meanTravel_28 : decode cX10_meanTravel 28 = .ok (.getfield 7, 3) := by decide +kernel
theorem dX10_meanTravel_31 : decode cX10_meanTravel 31 = .ok (.bipush 8, 2) := by decide +kernel
theorem dX10_meanTravel_33 : decode cX10_meanTravel 33 = .ok (.iaload, 1) := by decide +kernel
theorem dX10_meanTravel_34 : decode cX10_meanTravel 34 = .ok (.i2f, 1) := by decide +kernel
theorem dX10_meanTravel_35 : decode cX10_meanTravel 35 = .ok (.fdiv, 1) := by decide +kernel
theorem dX10_meanTravel_36 : decode cX10_meanTravel 36 = .ok (.freturn, 1) := by decide +kernel
theorem dX10_contradictions_0 : decode cX10_contradictions 0 = .ok (.aload_n 0, 1) := by decide +kernel
theorem dX10_contradictions_1 : decode cX10_contradictions 1 = .ok (.iconst 0, 1) := by decide +kernel
theorem dX10_contradictions_2 : decode cX10_contradictions 2 = .ok (.putfield 80, 3) := by decide +kernel
theorem dX10_contradictions_5 : decode cX10_contradictions 5 = .ok (.iconst 0, 1) := by decide +kernel
theorem dX10_contradictions_6 : decode cX10_contradictions 6 = .ok (.istore_n 1, 1) := by decide +kernel
theorem dX10_contradictions_7 : decode cX10_contradictions 7 = .ok (.iconst 1, 1) := by decide +kernel
theorem dX10_contradictions_8 : decode cX10_contradictions 8 = .ok (.istore_n 2, 1) := by decide +kernel
theorem dX10_contradictions_9 : decode cX10_contradictions 9 = .ok (.iload_n 2, 1) := by decide +kernel
theorem dX10_contradictions_10 : decode cX10_contradictions 10 = .ok (.aload_n 0, 1) := by decide +kernel
theorem dX10_contradictions_11 : decode cX10_contradictions 11 = .ok (.iconst 0, 1) := by decide +kernel
theorem dX10_contradictions_12 : decode cX10_contradictions 12 = .ok (.iconst 0, 1) := by decide +kernel
theorem dX10_contradictions_13 : decode cX10_contradictions 13 = .ok (.invokevirtual 97, 3) := by decide +kernel
theorem dX10_contradictions_16 : decode cX10_contradictions 16 = .ok (.aload_n 0, 1) := by decide +kernel
theorem dX10_contradictions_17 : decode cX10_contradictions 17 = .ok (.iconst 1, 1) := by decide +kernel
theorem dX10_contradictions_18 : decode cX10_contradictions 18 = .ok (.iconst 0, 1) := by decide +kernel
theorem dX10_contradictions_19 : decode cX10_contradictions 19 = .ok (.invokevirtual 97, 3) := by decide +kernel
theorem dX10_contradictions_22 : decode cX10_contradictions 22 = .ok (.invokestatic 219, 3) := by decide +kernel
theorem dX10_contradictions_25 : decode cX10_contradictions 25 = .ok (.if_icmp .gt 46, 3) := by decide +kernel
theorem dX10_contradictions_28 : decode cX10_contradictions 28 = .ok (.aload_n 0, 1) := by decide +kernel
theorem dX10_contradictions_29 : decode cX10_contradictions 29 = .ok (.iconst 0, 1) := by decide +kernel
theorem dX10_contradictions_30 : decode cX10_contradictions 30 = .ok (.iload_n 2, 1) := by decide +kernel
theorem dX10_contradictions_31 : decode cX10_contradictions 31 = .ok (.iconst 0, 1) := by decide +kernel
theorem dX10_contradictions_32 : decode cX10_contradictions 32 = .ok (.invokevirtual 133, 3) := by decide +kernel
theorem dX10_contradictions_35 : decode cX10_contradictions 35 = .ok (.aload_n 0, 1) := by decide +kernel
theorem dX10_contradictions_36 : decode cX10_contradictions 36 = .ok (.iconst 1, 1) := by decide +kernel
theorem dX10_contradictions_37 : decode cX10_contradictions 37 = .ok (.iload_n 2, 1) := by decide +kernel
theorem dX10_contradictions_38 : decode cX10_contradictions 38 = .ok (.iconst 0, 1) := by decide +kernel
theorem dX10_contradictions_39 : decode cX10_contradictions 39 = .ok (.invokevirtual 133, 3) := by decide +kernel
theorem dX10_contradictions_42 : decode cX10_contradictions 42 = .ok (.if_icmp .ne 20, 3) := by decide +kernel
theorem dX10_contradictions_45 : decode cX10_contradictions 45 = .ok (.aload_n 0, 1) := by decide +kernel
theorem dX10_contradictions_46 : decode cX10_contradictions 46 = .ok (.iconst 0, 1) := by decide +kernel
theorem dX10_contradictions_47 : decode cX10_contradictions 47 = .ok (.iload_n 2, 1) := by decide +kernel
theorem dX10_contradictions_48 : decode cX10_contradictions 48 = .ok (.iconst 1, 1) := by decide +kernel
theorem dX10_contradictions_49 : decode cX10_contradictions 49 = .ok (.invokevirtual 133, 3) := by decide +kernel
theorem dX10_contradictions_52 : decode cX10_contradictions 52 = .ok (.aload_n 0, 1) := by decide +kernel
theorem dX10_contradictions_53 : decode cX10_contradictions 53 = .ok (.iconst 1, 1) := by decide +kernel
theorem dX10_contradictions_54 : decode cX10_contradictions 54 = .ok (.iload_n 2, 1) := by decide +kernel
theorem dX10_contradictions_55 : decode cX10_contradictions 55 = .ok (.iconst 1, 1) := by decide +kernel
theorem dX10_contradictions_56 : decode cX10_contradictions 56 = .ok (.invokevirtual 133, 3) := by decide +kernel
theorem dX10_contradictions_59 : decode cX10_contradictions 59 = .ok (.if_icmp .eq 6, 3) := by decide +kernel
theorem dX10_contradictions_62 : decode cX10_contradictions 62 = .ok (.iinc 1 1, 3) := by decide +kernel
theorem dX10_contradictions_65 : decode cX10_contradictions 65 = .ok (.iinc 2 1, 3) := by decide +kernel
theorem dX10_contradictions_68 : decode cX10_contradictions 68 = .ok (.goto (-59), 3) := by decide +kernel
theorem dX10_contradictions_71 : decode cX10_contradictions 71 = .ok (.iconst 0, 1) := by decide +kernel
theorem dX10_contradictions_72 : decode cX10_contradictions 72 = .ok (.istore_n 2, 1) := by decide +kernel
theorem dX10_contradictions_73 : decode cX10_contradictions 73 = .ok (.iload_n 2, 1) := by decide +kernel
theorem dX10_contradictions_74 : decode cX10_contradictions 74 = .ok (.iconst 2, 1) := by decide +kernel
theorem dX10_contradictions_75 : decode cX10_contradictions 75 = .ok (.if_icmp .ge 51, 3) := by decide +kernel
theorem dX10_contradictions_78 : decode cX10_contradictions 78 = .ok (.iload_n 1, 1) := by decide +kernel
theorem dX10_contradictions_79 : decode cX10_contradictions 79 = .ok (.aload_n 0, 1) := by decide +kernel
theorem dX10_contradictions_80 : decode cX10_contradictions 80 = .ok (.getfield 7, 3) := by decide +kernel
theorem dX10_contradictions_83 : decode cX10_contradictions 83 = .ok (.bipush 9, 2) := by decide +kernel
theorem dX10_contradictions_85 : decode cX10_contradictions 85 = .ok (.iaload, 1) := by decide +kernel
theorem dX10_contradictions_86 : decode cX10_contradictions 86 = .ok (.aload_n 0, 1) := by decide +kernel
theorem dX10_contradictions_87 : decode cX10_contradictions 87 = .ok (.getfield 7, 3) := by decide +kernel
theorem dX10_contradictions_90 : decode cX10_contradictions 90 = .ok (.bipush 10, 2) := by decide +kernel
theorem dX10_contradictions_92 : decode cX10_contradictions 92 = .ok (.iaload, 1) := by decide +kernel
theorem dX10_contradictions_93 : decode cX10_contradictions 93 = .ok (.iadd, 1) := by decide +kernel
theorem dX10_contradictions_94 : decode cX10_contradictions 94 = .ok (.aload_n 0, 1) := by decide +kernel
theorem dX10_contradictions_95 : decode cX10_contradictions 95 = .ok (.iload_n 2, 1) := by decide +kernel
theorem dX10_contradictions_96 : decode cX10_contradictions 96 = .ok (.iconst 0, 1) := by decide +kernel
theorem dX10_contradictions_97 : decode cX10_contradictions 97 = .ok (.invokevirtual 94, 3) := by decide +kernel
theorem dX10_contradictions_100 : decode cX10_contradictions 100 = .ok (.isub, 1) := by decide +kernel
theorem dX10_contradictions_101 : decode cX10_contradictions 101 = .ok (.aload_n 0, 1) := by decide +kernel
theorem dX10_contradictions_102 : decode cX10_contradictions 102 = .ok (.iload_n 2, 1) := by decide +kernel
theorem dX10_contradictions_103 : decode cX10_contradictions 103 = .ok (.iconst 1, 1) := by decide +kernel
theorem dX10_contradictions_104 : decode cX10_contradictions 104 = .ok (.invokevirtual 94, 3) := by decide +kernel
theorem dX10_contradictions_107 : decode cX10_contradictions 107 = .ok (.isub, 1) := by decide +kernel
theorem dX10_contradictions_108 : decode cX10_contradictions 108 = .ok (.aload_n 0, 1) := by decide +kernel
theorem dX10_contradictions_109 : decode cX10_contradictions 109 = .ok (.iload_n 2, 1) := by decide +kernel
theorem dX10_contradictions_110 : decode cX10_contradictions 110 = .ok (.iconst 1, 1) := by decide +kernel
theorem dX10_contradictions_111 : decode cX10_contradictions 111 = .ok (.invokevirtual 97, 3) := by decide +kernel
theorem dX10_contradictions_114 : decode cX10_contradictions 114 = .ok (.isub, 1) := by decide +kernel
theorem dX10_contradictions_115 : decode cX10_contradictions 115 = .ok (.invokestatic 111, 3) := by decide +kernel
theorem dX10_contradictions_118 : decode cX10_contradictions 118 = .ok (.iadd, 1) := by decide +kernel
theorem dX10_contradictions_119 : decode cX10_contradictions 119 = .ok (.istore_n 1, 1) := by decide +kernel
theorem dX10_contradictions_120 : decode cX10_contradictions 120 = .ok (.iinc 2 1, 3) := by decide +kernel
theorem dX10_contradictions_123 : decode cX10_contradictions 123 = .ok (.goto (-50), 3) := by decide +kernel
theorem dX10_contradictions_126 : decode cX10_contradictions 126 = .ok (.iconst 0, 1) := by decide +kernel
theorem dX10_contradictions_127 : decode cX10_contradictions 127 = .ok (.istore_n 2, 1) := by decide +kernel
theorem dX10_contradictions_128 : decode cX10_contradictions 128 = .ok (.iconst 0, 1) := by decide +kernel
theorem dX10_contradictions_129 : decode cX10_contradictions 129 = .ok (.istore_n 3, 1) := by decide +kernel
theorem dX10_contradictions_130 : decode cX10_contradictions 130 = .ok (.iload_n 3, 1) := by decide +kernel
theorem dX10_contradictions_131 : decode cX10_contradictions 131 = .ok (.aload_n 0, 1) := by decide +kernel
theorem dX10_contradictions_132 : decode cX10_contradictions 132 = .ok (.getfield 7, 3) := by decide +kernel
theorem dX10_contradictions_135 : decode cX10_contradictions 135 = .ok (.iconst 3, 1) := by decide +kernel
theorem dX10_contradictions_136 : decode cX10_contradictions 136 = .ok (.iaload, 1) := by decide +kernel
theorem dX10_contradictions_137 : decode cX10_contradictions 137 = .ok (.if_icmp .ge 25, 3) := by decide +kernel
theorem dX10_contradictions_140 : decode cX10_contradictions 140 = .ok (.iload_n 2, 1) := by decide +kernel
theorem dX10_contradictions_141 : decode cX10_contradictions 141 = .ok (.aload_n 0, 1) := by decide +kernel
theorem dX10_contradictions_142 : decode cX10_contradictions 142 = .ok (.iload_n 3, 1) := by decide +kernel
theorem dX10_contradictions_143 : decode cX10_contradictions 143 = .ok (.iconst 1, 1) := by decide +kernel
theorem dX10_contradictions_144 : decode cX10_contradictions 144 = .ok (.invokevirtual 154, 3) := by decide +kernel
theorem dX10_contradictions_147 : decode cX10_contradictions 147 = .ok (.aload_n 0, 1) := by decide +kernel
theorem dX10_contradictions_148 : decode cX10_contradictions 148 = .ok (.iload_n 3, 1) := by decide +kernel
theorem dX10_contradictions_149 : decode cX10_contradictions 149 = .ok (.iconst 2, 1) := by decide +kernel
theorem dX10_contradictions_150 : decode cX10_contradictions 150 = .ok (.invokevirtual 154, 3) := by decide +kernel
theorem dX10_contradictions_153 : decode cX10_contradictions 153 = .ok (.iadd, 1) := by decide +kernel
theorem dX10_contradictions_154 : decode cX10_contradictions 154 = .ok (.iadd, 1) := by decide +kernel
theorem dX10_contradictions_155 : decode cX10_contradictions 155 = .ok (.istore_n 2, 1) := by decide +kernel
theorem dX10_contradictions_156 : decode cX10_contradictions 156 = .ok (.iinc 3 1, 3) := by decide +kernel
theorem dX10_contradictions_159 : decode cX10_contradictions 159 = .ok (.goto (-29), 3) := by decide +kernel
theorem dX10_contradictions_162 : decode cX10_contradictions 162 = .ok (.iconst 0, 1) := by decide +kernel
theorem dX10_contradictions_163 : decode cX10_contradictions 163 = .ok (.istore_n 3, 1) := by decide +kernel
theorem dX10_contradictions_164 : decode cX10_contradictions 164 = .ok (.iload_n 3, 1) := by decide +kernel
theorem dX10_contradictions_165 : decode cX10_contradictions 165 = .ok (.aload_n 0, 1) := by decide +kernel
theorem dX10_contradictions_166 : decode cX10_contradictions 166 = .ok (.getfield 7, 3) := by decide +kernel
theorem dX10_contradictions_169 : decode cX10_contradictions 169 = .ok (.iconst 4, 1) := by decide +kernel
theorem dX10_contradictions_170 : decode cX10_contradictions 170 = .ok (.iaload, 1) := by decide +kernel
theorem dX10_contradictions_171 : decode cX10_contradictions 171 = .ok (.if_icmp .ge 23, 3) := by decide +kernel
theorem dX10_contradictions_174 : decode cX10_contradictions 174 = .ok (.aload_n 0, 1) := by decide +kernel
theorem dX10_contradictions_175 : decode cX10_contradictions 175 = .ok (.iload_n 3, 1) := by decide +kernel
theorem dX10_contradictions_176 : decode cX10_contradictions 176 = .ok (.bipush 6, 2) := by decide +kernel
theorem dX10_contradictions_178 : decode cX10_contradictions 178 = .ok (.invokevirtual 163, 3) := by decide +kernel
theorem dX10_contradictions_181 : decode cX10_contradictions 181 = .ok (.iconst 1, 1) := by decide +kernel
theorem dX10_contradictions_182 : decode cX10_contradictions 182 = .ok (.if_icmp .ne 6, 3) := by decide +kernel
theorem dX10_contradictions_185 : decode cX10_contradictions 185 = .ok (.iinc 2 1, 3) := by decide +kernel
theorem dX10_contradictions_188 : decode cX10_contradictions 188 = .ok (.iinc 3 1, 3) := by decide +kernel
theorem dX10_contradictions_191 : decode cX10_contradictions 191 = .ok (.goto (-27), 3) := by decide +kernel
theorem dX10_contradictions_194 : decode cX10_contradictions 194 = .ok (.iload_n 1, 1) := by decide +kernel
theorem dX10_contradictions_195 : decode cX10_contradictions 195 = .ok (.aload_n 0, 1) := by decide +kernel
theorem dX10_contradictions_196 : decode cX10_contradictions 196 = .ok (.getfield 7, 3) := by decide +kernel
theorem dX10_contradictions_199 : decode cX10_contradictions 199 = .ok (.bipush 11, 2) := by decide +kernel
theorem dX10_contradictions_201 : decode cX10_contradictions 201 = .ok (.iaload, 1) := by decide +kernel
theorem dX10_contradictions_202 : decode cX10_contradictions 202 = .ok (.iload_n 2, 1) := by decide +kernel
theorem dX10_contradictions_203 : decode cX10_contradictions 203 = .ok (.isub, 1) := by decide +kernel
theorem dX10_contradictions_204 : decode cX10_contradictions 204 = .ok (.invokestatic 111, 3) := by decide +kernel
theorem dX10_contradictions_207 : decode cX10_contradictions 207 = .ok (.iadd, 1) := by decide +kernel
theorem dX10_contradictions_208 : decode cX10_contradictions 208 = .ok (.ireturn, 1) := by decide +kernel
theorem dX10_arrivalOf_0 : decode cX10_arrivalOf 0 = .ok (.iconst 0, 1) := by decide +kernel
theorem dX10_arrivalOf_1 : decode cX10_arrivalOf 1 = .ok (.istore_n 2, 1) := by decide +kernel
theorem dX10_arrivalOf_2 : decode cX10_arrivalOf 2 = .ok (.iload_n 2, 1) := by decide +kernel
theorem dX10_arrivalOf_3 : decode cX10_arrivalOf 3 = .ok (.sipush 400, 3) := by decide +kernel
theorem dX10_arrivalOf_6 : decode cX10_arrivalOf 6 = .ok (.if_icmp .gt 39, 3) := by decide +kernel
theorem dX10_arrivalOf_9 : decode cX10_arrivalOf 9 = .ok (.aload_n 0, 1) := by decide +kernel
theorem dX10_arrivalOf_10 : decode cX10_arrivalOf 10 = .ok (.iload_n 1, 1) := by decide +kernel
theorem dX10_arrivalOf_11 : decode cX10_arrivalOf 11 = .ok (.bipush 6, 2) := by decide +kernel
theorem dX10_arrivalOf_13 : decode cX10_arrivalOf 13 = .ok (.invokevirtual 163, 3) := by decide +kernel
theorem dX10_arrivalOf_16 : decode cX10_arrivalOf 16 = .ok (.iconst 2, 1) := by decide +kernel
theorem dX10_arrivalOf_17 : decode cX10_arrivalOf 17 = .ok (.if_icmp .ne 11, 3) := by decide +kernel
theorem dX10_arrivalOf_20 : decode cX10_arrivalOf 20 = .ok (.aload_n 0, 1) := by decide +kernel
theorem dX10_arrivalOf_21 : decode cX10_arrivalOf 21 = .ok (.iload_n 1, 1) := by decide +kernel
theorem dX10_arrivalOf_22 : decode cX10_arrivalOf 22 = .ok (.bipush 10, 2) := by decide +kernel
theorem dX10_arrivalOf_24 : decode cX10_arrivalOf 24 = .ok (.invokevirtual 163, 3) := by decide +kernel
theorem dX10_arrivalOf_27 : decode cX10_arrivalOf 27 = .ok (.ireturn, 1) := by decide +kernel
theorem dX10_arrivalOf_28 : decode cX10_arrivalOf 28 = .ok (.iload_n 2, 1) := by decide +kernel
theorem dX10_arrivalOf_29 : decode cX10_arrivalOf 29 = .ok (.sipush 400, 3) := by decide +kernel
theorem dX10_arrivalOf_32 : decode cX10_arrivalOf 32 = .ok (.if_icmp .ge 7, 3) := by decide +kernel
theorem dX10_arrivalOf_35 : decode cX10_arrivalOf 35 = .ok (.aload_n 0, 1) := by decide +kernel
theorem dX10_arrivalOf_36 : decode cX10_arrivalOf 36 = .ok (.invokevirtual 382, 3) := by decide +kernel
theorem dX10_arrivalOf_39 : decode cX10_arrivalOf 39 = .ok (.iinc 2 1, 3) := by decide +kernel
theorem dX10_arrivalOf_42 : decode cX10_arrivalOf 42 = .ok (.goto (-40), 3) := by decide +kernel
theorem dX10_arrivalOf_45 : decode cX10_arrivalOf 45 = .ok (.iconst (-1), 1) := by decide +kernel
theorem dX10_arrivalOf_46 : decode cX10_arrivalOf 46 = .ok (.ireturn, 1) := by decide +kernel
theorem dX10_arrivalDay_0 : decode cX10_arrivalDay 0 = .ok (.aload_n 0, 1) := by decide +kernel
theorem dX10_arrivalDay_1 : decode cX10_arrivalDay 1 = .ok (.iconst 0, 1) := by decide +kernel
theorem dX10_arrivalDay_2 : decode cX10_arrivalDay 2 = .ok (.putfield 80, 3) := by decide +kernel
theorem dX10_arrivalDay_5 : decode cX10_arrivalDay 5 = .ok (.aload_n 0, 1) := by decide +kernel
theorem dX10_arrivalDay_6 : decode cX10_arrivalDay 6 = .ok (.aload_n 0, 1) := by decide +kernel
theorem dX10_arrivalDay_7 : decode cX10_arrivalDay 7 = .ok (.iload_n 1, 1) := by decide +kernel
theorem dX10_arrivalDay_8 : decode cX10_arrivalDay 8 = .ok (.invokevirtual 376, 3) := by decide +kernel
theorem dX10_arrivalDay_11 : decode cX10_arrivalDay 11 = .ok (.iconst 1, 1) := by decide +kernel
theorem dX10_arrivalDay_12 : decode cX10_arrivalDay 12 = .ok (.invokevirtual 197, 3) := by decide +kernel
theorem dX10_arrivalDay_15 : decode cX10_arrivalDay 15 = .ok (.ifCond .ne 5, 3) := by decide +kernel
theorem dX10_arrivalDay_18 : decode cX10_arrivalDay 18 = .ok (.iconst 0, 1) := by decide +kernel
theorem dX10_arrivalDay_19 : decode cX10_arrivalDay 19 = .ok (.ireturn, 1) := by decide +kernel
theorem dX10_arrivalDay_20 : decode cX10_arrivalDay 20 = .ok (.aload_n 0, 1) := by decide +kernel
theorem dX10_arrivalDay_21 : decode cX10_arrivalDay 21 = .ok (.invokevirtual 385, 3) := by decide +kernel
theorem dX10_arrivalDay_24 : decode cX10_arrivalDay 24 = .ok (.aload_n 0, 1) := by decide +kernel
theorem dX10_arrivalDay_25 : decode cX10_arrivalDay 25 = .ok (.aload_n 0, 1) := by decide +kernel
theorem dX10_arrivalDay_26 : decode cX10_arrivalDay 26 = .ok (.iload_n 1, 1) := by decide +kernel
theorem dX10_arrivalDay_27 : decode cX10_arrivalDay 27 = .ok (.invokevirtual 388, 3) := by decide +kernel
theorem dX10_arrivalDay_30 : decode cX10_arrivalDay 30 = .ok (.invokevirtual 391, 3) := by decide +kernel
theorem dX10_arrivalDay_33 : decode cX10_arrivalDay 33 = .ok (.ireturn, 1) := by decide +kernel
theorem dX10_daysUntilTurn_0 : decode cX10_daysUntilTurn 0 = .ok (.aload_n 0, 1) := by decide +kernel
theorem dX10_daysUntilTurn_1 : decode cX10_daysUntilTurn 1 = .ok (.iconst 0, 1) := by decide +kernel
theorem dX10_daysUntilTurn_2 : decode cX10_daysUntilTurn 2 = .ok (.putfield 80, 3) := by decide +kernel
theorem dX10_daysUntilTurn_5 : decode cX10_daysUntilTurn 5 = .ok (.aload_n 0, 1) := by decide +kernel
theorem dX10_daysUntilTurn_6 : decode cX10_daysUntilTurn 6 = .ok (.iload_n 1, 1) := by decide +kernel
theorem dX10_daysUntilTurn_7 : decode cX10_daysUntilTurn 7 = .ok (.invokestatic 349, 3) := by decide +kernel
theorem dX10_daysUntilTurn_10 : decode cX10_daysUntilTurn 10 = .ok (.iconst 1, 1) := by decide +kernel
theorem dX10_daysUntilTurn_11 : decode cX10_daysUntilTurn 11 = .ok (.invokevirtual 197, 3) := by decide +kernel
theorem dX10_daysUntilTurn_14 : decode cX10_daysUntilTurn 14 = .ok (.ifCond .ne 5, 3) := by decide +kernel
theorem dX10_daysUntilTurn_17 : decode cX10_daysUntilTurn 17 = .ok (.iconst 0, 1) := by decide +kernel
theorem dX10_daysUntilTurn_18 : decode cX10_daysUntilTurn 18 = .ok (.ireturn, 1) := by decide +kernel
theorem dX10_daysUntilTurn_19 : decode cX10_daysUntilTurn 19 = .ok (.aload_n 0, 1) := by decide +kernel
theorem dX10_daysUntilTurn_20 : decode cX10_daysUntilTurn 20 = .ok (.invokevirtual 385, 3) := by decide +kernel
theorem dX10_daysUntilTurn_23 : decode cX10_daysUntilTurn 23 = .ok (.iconst 0, 1) := by decide +kernel
theorem dX10_daysUntilTurn_24 : decode cX10_daysUntilTurn 24 = .ok (.istore_n 2, 1) := by decide +kernel
theorem dX10_daysUntilTurn_25 : decode cX10_daysUntilTurn 25 = .ok (.iload_n 2, 1) := by decide +kernel
theorem dX10_daysUntilTurn_26 : decode cX10_daysUntilTurn 26 = .ok (.sipush 400, 3) := by decide +kernel
theorem dX10_daysUntilTurn_29 : decode cX10_daysUntilTurn 29 = .ok (.if_icmp .gt 27, 3) := by decide +kernel
theorem dX10_daysUntilTurn_32 : decode cX10_daysUntilTurn 32 = .ok (.aload_n 0, 1) := by decide +kernel
theorem dX10_daysUntilTurn_33 : decode cX10_daysUntilTurn 33 = .ok (.iload_n 1, 1) := by decide +kernel
theorem dX10_daysUntilTurn_34 : decode cX10_daysUntilTurn 34 = .ok (.invokevirtual 355, 3) := by decide +kernel
theorem dX10_daysUntilTurn_37 : decode cX10_daysUntilTurn 37 = .ok (.ifCond .eq 9, 3) := by decide +kernel
theorem dX10_daysUntilTurn_40 : decode cX10_daysUntilTurn 40 = .ok (.aload_n 0, 1) := by decide +kernel
theorem dX10_daysUntilTurn_41 : decode cX10_daysUntilTurn 41 = .ok (.iload_n 2, 1) := by decide +kernel
theorem dX10_daysUntilTurn_42 : decode cX10_daysUntilTurn 42 = .ok (.invokevirtual 391, 3) := by decide +kernel
theorem dX10_daysUntilTurn_45 : decode cX10_daysUntilTurn 45 = .ok (.ireturn, 1) := by decide +kernel
theorem dX10_daysUntilTurn_46 : decode cX10_daysUntilTurn 46 = .ok (.aload_n 0, 1) := by decide +kernel
theorem dX10_daysUntilTurn_47 : decode cX10_daysUntilTurn 47 = .ok (.invokevirtual 382, 3) := by decide +kernel
theorem dX10_daysUntilTurn_50 : decode cX10_daysUntilTurn 50 = .ok (.iinc 2 1, 3) := by decide +kernel
theorem dX10_daysUntilTurn_53 : decode cX10_daysUntilTurn 53 = .ok (.goto (-28), 3) := by decide +kernel
theorem dX10_daysUntilTurn_56 : decode cX10_daysUntilTurn 56 = .ok (.aload_n 0, 1) := by decide +kernel
theorem dX10_daysUntilTurn_57 : decode cX10_daysUntilTurn 57 = .ok (.iconst (-1), 1) := by decide +kernel
theorem dX10_daysUntilTurn_58 : decode cX10_daysUntilTurn 58 = .ok (.invokevirtual 391, 3) := by decide +kernel
theorem dX10_daysUntilTurn_61 : decode cX10_daysUntilTurn 61 = .ok (.ireturn, 1) := by decide +kernel
theorem dX10_daysUntilEqual_0 : decode cX10_daysUntilEqual 0 = .ok (.aload_n 0, 1) := by decide +kernel
theorem dX10_daysUntilEqual_1 : decode cX10_daysUntilEqual 1 = .ok (.iconst 0, 1) := by decide +kernel
theorem dX10_daysUntilEqual_2 : decode cX10_daysUntilEqual 2 = .ok (.putfield 80, 3) := by decide +kernel
theorem dX10_daysUntilEqual_5 : decode cX10_daysUntilEqual 5 = .ok (.aload_n 0, 1) := by decide +kernel
theorem dX10_daysUntilEqual_6 : decode cX10_daysUntilEqual 6 = .ok (.invokevirtual 385, 3) := by decide +kernel
theorem dX10_daysUntilEqual_9 : decode cX10_daysUntilEqual 9 = .ok (.iconst 0, 1) := by decide +kernel
theorem dX10_daysUntilEqual_10 : decode cX10_daysUntilEqual 10 = .ok (.istore_n 1, 1) := by decide +kernel
theorem dX10_daysUntilEqual_11 : decode cX10_daysUntilEqual 11 = .ok (.iload_n 1, 1) := by decide +kernel
theorem dX10_daysUntilEqual_12 : decode cX10_daysUntilEqual 12 = .ok (.sipush 400, 3) := by decide +kernel
theorem dX10_daysUntilEqual_15 : decode cX10_daysUntilEqual 15 = .ok (.if_icmp .gt 26, 3) := by decide +kernel
theorem dX10_daysUntilEqual_18 : decode cX10_daysUntilEqual 18 = .ok (.aload_n 0, 1) := by decide +kernel
theorem dX10_daysUntilEqual_19 : decode cX10_daysUntilEqual 19 = .ok (.invokevirtual 367, 3) := by decide +kernel
theorem dX10_daysUntilEqual_22 : decode cX10_daysUntilEqual 22 = .ok (.ifCond .eq 9, 3) := by decide +kernel
theorem dX10_daysUntilEqual_25 : decode cX10_daysUntilEqual 25 = .ok (.aload_n 0, 1) := by decide +kernel
theorem dX10_daysUntilEqual_26 : decode cX10_daysUntilEqual 26 = .ok (.iload_n 1, 1) := by decide +kernel
theorem dX10_daysUntilEqual_27 : decode cX10_daysUntilEqual 27 = .ok (.invokevirtual 391, 3) := by decide +kernel
theorem dX10_daysUntilEqual_30 : decode cX10_daysUntilEqual 30 = .ok (.ireturn, 1) := by decide +kernel
theorem dX10_daysUntilEqual_31 : decode cX10_daysUntilEqual 31 = .ok (.aload_n 0, 1) := by decide +kernel
theorem dX10_daysUntilEqual_32 : decode cX10_daysUntilEqual 32 = .ok (.invokevirtual 382, 3) := by decide +kernel
theorem dX10_daysUntilEqual_35 : decode cX10_daysUntilEqual 35 = .ok (.iinc 1 1, 3) := by decide +kernel
theorem dX10_daysUntilEqual_38 : decode cX10_daysUntilEqual 38 = .ok (.goto (-27), 3) := by decide +kernel
theorem dX10_daysUntilEqual_41 : decode cX10_daysUntilEqual 41 = .ok (.aload_n 0, 1) := by decide +kernel
theorem dX10_daysUntilEqual_42 : decode cX10_daysUntilEqual 42 = .ok (.iconst (-1), 1) := by decide +kernel
theorem dX10_daysUntilEqual_43 : decode cX10_daysUntilEqual 43 = .ok (.invokevirtual 391, 3) := by decide +kernel
theorem dX10_daysUntilEqual_46 : decode cX10_daysUntilEqual 46 = .ok (.ireturn, 1) := by decide +kernel
theorem dX10_arrivalOver_0 : decode cX10_arrivalOver 0 = .ok (.aload_n 0, 1) := by decide +kernel
theorem dX10_arrivalOver_1 : decode cX10_arrivalOver 1 = .ok (.invokevirtual 385, 3) := by decide +kernel
theorem dX10_arrivalOver_4 : decode cX10_arrivalOver 4 = .ok (.aload_n 0, 1) := by decide +kernel
theorem dX10_arrivalOver_5 : decode cX10_arrivalOver 5 = .ok (.aload_n 0, 1) := by decide +kernel
theorem dX10_arrivalOver_6 : decode cX10_arrivalOver 6 = .ok (.iload_n 1, 1) := by decide +kernel
theorem dX10_arrivalOver_7 : decode cX10_arrivalOver 7 = .ok (.iload_n 2, 1) := by decide +kernel
theorem dX10_arrivalOver_8 : decode cX10_arrivalOver 8 = .ok (.iconst 0, 1) := by decide +kernel
theorem dX10_arrivalOver_9 : decode cX10_arrivalOver 9 = .ok (.iconst 1, 1) := by decide +kernel
theorem dX10_arrivalOver_10 : decode cX10_arrivalOver 10 = .ok (.iconst 0, 1) := by decide +kernel
theorem dX10_arrivalOver_11 : decode cX10_arrivalOver 11 = .ok (.iconst 0, 1) := by decide +kernel
theorem dX10_arrivalOver_12 : decode cX10_arrivalOver 12 = .ok (.invokevirtual 394, 3) := by decide +kernel
theorem dX10_arrivalOver_15 : decode cX10_arrivalOver 15 = .ok (.putfield 29, 3) := by decide +kernel
theorem dX10_arrivalOver_18 : decode cX10_arrivalOver 18 = .ok (.aload_n 0, 1) := by decide +kernel
theorem dX10_arrivalOver_19 : decode cX10_arrivalOver 19 = .ok (.aload_n 0, 1) := by decide +kernel
theorem dX10_arrivalOver_20 : decode cX10_arrivalOver 20 = .ok (.aload_n 0, 1) := by decide +kernel
theorem dX10_arrivalOver_21 : decode cX10_arrivalOver 21 = .ok (.getfield 29, 3) := by decide +kernel
theorem dX10_arrivalOver_24 : decode cX10_arrivalOver 24 = .ok (.invokevirtual 388, 3) := by decide +kernel
theorem dX10_arrivalOver_27 : decode cX10_arrivalOver 27 = .ok (.invokevirtual 391, 3) := by decide +kernel
theorem dX10_arrivalOver_30 : decode cX10_arrivalOver 30 = .ok (.ireturn, 1) := by decide +kernel
theorem dX10_fastestPass_0 : decode cX10_fastestPass 0 = .ok (.aload_n 0, 1) := by decide +kernel
theorem dX10_fastestPass_1 : decode cX10_fastestPass 1 = .ok (.iconst 0, 1) := by decide +kernel
theorem dX10_fastestPass_2 : decode cX10_fastestPass 2 = .ok (.putfield 80, 3) := by decide +kernel
theorem dX10_fastestPass_5 : decode cX10_fastestPass 5 = .ok (.aload_n 0, 1) := by decide +kernel
theorem dX10_fastestPass_6 : decode cX10_fastestPass 6 = .ok (.iload_n 1, 1) := by decide +kernel
theorem dX10_fastestPass_7 : decode cX10_fastestPass 7 = .ok (.invokestatic 349, 3) := by decide +kernel
theorem dX10_fastestPass_10 : decode cX10_fastestPass 10 = .ok (.iconst 1, 1) := by decide +kernel
theorem dX10_fastestPass_11 : decode cX10_fastestPass 11 = .ok (.invokevirtual 197, 3) := by decide +kernel
theorem dX10_fastestPass_14 : decode cX10_fastestPass 14 = .ok (.ifCond .ne 5, 3) := by decide +kernel
theorem dX10_fastestPass_17 : decode cX10_fastestPass 17 = .ok (.iconst 0, 1) := by decide +kernel
theorem dX10_fastestPass_18 : decode cX10_fastestPass 18 = .ok (.ireturn, 1) := by decide +kernel
theorem dX10_fastestPass_19 : decode cX10_fastestPass 19 = .ok (.iconst (-1), 1) := by decide +kernel
theorem dX10_fastestPass_20 : decode cX10_fastestPass 20 = .ok (.istore_n 2, 1) := by decide +kernel
theorem dX10_fastestPass_21 : decode cX10_fastestPass 21 = .ok (.iconst 0, 1) := by decide +kernel
theorem dX10_fastestPass_22 : decode cX10_fastestPass 22 = .ok (.istore_n 3, 1) := by decide +kernel
theorem dX10_fastestPass_23 : decode cX10_fastestPass 23 = .ok (.iconst 0, 1) := by decide +kernel
theorem dX10_fastestPass_24 : decode cX10_fastestPass 24 = .ok (.istore 4, 2) := by decide +kernel
theorem dX10_fastestPass_26 : decode cX10_fastestPass 26 = .ok (.iload 4, 2) := by decide +kernel
theorem dX10_fastestPass_28 : decode cX10_fastestPass 28 = .ok (.aload_n 0, 1) := by decide +kernel
theorem dX10_fastestPass_29 : decode cX10_fastestPass 29 = .ok (.getfield 7, 3) := by decide +kernel
theorem dX10_fastestPass_32 : decode cX10_fastestPass 32 = .ok (.iconst 3, 1) := by decide +kernel
theorem dX10_fastestPass_33 : decode cX10_fastestPass 33 = .ok (.iaload, 1) := by decide +kernel
theorem dX10_fastestPass_34 : decode cX10_fastestPass 34 = .ok (.if_icmp .ge 44, 3) := by decide +kernel
theorem dX10_fastestPass_37 : decode cX10_fastestPass 37 = .ok (.aload_n 0, 1) := by decide +kernel
theorem dX10_fastestPass_38 : decode cX10_fastestPass 38 = .ok (.iload_n 1, 1) := by decide +kernel
theorem dX10_fastestPass_39 : decode cX10_fastestPass 39 = .ok (.iload 4, 2) := by decide +kernel
theorem dX10_fastestPass_41 : decode cX10_fastestPass 41 = .ok (.invokevirtual 398, 3) := by decide +kernel
theorem dX10_fastestPass_44 : decode cX10_fastestPass 44 = .ok (.istore 5, 2) := by decide +kernel
theorem dX10_fastestPass_46 : decode cX10_fastestPass 46 = .ok (.iload 5, 2) := by decide +kernel
theorem dX10_fastestPass_48 : decode cX10_fastestPass 48 = .ok (.iconst (-1), 1) := by decide +kernel
theorem dX10_fastestPass_49 : decode cX10_fastestPass 49 = .ok (.if_icmp .eq 23, 3) := by decide +kernel
theorem dX10_fastestPass_52 : decode cX10_fastestPass 52 = .ok (.iload_n 2, 1) := by decide +kernel
theorem dX10_fastestPass_53 : decode cX10_fastestPass 53 = .ok (.iconst (-1), 1) := by decide +kernel
theorem dX10_fastestPass_54 : decode cX10_fastestPass 54 = .ok (.if_icmp .eq 12, 3) := by decide +kernel
theorem dX10_fastestPass_57 : decode cX10_fastestPass 57 = .ok (.iload 5, 2) := by decide +kernel
theorem dX10_fastestPass_59 : decode cX10_fastestPass 59 = .ok (.iload_n 3, 1) := by decide +kernel
theorem dX10_fastestPass_60 : decode cX10_fastestPass 60 = .ok (.if_icmp .lt 6, 3) := by decide +kernel
theorem dX10_fastestPass_63 : decode cX10_fastestPass 63 = .ok (.goto 9, 3) := by decide +kernel
theorem dX10_fastestPass_66 : decode cX10_fastestPass 66 = .ok (.iload 4, 2) := by decide +kernel
theorem dX10_fastestPass_68 : decode cX10_fastestPass 68 = .ok (.istore_n 2, 1) := by decide +kernel
theorem dX10_fastestPass_69 : decode cX10_fastestPass 69 = .ok (.iload 5, 2) := by decide +kernel
theorem dX10_fastestPass_71 : decode cX10_fastestPass 71 = .ok (.istore_n 3, 1) := by decide +kernel
theorem dX10_fastestPass_72 : decode cX10_fastestPass 72 = .ok (.iinc 4 1, 3) := by decide +kernel
theorem dX10_fastestPass_75 : decode cX10_fastestPass 75 = .ok (.goto (-49), 3) := by decide +kernel
theorem dX10_fastestPass_78 : decode cX10_fastestPass 78 = .ok (.iload_n 2, 1) := by decide +kernel
theorem dX10_fastestPass_79 : decode cX10_fastestPass 79 = .ok (.ireturn, 1) := by decide +kernel
theorem dX10_keeps_0 : decode cX10_keeps 0 = .ok (.aload_n 0, 1) := by decide +kernel
theorem dX10_keeps_1 : decode cX10_keeps 1 = .ok (.getfield 274, 3) := by decide +kernel
theorem dX10_keeps_4 : decode cX10_keeps 4 = .ok (.bipush 8, 2) := by decide +kernel
theorem dX10_keeps_6 : decode cX10_keeps 6 = .ok (.if_icmp .ne 44, 3) := by decide +kernel
theorem dX10_keeps_9 : decode cX10_keeps 9 = .ok (.iconst 0, 1) := by decide +kernel
theorem dX10_keeps_10 : decode cX10_keeps 10 = .ok (.istore_n 1, 1) := by decide +kernel
theorem dX10_keeps_11 : decode cX10_keeps 11 = .ok (.iload_n 1, 1) := by decide +kernel
theorem dX10_keeps_12 : decode cX10_keeps 12 = .ok (.sipush 14637, 3) := by decide +kernel
theorem dX10_keeps_15 : decode cX10_keeps 15 = .ok (.if_icmp .ge 25, 3) := by decide +kernel
theorem dX10_keeps_18 : decode cX10_keeps 18 = .ok (.aload_n 0, 1) := by decide +kernel
theorem dX10_keeps_19 : decode cX10_keeps 19 = .ok (.getfield 19, 3) := by decide +kernel
theorem dX10_keeps_22 : decode cX10_keeps 22 = .ok (.iload_n 1, 1) := by decide +kernel
theorem dX10_keeps_23 : decode cX10_keeps 23 = .ok (.aload_n 0, 1) := by decide +kernel
theorem dX10_keeps_24 : decode cX10_keeps 24 = .ok (.getfield 19, 3) := by decide +kernel
theorem dX10_keeps_27 : decode cX10_keeps 27 = .ok (.iload_n 1, 1) := by decide +kernel
theorem dX10_keeps_28 : decode cX10_keeps 28 = .ok (.sipush 2091, 3) := by decide +kernel
theorem dX10_keeps_31 : decode cX10_keeps 31 = .ok (.iadd, 1) := by decide +kernel
theorem dX10_keeps_32 : decode cX10_keeps 32 = .ok (.iaload, 1) := by decide +kernel
theorem dX10_keeps_33 : decode cX10_keeps 33 = .ok (.iastore, 1) := by decide +kernel
theorem dX10_keeps_34 : decode cX10_keeps 34 = .ok (.iinc 1 1, 3) := by decide +kernel
theorem dX10_keeps_37 : decode cX10_keeps 37 = .ok (.goto (-26), 3) := by decide +kernel
theorem dX10_keeps_40 : decode cX10_keeps 40 = .ok (.aload_n 0, 1) := by decide +kernel
theorem dX10_keeps_41 : decode cX10_keeps 41 = .ok (.dup, 1) := by decide +kernel
theorem dX10_keeps_42 : decode cX10_keeps 42 = .ok (.getfield 274, 3) := by decide +kernel
theorem dX10_keeps_45 : decode cX10_keeps 45 = .ok (.iconst 1, 1) := by decide +kernel
theorem dX10_keeps_46 : decode cX10_keeps 46 = .ok (.isub, 1) := by decide +kernel
theorem dX10_keeps_47 : decode cX10_keeps 47 = .ok (.putfield 274, 3) := by decide +kernel
theorem dX10_keeps_50 : decode cX10_keeps 50 = .ok (.iconst 0, 1) := by decide +kernel
theorem dX10_keeps_51 : decode cX10_keeps 51 = .ok (.istore_n 1, 1) := by decide +kernel
theorem dX10_keeps_52 : decode cX10_keeps 52 = .ok (.iload_n 1, 1) := by decide +kernel
theorem dX10_keeps_53 : decode cX10_keeps 53 = .ok (.sipush 2091, 3) := by decide +kernel
theorem dX10_keeps_56 : decode cX10_keeps 56 = .ok (.if_icmp .ge 30, 3) := by decide +kernel
theorem dX10_keeps_59 : decode cX10_keeps 59 = .ok (.aload_n 0, 1) := by decide +kernel
theorem dX10_keeps_60 : decode cX10_keeps 60 = .ok (.getfield 19, 3) := by decide +kernel
theorem dX10_keeps_63 : decode cX10_keeps 63 = .ok (.sipush 2091, 3) := by decide +kernel
theorem dX10_keeps_66 : decode cX10_keeps 66 = .ok (.aload_n 0, 1) := by decide +kernel
theorem dX10_keeps_67 : decode cX10_keeps 67 = .ok (.getfield 274, 3) := by decide +kernel
theorem dX10_keeps_70 : decode cX10_keeps 70 = .ok (.imul, 1) := by decide +kernel
theorem dX10_keeps_71 : decode cX10_keeps 71 = .ok (.iload_n 1, 1) := by decide +kernel
theorem dX10_keeps_72 : decode cX10_keeps 72 = .ok (.iadd, 1) := by decide +kernel
theorem dX10_keeps_73 : decode cX10_keeps 73 = .ok (.aload_n 0, 1) := by decide +kernel
theorem dX10_keeps_74 : decode cX10_keeps 74 = .ok (.getfield 7, 3) := by decide +kernel
theorem dX10_keeps_77 : decode cX10_keeps 77 = .ok (.iload_n 1, 1) := by decide +kernel
theorem dX10_keeps_78 : decode cX10_keeps 78 = .ok (.iaload, 1) := by decide +kernel
theorem dX10_keeps_79 : decode cX10_keeps 79 = .ok (.iastore, 1) := by decide +kernel
theorem dX10_keeps_80 : decode cX10_keeps 80 = .ok (.iinc 1 1, 3) := by decide +kernel
theorem dX10_keeps_83 : decode cX10_keeps 83 = .ok (.goto (-31), 3) := by decide +kernel
theorem dX10_keeps_86 : decode cX10_keeps 86 = .ok (.aload_n 0, 1) := by decide +kernel
theorem dX10_keeps_87 : decode cX10_keeps 87 = .ok (.dup, 1) := by decide +kernel
theorem dX10_keeps_88 : decode cX10_keeps 88 = .ok (.getfield 274, 3) := by decide +kernel
theorem dX10_keeps_91 : decode cX10_keeps 91 = .ok (.iconst 1, 1) := by decide +kernel
theorem dX10_keeps_92 : decode cX10_keeps 92 = .ok (.iadd, 1) := by decide +kernel
theorem dX10_keeps_93 : decode cX10_keeps 93 = .ok (.putfield 274, 3) := by decide +kernel
theorem dX10_keeps_96 : decode cX10_keeps 96 = .ok (.return_, 1) := by decide +kernel
theorem dX10_changes_0 : decode cX10_changes 0 = .ok (.aload_n 0, 1) := by decide +kernel
theorem dX10_changes_1 : decode cX10_changes 1 = .ok (.getfield 345, 3) := by decide +kernel
theorem dX10_changes_4 : decode cX10_changes 4 = .ok (.ifCond .ne 7, 3) := by decide +kernel
theorem dX10_changes_7 : decode cX10_changes 7 = .ok (.aload_n 0, 1) := by decide +kernel
theorem dX10_changes_8 : decode cX10_changes 8 = .ok (.invokevirtual 342, 3) := by decide +kernel
theorem dX10_changes_11 : decode cX10_changes 11 = .ok (.return_, 1) := by decide +kernel
theorem dX10_moving_0 : decode cX10_moving 0 = .ok (.aload_n 0, 1) := by decide +kernel
theorem dX10_moving_1 : decode cX10_moving 1 = .ok (.iload_n 1, 1) := by decide +kernel
theorem dX10_moving_2 : decode cX10_moving 2 = .ok (.invokestatic 349, 3) := by decide +kernel
theorem dX10_moving_5 : decode cX10_moving 5 = .ok (.ifCond .eq 32, 3) := by decide +kernel
theorem dX10_moving_8 : decode cX10_moving 8 = .ok (.aload_n 0, 1) := by decide +kernel
theorem dX10_moving_9 : decode cX10_moving 9 = .ok (.iload_n 2, 1) := by decide +kernel
theorem dX10_moving_10 : decode cX10_moving 10 = .ok (.invokevirtual 352, 3) := by decide +kernel
theorem dX10_moving_13 : decode cX10_moving 13 = .ok (.ifCond .eq 24, 3) := by decide +kernel
theorem dX10_moving_16 : decode cX10_moving 16 = .ok (.aload_n 0, 1) := by decide +kernel
theorem dX10_moving_17 : decode cX10_moving 17 = .ok (.iload_n 3, 1) := by decide +kernel
theorem dX10_moving_18 : decode cX10_moving 18 = .ok (.invokevirtual 352, 3) := by decide +kernel
theorem dX10_moving_21 : decode cX10_moving 21 = .ok (.ifCond .eq 16, 3) := by decide +kernel
theorem dX10_moving_24 : decode cX10_moving 24 = .ok (.aload_n 0, 1) := by decide +kernel
theorem dX10_moving_25 : decode cX10_moving 25 = .ok (.iload 4, 2) := by decide +kernel
theorem dX10_moving_27 : decode cX10_moving 27 = .ok (.invokevirtual 370, 3) := by decide +kernel
theorem dX10_moving_30 : decode cX10_moving 30 = .ok (.ifCond .eq 7, 3) := by decide +kernel
theorem dX10_moving_33 : decode cX10_moving 33 = .ok (.iconst 1, 1) := by decide +kernel
theorem dX10_moving_34 : decode cX10_moving 34 = .ok (.goto 4, 3) := by decide +kernel
theorem dX10_moving_37 : decode cX10_moving 37 = .ok (.iconst 0, 1) := by decide +kernel
theorem dX10_moving_38 : decode cX10_moving 38 = .ok (.iconst 1, 1) := by decide +kernel
theorem dX10_moving_39 : decode cX10_moving 39 = .ok (.invokevirtual 197, 3) := by decide +kernel
theorem dX10_moving_42 : decode cX10_moving 42 = .ok (.ifCond .eq 51, 3) := by decide +kernel
theorem dX10_moving_45 : decode cX10_moving 45 = .ok (.aload_n 0, 1) := by decide +kernel
theorem dX10_moving_46 : decode cX10_moving 46 = .ok (.aload_n 0, 1) := by decide +kernel
theorem dX10_moving_47 : decode cX10_moving 47 = .ok (.iload_n 1, 1) := by decide +kernel
theorem dX10_moving_48 : decode cX10_moving 48 = .ok (.invokevirtual 355, 3) := by decide +kernel
theorem dX10_moving_51 : decode cX10_moving 51 = .ok (.ifCond .eq 18, 3) := by decide +kernel
theorem dX10_moving_54 : decode cX10_moving 54 = .ok (.aload_n 0, 1) := by decide +kernel
theorem dX10_moving_55 : decode cX10_moving 55 = .ok (.getfield 7, 3) := by decide +kernel
theorem dX10_moving_58 : decode cX10_moving 58 = .ok (.iconst 4, 1) := by decide +kernel
theorem dX10_moving_59 : decode cX10_moving 59 = .ok (.iaload, 1) := by decide +kernel
theorem dX10_moving_60 : decode cX10_moving 60 = .ok (.bipush 80, 2) := by decide +kernel
theorem dX10_moving_62 : decode cX10_moving 62 = .ok (.if_icmp .ge 7, 3) := by decide +kernel
theorem dX10_moving_65 : decode cX10_moving 65 = .ok (.iconst 1, 1) := by decide +kernel
theorem dX10_moving_66 : decode cX10_moving 66 = .ok (.goto 4, 3) := by decide +kernel
theorem dX10_moving_69 : decode cX10_moving 69 = .ok (.iconst 0, 1) := by decide +kernel
theorem dX10_moving_70 : decode cX10_moving 70 = .ok (.iconst 2, 1) := by decide +kernel
theorem dX10_moving_71 : decode cX10_moving 71 = .ok (.invokevirtual 197, 3) := by decide +kernel
theorem dX10_moving_74 : decode cX10_moving 74 = .ok (.ifCond .eq 19, 3) := by decide +kernel
theorem dX10_moving_77 : decode cX10_moving 77 = .ok (.aload_n 0, 1) := by decide +kernel
theorem dX10_moving_78 : decode cX10_moving 78 = .ok (.aload_n 0, 1) := by decide +kernel
theorem dX10_moving_79 : decode cX10_moving 79 = .ok (.iload_n 1, 1) := by decide +kernel
theorem dX10_moving_80 : decode cX10_moving 80 = .ok (.iload_n 1, 1) := by decide +kernel
theorem dX10_moving_81 : decode cX10_moving 81 = .ok (.iload_n 2, 1) := by decide +kernel
theorem dX10_moving_82 : decode cX10_moving 82 = .ok (.iload_n 3, 1) := by decide +kernel
theorem dX10_moving_83 : decode cX10_moving 83 = .ok (.invokevirtual 358, 3) := by decide +kernel
theorem dX10_moving_86 : decode cX10_moving 86 = .ok (.iconst 3, 1) := by decide +kernel
theorem dX10_moving_87 : decode cX10_moving 87 = .ok (.invokevirtual 197, 3) := by decide +kernel
theorem dX10_moving_90 : decode cX10_moving 90 = .ok (.ifCond .ne 5, 3) := by decide +kernel
theorem dX10_moving_93 : decode cX10_moving 93 = .ok (.iconst 0, 1) := by decide +kernel
theorem dX10_moving_94 : decode cX10_moving 94 = .ok (.ireturn, 1) := by decide +kernel
theorem dX10_moving_95 : decode cX10_moving 95 = .ok (.aload_n 0, 1) := by decide +kernel
theorem dX10_moving_96 : decode cX10_moving 96 = .ok (.invokevirtual 401, 3) := by decide +kernel
theorem dX10_moving_99 : decode cX10_moving 99 = .ok (.aload_n 0, 1) := by decide +kernel
theorem dX10_moving_100 : decode cX10_moving 100 = .ok (.iload_n 1, 1) := by decide +kernel
theorem dX10_moving_101 : decode cX10_moving 101 = .ok (.invokevirtual 104, 3) := by decide +kernel
theorem dX10_moving_104 : decode cX10_moving 104 = .ok (.istore 5, 2) := by decide +kernel
theorem dX10_moving_106 : decode cX10_moving 106 = .ok (.aload_n 0, 1) := by decide +kernel
theorem dX10_moving_107 : decode cX10_moving 107 = .ok (.iload_n 1, 1) := by decide +kernel
theorem dX10_moving_108 : decode cX10_moving 108 = .ok (.iload_n 2, 1) := by decide +kernel
theorem dX10_moving_109 : decode cX10_moving 109 = .ok (.iload_n 3, 1) := by decide +kernel
theorem dX10_moving_110 : decode cX10_moving 110 = .ok (.invokevirtual 148, 3) := by decide +kernel
theorem dX10_moving_113 : decode cX10_moving 113 = .ok (.aload_n 0, 1) := by decide +kernel
theorem dX10_moving_114 : decode cX10_moving 114 = .ok (.iload_n 1, 1) := by decide +kernel
theorem dX10_moving_115 : decode cX10_moving 115 = .ok (.iload 4, 2) := by decide +kernel
theorem dX10_moving_117 : decode cX10_moving 117 = .ok (.iconst 0, 1) := by decide +kernel
theorem dX10_moving_118 : decode cX10_moving 118 = .ok (.iload 5, 2) := by decide +kernel
theorem dX10_moving_120 : decode cX10_moving 120 = .ok (.iload_n 2, 1) := by decide +kernel
theorem dX10_moving_121 : decode cX10_moving 121 = .ok (.iload_n 3, 1) := by decide +kernel
theorem dX10_moving_122 : decode cX10_moving 122 = .ok (.invokevirtual 394, 3) := by decide +kernel
theorem dX10_moving_125 : decode cX10_moving 125 = .ok (.istore 6, 2) := by decide +kernel
theorem dX10_moving_127 : decode cX10_moving 127 = .ok (.aload_n 0, 1) := by decide +kernel
theorem dX10_moving_128 : decode cX10_moving 128 = .ok (.iload_n 1, 1) := by decide +kernel
theorem dX10_moving_129 : decode cX10_moving 129 = .ok (.invokevirtual 166, 3) := by decide +kernel
theorem dX10_moving_132 : decode cX10_moving 132 = .ok (.iload 5, 2) := by decide +kernel
theorem dX10_moving_134 : decode cX10_moving 134 = .ok (.ireturn, 1) := by decide +kernel
theorem dX10_move_0 : decode cX10_move 0 = .ok (.aload_n 0, 1) := by decide +kernel
theorem dX10_move_1 : decode cX10_move 1 = .ok (.iconst 0, 1) := by decide +kernel
theorem dX10_move_2 : decode cX10_move 2 = .ok (.putfield 80, 3) := by decide +kernel
theorem dX10_move_5 : decode cX10_move 5 = .ok (.aload_n 0, 1) := by decide +kernel
theorem dX10_move_6 : decode cX10_move 6 = .ok (.iload_n 1, 1) := by decide +kernel
theorem dX10_move_7 : decode cX10_move 7 = .ok (.iload_n 2, 1) := by decide +kernel
theorem dX10_move_8 : decode cX10_move 8 = .ok (.iload_n 3, 1) := by decide +kernel
theorem dX10_move_9 : decode cX10_move 9 = .ok (.iload 4, 2) := by decide +kernel
theorem dX10_move_11 : decode cX10_move 11 = .ok (.invokevirtual 313, 3) := by decide +kernel
theorem dX10_move_14 : decode cX10_move 14 = .ok (.ireturn, 1) := by decide +kernel
theorem dX10_areMoves_0 : decode cX10_areMoves 0 = .ok (.aload_n 0, 1) := by decide +kernel
theorem dX10_areMoves_1 : decode cX10_areMoves 1 = .ok (.iload_n 1, 1) := by decide +kernel
theorem dX10_areMoves_2 : decode cX10_areMoves 2 = .ok (.iconst 1, 1) := by decide +kernel
theorem dX10_areMoves_3 : decode cX10_areMoves 3 = .ok (.iload_n 1, 1) := by decide +kernel
theorem dX10_areMoves_4 : decode cX10_areMoves 4 = .ok (.isub, 1) := by decide +kernel
theorem dX10_areMoves_5 : decode cX10_areMoves 5 = .ok (.iload_n 2, 1) := by decide +kernel
theorem dX10_areMoves_6 : decode cX10_areMoves 6 = .ok (.iload_n 3, 1) := by decide +kernel
theorem dX10_areMoves_7 : decode cX10_areMoves 7 = .ok (.invokevirtual 358, 3) := by decide +kernel
theorem dX10_areMoves_10 : decode cX10_areMoves 10 = .ok (.ifCond .eq 17, 3) := by decide +kernel
theorem dX10_areMoves_13 : decode cX10_areMoves 13 = .ok (.aload_n 0, 1) := by decide +kernel
theorem dX10_areMoves_14 : decode cX10_areMoves 14 = .ok (.iload_n 1, 1) := by decide +kernel
theorem dX10_areMoves_15 : decode cX10_areMoves 15 = .ok (.invokevirtual 104, 3) := by decide +kernel
theorem dX10_areMoves_18 : decode cX10_areMoves 18 = .ok (.aload_n 0, 1) := by decide +kernel
theorem dX10_areMoves_19 : decode cX10_areMoves 19 = .ok (.getfield 7, 3) := by decide +kernel
theorem dX10_areMoves_22 : decode cX10_areMoves 22 = .ok (.iconst 1, 1) := by decide +kernel
theorem dX10_areMoves_23 : decode cX10_areMoves 23 = .ok (.iaload, 1) := by decide +kernel
theorem dX10_areMoves_24 : decode cX10_areMoves 24 = .ok (.if_icmp .ne 5, 3) := by decide +kernel
theorem dX10_areMoves_27 : decode cX10_areMoves 27 = .ok (.iconst 0, 1) := by decide +kernel
theorem dX10_areMoves_28 : decode cX10_areMoves 28 = .ok (.ireturn, 1) := by decide +kernel
theorem dX10_areMoves_29 : decode cX10_areMoves 29 = .ok (.aload_n 0, 1) := by decide +kernel
theorem dX10_areMoves_30 : decode cX10_areMoves 30 = .ok (.aload_n 0, 1) := by decide +kernel
theorem dX10_areMoves_31 : decode cX10_areMoves 31 = .ok (.iload_n 1, 1) := by decide +kernel
theorem dX10_areMoves_32 : decode cX10_areMoves 32 = .ok (.iload_n 2, 1) := by decide +kernel
theorem dX10_areMoves_33 : decode cX10_areMoves 33 = .ok (.invokevirtual 90, 3) := by decide +kernel
theorem dX10_areMoves_36 : decode cX10_areMoves 36 = .ok (.putfield 404, 3) := by decide +kernel
theorem dX10_areMoves_39 : decode cX10_areMoves 39 = .ok (.aload_n 0, 1) := by decide +kernel
theorem dX10_areMoves_40 : decode cX10_areMoves 40 = .ok (.aload_n 0, 1) := by decide +kernel
theorem dX10_areMoves_41 : decode cX10_areMoves 41 = .ok (.iload_n 1, 1) := by decide +kernel
theorem dX10_areMoves_42 : decode cX10_areMoves 42 = .ok (.iload_n 3, 1) := by decide +kernel
theorem dX10_areMoves_43 : decode cX10_areMoves 43 = .ok (.invokevirtual 90, 3) := by decide +kernel
theorem dX10_areMoves_46 : decode cX10_areMoves 46 = .ok (.putfield 407, 3) := by decide +kernel
theorem dX10_areMoves_49 : decode cX10_areMoves 49 = .ok (.aload_n 0, 1) := by decide +kernel
theorem dX10_areMoves_50 : decode cX10_areMoves 50 = .ok (.iload_n 1, 1) := by decide +kernel
theorem dX10_areMoves_51 : decode cX10_areMoves 51 = .ok (.iload_n 3, 1) := by decide +kernel
theorem dX10_areMoves_52 : decode cX10_areMoves 52 = .ok (.aload_n 0, 1) := by decide +kernel
theorem dX10_areMoves_53 : decode cX10_areMoves 53 = .ok (.getfield 404, 3) := by decide +kernel
theorem dX10_areMoves_56 : decode cX10_areMoves 56 = .ok (.invokevirtual 120, 3) := by decide +kernel
theorem dX10_areMoves_59 : decode cX10_areMoves 59 = .ok (.aload_n 0, 1) := by decide +kernel
theorem dX10_areMoves_60 : decode cX10_areMoves 60 = .ok (.iload_n 1, 1) := by decide +kernel
theorem dX10_areMoves_61 : decode cX10_areMoves 61 = .ok (.iload_n 2, 1) := by decide +kernel
theorem dX10_areMoves_62 : decode cX10_areMoves 62 = .ok (.iconst (-1), 1) := by decide +kernel
theorem dX10_areMoves_63 : decode cX10_areMoves 63 = .ok (.invokevirtual 120, 3) := by decide +kernel
theorem dX10_areMoves_66 : decode cX10_areMoves 66 = .ok (.aload_n 0, 1) := by decide +kernel
theorem dX10_areMoves_67 : decode cX10_areMoves 67 = .ok (.iload_n 1, 1) := by decide +kernel
theorem dX10_areMoves_68 : decode cX10_areMoves 68 = .ok (.iload_n 1, 1) := by decide +kernel
theorem dX10_areMoves_69 : decode cX10_areMoves 69 = .ok (.invokevirtual 94, 3) := by decide +kernel
theorem dX10_areMoves_72 : decode cX10_areMoves 72 = .ok (.ifCond .le 20, 3) := by decide +kernel
theorem dX10_areMoves_75 : decode cX10_areMoves 75 = .ok (.aload_n 0, 1) := by decide +kernel
theorem dX10_areMoves_76 : decode cX10_areMoves 76 = .ok (.iload_n 1, 1) := by decide +kernel
theorem dX10_areMoves_77 : decode cX10_areMoves 77 = .ok (.iload_n 1, 1) := by decide +kernel
theorem dX10_areMoves_78 : decode cX10_areMoves 78 = .ok (.iload 4, 2) := by decide +kernel
theorem dX10_areMoves_80 : decode cX10_areMoves 80 = .ok (.iload 5, 2) := by decide +kernel
theorem dX10_areMoves_82 : decode cX10_areMoves 82 = .ok (.invokevirtual 358, 3) := by decide +kernel
theorem dX10_areMoves_85 : decode cX10_areMoves 85 = .ok (.ifCond .eq 7, 3) := by decide +kernel
theorem dX10_areMoves_88 : decode cX10_areMoves 88 = .ok (.iconst 1, 1) := by decide +kernel
theorem dX10_areMoves_89 : decode cX10_areMoves 89 = .ok (.goto 4, 3) := by decide +kernel
theorem dX10_areMoves_92 : decode cX10_areMoves 92 = .ok (.iconst 0, 1) := by decide +kernel
theorem dX10_areMoves_93 : decode cX10_areMoves 93 = .ok (.istore 6, 2) := by decide +kernel
theorem dX10_areMoves_95 : decode cX10_areMoves 95 = .ok (.aload_n 0, 1) := by decide +kernel
theorem dX10_areMoves_96 : decode cX10_areMoves 96 = .ok (.iload_n 1, 1) := by decide +kernel
theorem dX10_areMoves_97 : decode cX10_areMoves 97 = .ok (.iload_n 2, 1) := by decide +kernel
theorem dX10_areMoves_98 : decode cX10_areMoves 98 = .ok (.aload_n 0, 1) := by decide +kernel
theorem dX10_areMoves_99 : decode cX10_areMoves 99 = .ok (.getfield 404, 3) := by decide +kernel
theorem dX10_areMoves_102 : decode cX10_areMoves 102 = .ok (.invokevirtual 120, 3) := by decide +kernel
theorem dX10_areMoves_105 : decode cX10_areMoves 105 = .ok (.aload_n 0, 1) := by decide +kernel
theorem dX10_areMoves_106 : decode cX10_areMoves 106 = .ok (.iload_n 1, 1) := by decide +kernel
theorem dX10_areMoves_107 : decode cX10_areMoves 107 = .ok (.iload_n 3, 1) := by decide +kernel
theorem dX10_areMoves_108 : decode cX10_areMoves 108 = .ok (.aload_n 0, 1) := by decide +kernel
theorem dX10_areMoves_109 : decode cX10_areMoves 109 = .ok (.getfield 407, 3) := by decide +kernel
theorem dX10_areMoves_112 : decode cX10_areMoves 112 = .ok (.invokevirtual 120, 3) := by decide +kernel
theorem dX10_areMoves_115 : decode cX10_areMoves 115 = .ok (.iload 6, 2) := by decide +kernel
theorem dX10_areMoves_117 : decode cX10_areMoves 117 = .ok (.ireturn, 1) := by decide +kernel
theorem dX10_promising_0 : decode cX10_promising 0 = .ok (.aload_n 0, 1) := by decide +kernel
theorem dX10_promising_1 : decode cX10_promising 1 = .ok (.iload_n 1, 1) := by decide +kernel
theorem dX10_promising_2 : decode cX10_promising 2 = .ok (.invokestatic 349, 3) := by decide +kernel
theorem dX10_promising_5 : decode cX10_promising 5 = .ok (.ifCond .eq 50, 3) := by decide +kernel
theorem dX10_promising_8 : decode cX10_promising 8 = .ok (.aload_n 0, 1) := by decide +kernel
theorem dX10_promising_9 : decode cX10_promising 9 = .ok (.iload_n 2, 1) := by decide +kernel
theorem dX10_promising_10 : decode cX10_promising 10 = .ok (.invokevirtual 370, 3) := by decide +kernel
theorem dX10_promising_13 : decode cX10_promising 13 = .ok (.ifCond .eq 42, 3) := by decide +kernel
theorem dX10_promising_16 : decode cX10_promising 16 = .ok (.aload_n 0, 1) := by decide +kernel
theorem dX10_promising_17 : decode cX10_promising 17 = .ok (.iload_n 3, 1) := by decide +kernel
theorem dX10_promising_18 : decode cX10_promising 18 = .ok (.invokevirtual 352, 3) := by decide +kernel
theorem dX10_promising_21 : decode cX10_promising 21 = .ok (.ifCond .eq 34, 3) := by decide +kernel
theorem dX10_promising_24 : decode cX10_promising 24 = .ok (.aload_n 0, 1) := by decide +kernel
theorem dX10_promising_25 : decode cX10_promising 25 = .ok (.iload 4, 2) := by decide +kernel
theorem dX10_promising_27 : decode cX10_promising 27 = .ok (.invokevirtual 352, 3) := by decide +kernel
theorem dX10_promising_30 : decode cX10_promising 30 = .ok (.ifCond .eq 25, 3) := by decide +kernel
theorem dX10_promising_33 : decode cX10_promising 33 = .ok (.aload_n 0, 1) := by decide +kernel
theorem dX10_promising_34 : decode cX10_promising 34 = .ok (.iload 5, 2) := by decide +kernel
theorem dX10_promising_36 : decode cX10_promising 36 = .ok (.invokevirtual 352, 3) := by decide +kernel
theorem dX10_promising_39 : decode cX10_promising 39 = .ok (.ifCond .eq 16, 3) := by decide +kernel
theorem dX10_promising_42 : decode cX10_promising 42 = .ok (.aload_n 0, 1) := by decide +kernel
theorem dX10_promising_43 : decode cX10_promising 43 = .ok (.iload 6, 2) := by decide +kernel
theorem dX10_promising_45 : decode cX10_promising 45 = .ok (.invokevirtual 352, 3) := by decide +kernel
theorem dX10_promising_48 : decode cX10_promising 48 = .ok (.ifCond .eq 7, 3) := by decide +kernel
theorem dX10_promising_51 : decode cX10_promising 51 = .ok (.iconst 1, 1) := by decide +kernel
theorem dX10_promising_52 : decode cX10_promising 52 = .ok (.goto 4, 3) := by decide +kernel
theorem dX10_promising_55 : decode cX10_promising 55 = .ok (.iconst 0, 1) := by decide +kernel
theorem dX10_promising_56 : decode cX10_promising 56 = .ok (.iconst 1, 1) := by decide +kernel
theorem dX10_promising_57 : decode cX10_promising 57 = .ok (.invokevirtual 197, 3) := by decide +kernel
theorem dX10_promising_60 : decode cX10_promising 60 = .ok (.ifCond .ne 5, 3) := by decide +kernel
theorem dX10_promising_63 : decode cX10_promising 63 = .ok (.iconst 0, 1) := by decide +kernel
theorem dX10_promising_64 : decode cX10_promising 64 = .ok (.ireturn, 1) := by decide +kernel
theorem dX10_promising_65 : decode cX10_promising 65 = .ok (.aload_n 0, 1) := by decide +kernel
theorem dX10_promising_66 : decode cX10_promising 66 = .ok (.iload_n 1, 1) := by decide +kernel
theorem dX10_promising_67 : decode cX10_promising 67 = .ok (.invokevirtual 104, 3) := by decide +kernel
theorem dX10_promising_70 : decode cX10_promising 70 = .ok (.iconst 1, 1) := by decide +kernel
theorem dX10_promising_71 : decode cX10_promising 71 = .ok (.iadd, 1) := by decide +kernel
theorem dX10_promising_72 : decode cX10_promising 72 = .ok (.istore 7, 2) := by decide +kernel
theorem dX10_promising_74 : decode cX10_promising 74 = .ok (.aload_n 0, 1) := by decide +kernel
theorem dX10_promising_75 : decode cX10_promising 75 = .ok (.iload_n 1, 1) := by decide +kernel
theorem dX10_promising_76 : decode cX10_promising 76 = .ok (.invokevirtual 100, 3) := by decide +kernel
theorem dX10_promising_79 : decode cX10_promising 79 = .ok (.ifCond .ne 15, 3) := by decide +kernel
theorem dX10_promising_82 : decode cX10_promising 82 = .ok (.aload_n 0, 1) := by decide +kernel
theorem dX10_promising_83 : decode cX10_promising 83 = .ok (.iload_n 1, 1) := by decide +kernel
theorem dX10_promising_84 : decode cX10_promising 84 = .ok (.invokevirtual 355, 3) := by decide +kernel
theorem dX10_promising_87 : decode cX10_promising 87 = .ok (.ifCond .ne 7, 3) := by decide +kernel
theorem dX10_promising_90 : decode cX10_promising 90 = .ok (.iconst 1, 1) := by decide +kernel
theorem dX10_promising_91 : decode cX10_promising 91 = .ok (.goto 4, 3) := by decide +kernel
theorem dX10_promising_94 : decode cX10_promising 94 = .ok (.iconst 0, 1) := by decide +kernel
theorem dX10_promising_95 : decode cX10_promising 95 = .ok (.istore 8, 2) := by decide +kernel
theorem dX10_promising_97 : decode cX10_promising 97 = .ok (.aload_n 0, 1) := by decide +kernel
theorem dX10_promising_98 : decode cX10_promising 98 = .ok (.iload 8, 2) := by decide +kernel
theorem dX10_promising_100 : decode cX10_promising 100 = .ok (.ifCond .eq 28, 3) := by decide +kernel
theorem dX10_promising_103 : decode cX10_promising 103 = .ok (.aload_n 0, 1) := by decide +kernel
theorem dX10_promising_104 : decode cX10_promising 104 = .ok (.iload 7, 2) := by decide +kernel
theorem dX10_promising_106 : decode cX10_promising 106 = .ok (.iconst 4, 1) := by decide +kernel
theorem dX10_promising_107 : decode cX10_promising 107 = .ok (.invokevirtual 130, 3) := by decide +kernel
theorem dX10_promising_110 : decode cX10_promising 110 = .ok (.ifCond .ne 18, 3) := by decide +kernel
theorem dX10_promising_113 : decode cX10_promising 113 = .ok (.aload_n 0, 1) := by decide +kernel
theorem dX10_promising_114 : decode cX10_promising 114 = .ok (.getfield 7, 3) := by decide +kernel
theorem dX10_promising_117 : decode cX10_promising 117 = .ok (.iconst 4, 1) := by decide +kernel
theorem dX10_promising_118 : decode cX10_promising 118 = .ok (.iaload, 1) := by decide +kernel
theorem dX10_promising_119 : decode cX10_promising 119 = .ok (.bipush 80, 2) := by decide +kernel
theorem dX10_promising_121 : decode cX10_promising 121 = .ok (.if_icmp .ge 7, 3) := by decide +kernel
theorem dX10_promising_124 : decode cX10_promising 124 = .ok (.iconst 1, 1) := by decide +kernel
theorem dX10_promising_125 : decode cX10_promising 125 = .ok (.goto 4, 3) := by decide +kernel
theorem dX10_promising_128 : decode cX10_promising 128 = .ok (.iconst 0, 1) := by decide +kernel
theorem dX10_promising_129 : decode cX10_promising 129 = .ok (.iconst 2, 1) := by decide +kernel
theorem dX10_promising_130 : decode cX10_promising 130 = .ok (.invokevirtual 197, 3) := by decide +kernel
theorem dX10_promising_133 : decode cX10_promising 133 = .ok (.ifCond .eq 23, 3) := by decide +kernel
theorem dX10_promising_136 : decode cX10_promising 136 = .ok (.aload_n 0, 1) := by decide +kernel
theorem dX10_promising_137 : decode cX10_promising 137 = .ok (.aload_n 0, 1) := by decide +kernel
theorem dX10_promising_138 : decode cX10_promising 138 = .ok (.iload_n 1, 1) := by decide +kernel
theorem dX10_promising_139 : decode cX10_promising 139 = .ok (.iload_n 3, 1) := by decide +kernel
theorem dX10_promising_140 : decode cX10_promising 140 = .ok (.iload 4, 2) := by decide +kernel
theorem dX10_promising_142 : decode cX10_promising 142 = .ok (.iload 5, 2) := by decide +kernel
theorem dX10_promising_144 : decode cX10_promising 144 = .ok (.iload 6, 2) := by decide +kernel
theorem dX10_promising_146 : decode cX10_promising 146 = .ok (.invokevirtual 410, 3) := by decide +kernel
theorem dX10_promising_149 : decode cX10_promising 149 = .ok (.iconst 3, 1) := by decide +kernel
theorem dX10_promising_150 : decode cX10_promising 150 = .ok (.invokevirtual 197, 3) := by decide +kernel
theorem dX10_promising_153 : decode cX10_promising 153 = .ok (.ifCond .ne 5, 3) := by decide +kernel
theorem dX10_promising_156 : decode cX10_promising 156 = .ok (.iconst 0, 1) := by decide +kernel
theorem dX10_promising_157 : decode cX10_promising 157 = .ok (.ireturn, 1) := by decide +kernel
theorem dX10_promising_158 : decode cX10_promising 158 = .ok (.aload_n 0, 1) := by decide +kernel
theorem dX10_promising_159 : decode cX10_promising 159 = .ok (.invokevirtual 401, 3) := by decide +kernel
theorem dX10_promising_162 : decode cX10_promising 162 = .ok (.sipush 762, 3) := by decide +kernel
theorem dX10_promising_165 : decode cX10_promising 165 = .ok (.bipush 6, 2) := by decide +kernel
theorem dX10_promising_167 : decode cX10_promising 167 = .ok (.iload 7, 2) := by decide +kernel
theorem dX10_promising_169 : decode cX10_promising 169 = .ok (.imul, 1) := by decide +kernel
theorem dX10_promising_170 : decode cX10_promising 170 = .ok (.iadd, 1) := by decide +kernel
theorem dX10_promising_171 : decode cX10_promising 171 = .ok (.istore 9, 2) := by decide +kernel
theorem dX10_promising_173 : decode cX10_promising 173 = .ok (.aload_n 0, 1) := by decide +kernel
theorem dX10_promising_174 : decode cX10_promising 174 = .ok (.getfield 7, 3) := by decide +kernel
theorem dX10_promising_177 : decode cX10_promising 177 = .ok (.iload 9, 2) := by decide +kernel
theorem dX10_promising_179 : decode cX10_promising 179 = .ok (.iconst 0, 1) := by decide +kernel
theorem dX10_promising_180 : decode cX10_promising 180 = .ok (.iadd, 1) := by decide +kernel
theorem dX10_promising_181 : decode cX10_promising 181 = .ok (.iload_n 3, 1) := by decide +kernel
theorem dX10_promising_182 : decode cX10_promising 182 = .ok (.iastore, 1) := by decide +kernel
theorem dX10_promising_183 : decode cX10_promising 183 = .ok (.aload_n 0, 1) := by decide +kernel
theorem dX10_promising_184 : decode cX10_promising 184 = .ok (.getfield 7, 3) := by decide +kernel
theorem dX10_promising_187 : decode cX10_promising 187 = .ok (.iload 9, 2) := by decide +kernel
theorem dX10_promising_189 : decode cX10_promising 189 = .ok (.iconst 1, 1) := by decide +kernel
theorem dX10_promising_190 : decode cX10_promising 190 = .ok (.iadd, 1) := by decide +kernel
theorem dX10_promising_191 : decode cX10_promising 191 = .ok (.iload 4, 2) := by decide +kernel
theorem dX10_promising_193 : decode cX10_promising 193 = .ok (.iastore, 1) := by decide +kernel
theorem dX10_promising_194 : decode cX10_promising 194 = .ok (.aload_n 0, 1) := by decide +kernel
theorem dX10_promising_195 : decode cX10_promising 195 = .ok (.getfield 7, 3) := by decide +kernel
theorem dX10_promising_198 : decode cX10_promising 198 = .ok (.iload 9, 2) := by decide +kernel
theorem dX10_promising_200 : decode cX10_promising 200 = .ok (.iconst 2, 1) := by decide +kernel
theorem dX10_promising_201 : decode cX10_promising 201 = .ok (.iadd, 1) := by decide +kernel
theorem dX10_promising_202 : decode cX10_promising 202 = .ok (.iload 5, 2) := by decide +kernel
theorem dX10_promising_204 : decode cX10_promising 204 = .ok (.iastore, 1) := by decide +kernel
theorem dX10_promising_205 : decode cX10_promising 205 = .ok (.aload_n 0, 1) := by decide +kernel
theorem dX10_promising_206 : decode cX10_promising 206 = .ok (.getfield 7, 3) := by decide +kernel
theorem dX10_promising_209 : decode cX10_promising 209 = .ok (.iload 9, 2) := by decide +kernel
theorem dX10_promising_211 : decode cX10_promising 211 = .ok (.iconst 3, 1) := by decide +kernel
theorem dX10_promising_212 : decode cX10_promising 212 = .ok (.iadd, 1) := by decide +kernel
theorem dX10_promising_213 : decode cX10_promising 213 = .ok (.iload 6, 2) := by decide +kernel
theorem dX10_promising_215 : decode cX10_promising 215 = .ok (.iastore, 1) := by decide +kernel
theorem dX10_promising_216 : decode cX10_promising 216 = .ok (.aload_n 0, 1) := by decide +kernel
theorem dX10_promising_217 : decode cX10_promising 217 = .ok (.getfield 7, 3) := by decide +kernel
theorem dX10_promising_220 : decode cX10_promising 220 = .ok (.iload 9, 2) := by decide +kernel
theorem dX10_promising_222 : decode cX10_promising 222 = .ok (.iconst 4, 1) := by decide +kernel
theorem dX10_promising_223 : decode cX10_promising 223 = .ok (.iadd, 1) := by decide +kernel
theorem dX10_promising_224 : decode cX10_promising 224 = .ok (.iconst 1, 1) := by decide +kernel
theorem dX10_promising_225 : decode cX10_promising 225 = .ok (.iastore, 1) := by decide +kernel
theorem dX10_promising_226 : decode cX10_promising 226 = .ok (.aload_n 0, 1) := by decide +kernel
theorem dX10_promising_227 : decode cX10_promising 227 = .ok (.iload_n 1, 1) := by decide +kernel
theorem dX10_promising_228 : decode cX10_promising 228 = .ok (.iload_n 2, 1) := by decide +kernel
theorem dX10_promising_229 : decode cX10_promising 229 = .ok (.iconst 1, 1) := by decide +kernel
theorem dX10_promising_230 : decode cX10_promising 230 = .ok (.iload 7, 2) := by decide +kernel
theorem dX10_promising_232 : decode cX10_promising 232 = .ok (.iload 5, 2) := by decide +kernel
theorem dX10_promising_234 : decode cX10_promising 234 = .ok (.iload 6, 2) := by decide +kernel
theorem dX10_promising_236 : decode cX10_promising 236 = .ok (.invokevirtual 394, 3) := by decide +kernel
theorem dX10_promising_239 : decode cX10_promising 239 = .ok (.istore 10, 2) := by decide +kernel
theorem dX10_promising_241 : decode cX10_promising 241 = .ok (.iload 7, 2) := by decide +kernel
theorem dX10_promising_243 : decode cX10_promising 243 = .ok (.ireturn, 1) := by decide +kernel
theorem dX10_promise_0 : decode cX10_promise 0 = .ok (.aload_n 0, 1) := by decide +kernel
theorem dX10_promise_1 : decode cX10_promise 1 = .ok (.iconst 0, 1) := by decide +kernel
theorem dX10_promise_2 : decode cX10_promise 2 = .ok (.putfield 80, 3) := by decide +kernel
theorem dX10_promise_5 : decode cX10_promise 5 = .ok (.aload_n 0, 1) := by decide +kernel
theorem dX10_promise_6 : decode cX10_promise 6 = .ok (.iload_n 1, 1) := by decide +kernel
theorem dX10_promise_7 : decode cX10_promise 7 = .ok (.iload_n 2, 1) := by decide +kernel
theorem dX10_promise_8 : decode cX10_promise 8 = .ok (.iload_n 3, 1) := by decide +kernel
theorem dX10_promise_9 : decode cX10_promise 9 = .ok (.iload 4, 2) := by decide +kernel
theorem dX10_promise_11 : decode cX10_promise 11 = .ok (.iload 5, 2) := by decide +kernel
theorem dX10_promise_13 : decode cX10_promise 13 = .ok (.iload 6, 2) := by decide +kernel
theorem dX10_promise_15 : decode cX10_promise 15 = .ok (.invokevirtual 317, 3) := by decide +kernel
theorem dX10_promise_18 : decode cX10_promise 18 = .ok (.ireturn, 1) := by decide +kernel
theorem dX10_resending_0 : decode cX10_resending 0 = .ok (.aload_n 0, 1) := by decide +kernel
theorem dX10_resending_1 : decode cX10_resending 1 = .ok (.aload_n 0, 1) := by decide +kernel
theorem dX10_resending_2 : decode cX10_resending 2 = .ok (.iload_n 1, 1) := by decide +kernel
theorem dX10_resending_3 : decode cX10_resending 3 = .ok (.invokevirtual 376, 3) := by decide +kernel
theorem dX10_resending_6 : decode cX10_resending 6 = .ok (.ifCond .eq 15, 3) := by decide +kernel
theorem dX10_resending_9 : decode cX10_resending 9 = .ok (.aload_n 0, 1) := by decide +kernel
theorem dX10_resending_10 : decode cX10_resending 10 = .ok (.iload_n 2, 1) := by decide +kernel
theorem dX10_resending_11 : decode cX10_resending 11 = .ok (.invokevirtual 370, 3) := by decide +kernel
theorem dX10_resending_14 : decode cX10_resending 14 = .ok (.ifCond .eq 7, 3) := by decide +kernel
theorem dX10_resending_17 : decode cX10_resending 17 = .ok (.iconst 1, 1) := by decide +kernel
theorem dX10_resending_18 : decode cX10_resending 18 = .ok (.goto 4, 3) := by decide +kernel
theorem dX10_resending_21 : decode cX10_resending 21 = .ok (.iconst 0, 1) := by decide +kernel
theorem dX10_resending_22 : decode cX10_resending 22 = .ok (.iconst 1, 1) := by decide +kernel
theorem dX10_resending_23 : decode cX10_resending 23 = .ok (.invokevirtual 197, 3) := by decide +kernel
theorem dX10_resending_26 : decode cX10_resending 26 = .ok (.ifCond .eq 27, 3) := by decide +kernel
theorem dX10_resending_29 : decode cX10_resending 29 = .ok (.aload_n 0, 1) := by decide +kernel
theorem dX10_resending_30 : decode cX10_resending 30 = .ok (.aload_n 0, 1) := by decide +kernel
theorem dX10_resending_31 : decode cX10_resending 31 = .ok (.getfield 7, 3) := by decide +kernel
theorem dX10_resending_34 : decode cX10_resending 34 = .ok (.iconst 4, 1) := by decide +kernel
theorem dX10_resending_35 : decode cX10_resending 35 = .ok (.iaload, 1) := by decide +kernel
theorem dX10_resending_36 : decode cX10_resending 36 = .ok (.bipush 80, 2) := by decide +kernel
theorem dX10_resending_38 : decode cX10_resending 38 = .ok (.if_icmp .ge 7, 3) := by decide +kernel
theorem dX10_resending_41 : decode cX10_resending 41 = .ok (.iconst 1, 1) := by decide +kernel
theorem dX10_resending_42 : decode cX10_resending 42 = .ok (.goto 4, 3) := by decide +kernel
theorem dX10_resending_45 : decode cX10_resending 45 = .ok (.iconst 0, 1) := by decide +kernel
theorem dX10_resending_46 : decode cX10_resending 46 = .ok (.iconst 2, 1) := by decide +kernel
theorem dX10_resending_47 : decode cX10_resending 47 = .ok (.invokevirtual 197, 3) := by decide +kernel
theorem dX10_resending_50 : decode cX10_resending 50 = .ok (.ifCond .ne 5, 3) := by decide +kernel
theorem dX10_resending_53 : decode cX10_resending 53 = .ok (.iconst 0, 1) := by decide +kernel
theorem dX10_resending_54 : decode cX10_resending 54 = .ok (.ireturn, 1) := by decide +kernel
theorem dX10_resending_55 : decode cX10_resending 55 = .ok (.aload_n 0, 1) := by decide +kernel
theorem dX10_resending_56 : decode cX10_resending 56 = .ok (.invokevirtual 401, 3) := by decide +kernel
theorem dX10_resending_59 : decode cX10_resending 59 = .ok (.aload_n 0, 1) := by decide +kernel
theorem dX10_resending_60 : decode cX10_resending 60 = .ok (.aload_n 0, 1) := by decide +kernel
theorem dX10_resending_61 : decode cX10_resending 61 = .ok (.iload_n 1, 1) := by decide +kernel
theorem dX10_resending_62 : decode cX10_resending 62 = .ok (.iconst 0, 1) := by decide +kernel
theorem dX10_resending_63 : decode cX10_resending 63 = .ok (.invokevirtual 163, 3) := by decide +kernel
theorem dX10_resending_66 : decode cX10_resending 66 = .ok (.iload_n 2, 1) := by decide +kernel
theorem dX10_resending_67 : decode cX10_resending 67 = .ok (.aload_n 0, 1) := by decide +kernel
theorem dX10_resending_68 : decode cX10_resending 68 = .ok (.iload_n 1, 1) := by decide +kernel
theorem dX10_resending_69 : decode cX10_resending 69 = .ok (.iconst 2, 1) := by decide +kernel
theorem dX10_resending_70 : decode cX10_resending 70 = .ok (.invokevirtual 163, 3) := by decide +kernel
theorem dX10_resending_73 : decode cX10_resending 73 = .ok (.iconst 1, 1) := by decide +kernel
theorem dX10_resending_74 : decode cX10_resending 74 = .ok (.if_icmp .ne 7, 3) := by decide +kernel
theorem dX10_resending_77 : decode cX10_resending 77 = .ok (.iconst 1, 1) := by decide +kernel
theorem dX10_resending_78 : decode cX10_resending 78 = .ok (.goto 4, 3) := by decide +kernel
theorem dX10_resending_81 : decode cX10_resending 81 = .ok (.iconst 0, 1) := by decide +kernel
theorem dX10_resending_82 : decode cX10_resending 82 = .ok (.aload_n 0, 1) := by decide +kernel
theorem dX10_resending_83 : decode cX10_resending 83 = .ok (.iload_n 1, 1) := by decide +kernel
theorem dX10_resending_84 : decode cX10_resending 84 = .ok (.iconst 3, 1) := by decide +kernel
theorem dX10_resending_85 : decode cX10_resending 85 = .ok (.invokevirtual 163, 3) := by decide +kernel
theorem dX10_resending_88 : decode cX10_resending 88 = .ok (.aload_n 0, 1) := by decide +kernel
theorem dX10_resending_89 : decode cX10_resending 89 = .ok (.iload_n 1, 1) := by decide +kernel
theorem dX10_resending_90 : decode cX10_resending 90 = .ok (.iconst 4, 1) := by decide +kernel
theorem dX10_resending_91 : decode cX10_resending 91 = .ok (.invokevirtual 163, 3) := by decide +kernel
theorem dX10_resending_94 : decode cX10_resending 94 = .ok (.aload_n 0, 1) := by decide +kernel
theorem dX10_resending_95 : decode cX10_resending 95 = .ok (.iload_n 1, 1) := by decide +kernel
theorem dX10_resending_96 : decode cX10_resending 96 = .ok (.iconst 5, 1) := by decide +kernel
theorem dX10_resending_97 : decode cX10_resending 97 = .ok (.invokevirtual 163, 3) := by decide +kernel
theorem dX10_resending_100 : decode cX10_resending 100 = .ok (.invokevirtual 394, 3) := by decide +kernel
theorem dX10_resending_103 : decode cX10_resending 103 = .ok (.ireturn, 1) := by decide +kernel
theorem dX10_resend_0 : decode cX10_resend 0 = .ok (.aload_n 0, 1) := by decide +kernel
theorem dX10_resend_1 : decode cX10_resend 1 = .ok (.iconst 0, 1) := by decide +kernel
theorem dX10_resend_2 : decode cX10_resend 2 = .ok (.putfield 80, 3) := by decide +kernel
theorem dX10_resend_5 : decode cX10_resend 5 = .ok (.aload_n 0, 1) := by decide +kernel
theorem dX10_resend_6 : decode cX10_resend 6 = .ok (.iload_n 1, 1) := by decide +kernel
theorem dX10_resend_7 : decode cX10_resend 7 = .ok (.iload_n 2, 1) := by decide +kernel
theorem dX10_resend_8 : decode cX10_resend 8 = .ok (.invokevirtual 321, 3) := by decide +kernel
theorem dX10_resend_11 : decode cX10_resend 11 = .ok (.ireturn, 1) := by decide +kernel
theorem dX10_advancing_0 : decode cX10_advancing 0 = .ok (.aload_n 0, 1) := by decide +kernel
theorem dX10_advancing_1 : decode cX10_advancing 1 = .ok (.iload_n 1, 1) := by decide +kernel
theorem dX10_advancing_2 : decode cX10_advancing 2 = .ok (.iconst 1, 1) := by decide +kernel
theorem dX10_advancing_3 : decode cX10_advancing 3 = .ok (.bipush 60, 2) := by decide +kernel
theorem dX10_advancing_5 : decode cX10_advancing 5 = .ok (.invokestatic 83, 3) := by decide +kernel
theorem dX10_advancing_8 : decode cX10_advancing 8 = .ok (.iconst 1, 1) := by decide +kernel
theorem dX10_advancing_9 : decode cX10_advancing 9 = .ok (.invokevirtual 197, 3) := by decide +kernel
theorem dX10_advancing_12 : decode cX10_advancing 12 = .ok (.ifCond .eq 30, 3) := by decide +kernel
theorem dX10_advancing_15 : decode cX10_advancing 15 = .ok (.aload_n 0, 1) := by decide +kernel
theorem dX10_advancing_16 : decode cX10_advancing 16 = .ok (.aload_n 0, 1) := by decide +kernel
theorem dX10_advancing_17 : decode cX10_advancing 17 = .ok (.getfield 7, 3) := by decide +kernel
theorem dX10_advancing_20 : decode cX10_advancing 20 = .ok (.iconst 2, 1) := by decide +kernel
theorem dX10_advancing_21 : decode cX10_advancing 21 = .ok (.iaload, 1) := by decide +kernel
theorem dX10_advancing_22 : decode cX10_advancing 22 = .ok (.iload_n 1, 1) := by decide +kernel
theorem dX10_advancing_23 : decode cX10_advancing 23 = .ok (.iadd, 1) := by decide +kernel
theorem dX10_advancing_24 : decode cX10_advancing 24 = .ok (.sipush 9999, 3) := by decide +kernel
theorem dX10_advancing_27 : decode cX10_advancing 27 = .ok (.if_icmp .gt 7, 3) := by decide +kernel
theorem dX10_advancing_30 : decode cX10_advancing 30 = .ok (.iconst 1, 1) := by decide +kernel
theorem dX10_advancing_31 : decode cX10_advancing 31 = .ok (.goto 4, 3) := by decide +kernel
theorem dX10_advancing_34 : decode cX10_advancing 34 = .ok (.iconst 0, 1) := by decide +kernel
theorem dX10_advancing_35 : decode cX10_advancing 35 = .ok (.iconst 2, 1) := by decide +kernel
theorem dX10_advancing_36 : decode cX10_advancing 36 = .ok (.invokevirtual 197, 3) := by decide +kernel
theorem dX10_advancing_39 : decode cX10_advancing 39 = .ok (.ifCond .ne 5, 3) := by decide +kernel
theorem dX10_advancing_42 : decode cX10_advancing 42 = .ok (.iconst 0, 1) := by decide +kernel
theorem dX10_advancing_43 : decode cX10_advancing 43 = .ok (.ireturn, 1) := by decide +kernel
theorem dX10_advancing_44 : decode cX10_advancing 44 = .ok (.aload_n 0, 1) := by decide +kernel
theorem dX10_advancing_45 : decode cX10_advancing 45 = .ok (.invokevirtual 401, 3) := by decide +kernel
theorem dX10_advancing_48 : decode cX10_advancing 48 = .ok (.aload_n 0, 1) := by decide +kernel
theorem dX10_advancing_49 : decode cX10_advancing 49 = .ok (.getfield 7, 3) := by decide +kernel
theorem dX10_advancing_52 : decode cX10_advancing 52 = .ok (.bipush 8, 2) := by decide +kernel
theorem dX10_advancing_54 : decode cX10_advancing 54 = .ok (.iaload, 1) := by decide +kernel
theorem dX10_advancing_55 : decode cX10_advancing 55 = .ok (.istore_n 2, 1) := by decide +kernel
theorem dX10_advancing_56 : decode cX10_advancing 56 = .ok (.iconst 0, 1) := by decide +kernel
theorem dX10_advancing_57 : decode cX10_advancing 57 = .ok (.istore_n 3, 1) := by decide +kernel
theorem dX10_advancing_58 : decode cX10_advancing 58 = .ok (.iload_n 3, 1) := by decide +kernel
theorem dX10_advancing_59 : decode cX10_advancing 59 = .ok (.iload_n 1, 1) := by decide +kernel
theorem dX10_advancing_60 : decode cX10_advancing 60 = .ok (.if_icmp .ge 13, 3) := by decide +kernel
theorem dX10_advancing_63 : decode cX10_advancing 63 = .ok (.aload_n 0, 1) := by decide +kernel
theorem dX10_advancing_64 : decode cX10_advancing 64 = .ok (.invokevirtual 382, 3) := by decide +kernel
theorem dX10_advancing_67 : decode cX10_advancing 67 = .ok (.iinc 3 1, 3) := by decide +kernel
theorem dX10_advancing_70 : decode cX10_advancing 70 = .ok (.goto (-12), 3) := by decide +kernel
theorem dX10_advancing_73 : decode cX10_advancing 73 = .ok (.aload_n 0, 1) := by decide +kernel
theorem dX10_advancing_74 : decode cX10_advancing 74 = .ok (.getfield 7, 3) := by decide +kernel
theorem dX10_advancing_77 : decode cX10_advancing 77 = .ok (.bipush 8, 2) := by decide +kernel
theorem dX10_advancing_79 : decode cX10_advancing 79 = .ok (.iaload, 1) := by decide +kernel
theorem dX10_advancing_80 : decode cX10_advancing 80 = .ok (.iload_n 2, 1) := by decide +kernel
theorem dX10_advancing_81 : decode cX10_advancing 81 = .ok (.isub, 1) := by decide +kernel
theorem dX10_advancing_82 : decode cX10_advancing 82 = .ok (.ireturn, 1) := by decide +kernel
theorem dX10_advance_0 : decode cX10_advance 0 = .ok (.aload_n 0, 1) := by decide +kernel
theorem dX10_advance_1 : decode cX10_advance 1 = .ok (.iconst 0, 1) := by decide +kernel
theorem dX10_advance_2 : decode cX10_advance 2 = .ok (.putfield 80, 3) := by decide +kernel
theorem dX10_advance_5 : decode cX10_advance 5 = .ok (.aload_n 0, 1) := by decide +kernel
theorem dX10_advance_6 : decode cX10_advance 6 = .ok (.iload_n 1, 1) := by decide +kernel
theorem dX10_advance_7 : decode cX10_advance 7 = .ok (.invokevirtual 324, 3) := by decide +kernel
theorem dX10_advance_10 : decode cX10_advance 10 = .ok (.ireturn, 1) := by decide +kernel
theorem dX10_muling_0 : decode cX10_muling 0 = .ok (.aload_n 0, 1) := by decide +kernel
theorem dX10_muling_1 : decode cX10_muling 1 = .ok (.aload_n 0, 1) := by decide +kernel
theorem dX10_muling_2 : decode cX10_muling 2 = .ok (.iload_n 1, 1) := by decide +kernel
theorem dX10_muling_3 : decode cX10_muling 3 = .ok (.invokevirtual 370, 3) := by decide +kernel
theorem dX10_muling_6 : decode cX10_muling 6 = .ok (.ifCond .eq 14, 3) := by decide +kernel
theorem dX10_muling_9 : decode cX10_muling 9 = .ok (.iload_n 2, 1) := by decide +kernel
theorem dX10_muling_10 : decode cX10_muling 10 = .ok (.invokestatic 349, 3) := by decide +kernel
theorem dX10_muling_13 : decode cX10_muling 13 = .ok (.ifCond .eq 7, 3) := by decide +kernel
theorem dX10_muling_16 : decode cX10_muling 16 = .ok (.iconst 1, 1) := by decide +kernel
theorem dX10_muling_17 : decode cX10_muling 17 = .ok (.goto 4, 3) := by decide +kernel
theorem dX10_muling_20 : decode cX10_muling 20 = .ok (.iconst 0, 1) := by decide +kernel
theorem dX10_muling_21 : decode cX10_muling 21 = .ok (.iconst 1, 1) := by decide +kernel
theorem dX10_muling_22 : decode cX10_muling 22 = .ok (.invokevirtual 197, 3) := by decide +kernel
theorem dX10_muling_25 : decode cX10_muling 25 = .ok (.ifCond .eq 29, 3) := by decide +kernel
theorem dX10_muling_28 : decode cX10_muling 28 = .ok (.aload_n 0, 1) := by decide +kernel
theorem dX10_muling_29 : decode cX10_muling 29 = .ok (.aload_n 0, 1) := by decide +kernel
theorem dX10_muling_30 : decode cX10_muling 30 = .ok (.iload_n 1, 1) := by decide +kernel
theorem dX10_muling_31 : decode cX10_muling 31 = .ok (.iconst 1, 1) := by decide +kernel
theorem dX10_muling_32 : decode cX10_muling 32 = .ok (.iload_n 2, 1) := by decide +kernel
theorem dX10_muling_33 : decode cX10_muling 33 = .ok (.iadd, 1) := by decide +kernel
theorem dX10_muling_34 : decode cX10_muling 34 = .ok (.invokevirtual 154, 3) := by decide +kernel
theorem dX10_muling_37 : decode cX10_muling 37 = .ok (.bipush 9, 2) := by decide +kernel
theorem dX10_muling_39 : decode cX10_muling 39 = .ok (.if_icmp .ge 7, 3) := by decide +kernel
theorem dX10_muling_42 : decode cX10_muling 42 = .ok (.iconst 1, 1) := by decide +kernel
theorem dX10_muling_43 : decode cX10_muling 43 = .ok (.goto 4, 3) := by decide +kernel
theorem dX10_muling_46 : decode cX10_muling 46 = .ok (.iconst 0, 1) := by decide +kernel
theorem dX10_muling_47 : decode cX10_muling 47 = .ok (.iconst 2, 1) := by decide +kernel
theorem dX10_muling_48 : decode cX10_muling 48 = .ok (.invokevirtual 197, 3) := by decide +kernel
theorem dX10_muling_51 : decode cX10_muling 51 = .ok (.ifCond .ne 5, 3) := by decide +kernel
theorem dX10_muling_54 : decode cX10_muling 54 = .ok (.iconst 0, 1) := by decide +kernel
theorem dX10_muling_55 : decode cX10_muling 55 = .ok (.ireturn, 1) := by decide +kernel
