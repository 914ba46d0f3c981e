theorem dX10_arrives_91 : decode cX10_arrives 91 = .ok (.aload_n 0, 1) := by decide +kernel
theorem dX10_arrives_92 : decode cX10_arrives 92 = .ok (.getfield 29, 3) := by decide +kernel
theorem dX10_arrives_95 : decode cX10_arrives 95 = .ok (.if_icmp .eq 8, 3) := by decide +kernel
theorem dX10_arrives_98 : decode cX10_arrives 98 = .ok (.aload_n 0, 1) := by decide +kernel
theorem dX10_arrives_99 : decode cX10_arrives 99 = .ok (.iload_n 1, 1) := by decide +kernel
theorem dX10_arrives_100 : decode cX10_arrives 100 = .ok (.invokevirtual 173, 3) := by decide +kernel
theorem dX10_arrives_103 : decode cX10_arrives 103 = .ok (.return_, 1) := by decide +kernel
theorem dX10_nextUnderWay_0 : decode cX10_nextUnderWay 0 = .ok (.iconst (-1), 1) := by decide +kernel
theorem dX10_nextUnderWay_1 : decode cX10_nextUnderWay 1 = .ok (.istore_n 2, 1) := by decide +kernel
theorem dX10_nextUnderWay_2 : decode cX10_nextUnderWay 2 = .ok (.iconst 0, 1) := by decide +kernel
theorem dX10_nextUnderWay_3 : decode cX10_nextUnderWay 3 = .ok (.istore_n 3, 1) := by decide +kernel
theorem dX10_nextUnderWay_4 : decode cX10_nextUnderWay 4 = .ok (.iload_n 3, 1) := by decide +kernel
theorem dX10_nextUnderWay_5 : decode cX10_nextUnderWay 5 = .ok (.aload_n 0, 1) := by decide +kernel
theorem dX10_nextUnderWay_6 : decode cX10_nextUnderWay 6 = .ok (.getfield 7, 3) := by decide +kernel
theorem dX10_nextUnderWay_9 : decode cX10_nextUnderWay 9 = .ok (.iconst 4, 1) := by decide +kernel
theorem dX10_nextUnderWay_10 : decode cX10_nextUnderWay 10 = .ok (.iaload, 1) := by decide +kernel
theorem dX10_nextUnderWay_11 : decode cX10_nextUnderWay 11 = .ok (.if_icmp .ge 55, 3) := by decide +kernel
theorem dX10_nextUnderWay_14 : decode cX10_nextUnderWay 14 = .ok (.aload_n 0, 1) := by decide +kernel
theorem dX10_nextUnderWay_15 : decode cX10_nextUnderWay 15 = .ok (.iload_n 3, 1) := by decide +kernel
theorem dX10_nextUnderWay_16 : decode cX10_nextUnderWay 16 = .ok (.bipush 6, 2) := by decide +kernel
theorem dX10_nextUnderWay_18 : decode cX10_nextUnderWay 18 = .ok (.invokevirtual 163, 3) := by decide +kernel
theorem dX10_nextUnderWay_21 : decode cX10_nextUnderWay 21 = .ok (.iconst 1, 1) := by decide +kernel
theorem dX10_nextUnderWay_22 : decode cX10_nextUnderWay 22 = .ok (.if_icmp .ne 38, 3) := by decide +kernel
theorem dX10_nextUnderWay_25 : decode cX10_nextUnderWay 25 = .ok (.aload_n 0, 1) := by decide +kernel
theorem dX10_nextUnderWay_26 : decode cX10_nextUnderWay 26 = .ok (.iload_n 3, 1) := by decide +kernel
theorem dX10_nextUnderWay_27 : decode cX10_nextUnderWay 27 = .ok (.bipush 8, 2) := by decide +kernel
theorem dX10_nextUnderWay_29 : decode cX10_nextUnderWay 29 = .ok (.invokevirtual 163, 3) := by decide +kernel
theorem dX10_nextUnderWay_32 : decode cX10_nextUnderWay 32 = .ok (.iload_n 1, 1) := by decide +kernel
theorem dX10_nextUnderWay_33 : decode cX10_nextUnderWay 33 = .ok (.if_icmp .le 27, 3) := by decide +kernel
theorem dX10_nextUnderWay_36 : decode cX10_nextUnderWay 36 = .ok (.iload_n 2, 1) := by decide +kernel
theorem dX10_nextUnderWay_37 : decode cX10_nextUnderWay 37 = .ok (.iconst (-1), 1) := by decide +kernel
theorem dX10_nextUnderWay_38 : decode cX10_nextUnderWay 38 = .ok (.if_icmp .eq 20, 3) := by decide +kernel
theorem dX10_nextUnderWay_41 : decode cX10_nextUnderWay 41 = .ok (.aload_n 0, 1) := by decide +kernel
theorem dX10_nextUnderWay_42 : decode cX10_nextUnderWay 42 = .ok (.iload_n 3, 1) := by decide +kernel
theorem dX10_nextUnderWay_43 : decode cX10_nextUnderWay 43 = .ok (.bipush 8, 2) := by decide +kernel
theorem dX10_nextUnderWay_45 : decode cX10_nextUnderWay 45 = .ok (.invokevirtual 163, 3) := by decide +kernel
theorem dX10_nextUnderWay_48 : decode cX10_nextUnderWay 48 = .ok (.aload_n 0, 1) := by decide +kernel
theorem dX10_nextUnderWay_49 : decode cX10_nextUnderWay 49 = .ok (.iload_n 2, 1) := by decide +kernel
theorem dX10_nextUnderWay_50 : decode cX10_nextUnderWay 50 = .ok (.bipush 8, 2) := by decide +kernel
theorem dX10_nextUnderWay_52 : decode cX10_nextUnderWay 52 = .ok (.invokevirtual 163, 3) := by decide +kernel
theorem dX10_nextUnderWay_55 : decode cX10_nextUnderWay 55 = .ok (.if_icmp .ge 5, 3) := by decide +kernel
theorem dX10_nextUnderWay_58 : decode cX10_nextUnderWay 58 = .ok (.iload_n 3, 1) := by decide +kernel
theorem dX10_nextUnderWay_59 : decode cX10_nextUnderWay 59 = .ok (.istore_n 2, 1) := by decide +kernel
theorem dX10_nextUnderWay_60 : decode cX10_nextUnderWay 60 = .ok (.iinc 3 1, 3) := by decide +kernel
theorem dX10_nextUnderWay_63 : decode cX10_nextUnderWay 63 = .ok (.goto (-59), 3) := by decide +kernel
theorem dX10_nextUnderWay_66 : decode cX10_nextUnderWay 66 = .ok (.iload_n 2, 1) := by decide +kernel
theorem dX10_nextUnderWay_67 : decode cX10_nextUnderWay 67 = .ok (.ireturn, 1) := by decide +kernel
theorem dX10_goesOn_0 : decode cX10_goesOn 0 = .ok (.aload_n 0, 1) := by decide +kernel
theorem dX10_goesOn_1 : decode cX10_goesOn 1 = .ok (.aload_n 0, 1) := by decide +kernel
theorem dX10_goesOn_2 : decode cX10_goesOn 2 = .ok (.iload_n 1, 1) := by decide +kernel
theorem dX10_goesOn_3 : decode cX10_goesOn 3 = .ok (.iconst 1, 1) := by decide +kernel
theorem dX10_goesOn_4 : decode cX10_goesOn 4 = .ok (.invokevirtual 163, 3) := by decide +kernel
theorem dX10_goesOn_7 : decode cX10_goesOn 7 = .ok (.invokevirtual 176, 3) := by decide +kernel
theorem dX10_goesOn_10 : decode cX10_goesOn 10 = .ok (.ifCond .eq 4, 3) := by decide +kernel
theorem dX10_goesOn_13 : decode cX10_goesOn 13 = .ok (.return_, 1) := by decide +kernel
theorem dX10_goesOn_14 : decode cX10_goesOn 14 = .ok (.aload_n 0, 1) := by decide +kernel
theorem dX10_goesOn_15 : decode cX10_goesOn 15 = .ok (.iload_n 1, 1) := by decide +kernel
theorem dX10_goesOn_16 : decode cX10_goesOn 16 = .ok (.bipush 9, 2) := by decide +kernel
theorem dX10_goesOn_18 : decode cX10_goesOn 18 = .ok (.aload_n 0, 1) := by decide +kernel
theorem dX10_goesOn_19 : decode cX10_goesOn 19 = .ok (.iload_n 1, 1) := by decide +kernel
theorem dX10_goesOn_20 : decode cX10_goesOn 20 = .ok (.bipush 9, 2) := by decide +kernel
theorem dX10_goesOn_22 : decode cX10_goesOn 22 = .ok (.invokevirtual 163, 3) := by decide +kernel
theorem dX10_goesOn_25 : decode cX10_goesOn 25 = .ok (.iconst 1, 1) := by decide +kernel
theorem dX10_goesOn_26 : decode cX10_goesOn 26 = .ok (.isub, 1) := by decide +kernel
theorem dX10_goesOn_27 : decode cX10_goesOn 27 = .ok (.invokevirtual 160, 3) := by decide +kernel
theorem dX10_goesOn_30 : decode cX10_goesOn 30 = .ok (.aload_n 0, 1) := by decide +kernel
theorem dX10_goesOn_31 : decode cX10_goesOn 31 = .ok (.iload_n 1, 1) := by decide +kernel
theorem dX10_goesOn_32 : decode cX10_goesOn 32 = .ok (.bipush 9, 2) := by decide +kernel
theorem dX10_goesOn_34 : decode cX10_goesOn 34 = .ok (.invokevirtual 163, 3) := by decide +kernel
theorem dX10_goesOn_37 : decode cX10_goesOn 37 = .ok (.ifCond .ne 8, 3) := by decide +kernel
theorem dX10_goesOn_40 : decode cX10_goesOn 40 = .ok (.aload_n 0, 1) := by decide +kernel
theorem dX10_goesOn_41 : decode cX10_goesOn 41 = .ok (.iload_n 1, 1) := by decide +kernel
theorem dX10_goesOn_42 : decode cX10_goesOn 42 = .ok (.invokevirtual 179, 3) := by decide +kernel
theorem dX10_goesOn_45 : decode cX10_goesOn 45 = .ok (.return_, 1) := by decide +kernel
theorem dX10_leave_0 : decode cX10_leave 0 = .ok (.aload_n 0, 1) := by decide +kernel
theorem dX10_leave_1 : decode cX10_leave 1 = .ok (.iload_n 1, 1) := by decide +kernel
theorem dX10_leave_2 : decode cX10_leave 2 = .ok (.iload_n 2, 1) := by decide +kernel
theorem dX10_leave_3 : decode cX10_leave 3 = .ok (.invokevirtual 182, 3) := by decide +kernel
theorem dX10_leave_6 : decode cX10_leave 6 = .ok (.istore_n 3, 1) := by decide +kernel
theorem dX10_leave_7 : decode cX10_leave 7 = .ok (.iload_n 3, 1) := by decide +kernel
theorem dX10_leave_8 : decode cX10_leave 8 = .ok (.iconst (-1), 1) := by decide +kernel
theorem dX10_leave_9 : decode cX10_leave 9 = .ok (.if_icmp .eq 94, 3) := by decide +kernel
theorem dX10_leave_12 : decode cX10_leave 12 = .ok (.aload_n 0, 1) := by decide +kernel
theorem dX10_leave_13 : decode cX10_leave 13 = .ok (.iload_n 1, 1) := by decide +kernel
theorem dX10_leave_14 : decode cX10_leave 14 = .ok (.iconst 1, 1) := by decide +kernel
theorem dX10_leave_15 : decode cX10_leave 15 = .ok (.iload_n 2, 1) := by decide +kernel
theorem dX10_leave_16 : decode cX10_leave 16 = .ok (.iadd, 1) := by decide +kernel
theorem dX10_leave_17 : decode cX10_leave 17 = .ok (.invokevirtual 154, 3) := by decide +kernel
theorem dX10_leave_20 : decode cX10_leave 20 = .ok (.ifCond .le 83, 3) := by decide +kernel
theorem dX10_leave_23 : decode cX10_leave 23 = .ok (.aload_n 0, 1) := by decide +kernel
theorem dX10_leave_24 : decode cX10_leave 24 = .ok (.iload_n 1, 1) := by decide +kernel
theorem dX10_leave_25 : decode cX10_leave 25 = .ok (.iconst 1, 1) := by decide +kernel
theorem dX10_leave_26 : decode cX10_leave 26 = .ok (.iload_n 2, 1) := by decide +kernel
theorem dX10_leave_27 : decode cX10_leave 27 = .ok (.iadd, 1) := by decide +kernel
theorem dX10_leave_28 : decode cX10_leave 28 = .ok (.aload_n 0, 1) := by decide +kernel
theorem dX10_leave_29 : decode cX10_leave 29 = .ok (.iload_n 1, 1) := by decide +kernel
theorem dX10_leave_30 : decode cX10_leave 30 = .ok (.iconst 1, 1) := by decide +kernel
theorem dX10_leave_31 : decode cX10_leave 31 = .ok (.iload_n 2, 1) := by decide +kernel
theorem dX10_leave_32 : decode cX10_leave 32 = .ok (.iadd, 1) := by decide +kernel
theorem dX10_leave_33 : decode cX10_leave 33 = .ok (.invokevirtual 154, 3) := by decide +kernel
theorem dX10_leave_36 : decode cX10_leave 36 = .ok (.iconst 1, 1) := by decide +kernel
theorem dX10_leave_37 : decode cX10_leave 37 = .ok (.isub, 1) := by decide +kernel
theorem dX10_leave_38 : decode cX10_leave 38 = .ok (.invokevirtual 170, 3) := by decide +kernel
theorem dX10_leave_41 : decode cX10_leave 41 = .ok (.aload_n 0, 1) := by decide +kernel
theorem dX10_leave_42 : decode cX10_leave 42 = .ok (.getfield 7, 3) := by decide +kernel
theorem dX10_leave_45 : decode cX10_leave 45 = .ok (.bipush 6, 2) := by decide +kernel
theorem dX10_leave_47 : decode cX10_leave 47 = .ok (.dup2, 1) := by decide +kernel
theorem dX10_leave_48 : decode cX10_leave 48 = .ok (.iaload, 1) := by decide +kernel
theorem dX10_leave_49 : decode cX10_leave 49 = .ok (.iconst 1, 1) := by decide +kernel
theorem dX10_leave_50 : decode cX10_leave 50 = .ok (.iadd, 1) := by decide +kernel
theorem dX10_leave_51 : decode cX10_leave 51 = .ok (.iastore, 1) := by decide +kernel
theorem dX10_leave_52 : decode cX10_leave 52 = .ok (.aload_n 0, 1) := by decide +kernel
theorem dX10_leave_53 : decode cX10_leave 53 = .ok (.iload_n 3, 1) := by decide +kernel
theorem dX10_leave_54 : decode cX10_leave 54 = .ok (.bipush 6, 2) := by decide +kernel
theorem dX10_leave_56 : decode cX10_leave 56 = .ok (.iconst 1, 1) := by decide +kernel
theorem dX10_leave_57 : decode cX10_leave 57 = .ok (.invokevirtual 160, 3) := by decide +kernel
theorem dX10_leave_60 : decode cX10_leave 60 = .ok (.aload_n 0, 1) := by decide +kernel
theorem dX10_leave_61 : decode cX10_leave 61 = .ok (.iload_n 3, 1) := by decide +kernel
theorem dX10_leave_62 : decode cX10_leave 62 = .ok (.bipush 8, 2) := by decide +kernel
theorem dX10_leave_64 : decode cX10_leave 64 = .ok (.aload_n 0, 1) := by decide +kernel
theorem dX10_leave_65 : decode cX10_leave 65 = .ok (.getfield 7, 3) := by decide +kernel
theorem dX10_leave_68 : decode cX10_leave 68 = .ok (.bipush 6, 2) := by decide +kernel
theorem dX10_leave_70 : decode cX10_leave 70 = .ok (.iaload, 1) := by decide +kernel
theorem dX10_leave_71 : decode cX10_leave 71 = .ok (.invokevirtual 160, 3) := by decide +kernel
theorem dX10_leave_74 : decode cX10_leave 74 = .ok (.aload_n 0, 1) := by decide +kernel
theorem dX10_leave_75 : decode cX10_leave 75 = .ok (.iload_n 3, 1) := by decide +kernel
theorem dX10_leave_76 : decode cX10_leave 76 = .ok (.bipush 9, 2) := by decide +kernel
theorem dX10_leave_78 : decode cX10_leave 78 = .ok (.aload_n 0, 1) := by decide +kernel
theorem dX10_leave_79 : decode cX10_leave 79 = .ok (.iload_n 1, 1) := by decide +kernel
theorem dX10_leave_80 : decode cX10_leave 80 = .ok (.iconst 0, 1) := by decide +kernel
theorem dX10_leave_81 : decode cX10_leave 81 = .ok (.invokevirtual 154, 3) := by decide +kernel
theorem dX10_leave_84 : decode cX10_leave 84 = .ok (.aload_n 0, 1) := by decide +kernel
theorem dX10_leave_85 : decode cX10_leave 85 = .ok (.iload_n 1, 1) := by decide +kernel
theorem dX10_leave_86 : decode cX10_leave 86 = .ok (.invokevirtual 157, 3) := by decide +kernel
theorem dX10_leave_89 : decode cX10_leave 89 = .ok (.iadd, 1) := by decide +kernel
theorem dX10_leave_90 : decode cX10_leave 90 = .ok (.invokevirtual 160, 3) := by decide +kernel
theorem dX10_leave_93 : decode cX10_leave 93 = .ok (.aload_n 0, 1) := by decide +kernel
theorem dX10_leave_94 : decode cX10_leave 94 = .ok (.iload_n 1, 1) := by decide +kernel
theorem dX10_leave_95 : decode cX10_leave 95 = .ok (.iload_n 2, 1) := by decide +kernel
theorem dX10_leave_96 : decode cX10_leave 96 = .ok (.invokevirtual 182, 3) := by decide +kernel
theorem dX10_leave_99 : decode cX10_leave 99 = .ok (.istore_n 3, 1) := by decide +kernel
theorem dX10_leave_100 : decode cX10_leave 100 = .ok (.goto (-93), 3) := by decide +kernel
theorem dX10_leave_103 : decode cX10_leave 103 = .ok (.return_, 1) := by decide +kernel
theorem dX10_dayPasses_0 : decode cX10_dayPasses 0 = .ok (.aload_n 0, 1) := by decide +kernel
theorem dX10_dayPasses_1 : decode cX10_dayPasses 1 = .ok (.getfield 7, 3) := by decide +kernel
theorem dX10_dayPasses_4 : decode cX10_dayPasses 4 = .ok (.iconst 2, 1) := by decide +kernel
theorem dX10_dayPasses_5 : decode cX10_dayPasses 5 = .ok (.dup2, 1) := by decide +kernel
theorem dX10_dayPasses_6 : decode cX10_dayPasses 6 = .ok (.iaload, 1) := by decide +kernel
theorem dX10_dayPasses_7 : decode cX10_dayPasses 7 = .ok (.iconst 1, 1) := by decide +kernel
theorem dX10_dayPasses_8 : decode cX10_dayPasses 8 = .ok (.iadd, 1) := by decide +kernel
theorem dX10_dayPasses_9 : decode cX10_dayPasses 9 = .ok (.iastore, 1) := by decide +kernel
theorem dX10_dayPasses_10 : decode cX10_dayPasses 10 = .ok (.aload_n 0, 1) := by decide +kernel
theorem dX10_dayPasses_11 : decode cX10_dayPasses 11 = .ok (.iconst 0, 1) := by decide +kernel
theorem dX10_dayPasses_12 : decode cX10_dayPasses 12 = .ok (.invokevirtual 185, 3) := by decide +kernel
theorem dX10_dayPasses_15 : decode cX10_dayPasses 15 = .ok (.istore_n 1, 1) := by decide +kernel
theorem dX10_dayPasses_16 : decode cX10_dayPasses 16 = .ok (.iload_n 1, 1) := by decide +kernel
theorem dX10_dayPasses_17 : decode cX10_dayPasses 17 = .ok (.iconst (-1), 1) := by decide +kernel
theorem dX10_dayPasses_18 : decode cX10_dayPasses 18 = .ok (.if_icmp .eq 23, 3) := by decide +kernel
theorem dX10_dayPasses_21 : decode cX10_dayPasses 21 = .ok (.aload_n 0, 1) := by decide +kernel
theorem dX10_dayPasses_22 : decode cX10_dayPasses 22 = .ok (.iload_n 1, 1) := by decide +kernel
theorem dX10_dayPasses_23 : decode cX10_dayPasses 23 = .ok (.invokevirtual 188, 3) := by decide +kernel
theorem dX10_dayPasses_26 : decode cX10_dayPasses 26 = .ok (.aload_n 0, 1) := by decide +kernel
theorem dX10_dayPasses_27 : decode cX10_dayPasses 27 = .ok (.aload_n 0, 1) := by decide +kernel
theorem dX10_dayPasses_28 : decode cX10_dayPasses 28 = .ok (.iload_n 1, 1) := by decide +kernel
theorem dX10_dayPasses_29 : decode cX10_dayPasses 29 = .ok (.bipush 8, 2) := by decide +kernel
theorem dX10_dayPasses_31 : decode cX10_dayPasses 31 = .ok (.invokevirtual 163, 3) := by decide +kernel
theorem dX10_dayPasses_34 : decode cX10_dayPasses 34 = .ok (.invokevirtual 185, 3) := by decide +kernel
theorem dX10_dayPasses_37 : decode cX10_dayPasses 37 = .ok (.istore_n 1, 1) := by decide +kernel
theorem dX10_dayPasses_38 : decode cX10_dayPasses 38 = .ok (.goto (-22), 3) := by decide +kernel
theorem dX10_dayPasses_41 : decode cX10_dayPasses 41 = .ok (.iconst 0, 1) := by decide +kernel
theorem dX10_dayPasses_42 : decode cX10_dayPasses 42 = .ok (.istore_n 1, 1) := by decide +kernel
theorem dX10_dayPasses_43 : decode cX10_dayPasses 43 = .ok (.iload_n 1, 1) := by decide +kernel
theorem dX10_dayPasses_44 : decode cX10_dayPasses 44 = .ok (.aload_n 0, 1) := by decide +kernel
theorem dX10_dayPasses_45 : decode cX10_dayPasses 45 = .ok (.getfield 7, 3) := by decide +kernel
theorem dX10_dayPasses_48 : decode cX10_dayPasses 48 = .ok (.iconst 3, 1) := by decide +kernel
theorem dX10_dayPasses_49 : decode cX10_dayPasses 49 = .ok (.iaload, 1) := by decide +kernel
theorem dX10_dayPasses_50 : decode cX10_dayPasses 50 = .ok (.if_icmp .ge 32, 3) := by decide +kernel
theorem dX10_dayPasses_53 : decode cX10_dayPasses 53 = .ok (.aload_n 0, 1) := by decide +kernel
theorem dX10_dayPasses_54 : decode cX10_dayPasses 54 = .ok (.iload_n 1, 1) := by decide +kernel
theorem dX10_dayPasses_55 : decode cX10_dayPasses 55 = .ok (.invokevirtual 176, 3) := by decide +kernel
theorem dX10_dayPasses_58 : decode cX10_dayPasses 58 = .ok (.ifCond .eq 6, 3) := by decide +kernel
theorem dX10_dayPasses_61 : decode cX10_dayPasses 61 = .ok (.goto 15, 3) := by decide +kernel
theorem dX10_dayPasses_64 : decode cX10_dayPasses 64 = .ok (.aload_n 0, 1) := by decide +kernel
theorem dX10_dayPasses_65 : decode cX10_dayPasses 65 = .ok (.iload_n 1, 1) := by decide +kernel
theorem dX10_dayPasses_66 : decode cX10_dayPasses 66 = .ok (.iconst 0, 1) := by decide +kernel
theorem dX10_dayPasses_67 : decode cX10_dayPasses 67 = .ok (.invokevirtual 191, 3) := by decide +kernel
theorem dX10_dayPasses_70 : decode cX10_dayPasses 70 = .ok (.aload_n 0, 1) := by decide +kernel
theorem dX10_dayPasses_71 : decode cX10_dayPasses 71 = .ok (.iload_n 1, 1) := by decide +kernel
theorem dX10_dayPasses_72 : decode cX10_dayPasses 72 = .ok (.iconst 1, 1) := by decide +kernel
theorem dX10_dayPasses_73 : decode cX10_dayPasses 73 = .ok (.invokevirtual 191, 3) := by decide +kernel
theorem dX10_dayPasses_76 : decode cX10_dayPasses 76 = .ok (.iinc 1 1, 3) := by decide +kernel
theorem dX10_dayPasses_79 : decode cX10_dayPasses 79 = .ok (.goto (-36), 3) := by decide +kernel
theorem dX10_dayPasses_82 : decode cX10_dayPasses 82 = .ok (.return_, 1) := by decide +kernel
theorem dX10_tries_0 : decode cX10_tries 0 = .ok (.iconst 0, 1) := by decide +kernel
theorem dX10_tries_1 : decode cX10_tries 1 = .ok (.istore_n 1, 1) := by decide +kernel
theorem dX10_tries_2 : decode cX10_tries 2 = .ok (.iload_n 1, 1) := by decide +kernel
theorem dX10_tries_3 : decode cX10_tries 3 = .ok (.sipush 2091, 3) := by decide +kernel
theorem dX10_tries_6 : decode cX10_tries 6 = .ok (.if_icmp .ge 21, 3) := by decide +kernel
theorem dX10_tries_9 : decode cX10_tries 9 = .ok (.aload_n 0, 1) := by decide +kernel
theorem dX10_tries_10 : decode cX10_tries 10 = .ok (.getfield 13, 3) := by decide +kernel
theorem dX10_tries_13 : decode cX10_tries 13 = .ok (.iload_n 1, 1) := by decide +kernel
theorem dX10_tries_14 : decode cX10_tries 14 = .ok (.aload_n 0, 1) := by decide +kernel
theorem dX10_tries_15 : decode cX10_tries 15 = .ok (.getfield 7, 3) := by decide +kernel
theorem dX10_tries_18 : decode cX10_tries 18 = .ok (.iload_n 1, 1) := by decide +kernel
theorem dX10_tries_19 : decode cX10_tries 19 = .ok (.iaload, 1) := by decide +kernel
theorem dX10_tries_20 : decode cX10_tries 20 = .ok (.iastore, 1) := by decide +kernel
theorem dX10_tries_21 : decode cX10_tries 21 = .ok (.iinc 1 1, 3) := by decide +kernel
theorem dX10_tries_24 : decode cX10_tries 24 = .ok (.goto (-22), 3) := by decide +kernel
theorem dX10_tries_27 : decode cX10_tries 27 = .ok (.return_, 1) := by decide +kernel
theorem dX10_back_0 : decode cX10_back 0 = .ok (.iconst 0, 1) := by decide +kernel
theorem dX10_back_1 : decode cX10_back 1 = .ok (.istore_n 2, 1) := by decide +kernel
theorem dX10_back_2 : decode cX10_back 2 = .ok (.iload_n 2, 1) := by decide +kernel
theorem dX10_back_3 : decode cX10_back 3 = .ok (.sipush 2091, 3) := by decide +kernel
theorem dX10_back_6 : decode cX10_back 6 = .ok (.if_icmp .ge 21, 3) := by decide +kernel
theorem dX10_back_9 : decode cX10_back 9 = .ok (.aload_n 0, 1) := by decide +kernel
theorem dX10_back_10 : decode cX10_back 10 = .ok (.getfield 7, 3) := by decide +kernel
theorem dX10_back_13 : decode cX10_back 13 = .ok (.iload_n 2, 1) := by decide +kernel
theorem dX10_back_14 : decode cX10_back 14 = .ok (.aload_n 0, 1) := by decide +kernel
theorem dX10_back_15 : decode cX10_back 15 = .ok (.getfield 13, 3) := by decide +kernel
theorem dX10_back_18 : decode cX10_back 18 = .ok (.iload_n 2, 1) := by decide +kernel
theorem dX10_back_19 : decode cX10_back 19 = .ok (.iaload, 1) := by decide +kernel
theorem dX10_back_20 : decode cX10_back 20 = .ok (.iastore, 1) := by decide +kernel
theorem dX10_back_21 : decode cX10_back 21 = .ok (.iinc 2 1, 3) := by decide +kernel
theorem dX10_back_24 : decode cX10_back 24 = .ok (.goto (-22), 3) := by decide +kernel
theorem dX10_back_27 : decode cX10_back 27 = .ok (.aload_n 0, 1) := by decide +kernel
theorem dX10_back_28 : decode cX10_back 28 = .ok (.iconst (-1), 1) := by decide +kernel
theorem dX10_back_29 : decode cX10_back 29 = .ok (.putfield 29, 3) := by decide +kernel
theorem dX10_back_32 : decode cX10_back 32 = .ok (.iload_n 1, 1) := by decide +kernel
theorem dX10_back_33 : decode cX10_back 33 = .ok (.ireturn, 1) := by decide +kernel
theorem dX10_feeds_0 : decode cX10_feeds 0 = .ok (.bipush 24, 2) := by decide +kernel
theorem dX10_feeds_2 : decode cX10_feeds 2 = .ok (.istore_n 2, 1) := by decide +kernel
theorem dX10_feeds_3 : decode cX10_feeds 3 = .ok (.iload_n 2, 1) := by decide +kernel
theorem dX10_feeds_4 : decode cX10_feeds 4 = .ok (.ifCond .lt 54, 3) := by decide +kernel
theorem dX10_feeds_7 : decode cX10_feeds 7 = .ok (.iload_n 1, 1) := by decide +kernel
theorem dX10_feeds_8 : decode cX10_feeds 8 = .ok (.iload_n 2, 1) := by decide +kernel
theorem dX10_feeds_9 : decode cX10_feeds 9 = .ok (.ishr, 1) := by decide +kernel
theorem dX10_feeds_10 : decode cX10_feeds 10 = .ok (.sipush 255, 3) := by decide +kernel
theorem dX10_feeds_13 : decode cX10_feeds 13 = .ok (.iand, 1) := by decide +kernel
theorem dX10_feeds_14 : decode cX10_feeds 14 = .ok (.istore_n 3, 1) := by decide +kernel
theorem dX10_feeds_15 : decode cX10_feeds 15 = .ok (.iload_n 3, 1) := by decide +kernel
theorem dX10_feeds_16 : decode cX10_feeds 16 = .ok (.ifCond .ne 6, 3) := by decide +kernel
theorem dX10_feeds_19 : decode cX10_feeds 19 = .ok (.goto 33, 3) := by decide +kernel
theorem dX10_feeds_22 : decode cX10_feeds 22 = .ok (.aload_n 0, 1) := by decide +kernel
theorem dX10_feeds_23 : decode cX10_feeds 23 = .ok (.getfield 64, 3) := by decide +kernel
theorem dX10_feeds_26 : decode cX10_feeds 26 = .ok (.sipush 800, 3) := by decide +kernel
theorem dX10_feeds_29 : decode cX10_feeds 29 = .ok (.if_icmp .ge 13, 3) := by decide +kernel
theorem dX10_feeds_32 : decode cX10_feeds 32 = .ok (.aload_n 0, 1) := by decide +kernel
theorem dX10_feeds_33 : decode cX10_feeds 33 = .ok (.getfield 33, 3) := by decide +kernel
theorem dX10_feeds_36 : decode cX10_feeds 36 = .ok (.aload_n 0, 1) := by decide +kernel
theorem dX10_feeds_37 : decode cX10_feeds 37 = .ok (.getfield 64, 3) := by decide +kernel
theorem dX10_feeds_40 : decode cX10_feeds 40 = .ok (.iload_n 3, 1) := by decide +kernel
theorem dX10_feeds_41 : decode cX10_feeds 41 = .ok (.iastore, 1) := by decide +kernel
theorem dX10_feeds_42 : decode cX10_feeds 42 = .ok (.aload_n 0, 1) := by decide +kernel
theorem dX10_feeds_43 : decode cX10_feeds 43 = .ok (.dup, 1) := by decide +kernel
theorem dX10_feeds_44 : decode cX10_feeds 44 = .ok (.getfield 64, 3) := by decide +kernel
theorem dX10_feeds_47 : decode cX10_feeds 47 = .ok (.iconst 1, 1) := by decide +kernel
theorem dX10_feeds_48 : decode cX10_feeds 48 = .ok (.iadd, 1) := by decide +kernel
theorem dX10_feeds_49 : decode cX10_feeds 49 = .ok (.putfield 64, 3) := by decide +kernel
theorem dX10_feeds_52 : decode cX10_feeds 52 = .ok (.iinc 2 (-8), 3) := by decide +kernel
theorem dX10_feeds_55 : decode cX10_feeds 55 = .ok (.goto (-52), 3) := by decide +kernel
theorem dX10_feeds_58 : decode cX10_feeds 58 = .ok (.return_, 1) := by decide +kernel
theorem dX10_append_0 : decode cX10_append 0 = .ok (.aload_n 0, 1) := by decide +kernel
theorem dX10_append_1 : decode cX10_append 1 = .ok (.iconst 0, 1) := by decide +kernel
theorem dX10_append_2 : decode cX10_append 2 = .ok (.putfield 80, 3) := by decide +kernel
theorem dX10_append_5 : decode cX10_append 5 = .ok (.aload_n 0, 1) := by decide +kernel
theorem dX10_append_6 : decode cX10_append 6 = .ok (.getfield 64, 3) := by decide +kernel
theorem dX10_append_9 : decode cX10_append 9 = .ok (.istore 6, 2) := by decide +kernel
theorem dX10_append_11 : decode cX10_append 11 = .ok (.aload_n 0, 1) := by decide +kernel
theorem dX10_append_12 : decode cX10_append 12 = .ok (.iload_n 1, 1) := by decide +kernel
theorem dX10_append_13 : decode cX10_append 13 = .ok (.invokevirtual 194, 3) := by decide +kernel
theorem dX10_append_16 : decode cX10_append 16 = .ok (.aload_n 0, 1) := by decide +kernel
theorem dX10_append_17 : decode cX10_append 17 = .ok (.iload_n 2, 1) := by decide +kernel
theorem dX10_append_18 : decode cX10_append 18 = .ok (.invokevirtual 194, 3) := by decide +kernel
theorem dX10_append_21 : decode cX10_append 21 = .ok (.aload_n 0, 1) := by decide +kernel
theorem dX10_append_22 : decode cX10_append 22 = .ok (.iload_n 3, 1) := by decide +kernel
theorem dX10_append_23 : decode cX10_append 23 = .ok (.invokevirtual 194, 3) := by decide +kernel
theorem dX10_append_26 : decode cX10_append 26 = .ok (.aload_n 0, 1) := by decide +kernel
theorem dX10_append_27 : decode cX10_append 27 = .ok (.iload 4, 2) := by decide +kernel
theorem dX10_append_29 : decode cX10_append 29 = .ok (.invokevirtual 194, 3) := by decide +kernel
theorem dX10_append_32 : decode cX10_append 32 = .ok (.aload_n 0, 1) := by decide +kernel
theorem dX10_append_33 : decode cX10_append 33 = .ok (.iload 5, 2) := by decide +kernel
theorem dX10_append_35 : decode cX10_append 35 = .ok (.invokevirtual 194, 3) := by decide +kernel
theorem dX10_append_38 : decode cX10_append 38 = .ok (.aload_n 0, 1) := by decide +kernel
theorem dX10_append_39 : decode cX10_append 39 = .ok (.aload_n 0, 1) := by decide +kernel
theorem dX10_append_40 : decode cX10_append 40 = .ok (.getfield 64, 3) := by decide +kernel
theorem dX10_append_43 : decode cX10_append 43 = .ok (.sipush 800, 3) := by decide +kernel
theorem dX10_append_46 : decode cX10_append 46 = .ok (.if_icmp .gt 7, 3) := by decide +kernel
theorem dX10_append_49 : decode cX10_append 49 = .ok (.iconst 1, 1) := by decide +kernel
theorem dX10_append_50 : decode cX10_append 50 = .ok (.goto 4, 3) := by decide +kernel
theorem dX10_append_53 : decode cX10_append 53 = .ok (.iconst 0, 1) := by decide +kernel
theorem dX10_append_54 : decode cX10_append 54 = .ok (.iconst 1, 1) := by decide +kernel
theorem dX10_append_55 : decode cX10_append 55 = .ok (.invokevirtual 197, 3) := by decide +kernel
theorem dX10_append_58 : decode cX10_append 58 = .ok (.ifCond .eq 8, 3) := by decide +kernel
theorem dX10_append_61 : decode cX10_append 61 = .ok (.aload_n 0, 1) := by decide +kernel
theorem dX10_append_62 : decode cX10_append 62 = .ok (.getfield 64, 3) := by decide +kernel
theorem dX10_append_65 : decode cX10_append 65 = .ok (.ireturn, 1) := by decide +kernel
theorem dX10_append_66 : decode cX10_append 66 = .ok (.aload_n 0, 1) := by decide +kernel
theorem dX10_append_67 : decode cX10_append 67 = .ok (.iload 6, 2) := by decide +kernel
theorem dX10_append_69 : decode cX10_append 69 = .ok (.putfield 64, 3) := by decide +kernel
theorem dX10_append_72 : decode cX10_append 72 = .ok (.iconst 0, 1) := by decide +kernel
theorem dX10_append_73 : decode cX10_append 73 = .ok (.ireturn, 1) := by decide +kernel
theorem dX10_truncate_0 : decode cX10_truncate 0 = .ok (.aload_n 0, 1) := by decide +kernel
theorem dX10_truncate_1 : decode cX10_truncate 1 = .ok (.iconst 0, 1) := by decide +kernel
theorem dX10_truncate_2 : decode cX10_truncate 2 = .ok (.putfield 80, 3) := by decide +kernel
theorem dX10_truncate_5 : decode cX10_truncate 5 = .ok (.aload_n 0, 1) := by decide +kernel
theorem dX10_truncate_6 : decode cX10_truncate 6 = .ok (.iload_n 1, 1) := by decide +kernel
theorem dX10_truncate_7 : decode cX10_truncate 7 = .ok (.iconst 0, 1) := by decide +kernel
theorem dX10_truncate_8 : decode cX10_truncate 8 = .ok (.aload_n 0, 1) := by decide +kernel
theorem dX10_truncate_9 : decode cX10_truncate 9 = .ok (.getfield 64, 3) := by decide +kernel
theorem dX10_truncate_12 : decode cX10_truncate 12 = .ok (.invokestatic 83, 3) := by decide +kernel
theorem dX10_truncate_15 : decode cX10_truncate 15 = .ok (.iconst 1, 1) := by decide +kernel
theorem dX10_truncate_16 : decode cX10_truncate 16 = .ok (.invokevirtual 197, 3) := by decide +kernel
theorem dX10_truncate_19 : decode cX10_truncate 19 = .ok (.ifCond .ne 5, 3) := by decide +kernel
theorem dX10_truncate_22 : decode cX10_truncate 22 = .ok (.iconst 0, 1) := by decide +kernel
theorem dX10_truncate_23 : decode cX10_truncate 23 = .ok (.ireturn, 1) := by decide +kernel
theorem dX10_truncate_24 : decode cX10_truncate 24 = .ok (.aload_n 0, 1) := by decide +kernel
theorem dX10_truncate_25 : decode cX10_truncate 25 = .ok (.getfield 64, 3) := by decide +kernel
theorem dX10_truncate_28 : decode cX10_truncate 28 = .ok (.iload_n 1, 1) := by decide +kernel
theorem dX10_truncate_29 : decode cX10_truncate 29 = .ok (.isub, 1) := by decide +kernel
theorem dX10_truncate_30 : decode cX10_truncate 30 = .ok (.istore_n 2, 1) := by decide +kernel
theorem dX10_truncate_31 : decode cX10_truncate 31 = .ok (.aload_n 0, 1) := by decide +kernel
theorem dX10_truncate_32 : decode cX10_truncate 32 = .ok (.iload_n 1, 1) := by decide +kernel
theorem dX10_truncate_33 : decode cX10_truncate 33 = .ok (.putfield 64, 3) := by decide +kernel
theorem dX10_truncate_36 : decode cX10_truncate 36 = .ok (.iload_n 2, 1) := by decide +kernel
theorem dX10_truncate_37 : decode cX10_truncate 37 = .ok (.ireturn, 1) := by decide +kernel
theorem dX10_errorCode_0 : decode cX10_errorCode 0 = .ok (.aload_n 0, 1) := by decide +kernel
theorem dX10_errorCode_1 : decode cX10_errorCode 1 = .ok (.iconst 0, 1) := by decide +kernel
theorem dX10_errorCode_2 : decode cX10_errorCode 2 = .ok (.putfield 80, 3) := by decide +kernel
theorem dX10_errorCode_5 : decode cX10_errorCode 5 = .ok (.aload_n 0, 1) := by decide +kernel
theorem dX10_errorCode_6 : decode cX10_errorCode 6 = .ok (.getfield 201, 3) := by decide +kernel
theorem dX10_errorCode_9 : decode cX10_errorCode 9 = .ok (.ireturn, 1) := by decide +kernel
theorem dX10_errorPosition_0 : decode cX10_errorPosition 0 = .ok (.aload_n 0, 1) := by decide +kernel
theorem dX10_errorPosition_1 : decode cX10_errorPosition 1 = .ok (.iconst 0, 1) := by decide +kernel
theorem dX10_errorPosition_2 : decode cX10_errorPosition 2 = .ok (.putfield 80, 3) := by decide +kernel
theorem dX10_errorPosition_5 : decode cX10_errorPosition 5 = .ok (.aload_n 0, 1) := by decide +kernel
theorem dX10_errorPosition_6 : decode cX10_errorPosition 6 = .ok (.getfield 36, 3) := by decide +kernel
theorem dX10_errorPosition_9 : decode cX10_errorPosition 9 = .ok (.ireturn, 1) := by decide +kernel
theorem dX10_seen_0 : decode cX10_seen 0 = .ok (.iload_n 1, 1) := by decide +kernel
theorem dX10_seen_1 : decode cX10_seen 1 = .ok (.aload_n 0, 1) := by decide +kernel
theorem dX10_seen_2 : decode cX10_seen 2 = .ok (.getfield 64, 3) := by decide +kernel
theorem dX10_seen_5 : decode cX10_seen 5 = .ok (.if_icmp .ge 12, 3) := by decide +kernel
theorem dX10_seen_8 : decode cX10_seen 8 = .ok (.aload_n 0, 1) := by decide +kernel
theorem dX10_seen_9 : decode cX10_seen 9 = .ok (.getfield 33, 3) := by decide +kernel
theorem dX10_seen_12 : decode cX10_seen 12 = .ok (.iload_n 1, 1) := by decide +kernel
theorem dX10_seen_13 : decode cX10_seen 13 = .ok (.iaload, 1) := by decide +kernel
theorem dX10_seen_14 : decode cX10_seen 14 = .ok (.goto 4, 3) := by decide +kernel
theorem dX10_seen_17 : decode cX10_seen 17 = .ok (.iconst (-1), 1) := by decide +kernel
theorem dX10_seen_18 : decode cX10_seen 18 = .ok (.ireturn, 1) := by decide +kernel
theorem dX10_reads_0 : decode cX10_reads 0 = .ok (.aload_n 0, 1) := by decide +kernel
theorem dX10_reads_1 : decode cX10_reads 1 = .ok (.aload_n 0, 1) := by decide +kernel
theorem dX10_reads_2 : decode cX10_reads 2 = .ok (.getfield 204, 3) := by decide +kernel
theorem dX10_reads_5 : decode cX10_reads 5 = .ok (.invokevirtual 207, 3) := by decide +kernel
theorem dX10_reads_8 : decode cX10_reads 8 = .ok (.bipush 32, 2) := by decide +kernel
theorem dX10_reads_10 : decode cX10_reads 10 = .ok (.if_icmp .eq 16, 3) := by decide +kernel
theorem dX10_reads_13 : decode cX10_reads 13 = .ok (.aload_n 0, 1) := by decide +kernel
theorem dX10_reads_14 : decode cX10_reads 14 = .ok (.aload_n 0, 1) := by decide +kernel
theorem dX10_reads_15 : decode cX10_reads 15 = .ok (.getfield 204, 3) := by decide +kernel
theorem dX10_reads_18 : decode cX10_reads 18 = .ok (.invokevirtual 207, 3) := by decide +kernel
theorem dX10_reads_21 : decode cX10_reads 21 = .ok (.bipush 10, 2) := by decide +kernel
theorem dX10_reads_23 : decode cX10_reads 23 = .ok (.if_icmp .ne 16, 3) := by decide +kernel
theorem dX10_reads_26 : decode cX10_reads 26 = .ok (.aload_n 0, 1) := by decide +kernel
theorem dX10_reads_27 : decode cX10_reads 27 = .ok (.dup, 1) := by decide +kernel
theorem dX10_reads_28 : decode cX10_reads 28 = .ok (.getfield 204, 3) := by decide +kernel
theorem dX10_reads_31 : decode cX10_reads 31 = .ok (.iconst 1, 1) := by decide +kernel
theorem dX10_reads_32 : decode cX10_reads 32 = .ok (.iadd, 1) := by decide +kernel
theorem dX10_reads_33 : decode cX10_reads 33 = .ok (.putfield 204, 3) := by decide +kernel
theorem dX10_reads_36 : decode cX10_reads 36 = .ok (.goto (-36), 3) := by decide +kernel
theorem dX10_reads_39 : decode cX10_reads 39 = .ok (.aload_n 0, 1) := by decide +kernel
theorem dX10_reads_40 : decode cX10_reads 40 = .ok (.aload_n 0, 1) := by decide +kernel
theorem dX10_reads_41 : decode cX10_reads 41 = .ok (.getfield 204, 3) := by decide +kernel
theorem dX10_reads_44 : decode cX10_reads 44 = .ok (.putfield 210, 3) := by decide +kernel
theorem dX10_reads_47 : decode cX10_reads 47 = .ok (.aload_n 0, 1) := by decide +kernel
theorem dX10_reads_48 : decode cX10_reads 48 = .ok (.aload_n 0, 1) := by decide +kernel
theorem dX10_reads_49 : decode cX10_reads 49 = .ok (.getfield 204, 3) := by decide +kernel
theorem dX10_reads_52 : decode cX10_reads 52 = .ok (.invokevirtual 207, 3) := by decide +kernel
theorem dX10_reads_55 : decode cX10_reads 55 = .ok (.istore_n 1, 1) := by decide +kernel
theorem dX10_reads_56 : decode cX10_reads 56 = .ok (.iload_n 1, 1) := by decide +kernel
theorem dX10_reads_57 : decode cX10_reads 57 = .ok (.iconst (-1), 1) := by decide +kernel
theorem dX10_reads_58 : decode cX10_reads 58 = .ok (.if_icmp .ne 11, 3) := by decide +kernel
theorem dX10_reads_61 : decode cX10_reads 61 = .ok (.aload_n 0, 1) := by decide +kernel
theorem dX10_reads_62 : decode cX10_reads 62 = .ok (.iconst 0, 1) := by decide +kernel
theorem dX10_reads_63 : decode cX10_reads 63 = .ok (.putfield 213, 3) := by decide +kernel
theorem dX10_reads_66 : decode cX10_reads 66 = .ok (.goto 168, 3) := by decide +kernel
theorem dX10_reads_69 : decode cX10_reads 69 = .ok (.iload_n 1, 1) := by decide +kernel
theorem dX10_reads_70 : decode cX10_reads 70 = .ok (.bipush 97, 2) := by decide +kernel
theorem dX10_reads_72 : decode cX10_reads 72 = .ok (.bipush 122, 2) := by decide +kernel
theorem dX10_reads_74 : decode cX10_reads 74 = .ok (.invokestatic 83, 3) := by decide +kernel
theorem dX10_reads_77 : decode cX10_reads 77 = .ok (.ifCond .eq 39, 3) := by decide +kernel
theorem dX10_reads_80 : decode cX10_reads 80 = .ok (.aload_n 0, 1) := by decide +kernel
theorem dX10_reads_81 : decode cX10_reads 81 = .ok (.iconst 1, 1) := by decide +kernel
theorem dX10_reads_82 : decode cX10_reads 82 = .ok (.putfield 213, 3) := by decide +kernel
theorem dX10_reads_85 : decode cX10_reads 85 = .ok (.aload_n 0, 1) := by decide +kernel
theorem dX10_reads_86 : decode cX10_reads 86 = .ok (.aload_n 0, 1) := by decide +kernel
theorem dX10_reads_87 : decode cX10_reads 87 = .ok (.getfield 204, 3) := by decide +kernel
theorem dX10_reads_90 : decode cX10_reads 90 = .ok (.invokevirtual 207, 3) := by decide +kernel
theorem dX10_reads_93 : decode cX10_reads 93 = .ok (.bipush 97, 2) := by decide +kernel
theorem dX10_reads_95 : decode cX10_reads 95 = .ok (.bipush 122, 2) := by decide +kernel
theorem dX10_reads_97 : decode cX10_reads 97 = .ok (.invokestatic 83, 3) := by decide +kernel
theorem dX10_reads_100 : decode cX10_reads 100 = .ok (.ifCond .eq 134, 3) := by decide +kernel
theorem dX10_reads_103 : decode cX10_reads 103 = .ok (.aload_n 0, 1) := by decide +kernel
theorem dX10_reads_104 : decode cX10_reads 104 = .ok (.dup, 1) := by decide +kernel
theorem dX10_reads_105 : decode cX10_reads 105 = .ok (.getfield 204, 3) := by decide +kernel
theorem dX10_reads_108 : decode cX10_reads 108 = .ok (.iconst 1, 1) := by decide +kernel
theorem dX10_reads_109 : decode cX10_reads 109 = .ok (.iadd, 1) := by decide +kernel
theorem dX10_reads_110 : decode cX10_reads 110 = .ok (.putfield 204, 3) := by decide +kernel
theorem dX10_reads_113 : decode cX10_reads 113 = .ok (.goto (-28), 3) := by decide +kernel
theorem dX10_reads_116 : decode cX10_reads 116 = .ok (.iload_n 1, 1) := by decide +kernel
theorem dX10_reads_117 : decode cX10_reads 117 = .ok (.bipush 48, 2) := by decide +kernel
theorem dX10_reads_119 : decode cX10_reads 119 = .ok (.bipush 57, 2) := by decide +kernel
theorem dX10_reads_121 : decode cX10_reads 121 = .ok (.invokestatic 83, 3) := by decide +kernel
theorem dX10_reads_124 : decode cX10_reads 124 = .ok (.ifCond .eq 73, 3) := by decide +kernel
theorem dX10_reads_127 : decode cX10_reads 127 = .ok (.aload_n 0, 1) := by decide +kernel
theorem dX10_reads_128 : decode cX10_reads 128 = .ok (.iconst 2, 1) := by decide +kernel
theorem dX10_reads_129 : decode cX10_reads 129 = .ok (.putfield 213, 3) := by decide +kernel
theorem dX10_reads_132 : decode cX10_reads 132 = .ok (.aload_n 0, 1) := by decide +kernel
theorem dX10_reads_133 : decode cX10_reads 133 = .ok (.iconst 0, 1) := by decide +kernel
theorem dX10_reads_134 : decode cX10_reads 134 = .ok (.putfield 216, 3) := by decide +kernel
theorem dX10_reads_137 : decode cX10_reads 137 = .ok (.aload_n 0, 1) := by decide +kernel
theorem dX10_reads_138 : decode cX10_reads 138 = .ok (.aload_n 0, 1) := by decide +kernel
theorem dX10_reads_139 : decode cX10_reads 139 = .ok (.getfield 204, 3) := by decide +kernel
theorem dX10_reads_142 : decode cX10_reads 142 = .ok (.invokevirtual 207, 3) := by decide +kernel
theorem dX10_reads_145 : decode cX10_reads 145 = .ok (.bipush 48, 2) := by decide +kernel
theorem dX10_reads_147 : decode cX10_reads 147 = .ok (.bipush 57, 2) := by decide +kernel
theorem dX10_reads_149 : decode cX10_reads 149 = .ok (.invokestatic 83, 3) := by decide +kernel
theorem dX10_reads_152 : decode cX10_reads 152 = .ok (.ifCond .eq 82, 3) := by decide +kernel
theorem dX10_reads_155 : decode cX10_reads 155 = .ok (.aload_n 0, 1) := by decide +kernel
theorem dX10_reads_156 : decode cX10_reads 156 = .ok (.sipush 1000, 3) := by decide +kernel
theorem dX10_reads_159 : decode cX10_reads 159 = .ok (.bipush 10, 2) := by decide +kernel
theorem dX10_reads_161 : decode cX10_reads 161 = .ok (.aload_n 0, 1) := by decide +kernel
theorem dX10_reads_162 : decode cX10_reads 162 = .ok (.getfield 216, 3) := by decide +kernel
theorem dX10_reads_165 : decode cX10_reads 165 = .ok (.imul, 1) := by decide +kernel
theorem dX10_reads_166 : decode cX10_reads 166 = .ok (.aload_n 0, 1) := by decide +kernel
theorem dX10_reads_167 : decode cX10_reads 167 = .ok (.aload_n 0, 1) := by decide +kernel
theorem dX10_reads_168 : decode cX10_reads 168 = .ok (.getfield 204, 3) := by decide +kernel
theorem dX10_reads_171 : decode cX10_reads 171 = .ok (.invokevirtual 207, 3) := by decide +kernel
theorem dX10_reads_174 : decode cX10_reads 174 = .ok (.iadd, 1) := by decide +kernel
theorem dX10_reads_175 : decode cX10_reads 175 = .ok (.bipush 48, 2) := by decide +kernel
theorem dX10_reads_177 : decode cX10_reads 177 = .ok (.isub, 1) := by decide +kernel
theorem dX10_reads_178 : decode cX10_reads 178 = .ok (.invokestatic 219, 3) := by decide +kernel
theorem dX10_reads_181 : decode cX10_reads 181 = .ok (.putfield 216, 3) := by decide +kernel
theorem dX10_reads_184 : decode cX10_reads 184 = .ok (.aload_n 0, 1) := by decide +kernel
theorem dX10_reads_185 : decode cX10_reads 185 = .ok (.dup, 1) := by decide +kernel
theorem dX10_reads_186 : decode cX10_reads 186 = .ok (.getfield 204, 3) := by decide +kernel
theorem dX10_reads_189 : decode cX10_reads 189 = .ok (.iconst 1, 1) := by decide +kernel
theorem dX10_reads_190 : decode cX10_reads 190 = .ok (.iadd, 1) := by decide +kernel
theorem dX10_reads_191 : decode cX10_reads 191 = .ok (.putfield 204, 3) := by decide +kernel
theorem dX10_reads_194 : decode cX10_reads 194 = .ok (.goto (-57), 3) := by decide +kernel
theorem dX10_reads_197 : decode cX10_reads 197 = .ok (.aload_n 0, 1) := by decide +kernel
theorem dX10_reads_198 : decode cX10_reads 198 = .ok (.iload_n 1, 1) := by decide +kernel
theorem dX10_reads_199 : decode cX10_reads 199 = .ok (.bipush 59, 2) := by decide +kernel
theorem dX10_reads_201 : decode cX10_reads 201 = .ok (.if_icmp .eq 15, 3) := by decide +kernel
theorem dX10_reads_204 : decode cX10_reads 204 = .ok (.iload_n 1, 1) := by decide +kernel
theorem dX10_reads_205 : decode cX10_reads 205 = .ok (.bipush 40, 2) := by decide +kernel
theorem dX10_reads_207 : decode cX10_reads 207 = .ok (.if_icmp .eq 9, 3) := by decide +kernel
theorem dX10_reads_210 : decode cX10_reads 210 = .ok (.iload_n 1, 1) := by decide +kernel
theorem dX10_reads_211 : decode cX10_reads 211 = .ok (.bipush 41, 2) := by decide +kernel
theorem dX10_reads_213 : decode cX10_reads 213 = .ok (.if_icmp .ne 7, 3) := by decide +kernel
theorem dX10_reads_216 : decode cX10_reads 216 = .ok (.iconst 3, 1) := by decide +kernel
theorem dX10_reads_217 : decode cX10_reads 217 = .ok (.goto 4, 3) := by decide +kernel
theorem dX10_reads_220 : decode cX10_reads 220 = .ok (.iconst 4, 1) := by decide +kernel
theorem dX10_reads_221 : decode cX10_reads 221 = .ok (.putfield 213, 3) := by decide +kernel
theorem dX10_reads_224 : decode cX10_reads 224 = .ok (.aload_n 0, 1) := by decide +kernel
theorem dX10_reads_225 : decode cX10_reads 225 = .ok (.dup, 1) := by decide +kernel
theorem dX10_reads_226 : decode cX10_reads 226 = .ok (.getfield 204, 3) := by decide +kernel
theorem dX10_reads_229 : decode cX10_reads 229 = .ok (.iconst 1, 1) := by decide +kernel
theorem dX10_reads_230 : decode cX10_reads 230 = .ok (.iadd, 1) := by decide +kernel
theorem dX10_reads_231 : decode cX10_reads 231 = .ok (.putfield 204, 3) := by decide +kernel
theorem dX10_reads_234 : decode cX10_reads 234 = .ok (.return_, 1) := by decide +kernel
theorem dX10_starts_0 : decode cX10_starts 0 = .ok (.aload_n 0, 1) := by decide +kernel
theorem dX10_starts_1 : decode cX10_starts 1 = .ok (.iconst 0, 1) := by decide +kernel
theorem dX10_starts_2 : decode cX10_starts 2 = .ok (.putfield 204, 3) := by decide +kernel
theorem dX10_starts_5 : decode cX10_starts 5 = .ok (.aload_n 0, 1) := by decide +kernel
theorem dX10_starts_6 : decode cX10_starts 6 = .ok (.iconst 0, 1) := by decide +kernel
theorem dX10_starts_7 : decode cX10_starts 7 = .ok (.putfield 222, 3) := by decide +kernel
theorem dX10_starts_10 : decode cX10_starts 10 = .ok (.aload_n 0, 1) := by decide +kernel
theorem dX10_starts_11 : decode cX10_starts 11 = .ok (.iconst (-1), 1) := by decide +kernel
theorem dX10_starts_12 : decode cX10_starts 12 = .ok (.putfield 225, 3) := by decide +kernel
theorem dX10_starts_15 : decode cX10_starts 15 = .ok (.aload_n 0, 1) := by decide +kernel
theorem dX10_starts_16 : decode cX10_starts 16 = .ok (.invokevirtual 228, 3) := by decide +kernel
theorem dX10_starts_19 : decode cX10_starts 19 = .ok (.return_, 1) := by decide +kernel
theorem dX10_must_0 : decode cX10_must 0 = .ok (.aload_n 0, 1) := by decide +kernel
theorem dX10_must_1 : decode cX10_must 1 = .ok (.getfield 222, 3) := by decide +kernel
theorem dX10_must_4 : decode cX10_must 4 = .ok (.ifCond .ne 20, 3) := by decide +kernel
theorem dX10_must_7 : decode cX10_must 7 = .ok (.iload_n 1, 1) := by decide +kernel
theorem dX10_must_8 : decode cX10_must 8 = .ok (.ifCond .ne 16, 3) := by decide +kernel
theorem dX10_must_11 : decode cX10_must 11 = .ok (.aload_n 0, 1) := by decide +kernel
theorem dX10_must_12 : decode cX10_must 12 = .ok (.iload_n 2, 1) := by decide +kernel
theorem dX10_must_13 : decode cX10_must 13 = .ok (.putfield 222, 3) := by decide +kernel
theorem dX10_must_16 : decode cX10_must 16 = .ok (.aload_n 0, 1) := by decide +kernel
theorem dX10_must_17 : decode cX10_must 17 = .ok (.aload_n 0, 1) := by decide +kernel
theorem dX10_must_18 : decode cX10_must 18 = .ok (.getfield 210, 3) := by decide +kernel
theorem dX10_must_21 : decode cX10_must 21 = .ok (.putfield 225, 3) := by decide +kernel
theorem dX10_must_24 : decode cX10_must 24 = .ok (.aload_n 0, 1) := by decide +kernel
theorem dX10_must_25 : decode cX10_must 25 = .ok (.getfield 222, 3) := by decide +kernel
theorem dX10_must_28 : decode cX10_must 28 = .ok (.ifCond .ne 7, 3) := by decide +kernel
theorem dX10_must_31 : decode cX10_must 31 = .ok (.iconst 1, 1) := by decide +kernel
theorem dX10_must_32 : decode cX10_must 32 = .ok (.goto 4, 3) := by decide +kernel
theorem dX10_must_35 : decode cX10_must 35 = .ok (.iconst 0, 1) := by decide +kernel
theorem dX10_must_36 : decode cX10_must 36 = .ok (.ireturn, 1) := by decide +kernel
theorem dX10_passes_0 : decode cX10_passes 0 = .ok (.aload_n 0, 1) := by decide +kernel
theorem dX10_passes_1 : decode cX10_passes 1 = .ok (.getfield 222, 3) := by decide +kernel
theorem dX10_passes_4 : decode cX10_passes 4 = .ok (.ifCond .ne 7, 3) := by decide +kernel
theorem dX10_passes_7 : decode cX10_passes 7 = .ok (.aload_n 0, 1) := by decide +kernel
theorem dX10_passes_8 : decode cX10_passes 8 = .ok (.invokevirtual 228, 3) := by decide +kernel
theorem dX10_passes_11 : decode cX10_passes 11 = .ok (.return_, 1) := by decide +kernel
theorem dX10_isSign_0 : decode cX10_isSign 0 = .ok (.aload_n 0, 1) := by decide +kernel
theorem dX10_isSign_1 : decode cX10_isSign 1 = .ok (.getfield 222, 3) := by decide +kernel
theorem dX10_isSign_4 : decode cX10_isSign 4 = .ok (.ifCond .ne 27, 3) := by decide +kernel
theorem dX10_isSign_7 : decode cX10_isSign 7 = .ok (.aload_n 0, 1) := by decide +kernel
theorem dX10_isSign_8 : decode cX10_isSign 8 = .ok (.getfield 213, 3) := by decide +kernel
theorem dX10_isSign_11 : decode cX10_isSign 11 = .ok (.iconst 3, 1) := by decide +kernel
theorem dX10_isSign_12 : decode cX10_isSign 12 = .ok (.if_icmp .ne 19, 3) := by decide +kernel
theorem dX10_isSign_15 : decode cX10_isSign 15 = .ok (.aload_n 0, 1) := by decide +kernel
theorem dX10_isSign_16 : decode cX10_isSign 16 = .ok (.aload_n 0, 1) := by decide +kernel
theorem dX10_isSign_17 : decode cX10_isSign 17 = .ok (.getfield 210, 3) := by decide +kernel
theorem dX10_isSign_20 : decode cX10_isSign 20 = .ok (.invokevirtual 207, 3) := by decide +kernel
theorem dX10_isSign_23 : decode cX10_isSign 23 = .ok (.iload_n 1, 1) := by decide +kernel
theorem dX10_isSign_24 : decode cX10_isSign 24 = .ok (.if_icmp .ne 7, 3) := by decide +kernel
theorem dX10_isSign_27 : decode cX10_isSign 27 = .ok (.iconst 1, 1) := by decide +kernel
theorem dX10_isSign_28 : decode cX10_isSign 28 = .ok (.goto 4, 3) := by decide +kernel
theorem dX10_isSign_31 : decode cX10_isSign 31 = .ok (.iconst 0, 1) := by decide +kernel
theorem dX10_isSign_32 : decode cX10_isSign 32 = .ok (.ireturn, 1) := by decide +kernel
theorem dX10_isWord_0 : decode cX10_isWord 0 = .ok (.aload_n 0, 1) := by decide +kernel
theorem dX10_isWord_1 : decode cX10_isWord 1 = .ok (.getfield 222, 3) := by decide +kernel
theorem dX10_isWord_4 : decode cX10_isWord 4 = .ok (.ifCond .ne 27, 3) := by decide +kernel
theorem dX10_isWord_7 : decode cX10_isWord 7 = .ok (.aload_n 0, 1) := by decide +kernel
theorem dX10_isWord_8 : decode cX10_isWord 8 = .ok (.getfield 213, 3) := by decide +kernel
theorem dX10_isWord_11 : decode cX10_isWord 11 = .ok (.iconst 1, 1) := by decide +kernel
theorem dX10_isWord_12 : decode cX10_isWord 12 = .ok (.if_icmp .ne 19, 3) := by decide +kernel
theorem dX10_isWord_15 : decode cX10_isWord 15 = .ok (.aload_n 0, 1) := by decide +kernel
theorem dX10_isWord_16 : decode cX10_isWord 16 = .ok (.getfield 204, 3) := by decide +kernel
theorem dX10_isWord_19 : decode cX10_isWord 19 = .ok (.aload_n 0, 1) := by decide +kernel
theorem dX10_isWord_20 : decode cX10_isWord 20 = .ok (.getfield 210, 3) := by decide +kernel
theorem dX10_isWord_23 : decode cX10_isWord 23 = .ok (.isub, 1) := by decide +kernel
theorem dX10_isWord_24 : decode cX10_isWord 24 = .ok (.aload_n 1, 1) := by decide +kernel
theorem dX10_isWord_25 : decode cX10_isWord 25 = .ok (.invokevirtual 54, 3) := by decide +kernel
theorem dX10_isWord_28 : decode cX10_isWord 28 = .ok (.if_icmp .eq 5, 3) := by decide +kernel
theorem dX10_isWord_31 : decode cX10_isWord 31 = .ok (.iconst 0, 1) := by decide +kernel
theorem dX10_isWord_32 : decode cX10_isWord 32 = .ok (.ireturn, 1) := by decide +kernel
theorem dX10_isWord_33 : decode cX10_isWord 33 = .ok (.iconst 0, 1) := by decide +kernel
theorem dX10_isWord_34 : decode cX10_isWord 34 = .ok (.istore_n 2, 1) := by decide +kernel
theorem dX10_isWord_35 : decode cX10_isWord 35 = .ok (.iload_n 2, 1) := by decide +kernel
theorem dX10_isWord_36 : decode cX10_isWord 36 = .ok (.aload_n 1, 1) := by decide +kernel
theorem dX10_isWord_37 : decode cX10_isWord 37 = .ok (.invokevirtual 54, 3) := by decide +kernel
theorem dX10_isWord_40 : decode cX10_isWord 40 = .ok (.if_icmp .ge 30, 3) := by decide +kernel
theorem dX10_isWord_43 : decode cX10_isWord 43 = .ok (.aload_n 0, 1) := by decide +kernel
theorem dX10_isWord_44 : decode cX10_isWord 44 = .ok (.getfield 33, 3) := by decide +kernel
theorem dX10_isWord_47 : decode cX10_isWord 47 = .ok (.aload_n 0, 1) := by decide +kernel
theorem dX10_isWord_48 : decode cX10_isWord 48 = .ok (.getfield 210, 3) := by decide +kernel
theorem dX10_isWord_51 : decode cX10_isWord 51 = .ok (.iload_n 2, 1) := by decide +kernel
theorem dX10_isWord_52 : decode cX10_isWord 52 = .ok (.iadd, 1) := by decide +kernel
theorem dX10_isWord_53 : decode cX10_isWord 53 = .ok (.iaload, 1) := by decide +kernel
theorem dX10_isWord_54 : decode cX10_isWord 54 = .ok (.aload_n 1, 1) := by decide +kernel
theorem dX10_isWord_55 : decode cX10_isWord 55 = .ok (.iload_n 2, 1) := by decide +kernel
theorem dX10_isWord_56 : decode cX10_isWord 56 = .ok (.invokevirtual 60, 3) := by decide +kernel
theorem dX10_isWord_59 : decode cX10_isWord 59 = .ok (.if_icmp .eq 5, 3) := by decide +kernel
theorem dX10_isWord_62 : decode cX10_isWord 62 = .ok (.iconst 0, 1) := by decide +kernel
theorem dX10_isWord_63 : decode cX10_isWord 63 = .ok (.ireturn, 1) := by decide +kernel
theorem dX10_isWord_64 : decode cX10_isWord 64 = .ok (.iinc 2 1, 3) := by decide +kernel
theorem dX10_isWord_67 : decode cX10_isWord 67 = .ok (.goto (-32), 3) := by decide +kernel
theorem dX10_isWord_70 : decode cX10_isWord 70 = .ok (.iconst 1, 1) := by decide +kernel
theorem dX10_isWord_71 : decode cX10_isWord 71 = .ok (.ireturn, 1) := by decide +kernel
theorem dX10_takesSign_0 : decode cX10_takesSign 0 = .ok (.aload_n 0, 1) := by decide +kernel
theorem dX10_takesSign_1 : decode cX10_takesSign 1 = .ok (.aload_n 0, 1) := by decide +kernel
theorem dX10_takesSign_2 : decode cX10_takesSign 2 = .ok (.iload_n 1, 1) := by decide +kernel
theorem dX10_takesSign_3 : decode cX10_takesSign 3 = .ok (.invokevirtual 231, 3) := by decide +kernel
theorem dX10_takesSign_6 : decode cX10_takesSign 6 = .ok (.iconst 1, 1) := by decide +kernel
theorem dX10_takesSign_7 : decode cX10_takesSign 7 = .ok (.invokevirtual 234, 3) := by decide +kernel
theorem dX10_takesSign_10 : decode cX10_takesSign 10 = .ok (.pop, 1) := by decide +kernel
theorem dX10_takesSign_11 : decode cX10_takesSign 11 = .ok (.aload_n 0, 1) := by decide +kernel
theorem dX10_takesSign_12 : decode cX10_takesSign 12 = .ok (.invokevirtual 237, 3) := by decide +kernel
theorem dX10_takesSign_15 : decode cX10_takesSign 15 = .ok (.return_, 1) := by decide +kernel
theorem dX10_looksAt_0 : decode cX10_looksAt 0 = .ok (.aload_n 0, 1) := by decide +kernel
theorem dX10_looksAt_1 : decode cX10_looksAt 1 = .ok (.aload_n 0, 1) := by decide +kernel
theorem dX10_looksAt_2 : decode cX10_looksAt 2 = .ok (.getfield 213, 3) := by decide +kernel
theorem dX10_looksAt_5 : decode cX10_looksAt 5 = .ok (.iconst 2, 1) := by decide +kernel
theorem dX10_looksAt_6 : decode cX10_looksAt 6 = .ok (.if_icmp .ne 7, 3) := by decide +kernel
theorem dX10_looksAt_9 : decode cX10_looksAt 9 = .ok (.iconst 1, 1) := by decide +kernel
theorem dX10_looksAt_10 : decode cX10_looksAt 10 = .ok (.goto 4, 3) := by decide +kernel
theorem dX10_looksAt_13 : decode cX10_looksAt 13 = .ok (.iconst 0, 1) := by decide +kernel
theorem dX10_looksAt_14 : decode cX10_looksAt 14 = .ok (.iconst 1, 1) := by decide +kernel
theorem dX10_looksAt_15 : decode cX10_looksAt 15 = .ok (.invokevirtual 234, 3) := by decide +kernel
theorem dX10_looksAt_18 : decode cX10_looksAt 18 = .ok (.ifCond .eq 18, 3) := by decide +kernel
theorem dX10_looksAt_21 : decode cX10_looksAt 21 = .ok (.aload_n 0, 1) := by decide +kernel
theorem dX10_looksAt_22 : decode cX10_looksAt 22 = .ok (.aload_n 0, 1) := by decide +kernel
theorem dX10_looksAt_23 : decode cX10_looksAt 23 = .ok (.getfield 216, 3) := by decide +kernel
theorem dX10_looksAt_26 : decode cX10_looksAt 26 = .ok (.iload_n 1, 1) := by decide +kernel
theorem dX10_looksAt_27 : decode cX10_looksAt 27 = .ok (.iload_n 2, 1) := by decide +kernel
theorem dX10_looksAt_28 : decode cX10_looksAt 28 = .ok (.invokestatic 83, 3) := by decide +kernel
theorem dX10_looksAt_31 : decode cX10_looksAt 31 = .ok (.iconst 2, 1) := by decide +kernel
theorem dX10_looksAt_32 : decode cX10_looksAt 32 = .ok (.invokevirtual 234, 3) := by decide +kernel
theorem dX10_looksAt_35 : decode cX10_looksAt 35 = .ok (.pop, 1) := by decide +kernel
theorem dX10_looksAt_36 : decode cX10_looksAt 36 = .ok (.aload_n 0, 1) := by decide +kernel
theorem dX10_looksAt_37 : decode cX10_looksAt 37 = .ok (.getfield 222, 3) := by decide +kernel
theorem dX10_looksAt_40 : decode cX10_looksAt 40 = .ok (.ifCond .ne 7, 3) := by decide +kernel
theorem dX10_looksAt_43 : decode cX10_looksAt 43 = .ok (.iconst 1, 1) := by decide +kernel
theorem dX10_looksAt_44 : decode cX10_looksAt 44 = .ok (.goto 4, 3) := by decide +kernel
theorem dX10_looksAt_47 : decode cX10_looksAt 47 = .ok (.iconst 0, 1) := by decide +kernel
theorem dX10_looksAt_48 : decode cX10_looksAt 48 = .ok (.ireturn, 1) := by decide +kernel
theorem dX10_number_0 : decode cX10_number 0 = .ok (.aload_n 0, 1) := by decide +kernel
theorem dX10_number_1 : decode cX10_number 1 = .ok (.iload_n 1, 1) := by decide +kernel
theorem dX10_number_2 : decode cX10_number 2 = .ok (.iload_n 2, 1) := by decide +kernel
theorem dX10_number_3 : decode cX10_number 3 = .ok (.invokevirtual 240, 3) := by decide +kernel
theorem dX10_number_6 : decode cX10_number 6 = .ok (.istore_n 3, 1) := by decide +kernel
theorem dX10_number_7 : decode cX10_number 7 = .ok (.aload_n 0, 1) := by decide +kernel
theorem dX10_number_8 : decode cX10_number 8 = .ok (.getfield 216, 3) := by decide +kernel
theorem dX10_number_11 : decode cX10_number 11 = .ok (.istore 4, 2) := by decide +kernel
theorem dX10_number_13 : decode cX10_number 13 = .ok (.aload_n 0, 1) := by decide +kernel
theorem dX10_number_14 : decode cX10_number 14 = .ok (.invokevirtual 237, 3) := by decide +kernel
theorem dX10_number_17 : decode cX10_number 17 = .ok (.iload 4, 2) := by decide +kernel
theorem dX10_number_19 : decode cX10_number 19 = .ok (.ireturn, 1) := by decide +kernel
theorem dX10_isWhole_0 : decode cX10_isWhole 0 = .ok (.aload_n 0, 1) := by decide +kernel
theorem dX10_isWhole_1 : decode cX10_isWhole 1 = .ok (.iconst 0, 1) := by decide +kernel
theorem dX10_isWhole_2 : decode cX10_isWhole 2 = .ok (.putfield 64, 3) := by decide +kernel
theorem dX10_isWhole_5 : decode cX10_isWhole 5 = .ok (.aload_n 0, 1) := by decide +kernel
theorem dX10_isWhole_6 : decode cX10_isWhole 6 = .ok (.aload_n 0, 1) := by decide +kernel
theorem dX10_isWhole_7 : decode cX10_isWhole 7 = .ok (.getfield 222, 3) := by decide +kernel
theorem dX10_isWhole_10 : decode cX10_isWhole 10 = .ok (.putfield 201, 3) := by decide +kernel
theorem dX10_isWhole_13 : decode cX10_isWhole 13 = .ok (.aload_n 0, 1) := by decide +kernel
theorem dX10_isWhole_14 : decode cX10_isWhole 14 = .ok (.aload_n 0, 1) := by decide +kernel
theorem dX10_isWhole_15 : decode cX10_isWhole 15 = .ok (.getfield 225, 3) := by decide +kernel
theorem dX10_isWhole_18 : decode cX10_isWhole 18 = .ok (.putfield 36, 3) := by decide +kernel
theorem dX10_isWhole_21 : decode cX10_isWhole 21 = .ok (.aload_n 0, 1) := by decide +kernel
theorem dX10_isWhole_22 : decode cX10_isWhole 22 = .ok (.getfield 222, 3) := by decide +kernel
theorem dX10_isWhole_25 : decode cX10_isWhole 25 = .ok (.ifCond .ne 7, 3) := by decide +kernel
theorem dX10_isWhole_28 : decode cX10_isWhole 28 = .ok (.iconst 1, 1) := by decide +kernel
theorem dX10_isWhole_29 : decode cX10_isWhole 29 = .ok (.goto 4, 3) := by decide +kernel
theorem dX10_isWhole_32 : decode cX10_isWhole 32 = .ok (.iconst 0, 1) := by decide +kernel
theorem dX10_isWhole_33 : decode cX10_isWhole 33 = .ok (.ireturn, 1) := by decide +kernel
theorem dX10_readsBishop_0 : decode cX10_readsBishop 0 = .ok (.aload_n 0, 1) := by decide +kernel
theorem dX10_readsBishop_1 : decode cX10_readsBishop 1 = .ok (.invokevirtual 228, 3) := by decide +kernel
theorem dX10_readsBishop_4 : decode cX10_readsBishop 4 = .ok (.aload_n 0, 1) := by decide +kernel
theorem dX10_readsBishop_5 : decode cX10_readsBishop 5 = .ok (.iconst 0, 1) := by decide +kernel
theorem dX10_readsBishop_6 : decode cX10_readsBishop 6 = .ok (.iconst 1, 1) := by decide +kernel
theorem dX10_readsBishop_7 : decode cX10_readsBishop 7 = .ok (.invokevirtual 240, 3) := by decide +kernel
theorem dX10_readsBishop_10 : decode cX10_readsBishop 10 = .ok (.ifCond .eq 10, 3) := by decide +kernel
theorem dX10_readsBishop_13 : decode cX10_readsBishop 13 = .ok (.aload_n 0, 1) := by decide +kernel
theorem dX10_readsBishop_14 : decode cX10_readsBishop 14 = .ok (.getfield 216, 3) := by decide +kernel
theorem dX10_readsBishop_17 : decode cX10_readsBishop 17 = .ok (.goto 4, 3) := by decide +kernel
theorem dX10_readsBishop_20 : decode cX10_readsBishop 20 = .ok (.iconst 0, 1) := by decide +kernel
theorem dX10_readsBishop_21 : decode cX10_readsBishop 21 = .ok (.istore_n 1, 1) := by decide +kernel
theorem dX10_readsBishop_22 : decode cX10_readsBishop 22 = .ok (.aload_n 0, 1) := by decide +kernel
theorem dX10_readsBishop_23 : decode cX10_readsBishop 23 = .ok (.aload_n 0, 1) := by decide +kernel
theorem dX10_readsBishop_24 : decode cX10_readsBishop 24 = .ok (.getfield 222, 3) := by decide +kernel
theorem dX10_readsBishop_27 : decode cX10_readsBishop 27 = .ok (.ifCond .ne 14, 3) := by decide +kernel
theorem dX10_readsBishop_30 : decode cX10_readsBishop 30 = .ok (.aload_n 0, 1) := by decide +kernel
theorem dX10_readsBishop_31 : decode cX10_readsBishop 31 = .ok (.iconst 0, 1) := by decide +kernel
theorem dX10_readsBishop_32 : decode cX10_readsBishop 32 = .ok (.iload_n 1, 1) := by decide +kernel
theorem dX10_readsBishop_33 : decode cX10_readsBishop 33 = .ok (.invokevirtual 94, 3) := by decide +kernel
theorem dX10_readsBishop_36 : decode cX10_readsBishop 36 = .ok (.bipush 8, 2) := by decide +kernel
theorem dX10_readsBishop_38 : decode cX10_readsBishop 38 = .ok (.if_icmp .ge 7, 3) := by decide +kernel
theorem dX10_readsBishop_41 : decode cX10_readsBishop 41 = .ok (.iconst 1, 1) := by decide +kernel
theorem dX10_readsBishop_42 : decode cX10_readsBishop 42 = .ok (.goto 4, 3) := by decide +kernel
theorem dX10_readsBishop_45 : decode cX10_readsBishop 45 = .ok (.iconst 0, 1) := by decide +kernel
theorem dX10_readsBishop_46 : decode cX10_readsBishop 46 = .ok (.iconst 4, 1) := by decide +kernel
theorem dX10_readsBishop_47 : decode cX10_readsBishop 47 = .ok (.invokevirtual 234, 3) := by decide +kernel
theorem dX10_readsBishop_50 : decode cX10_readsBishop 50 = .ok (.pop, 1) := by decide +kernel
theorem dX10_readsBishop_51 : decode cX10_readsBishop 51 = .ok (.aload_n 0, 1) := by decide +kernel
theorem dX10_readsBishop_52 : decode cX10_readsBishop 52 = .ok (.invokevirtual 237, 3) := by decide +kernel
theorem dX10_readsBishop_55 : decode cX10_readsBishop 55 = .ok (.aload_n 0, 1) := by decide +kernel
theorem dX10_readsBishop_56 : decode cX10_readsBishop 56 = .ok (.iconst 0, 1) := by decide +kernel
theorem dX10_readsBishop_57 : decode cX10_readsBishop 57 = .ok (.aload_n 0, 1) := by decide +kernel
theorem dX10_readsBishop_58 : decode cX10_readsBishop 58 = .ok (.getfield 7, 3) := by decide +kernel
theorem dX10_readsBishop_61 : decode cX10_readsBishop 61 = .ok (.iconst 0, 1) := by decide +kernel
theorem dX10_readsBishop_62 : decode cX10_readsBishop 62 = .ok (.iaload, 1) := by decide +kernel
theorem dX10_readsBishop_63 : decode cX10_readsBishop 63 = .ok (.iconst 1, 1) := by decide +kernel
theorem dX10_readsBishop_64 : decode cX10_readsBishop 64 = .ok (.isub, 1) := by decide +kernel
theorem dX10_readsBishop_65 : decode cX10_readsBishop 65 = .ok (.invokevirtual 243, 3) := by decide +kernel
theorem dX10_readsBishop_68 : decode cX10_readsBishop 68 = .ok (.istore_n 2, 1) := by decide +kernel
theorem dX10_readsBishop_69 : decode cX10_readsBishop 69 = .ok (.aload_n 0, 1) := by decide +kernel
theorem dX10_readsBishop_70 : decode cX10_readsBishop 70 = .ok (.iconst 0, 1) := by decide +kernel
theorem dX10_readsBishop_71 : decode cX10_readsBishop 71 = .ok (.aload_n 0, 1) := by decide +kernel
theorem dX10_readsBishop_72 : decode cX10_readsBishop 72 = .ok (.getfield 7, 3) := by decide +kernel
theorem dX10_readsBishop_75 : decode cX10_readsBishop 75 = .ok (.iconst 0, 1) := by decide +kernel
theorem dX10_readsBishop_76 : decode cX10_readsBishop 76 = .ok (.iaload, 1) := by decide +kernel
theorem dX10_readsBishop_77 : decode cX10_readsBishop 77 = .ok (.iconst 1, 1) := by decide +kernel
theorem dX10_readsBishop_78 : decode cX10_readsBishop 78 = .ok (.isub, 1) := by decide +kernel
theorem dX10_readsBishop_79 : decode cX10_readsBishop 79 = .ok (.invokevirtual 240, 3) := by decide +kernel
theorem dX10_readsBishop_82 : decode cX10_readsBishop 82 = .ok (.ifCond .eq 10, 3) := by decide +kernel
theorem dX10_readsBishop_85 : decode cX10_readsBishop 85 = .ok (.aload_n 0, 1) := by decide +kernel
theorem dX10_readsBishop_86 : decode cX10_readsBishop 86 = .ok (.getfield 216, 3) := by decide +kernel
theorem dX10_readsBishop_89 : decode cX10_readsBishop 89 = .ok (.goto 4, 3) := by decide +kernel
theorem dX10_readsBishop_92 : decode cX10_readsBishop 92 = .ok (.iconst 0, 1) := by decide +kernel
theorem dX10_readsBishop_93 : decode cX10_readsBishop 93 = .ok (.istore_n 3, 1) := by decide +kernel
theorem dX10_readsBishop_94 : decode cX10_readsBishop 94 = .ok (.aload_n 0, 1) := by decide +kernel
theorem dX10_readsBishop_95 : decode cX10_readsBishop 95 = .ok (.aload_n 0, 1) := by decide +kernel
theorem dX10_readsBishop_96 : decode cX10_readsBishop 96 = .ok (.getfield 222, 3) := by decide +kernel
theorem dX10_readsBishop_99 : decode cX10_readsBishop 99 = .ok (.ifCond .ne 22, 3) := by decide +kernel
theorem dX10_readsBishop_102 : decode cX10_readsBishop 102 = .ok (.aload_n 0, 1) := by decide +kernel
theorem dX10_readsBishop_103 : decode cX10_readsBishop 103 = .ok (.iconst 0, 1) := by decide +kernel
theorem dX10_readsBishop_104 : decode cX10_readsBishop 104 = .ok (.aload_n 0, 1) := by decide +kernel
theorem dX10_readsBishop_105 : decode cX10_readsBishop 105 = .ok (.getfield 7, 3) := by decide +kernel
theorem dX10_readsBishop_108 : decode cX10_readsBishop 108 = .ok (.iconst 0, 1) := by decide +kernel
theorem dX10_readsBishop_109 : decode cX10_readsBishop 109 = .ok (.iaload, 1) := by decide +kernel
theorem dX10_readsBishop_110 : decode cX10_readsBishop 110 = .ok (.iload_n 2, 1) := by decide +kernel
theorem dX10_readsBishop_111 : decode cX10_readsBishop 111 = .ok (.imul, 1) := by decide +kernel
theorem dX10_readsBishop_112 : decode cX10_readsBishop 112 = .ok (.iload_n 3, 1) := by decide +kernel
theorem dX10_readsBishop_113 : decode cX10_readsBishop 113 = .ok (.iadd, 1) := by decide +kernel
theorem dX10_readsBishop_114 : decode cX10_readsBishop 114 = .ok (.invokevirtual 90, 3) := by decide +kernel
theorem dX10_readsBishop_117 : decode cX10_readsBishop 117 = .ok (.iconst (-1), 1) := by decide +kernel
theorem dX10_readsBishop_118 : decode cX10_readsBishop 118 = .ok (.if_icmp .ne 7, 3) := by decide +kernel
theorem dX10_readsBishop_121 : decode cX10_readsBishop 121 = .ok (.iconst 1, 1) := by decide +kernel
theorem dX10_readsBishop_122 : decode cX10_readsBishop 122 = .ok (.goto 4, 3) := by decide +kernel
theorem dX10_readsBishop_125 : decode cX10_readsBishop 125 = .ok (.iconst 0, 1) := by decide +kernel
theorem dX10_readsBishop_126 : decode cX10_readsBishop 126 = .ok (.iconst 3, 1) := by decide +kernel
theorem dX10_readsBishop_127 : decode cX10_readsBishop 127 = .ok (.invokevirtual 234, 3) := by decide +kernel
theorem dX10_readsBishop_130 : decode cX10_readsBishop 130 = .ok (.pop, 1) := by decide +kernel
theorem dX10_readsBishop_131 : decode cX10_readsBishop 131 = .ok (.aload_n 0, 1) := by decide +kernel
theorem dX10_readsBishop_132 : decode cX10_readsBishop 132 = .ok (.invokevirtual 237, 3) := by decide +kernel
theorem dX10_readsBishop_135 : decode cX10_readsBishop 135 = .ok (.aload_n 0, 1) := by decide +kernel
theorem dX10_readsBishop_136 : decode cX10_readsBishop 136 = .ok (.bipush 59, 2) := by decide +kernel
theorem dX10_readsBishop_138 : decode cX10_readsBishop 138 = .ok (.invokevirtual 246, 3) := by decide +kernel
theorem dX10_readsBishop_141 : decode cX10_readsBishop 141 = .ok (.aload_n 0, 1) := by decide +kernel
theorem dX10_readsBishop_142 : decode cX10_readsBishop 142 = .ok (.getfield 222, 3) := by decide +kernel
theorem dX10_readsBishop_145 : decode cX10_readsBishop 145 = .ok (.ifCond .eq 4, 3) := by decide +kernel
theorem dX10_readsBishop_148 : decode cX10_readsBishop 148 = .ok (.return_, 1) := by decide +kernel
theorem dX10_readsBishop_149 : decode cX10_readsBishop 149 = .ok (.aload_n 0, 1) := by decide +kernel
theorem dX10_readsBishop_150 : decode cX10_readsBishop 150 = .ok (.iconst 0, 1) := by decide +kernel
theorem dX10_readsBishop_151 : decode cX10_readsBishop 151 = .ok (.aload_n 0, 1) := by decide +kernel
theorem dX10_readsBishop_152 : decode cX10_readsBishop 152 = .ok (.getfield 7, 3) := by decide +kernel
theorem dX10_readsBishop_155 : decode cX10_readsBishop 155 = .ok (.iconst 0, 1) := by decide +kernel
theorem dX10_readsBishop_156 : decode cX10_readsBishop 156 = .ok (.iaload, 1) := by decide +kernel
theorem dX10_readsBishop_157 : decode cX10_readsBishop 157 = .ok (.iload_n 2, 1) := by decide +kernel
theorem dX10_readsBishop_158 : decode cX10_readsBishop 158 = .ok (.imul, 1) := by decide +kernel
theorem dX10_readsBishop_159 : decode cX10_readsBishop 159 = .ok (.iload_n 3, 1) := by decide +kernel
theorem dX10_readsBishop_160 : decode cX10_readsBishop 160 = .ok (.iadd, 1) := by decide +kernel
theorem dX10_readsBishop_161 : decode cX10_readsBishop 161 = .ok (.iload_n 1, 1) := by decide +kernel
theorem dX10_readsBishop_162 : decode cX10_readsBishop 162 = .ok (.invokevirtual 120, 3) := by decide +kernel
theorem dX10_readsBishop_165 : decode cX10_readsBishop 165 = .ok (.aload_n 0, 1) := by decide +kernel
theorem dX10_readsBishop_166 : decode cX10_readsBishop 166 = .ok (.iconst 1, 1) := by decide +kernel
theorem dX10_readsBishop_167 : decode cX10_readsBishop 167 = .ok (.aload_n 0, 1) := by decide +kernel
theorem dX10_readsBishop_168 : decode cX10_readsBishop 168 = .ok (.getfield 7, 3) := by decide +kernel
theorem dX10_readsBishop_171 : decode cX10_readsBishop 171 = .ok (.iconst 0, 1) := by decide +kernel
theorem dX10_readsBishop_172 : decode cX10_readsBishop 172 = .ok (.iaload, 1) := by decide +kernel
theorem dX10_readsBishop_173 : decode cX10_readsBishop 173 = .ok (.iload_n 2, 1) := by decide +kernel
theorem dX10_readsBishop_174 : decode cX10_readsBishop 174 = .ok (.imul, 1) := by decide +kernel
theorem dX10_readsBishop_175 : decode cX10_readsBishop 175 = .ok (.iload_n 3, 1) := by decide +kernel
theorem dX10_readsBishop_176 : decode cX10_readsBishop 176 = .ok (.iadd, 1) := by decide +kernel
theorem dX10_readsBishop_177 : decode cX10_readsBishop 177 = .ok (.iload_n 1, 1) := by decide +kernel
theorem dX10_readsBishop_178 : decode cX10_readsBishop 178 = .ok (.invokevirtual 120, 3) := by decide +kernel
theorem dX10_readsBishop_181 : decode cX10_readsBishop 181 = .ok (.aload_n 0, 1) := by decide +kernel
theorem dX10_readsBishop_182 : decode cX10_readsBishop 182 = .ok (.getfield 7, 3) := by decide +kernel
theorem dX10_readsBishop_185 : decode cX10_readsBishop 185 = .ok (.bipush 9, 2) := by decide +kernel
theorem dX10_readsBishop_187 : decode cX10_readsBishop 187 = .ok (.iload_n 1, 1) := by decide +kernel
theorem dX10_readsBishop_188 : decode cX10_readsBishop 188 = .ok (.iadd, 1) := by decide +kernel
theorem dX10_readsBishop_189 : decode cX10_readsBishop 189 = .ok (.dup2, 1) := by decide +kernel
theorem dX10_readsBishop_190 : decode cX10_readsBishop 190 = .ok (.iaload, 1) := by decide +kernel
theorem dX10_readsBishop_191 : decode cX10_readsBishop 191 = .ok (.iconst 1, 1) := by decide +kernel
theorem dX10_readsBishop_192 : decode cX10_readsBishop 192 = .ok (.iadd, 1) := by decide +kernel
theorem dX10_readsBishop_193 : decode cX10_readsBishop 193 = .ok (.iastore, 1) := by decide +kernel
theorem dX10_readsBishop_194 : decode cX10_readsBishop 194 = .ok (.return_, 1) := by decide +kernel
theorem dX10_readsPass_0 : decode cX10_readsPass 0 = .ok (.aload_n 0, 1) := by decide +kernel
theorem dX10_readsPass_1 : decode cX10_readsPass 1 = .ok (.aload_n 0, 1) := by decide +kernel
theorem dX10_readsPass_2 : decode cX10_readsPass 2 = .ok (.ldc 249, 2) := by decide +kernel
theorem dX10_readsPass_4 : decode cX10_readsPass 4 = .ok (.invokevirtual 251, 3) := by decide +kernel
theorem dX10_readsPass_7 : decode cX10_readsPass 7 = .ok (.iconst 1, 1) := by decide +kernel
theorem dX10_readsPass_8 : decode cX10_readsPass 8 = .ok (.invokevirtual 234, 3) := by decide +kernel
theorem dX10_readsPass_11 : decode cX10_readsPass 11 = .ok (.pop, 1) := by decide +kernel
theorem dX10_readsPass_12 : decode cX10_readsPass 12 = .ok (.aload_n 0, 1) := by decide +kernel
theorem dX10_readsPass_13 : decode cX10_readsPass 13 = .ok (.aload_n 0, 1) := by decide +kernel
theorem dX10_readsPass_14 : decode cX10_readsPass 14 = .ok (.getfield 7, 3) := by decide +kernel
theorem dX10_readsPass_17 : decode cX10_readsPass 17 = .ok (.iconst 3, 1) := by decide +kernel
theorem dX10_readsPass_18 : decode cX10_readsPass 18 = .ok (.iaload, 1) := by decide +kernel
theorem dX10_readsPass_19 : decode cX10_readsPass 19 = .ok (.iconst 4, 1) := by decide +kernel
theorem dX10_readsPass_20 : decode cX10_readsPass 20 = .ok (.if_icmp .ge 7, 3) := by decide +kernel
theorem dX10_readsPass_23 : decode cX10_readsPass 23 = .ok (.iconst 1, 1) := by decide +kernel
theorem dX10_readsPass_24 : decode cX10_readsPass 24 = .ok (.goto 4, 3) := by decide +kernel
theorem dX10_readsPass_27 : decode cX10_readsPass 27 = .ok (.iconst 0, 1) := by decide +kernel
theorem dX10_readsPass_28 : decode cX10_readsPass 28 = .ok (.iconst 4, 1) := by decide +kernel
theorem dX10_readsPass_29 : decode cX10_readsPass 29 = .ok (.invokevirtual 234, 3) := by decide +kernel
theorem dX10_readsPass_32 : decode cX10_readsPass 32 = .ok (.pop, 1) := by decide +kernel
theorem dX10_readsPass_33 : decode cX10_readsPass 33 = .ok (.aload_n 0, 1) := by decide +kernel
theorem dX10_readsPass_34 : decode cX10_readsPass 34 = .ok (.invokevirtual 237, 3) := by decide +kernel
theorem dX10_readsPass_37 : decode cX10_readsPass 37 = .ok (.aload_n 0, 1) := by decide +kernel
theorem dX10_readsPass_38 : decode cX10_readsPass 38 = .ok (.iconst 1, 1) := by decide +kernel
theorem dX10_readsPass_39 : decode cX10_readsPass 39 = .ok (.bipush 9, 2) := by decide +kernel
theorem dX10_readsPass_41 : decode cX10_readsPass 41 = .ok (.invokevirtual 243, 3) := by decide +kernel
theorem dX10_readsPass_44 : decode cX10_readsPass 44 = .ok (.istore_n 1, 1) := by decide +kernel
theorem dX10_readsPass_45 : decode cX10_readsPass 45 = .ok (.aload_n 0, 1) := by decide +kernel
theorem dX10_readsPass_46 : decode cX10_readsPass 46 = .ok (.iconst 0, 1) := by decide +kernel
theorem dX10_readsPass_47 : decode cX10_readsPass 47 = .ok (.bipush 9, 2) := by decide +kernel
theorem dX10_readsPass_49 : decode cX10_readsPass 49 = .ok (.invokevirtual 243, 3) := by decide +kernel
theorem dX10_readsPass_52 : decode cX10_readsPass 52 = .ok (.istore_n 2, 1) := by decide +kernel
theorem dX10_readsPass_53 : decode cX10_readsPass 53 = .ok (.aload_n 0, 1) := by decide +kernel
theorem dX10_readsPass_54 : decode cX10_readsPass 54 = .ok (.iconst 0, 1) := by decide +kernel
theorem dX10_readsPass_55 : decode cX10_readsPass 55 = .ok (.bipush 9, 2) := by decide +kernel
theorem dX10_readsPass_57 : decode cX10_readsPass 57 = .ok (.invokevirtual 243, 3) := by decide +kernel
theorem dX10_readsPass_60 : decode cX10_readsPass 60 = .ok (.istore_n 3, 1) := by decide +kernel
theorem dX10_readsPass_61 : decode cX10_readsPass 61 = .ok (.aload_n 0, 1) := by decide +kernel
theorem dX10_readsPass_62 : decode cX10_readsPass 62 = .ok (.bipush 59, 2) := by decide +kernel
theorem dX10_readsPass_64 : decode cX10_readsPass 64 = .ok (.invokevirtual 246, 3) := by decide +kernel
theorem dX10_readsPass_67 : decode cX10_readsPass 67 = .ok (.aload_n 0, 1) := by decide +kernel
theorem dX10_readsPass_68 : decode cX10_readsPass 68 = .ok (.getfield 222, 3) := by decide +kernel
theorem dX10_readsPass_71 : decode cX10_readsPass 71 = .ok (.ifCond .eq 4, 3) := by decide +kernel
theorem dX10_readsPass_74 : decode cX10_readsPass 74 = .ok (.return_, 1) := by decide +kernel
theorem dX10_readsPass_75 : decode cX10_readsPass 75 = .ok (.aload_n 0, 1) := by decide +kernel
theorem dX10_readsPass_76 : decode cX10_readsPass 76 = .ok (.aload_n 0, 1) := by decide +kernel
theorem dX10_readsPass_77 : decode cX10_readsPass 77 = .ok (.getfield 7, 3) := by decide +kernel
theorem dX10_readsPass_80 : decode cX10_readsPass 80 = .ok (.iconst 3, 1) := by decide +kernel
theorem dX10_readsPass_81 : decode cX10_readsPass 81 = .ok (.iaload, 1) := by decide +kernel
theorem dX10_readsPass_82 : decode cX10_readsPass 82 = .ok (.iconst 0, 1) := by decide +kernel
theorem dX10_readsPass_83 : decode cX10_readsPass 83 = .ok (.iload_n 1, 1) := by decide +kernel
theorem dX10_readsPass_84 : decode cX10_readsPass 84 = .ok (.invokevirtual 170, 3) := by decide +kernel
theorem dX10_readsPass_87 : decode cX10_readsPass 87 = .ok (.aload_n 0, 1) := by decide +kernel
theorem dX10_readsPass_88 : decode cX10_readsPass 88 = .ok (.aload_n 0, 1) := by decide +kernel
theorem dX10_readsPass_89 : decode cX10_readsPass 89 = .ok (.getfield 7, 3) := by decide +kernel
theorem dX10_readsPass_92 : decode cX10_readsPass 92 = .ok (.iconst 3, 1) := by decide +kernel
theorem dX10_readsPass_93 : decode cX10_readsPass 93 = .ok (.iaload, 1) := by decide +kernel
theorem dX10_readsPass_94 : decode cX10_readsPass 94 = .ok (.iconst 1, 1) := by decide +kernel
theorem dX10_readsPass_95 : decode cX10_readsPass 95 = .ok (.iload_n 2, 1) := by decide +kernel
theorem dX10_readsPass_96 : decode cX10_readsPass 96 = .ok (.invokevirtual 170, 3) := by decide +kernel
theorem dX10_readsPass_99 : decode cX10_readsPass 99 = .ok (.aload_n 0, 1) := by decide +kernel
theorem dX10_readsPass_100 : decode cX10_readsPass 100 = .ok (.aload_n 0, 1) := by decide +kernel
theorem dX10_readsPass_101 : decode cX10_readsPass 101 = .ok (.getfield 7, 3) := by decide +kernel
theorem dX10_readsPass_104 : decode cX10_readsPass 104 = .ok (.iconst 3, 1) := by decide +kernel
theorem dX10_readsPass_105 : decode cX10_readsPass 105 = .ok (.iaload, 1) := by decide +kernel
theorem dX10_readsPass_106 : decode cX10_readsPass 106 = .ok (.iconst 2, 1) := by decide +kernel
theorem dX10_readsPass_107 : decode cX10_readsPass 107 = .ok (.iload_n 3, 1) := by decide +kernel
theorem dX10_readsPass_108 : decode cX10_readsPass 108 = .ok (.invokevirtual 170, 3) := by decide +kernel
theorem dX10_readsPass_111 : decode cX10_readsPass 111 = .ok (.aload_n 0, 1) := by decide +kernel
theorem dX10_readsPass_112 : decode cX10_readsPass 112 = .ok (.getfield 7, 3) := by decide +kernel
theorem dX10_readsPass_115 : decode cX10_readsPass 115 = .ok (.bipush 11, 2) := by decide +kernel
theorem dX10_readsPass_117 : decode cX10_readsPass 117 = .ok (.dup2, 1) := by decide +kernel
theorem dX10_readsPass_118 : decode cX10_readsPass 118 = .ok (.iaload, 1) := by decide +kernel
theorem dX10_readsPass_119 : decode cX10_readsPass 119 = .ok (.iload_n 2, 1) := by decide +kernel
theorem dX10_readsPass_120 : decode cX10_readsPass 120 = .ok (.iload_n 3, 1) := by decide +kernel
theorem dX10_readsPass_121 : decode cX10_readsPass 121 = .ok (.iadd, 1) := by decide +kernel
theorem dX10_readsPass_122 : decode cX10_readsPass 122 = .ok (.iadd, 1) := by decide +kernel
theorem dX10_readsPass_123 : decode cX10_readsPass 123 = .ok (.iastore, 1) := by decide +kernel
theorem dX10_readsPass_124 : decode cX10_readsPass 124 = .ok (.aload_n 0, 1) := by decide +kernel
theorem dX10_readsPass_125 : decode cX10_readsPass 125 = .ok (.getfield 7, 3) := by decide +kernel
theorem dX10_readsPass_128 : decode cX10_readsPass 128 = .ok (.iconst 3, 1) := by decide +kernel
theorem dX10_readsPass_129 : decode cX10_readsPass 129 = .ok (.dup2, 1) := by decide +kernel
theorem dX10_readsPass_130 : decode cX10_readsPass 130 = .ok (.iaload, 1) := by decide +kernel
theorem dX10_readsPass_131 : decode cX10_readsPass 131 = .ok (.iconst 1, 1) := by decide +kernel
theorem dX10_readsPass_132 : decode cX10_readsPass 132 = .ok (.iadd, 1) := by decide +kernel
theorem dX10_readsPass_133 : decode cX10_readsPass 133 = .ok (.iastore, 1) := by decide +kernel
theorem dX10_readsPass_134 : decode cX10_readsPass 134 = .ok (.return_, 1) := by decide +kernel
theorem dX10_readsSnow_0 : decode cX10_readsSnow 0 = .ok (.aload_n 0, 1) := by decide +kernel
theorem dX10_readsSnow_1 : decode cX10_readsSnow 1 = .ok (.aload_n 0, 1) := by decide +kernel
theorem dX10_readsSnow_2 : decode cX10_readsSnow 2 = .ok (.ldc 255, 2) := by decide +kernel
theorem dX10_readsSnow_4 : decode cX10_readsSnow 4 = .ok (.invokevirtual 251, 3) := by decide +kernel
theorem dX10_readsSnow_7 : decode cX10_readsSnow 7 = .ok (.iconst 1, 1) := by decide +kernel
theorem dX10_readsSnow_8 : decode cX10_readsSnow 8 = .ok (.invokevirtual 234, 3) := by decide +kernel
theorem dX10_readsSnow_11 : decode cX10_readsSnow 11 = .ok (.pop, 1) := by decide +kernel
theorem dX10_readsSnow_12 : decode cX10_readsSnow 12 = .ok (.aload_n 0, 1) := by decide +kernel
theorem dX10_readsSnow_13 : decode cX10_readsSnow 13 = .ok (.invokevirtual 237, 3) := by decide +kernel
theorem dX10_readsSnow_16 : decode cX10_readsSnow 16 = .ok (.aload_n 0, 1) := by decide +kernel
theorem dX10_readsSnow_17 : decode cX10_readsSnow 17 = .ok (.iconst 0, 1) := by decide +kernel
theorem dX10_readsSnow_18 : decode cX10_readsSnow 18 = .ok (.aload_n 0, 1) := by decide +kernel
theorem dX10_readsSnow_19 : decode cX10_readsSnow 19 = .ok (.getfield 7, 3) := by decide +kernel
theorem dX10_readsSnow_22 : decode cX10_readsSnow 22 = .ok (.iconst 3, 1) := by decide +kernel
theorem dX10_readsSnow_23 : decode cX10_readsSnow 23 = .ok (.iaload, 1) := by decide +kernel
theorem dX10_readsSnow_24 : decode cX10_readsSnow 24 = .ok (.iconst 1, 1) := by decide +kernel
theorem dX10_readsSnow_25 : decode cX10_readsSnow 25 = .ok (.isub, 1) := by decide +kernel
theorem dX10_readsSnow_26 : decode cX10_readsSnow 26 = .ok (.invokevirtual 243, 3) := by decide +kernel
theorem dX10_readsSnow_29 : decode cX10_readsSnow 29 = .ok (.istore_n 1, 1) := by decide +kernel
theorem dX10_readsSnow_30 : decode cX10_readsSnow 30 = .ok (.aload_n 0, 1) := by decide +kernel
theorem dX10_readsSnow_31 : decode cX10_readsSnow 31 = .ok (.iconst 0, 1) := by decide +kernel
theorem dX10_readsSnow_32 : decode cX10_readsSnow 32 = .ok (.bipush 11, 2) := by decide +kernel
theorem dX10_readsSnow_34 : decode cX10_readsSnow 34 = .ok (.invokevirtual 243, 3) := by decide +kernel
theorem dX10_readsSnow_37 : decode cX10_readsSnow 37 = .ok (.istore_n 2, 1) := by decide +kernel
theorem dX10_readsSnow_38 : decode cX10_readsSnow 38 = .ok (.aload_n 0, 1) := by decide +kernel
theorem dX10_readsSnow_39 : decode cX10_readsSnow 39 = .ok (.iconst 0, 1) := by decide +kernel
theorem dX10_readsSnow_40 : decode cX10_readsSnow 40 = .ok (.bipush 9, 2) := by decide +kernel
theorem dX10_readsSnow_42 : decode cX10_readsSnow 42 = .ok (.invokevirtual 243, 3) := by decide +kernel
theorem dX10_readsSnow_45 : decode cX10_readsSnow 45 = .ok (.istore_n 3, 1) := by decide +kernel
theorem dX10_readsSnow_46 : decode cX10_readsSnow 46 = .ok (.aload_n 0, 1) := by decide +kernel
theorem dX10_readsSnow_47 : decode cX10_readsSnow 47 = .ok (.bipush 59, 2) := by decide +kernel
theorem dX10_readsSnow_49 : decode cX10_readsSnow 49 = .ok (.invokevirtual 246, 3) := by decide +kernel
theorem dX10_readsSnow_52 : decode cX10_readsSnow 52 = .ok (.aload_n 0, 1) := by decide +kernel
theorem dX10_readsSnow_53 : decode cX10_readsSnow 53 = .ok (.getfield 222, 3) := by decide +kernel
theorem dX10_readsSnow_56 : decode cX10_readsSnow 56 = .ok (.ifCond .ne 12, 3) := by decide +kernel
theorem dX10_readsSnow_59 : decode cX10_readsSnow 59 = .ok (.aload_n 0, 1) := by decide +kernel
theorem dX10_readsSnow_60 : decode cX10_readsSnow 60 = .ok (.iload_n 1, 1) := by decide +kernel
theorem dX10_readsSnow_61 : decode cX10_readsSnow 61 = .ok (.iconst 3, 1) := by decide +kernel
theorem dX10_readsSnow_62 : decode cX10_readsSnow 62 = .ok (.iload_n 2, 1) := by decide +kernel
theorem dX10_readsSnow_63 : decode cX10_readsSnow 63 = .ok (.iadd, 1) := by decide +kernel
theorem dX10_readsSnow_64 : decode cX10_readsSnow 64 = .ok (.iload_n 3, 1) := by decide +kernel
theorem dX10_readsSnow_65 : decode cX10_readsSnow 65 = .ok (.invokevirtual 170, 3) := by decide +kernel
theorem dX10_readsSnow_68 : decode cX10_readsSnow 68 = .ok (.return_, 1) := by decide +kernel
theorem dX10_readsSetup_0 : decode cX10_readsSetup 0 = .ok (.aload_n 0, 1) := by decide +kernel
theorem dX10_readsSetup_1 : decode cX10_readsSetup 1 = .ok (.aload_n 0, 1) := by decide +kernel
theorem dX10_readsSetup_2 : decode cX10_readsSetup 2 = .ok (.ldc_w 257, 3) := by decide +kernel
theorem dX10_readsSetup_5 : decode cX10_readsSetup 5 = .ok (.invokevirtual 251, 3) := by decide +kernel
theorem dX10_readsSetup_8 : decode cX10_readsSetup 8 = .ok (.iconst 1, 1) := by decide +kernel
theorem dX10_readsSetup_9 : decode cX10_readsSetup 9 = .ok (.invokevirtual 234, 3) := by decide +kernel
theorem dX10_readsSetup_12 : decode cX10_readsSetup 12 = .ok (.pop, 1) := by decide +kernel
theorem dX10_readsSetup_13 : decode cX10_readsSetup 13 = .ok (.aload_n 0, 1) := by decide +kernel
theorem dX10_readsSetup_14 : decode cX10_readsSetup 14 = .ok (.invokevirtual 237, 3) := by decide +kernel
theorem dX10_readsSetup_17 : decode cX10_readsSetup 17 = .ok (.aload_n 0, 1) := by decide +kernel
theorem dX10_readsSetup_18 : decode cX10_readsSetup 18 = .ok (.getfield 7, 3) := by decide +kernel
theorem dX10_readsSetup_21 : decode cX10_readsSetup 21 = .ok (.iconst 0, 1) := by decide +kernel
theorem dX10_readsSetup_22 : decode cX10_readsSetup 22 = .ok (.aload_n 0, 1) := by decide +kernel
theorem dX10_readsSetup_23 : decode cX10_readsSetup 23 = .ok (.iconst 4, 1) := by decide +kernel
theorem dX10_readsSetup_24 : decode cX10_readsSetup 24 = .ok (.bipush 8, 2) := by decide +kernel
theorem dX10_readsSetup_26 : decode cX10_readsSetup 26 = .ok (.invokevirtual 243, 3) := by decide +kernel
theorem dX10_readsSetup_29 : decode cX10_readsSetup 29 = .ok (.iastore, 1) := by decide +kernel
theorem dX10_readsSetup_30 : decode cX10_readsSetup 30 = .ok (.aload_n 0, 1) := by decide +kernel
theorem dX10_readsSetup_31 : decode cX10_readsSetup 31 = .ok (.getfield 7, 3) := by decide +kernel
theorem dX10_readsSetup_34 : decode cX10_readsSetup 34 = .ok (.iconst 1, 1) := by decide +kernel
theorem dX10_readsSetup_35 : decode cX10_readsSetup 35 = .ok (.aload_n 0, 1) := by decide +kernel
theorem dX10_readsSetup_36 : decode cX10_readsSetup 36 = .ok (.iconst 1, 1) := by decide +kernel
theorem dX10_readsSetup_37 : decode cX10_readsSetup 37 = .ok (.bipush 60, 2) := by decide +kernel
theorem dX10_readsSetup_39 : decode cX10_readsSetup 39 = .ok (.invokevirtual 243, 3) := by decide +kernel
theorem dX10_readsSetup_42 : decode cX10_readsSetup 42 = .ok (.iastore, 1) := by decide +kernel
theorem dX10_readsSetup_43 : decode cX10_readsSetup 43 = .ok (.aload_n 0, 1) := by decide +kernel
theorem dX10_readsSetup_44 : decode cX10_readsSetup 44 = .ok (.bipush 59, 2) := by decide +kernel
theorem dX10_readsSetup_46 : decode cX10_readsSetup 46 = .ok (.invokevirtual 246, 3) := by decide +kernel
theorem dX10_readsSetup_49 : decode cX10_readsSetup 49 = .ok (.aload_n 0, 1) := by decide +kernel
theorem dX10_readsSetup_50 : decode cX10_readsSetup 50 = .ok (.getfield 222, 3) := by decide +kernel
theorem dX10_readsSetup_53 : decode cX10_readsSetup 53 = .ok (.ifCond .eq 4, 3) := by decide +kernel
theorem dX10_readsSetup_56 : decode cX10_readsSetup 56 = .ok (.return_, 1) := by decide +kernel
theorem dX10_readsSetup_57 : decode cX10_readsSetup 57 = .ok (.aload_n 0, 1) := by decide +kernel
theorem dX10_readsSetup_58 : decode cX10_readsSetup 58 = .ok (.ldc_w 259, 3) := by decide +kernel
theorem dX10_readsSetup_61 : decode cX10_readsSetup 61 = .ok (.invokevirtual 251, 3) := by decide +kernel
theorem dX10_readsSetup_64 : decode cX10_readsSetup 64 = .ok (.ifCond .eq 10, 3) := by decide +kernel
theorem dX10_readsSetup_67 : decode cX10_readsSetup 67 = .ok (.aload_n 0, 1) := by decide +kernel
theorem dX10_readsSetup_68 : decode cX10_readsSetup 68 = .ok (.invokevirtual 261, 3) := by decide +kernel
theorem dX10_readsSetup_71 : decode cX10_readsSetup 71 = .ok (.goto (-14), 3) := by decide +kernel
theorem dX10_readsSetup_74 : decode cX10_readsSetup 74 = .ok (.aload_n 0, 1) := by decide +kernel
theorem dX10_readsSetup_75 : decode cX10_readsSetup 75 = .ok (.invokevirtual 264, 3) := by decide +kernel
theorem dX10_readsSetup_78 : decode cX10_readsSetup 78 = .ok (.aload_n 0, 1) := by decide +kernel
theorem dX10_readsSetup_79 : decode cX10_readsSetup 79 = .ok (.ldc 249, 2) := by decide +kernel
theorem dX10_readsSetup_81 : decode cX10_readsSetup 81 = .ok (.invokevirtual 251, 3) := by decide +kernel
theorem dX10_readsSetup_84 : decode cX10_readsSetup 84 = .ok (.ifCond .eq 10, 3) := by decide +kernel
theorem dX10_readsSetup_87 : decode cX10_readsSetup 87 = .ok (.aload_n 0, 1) := by decide +kernel
theorem dX10_readsSetup_88 : decode cX10_readsSetup 88 = .ok (.invokevirtual 264, 3) := by decide +kernel
theorem dX10_readsSetup_91 : decode cX10_readsSetup 91 = .ok (.goto (-13), 3) := by decide +kernel
theorem dX10_readsSetup_94 : decode cX10_readsSetup 94 = .ok (.aload_n 0, 1) := by decide +kernel
theorem dX10_readsSetup_95 : decode cX10_readsSetup 95 = .ok (.getfield 222, 3) := by decide +kernel
theorem dX10_readsSetup_98 : decode cX10_readsSetup 98 = .ok (.ifCond .ne 17, 3) := by decide +kernel
theorem dX10_readsSetup_101 : decode cX10_readsSetup 101 = .ok (.aload_n 0, 1) := by decide +kernel
theorem dX10_readsSetup_102 : decode cX10_readsSetup 102 = .ok (.getfield 213, 3) := by decide +kernel
theorem dX10_readsSetup_105 : decode cX10_readsSetup 105 = .ok (.ifCond .eq 10, 3) := by decide +kernel
theorem dX10_readsSetup_108 : decode cX10_readsSetup 108 = .ok (.aload_n 0, 1) := by decide +kernel
theorem dX10_readsSetup_109 : decode cX10_readsSetup 109 = .ok (.invokevirtual 267, 3) := by decide +kernel
theorem dX10_readsSetup_112 : decode cX10_readsSetup 112 = .ok (.goto (-18), 3) := by decide +kernel
theorem dX10_readsSetup_115 : decode cX10_readsSetup 115 = .ok (.return_, 1) := by decide +kernel
theorem dX10_load_0 : decode cX10_load 0 = .ok (.aload_n 0, 1) := by decide +kernel
theorem dX10_load_1 : decode cX10_load 1 = .ok (.iconst 0, 1) := by decide +kernel
theorem dX10_load_2 : decode cX10_load 2 = .ok (.putfield 80, 3) := by decide +kernel
theorem dX10_load_5 : decode cX10_load 5 = .ok (.iconst 0, 1) := by decide +kernel
theorem dX10_load_6 : decode cX10_load 6 = .ok (.istore_n 1, 1) := by decide +kernel
theorem dX10_load_7 : decode cX10_load 7 = .ok (.iload_n 1, 1) := by decide +kernel
theorem dX10_load_8 : decode cX10_load 8 = .ok (.sipush 2091, 3) := by decide +kernel
theorem dX10_load_11 : decode cX10_load 11 = .ok (.if_icmp .ge 21, 3) := by decide +kernel
theorem dX10_load_14 : decode cX10_load 14 = .ok (.aload_n 0, 1) := by decide +kernel
theorem dX10_load_15 : decode cX10_load 15 = .ok (.getfield 16, 3) := by decide +kernel
theorem dX10_load_18 : decode cX10_load 18 = .ok (.iload_n 1, 1) := by decide +kernel
theorem dX10_load_19 : decode cX10_load 19 = .ok (.aload_n 0, 1) := by decide +kernel
theorem dX10_load_20 : decode cX10_load 20 = .ok (.getfield 7, 3) := by decide +kernel
theorem dX10_load_23 : decode cX10_load 23 = .ok (.iload_n 1, 1) := by decide +kernel
theorem dX10_load_24 : decode cX10_load 24 = .ok (.iaload, 1) := by decide +kernel
theorem dX10_load_25 : decode cX10_load 25 = .ok (.iastore, 1) := by decide +kernel
theorem dX10_load_26 : decode cX10_load 26 = .ok (.iinc 1 1, 3) := by decide +kernel
theorem dX10_load_29 : decode cX10_load 29 = .ok (.goto (-22), 3) := by decide +kernel
theorem dX10_load_32 : decode cX10_load 32 = .ok (.aload_n 0, 1) := by decide +kernel
theorem dX10_load_33 : decode cX10_load 33 = .ok (.invokevirtual 67, 3) := by decide +kernel
theorem dX10_load_36 : decode cX10_load 36 = .ok (.aload_n 0, 1) := by decide +kernel
theorem dX10_load_37 : decode cX10_load 37 = .ok (.invokevirtual 70, 3) := by decide +kernel
theorem dX10_load_40 : decode cX10_load 40 = .ok (.aload_n 0, 1) := by decide +kernel
theorem dX10_load_41 : decode cX10_load 41 = .ok (.invokevirtual 73, 3) := by decide +kernel
theorem dX10_load_44 : decode cX10_load 44 = .ok (.aload_n 0, 1) := by decide +kernel
theorem dX10_load_45 : decode cX10_load 45 = .ok (.invokevirtual 270, 3) := by decide +kernel
theorem dX10_load_48 : decode cX10_load 48 = .ok (.ifCond .ne 35, 3) := by decide +kernel
theorem dX10_load_51 : decode cX10_load 51 = .ok (.iconst 0, 1) := by decide +kernel
theorem dX10_load_52 : decode cX10_load 52 = .ok (.istore_n 1, 1) := by decide +kernel
theorem dX10_load_53 : decode cX10_load 53 = .ok (.iload_n 1, 1) := by decide +kernel
theorem dX10_load_54 : decode cX10_load 54 = .ok (.sipush 2091, 3) := by decide +kernel
theorem dX10_load_57 : decode cX10_load 57 = .ok (.if_icmp .ge 21, 3) := by decide +kernel
theorem dX10_load_60 : decode cX10_load 60 = .ok (.aload_n 0, 1) := by decide +kernel
theorem dX10_load_61 : decode cX10_load 61 = .ok (.getfield 7, 3) := by decide +kernel
theorem dX10_load_64 : decode cX10_load 64 = .ok (.iload_n 1, 1) := by decide +kernel
theorem dX10_load_65 : decode cX10_load 65 = .ok (.aload_n 0, 1) := by decide +kernel
theorem dX10_load_66 : decode cX10_load 66 = .ok (.getfield 16, 3) := by decide +kernel
theorem dX10_load_69 : decode cX10_load 69 = .ok (.iload_n 1, 1) := by decide +kernel
theorem dX10_load_70 : decode cX10_load 70 = .ok (.iaload, 1) := by decide +kernel
theorem dX10_load_71 : decode cX10_load 71 = .ok (.iastore, 1) := by decide +kernel
theorem dX10_load_72 : decode cX10_load 72 = .ok (.iinc 1 1, 3) := by decide +kernel
theorem dX10_load_75 : decode cX10_load 75 = .ok (.goto (-22), 3) := by decide +kernel
theorem dX10_load_78 : decode cX10_load 78 = .ok (.aload_n 0, 1) := by decide +kernel
theorem dX10_load_79 : decode cX10_load 79 = .ok (.getfield 201, 3) := by decide +kernel
theorem dX10_load_82 : decode cX10_load 82 = .ok (.ireturn, 1) := by decide +kernel
theorem dX10_load_83 : decode cX10_load 83 = .ok (.aload_n 0, 1) := by decide +kernel
theorem dX10_load_84 : decode cX10_load 84 = .ok (.iconst 0, 1) := by decide +kernel
theorem dX10_load_85 : decode cX10_load 85 = .ok (.putfield 274, 3) := by decide +kernel
theorem dX10_load_88 : decode cX10_load 88 = .ok (.aload_n 0, 1) := by decide +kernel
theorem dX10_load_89 : decode cX10_load 89 = .ok (.getfield 25, 3) := by decide +kernel
theorem dX10_load_92 : decode cX10_load 92 = .ok (.iconst 0, 1) := by decide +kernel
theorem dX10_load_93 : decode cX10_load 93 = .ok (.iconst 0, 1) := by decide +kernel
theorem dX10_load_94 : decode cX10_load 94 = .ok (.bastore, 1) := by decide +kernel
theorem dX10_load_95 : decode cX10_load 95 = .ok (.aload_n 0, 1) := by decide +kernel
theorem dX10_load_96 : decode cX10_load 96 = .ok (.getfield 25, 3) := by decide +kernel
theorem dX10_load_99 : decode cX10_load 99 = .ok (.iconst 1, 1) := by decide +kernel
theorem dX10_load_100 : decode cX10_load 100 = .ok (.iconst 0, 1) := by decide +kernel
theorem dX10_load_101 : decode cX10_load 101 = .ok (.bastore, 1) := by decide +kernel
theorem dX10_load_102 : decode cX10_load 102 = .ok (.iconst 0, 1) := by decide +kernel
theorem dX10_load_103 : decode cX10_load 103 = .ok (.ireturn, 1) := by decide +kernel
theorem dX10_commandHere_0 : decode cX10_commandHere 0 = .ok (.aload_n 0, 1) := by decide +kernel
