theorem dX6_moveIn_8 : decode cX6_moveIn 8 = .ok (.ireturn, 1) := by decide +kernel
theorem dX6_expectedOf_0 : decode cX6_expectedOf 0 = .ok (.aload_n 0, 1) := by decide +kernel
theorem dX6_expectedOf_1 : decode cX6_expectedOf 1 = .ok (.getfield 28, 3) := by decide +kernel
theorem dX6_expectedOf_4 : decode cX6_expectedOf 4 = .ok (.iload_n 1, 1) := by decide +kernel
theorem dX6_expectedOf_5 : decode cX6_expectedOf 5 = .ok (.invokestatic 85, 3) := by decide +kernel
theorem dX6_expectedOf_8 : decode cX6_expectedOf 8 = .ok (.ireturn, 1) := by decide +kernel
theorem dX6_stateOf_0 : decode cX6_stateOf 0 = .ok (.aload_n 0, 1) := by decide +kernel
theorem dX6_stateOf_1 : decode cX6_stateOf 1 = .ok (.getfield 34, 3) := by decide +kernel
theorem dX6_stateOf_4 : decode cX6_stateOf 4 = .ok (.iload_n 1, 1) := by decide +kernel
theorem dX6_stateOf_5 : decode cX6_stateOf 5 = .ok (.invokestatic 85, 3) := by decide +kernel
theorem dX6_stateOf_8 : decode cX6_stateOf 8 = .ok (.ireturn, 1) := by decide +kernel
theorem dX6_arrivalOf_0 : decode cX6_arrivalOf 0 = .ok (.aload_n 0, 1) := by decide +kernel
theorem dX6_arrivalOf_1 : decode cX6_arrivalOf 1 = .ok (.getfield 43, 3) := by decide +kernel
theorem dX6_arrivalOf_4 : decode cX6_arrivalOf 4 = .ok (.iload_n 1, 1) := by decide +kernel
theorem dX6_arrivalOf_5 : decode cX6_arrivalOf 5 = .ok (.invokestatic 85, 3) := by decide +kernel
theorem dX6_arrivalOf_8 : decode cX6_arrivalOf 8 = .ok (.ireturn, 1) := by decide +kernel
theorem dX6_waitingAt_0 : decode cX6_waitingAt 0 = .ok (.aload_n 0, 1) := by decide +kernel
theorem dX6_waitingAt_1 : decode cX6_waitingAt 1 = .ok (.getfield 52, 3) := by decide +kernel
theorem dX6_waitingAt_4 : decode cX6_waitingAt 4 = .ok (.iload_n 1, 1) := by decide +kernel
theorem dX6_waitingAt_5 : decode cX6_waitingAt 5 = .ok (.iconst 2, 1) := by decide +kernel
theorem dX6_waitingAt_6 : decode cX6_waitingAt 6 = .ok (.imul, 1) := by decide +kernel
theorem dX6_waitingAt_7 : decode cX6_waitingAt 7 = .ok (.iload_n 2, 1) := by decide +kernel
theorem dX6_waitingAt_8 : decode cX6_waitingAt 8 = .ok (.iadd, 1) := by decide +kernel
theorem dX6_waitingAt_9 : decode cX6_waitingAt 9 = .ok (.invokestatic 85, 3) := by decide +kernel
theorem dX6_waitingAt_12 : decode cX6_waitingAt 12 = .ok (.ireturn, 1) := by decide +kernel
theorem dX6_onRoad_0 : decode cX6_onRoad 0 = .ok (.aload_n 0, 1) := by decide +kernel
theorem dX6_onRoad_1 : decode cX6_onRoad 1 = .ok (.getfield 68, 3) := by decide +kernel
theorem dX6_onRoad_4 : decode cX6_onRoad 4 = .ok (.ireturn, 1) := by decide +kernel
theorem dX6_arrivedCount_0 : decode cX6_arrivedCount 0 = .ok (.aload_n 0, 1) := by decide +kernel
theorem dX6_arrivedCount_1 : decode cX6_arrivedCount 1 = .ok (.getfield 71, 3) := by decide +kernel
theorem dX6_arrivedCount_4 : decode cX6_arrivedCount 4 = .ok (.ireturn, 1) := by decide +kernel
theorem dX6_travelSum_0 : decode cX6_travelSum 0 = .ok (.aload_n 0, 1) := by decide +kernel
theorem dX6_travelSum_1 : decode cX6_travelSum 1 = .ok (.getfield 74, 3) := by decide +kernel
theorem dX6_travelSum_4 : decode cX6_travelSum 4 = .ok (.ireturn, 1) := by decide +kernel
theorem dX6_arrival_0 : decode cX6_arrival 0 = .ok (.aload_n 0, 1) := by decide +kernel
theorem dX6_arrival_1 : decode cX6_arrival 1 = .ok (.getfield 49, 3) := by decide +kernel
theorem dX6_arrival_4 : decode cX6_arrival 4 = .ok (.iload_n 1, 1) := by decide +kernel
theorem dX6_arrival_5 : decode cX6_arrival 5 = .ok (.invokestatic 85, 3) := by decide +kernel
theorem dX6_arrival_8 : decode cX6_arrival 8 = .ok (.ireturn, 1) := by decide +kernel
theorem dX6_add_0 : decode cX6_add 0 = .ok (.aload_n 0, 1) := by decide +kernel
theorem dX6_add_1 : decode cX6_add 1 = .ok (.getfield 64, 3) := by decide +kernel
theorem dX6_add_4 : decode cX6_add 4 = .ok (.istore 7, 2) := by decide +kernel
theorem dX6_add_6 : decode cX6_add 6 = .ok (.aload_n 0, 1) := by decide +kernel
theorem dX6_add_7 : decode cX6_add 7 = .ok (.getfield 18, 3) := by decide +kernel
theorem dX6_add_10 : decode cX6_add 10 = .ok (.iload 7, 2) := by decide +kernel
theorem dX6_add_12 : decode cX6_add 12 = .ok (.iload_n 1, 1) := by decide +kernel
theorem dX6_add_13 : decode cX6_add 13 = .ok (.invokestatic 89, 3) := by decide +kernel
theorem dX6_add_16 : decode cX6_add 16 = .ok (.aload_n 0, 1) := by decide +kernel
theorem dX6_add_17 : decode cX6_add 17 = .ok (.getfield 22, 3) := by decide +kernel
theorem dX6_add_20 : decode cX6_add 20 = .ok (.iload 7, 2) := by decide +kernel
theorem dX6_add_22 : decode cX6_add 22 = .ok (.iload_n 2, 1) := by decide +kernel
theorem dX6_add_23 : decode cX6_add 23 = .ok (.invokestatic 89, 3) := by decide +kernel
theorem dX6_add_26 : decode cX6_add 26 = .ok (.aload_n 0, 1) := by decide +kernel
theorem dX6_add_27 : decode cX6_add 27 = .ok (.getfield 25, 3) := by decide +kernel
theorem dX6_add_30 : decode cX6_add 30 = .ok (.iload 7, 2) := by decide +kernel
theorem dX6_add_32 : decode cX6_add 32 = .ok (.iload_n 3, 1) := by decide +kernel
theorem dX6_add_33 : decode cX6_add 33 = .ok (.invokestatic 89, 3) := by decide +kernel
theorem dX6_add_36 : decode cX6_add 36 = .ok (.aload_n 0, 1) := by decide +kernel
theorem dX6_add_37 : decode cX6_add 37 = .ok (.getfield 28, 3) := by decide +kernel
theorem dX6_add_40 : decode cX6_add 40 = .ok (.iload 7, 2) := by decide +kernel
theorem dX6_add_42 : decode cX6_add 42 = .ok (.iload 4, 2) := by decide +kernel
theorem dX6_add_44 : decode cX6_add 44 = .ok (.invokestatic 89, 3) := by decide +kernel
theorem dX6_add_47 : decode cX6_add 47 = .ok (.aload_n 0, 1) := by decide +kernel
theorem dX6_add_48 : decode cX6_add 48 = .ok (.getfield 31, 3) := by decide +kernel
theorem dX6_add_51 : decode cX6_add 51 = .ok (.iload 7, 2) := by decide +kernel
theorem dX6_add_53 : decode cX6_add 53 = .ok (.iload 5, 2) := by decide +kernel
theorem dX6_add_55 : decode cX6_add 55 = .ok (.invokestatic 89, 3) := by decide +kernel
theorem dX6_add_58 : decode cX6_add 58 = .ok (.aload_n 0, 1) := by decide +kernel
theorem dX6_add_59 : decode cX6_add 59 = .ok (.getfield 34, 3) := by decide +kernel
theorem dX6_add_62 : decode cX6_add 62 = .ok (.iload 7, 2) := by decide +kernel
theorem dX6_add_64 : decode cX6_add 64 = .ok (.iconst 0, 1) := by decide +kernel
theorem dX6_add_65 : decode cX6_add 65 = .ok (.invokestatic 89, 3) := by decide +kernel
theorem dX6_add_68 : decode cX6_add 68 = .ok (.aload_n 0, 1) := by decide +kernel
theorem dX6_add_69 : decode cX6_add 69 = .ok (.getfield 40, 3) := by decide +kernel
theorem dX6_add_72 : decode cX6_add 72 = .ok (.iload 7, 2) := by decide +kernel
theorem dX6_add_74 : decode cX6_add 74 = .ok (.iload 6, 2) := by decide +kernel
theorem dX6_add_76 : decode cX6_add 76 = .ok (.invokestatic 89, 3) := by decide +kernel
theorem dX6_add_79 : decode cX6_add 79 = .ok (.aload_n 0, 1) := by decide +kernel
theorem dX6_add_80 : decode cX6_add 80 = .ok (.iload 5, 2) := by decide +kernel
theorem dX6_add_82 : decode cX6_add 82 = .ok (.iload_n 1, 1) := by decide +kernel
theorem dX6_add_83 : decode cX6_add 83 = .ok (.iconst 1, 1) := by decide +kernel
theorem dX6_add_84 : decode cX6_add 84 = .ok (.invokevirtual 93, 3) := by decide +kernel
theorem dX6_add_87 : decode cX6_add 87 = .ok (.aload_n 0, 1) := by decide +kernel
theorem dX6_add_88 : decode cX6_add 88 = .ok (.dup, 1) := by decide +kernel
theorem dX6_add_89 : decode cX6_add 89 = .ok (.getfield 64, 3) := by decide +kernel
theorem dX6_add_92 : decode cX6_add 92 = .ok (.iconst 1, 1) := by decide +kernel
theorem dX6_add_93 : decode cX6_add 93 = .ok (.iadd, 1) := by decide +kernel
theorem dX6_add_94 : decode cX6_add 94 = .ok (.putfield 64, 3) := by decide +kernel
theorem dX6_add_97 : decode cX6_add 97 = .ok (.iload 7, 2) := by decide +kernel
theorem dX6_add_99 : decode cX6_add 99 = .ok (.ireturn, 1) := by decide +kernel
theorem dX6_changeWaiting_0 : decode cX6_changeWaiting 0 = .ok (.iload_n 1, 1) := by decide +kernel
theorem dX6_changeWaiting_1 : decode cX6_changeWaiting 1 = .ok (.iconst 2, 1) := by decide +kernel
theorem dX6_changeWaiting_2 : decode cX6_changeWaiting 2 = .ok (.imul, 1) := by decide +kernel
theorem dX6_changeWaiting_3 : decode cX6_changeWaiting 3 = .ok (.iload_n 2, 1) := by decide +kernel
theorem dX6_changeWaiting_4 : decode cX6_changeWaiting 4 = .ok (.iadd, 1) := by decide +kernel
theorem dX6_changeWaiting_5 : decode cX6_changeWaiting 5 = .ok (.istore 4, 2) := by decide +kernel
theorem dX6_changeWaiting_7 : decode cX6_changeWaiting 7 = .ok (.aload_n 0, 1) := by decide +kernel
theorem dX6_changeWaiting_8 : decode cX6_changeWaiting 8 = .ok (.getfield 52, 3) := by decide +kernel
theorem dX6_changeWaiting_11 : decode cX6_changeWaiting 11 = .ok (.iload 4, 2) := by decide +kernel
theorem dX6_changeWaiting_13 : decode cX6_changeWaiting 13 = .ok (.aload_n 0, 1) := by decide +kernel
theorem dX6_changeWaiting_14 : decode cX6_changeWaiting 14 = .ok (.getfield 52, 3) := by decide +kernel
theorem dX6_changeWaiting_17 : decode cX6_changeWaiting 17 = .ok (.iload 4, 2) := by decide +kernel
theorem dX6_changeWaiting_19 : decode cX6_changeWaiting 19 = .ok (.invokestatic 85, 3) := by decide +kernel
theorem dX6_changeWaiting_22 : decode cX6_changeWaiting 22 = .ok (.iload_n 3, 1) := by decide +kernel
theorem dX6_changeWaiting_23 : decode cX6_changeWaiting 23 = .ok (.iadd, 1) := by decide +kernel
theorem dX6_changeWaiting_24 : decode cX6_changeWaiting 24 = .ok (.invokestatic 89, 3) := by decide +kernel
theorem dX6_changeWaiting_27 : decode cX6_changeWaiting 27 = .ok (.return_, 1) := by decide +kernel
theorem dX6_passDay_0 : decode cX6_passDay 0 = .ok (.iload_n 1, 1) := by decide +kernel
theorem dX6_passDay_1 : decode cX6_passDay 1 = .ok (.invokestatic 97, 3) := by decide +kernel
theorem dX6_passDay_4 : decode cX6_passDay 4 = .ok (.istore_n 2, 1) := by decide +kernel
theorem dX6_passDay_5 : decode cX6_passDay 5 = .ok (.iconst 0, 1) := by decide +kernel
theorem dX6_passDay_6 : decode cX6_passDay 6 = .ok (.istore_n 3, 1) := by decide +kernel
theorem dX6_passDay_7 : decode cX6_passDay 7 = .ok (.aload_n 0, 1) := by decide +kernel
theorem dX6_passDay_8 : decode cX6_passDay 8 = .ok (.iconst 0, 1) := by decide +kernel
theorem dX6_passDay_9 : decode cX6_passDay 9 = .ok (.putfield 101, 3) := by decide +kernel
theorem dX6_passDay_12 : decode cX6_passDay 12 = .ok (.iconst 0, 1) := by decide +kernel
theorem dX6_passDay_13 : decode cX6_passDay 13 = .ok (.istore 4, 2) := by decide +kernel
theorem dX6_passDay_15 : decode cX6_passDay 15 = .ok (.iload 4, 2) := by decide +kernel
theorem dX6_passDay_17 : decode cX6_passDay 17 = .ok (.aload_n 0, 1) := by decide +kernel
theorem dX6_passDay_18 : decode cX6_passDay 18 = .ok (.getfield 68, 3) := by decide +kernel
theorem dX6_passDay_21 : decode cX6_passDay 21 = .ok (.if_icmp .ge 93, 3) := by decide +kernel
theorem dX6_passDay_24 : decode cX6_passDay 24 = .ok (.aload_n 0, 1) := by decide +kernel
theorem dX6_passDay_25 : decode cX6_passDay 25 = .ok (.getfield 46, 3) := by decide +kernel
theorem dX6_passDay_28 : decode cX6_passDay 28 = .ok (.iload 4, 2) := by decide +kernel
theorem dX6_passDay_30 : decode cX6_passDay 30 = .ok (.invokestatic 85, 3) := by decide +kernel
theorem dX6_passDay_33 : decode cX6_passDay 33 = .ok (.istore 5, 2) := by decide +kernel
theorem dX6_passDay_35 : decode cX6_passDay 35 = .ok (.aload_n 0, 1) := by decide +kernel
theorem dX6_passDay_36 : decode cX6_passDay 36 = .ok (.getfield 37, 3) := by decide +kernel
theorem dX6_passDay_39 : decode cX6_passDay 39 = .ok (.iload 5, 2) := by decide +kernel
theorem dX6_passDay_41 : decode cX6_passDay 41 = .ok (.invokestatic 85, 3) := by decide +kernel
theorem dX6_passDay_44 : decode cX6_passDay 44 = .ok (.istore 6, 2) := by decide +kernel
theorem dX6_passDay_46 : decode cX6_passDay 46 = .ok (.aload_n 0, 1) := by decide +kernel
theorem dX6_passDay_47 : decode cX6_passDay 47 = .ok (.getfield 12, 3) := by decide +kernel
theorem dX6_passDay_50 : decode cX6_passDay 50 = .ok (.aload_n 0, 1) := by decide +kernel
theorem dX6_passDay_51 : decode cX6_passDay 51 = .ok (.getfield 31, 3) := by decide +kernel
theorem dX6_passDay_54 : decode cX6_passDay 54 = .ok (.iload 5, 2) := by decide +kernel
theorem dX6_passDay_56 : decode cX6_passDay 56 = .ok (.invokestatic 85, 3) := by decide +kernel
theorem dX6_passDay_59 : decode cX6_passDay 59 = .ok (.iload_n 2, 1) := by decide +kernel
theorem dX6_passDay_60 : decode cX6_passDay 60 = .ok (.invokevirtual 104, 3) := by decide +kernel
theorem dX6_passDay_63 : decode cX6_passDay 63 = .ok (.ifCond .ne 17, 3) := by decide +kernel
theorem dX6_passDay_66 : decode cX6_passDay 66 = .ok (.iinc 6 (-1), 3) := by decide +kernel
theorem dX6_passDay_69 : decode cX6_passDay 69 = .ok (.aload_n 0, 1) := by decide +kernel
theorem dX6_passDay_70 : decode cX6_passDay 70 = .ok (.getfield 37, 3) := by decide +kernel
theorem dX6_passDay_73 : decode cX6_passDay 73 = .ok (.iload 5, 2) := by decide +kernel
theorem dX6_passDay_75 : decode cX6_passDay 75 = .ok (.iload 6, 2) := by decide +kernel
theorem dX6_passDay_77 : decode cX6_passDay 77 = .ok (.invokestatic 89, 3) := by decide +kernel
theorem dX6_passDay_80 : decode cX6_passDay 80 = .ok (.iload 6, 2) := by decide +kernel
theorem dX6_passDay_82 : decode cX6_passDay 82 = .ok (.ifCond .ne 13, 3) := by decide +kernel
theorem dX6_passDay_85 : decode cX6_passDay 85 = .ok (.aload_n 0, 1) := by decide +kernel
theorem dX6_passDay_86 : decode cX6_passDay 86 = .ok (.iload 5, 2) := by decide +kernel
theorem dX6_passDay_88 : decode cX6_passDay 88 = .ok (.iload_n 1, 1) := by decide +kernel
theorem dX6_passDay_89 : decode cX6_passDay 89 = .ok (.invokevirtual 108, 3) := by decide +kernel
theorem dX6_passDay_92 : decode cX6_passDay 92 = .ok (.goto 16, 3) := by decide +kernel
theorem dX6_passDay_95 : decode cX6_passDay 95 = .ok (.aload_n 0, 1) := by decide +kernel
theorem dX6_passDay_96 : decode cX6_passDay 96 = .ok (.getfield 46, 3) := by decide +kernel
theorem dX6_passDay_99 : decode cX6_passDay 99 = .ok (.iload_n 3, 1) := by decide +kernel
theorem dX6_passDay_100 : decode cX6_passDay 100 = .ok (.iload 5, 2) := by decide +kernel
theorem dX6_passDay_102 : decode cX6_passDay 102 = .ok (.invokestatic 89, 3) := by decide +kernel
theorem dX6_passDay_105 : decode cX6_passDay 105 = .ok (.iinc 3 1, 3) := by decide +kernel
theorem dX6_passDay_108 : decode cX6_passDay 108 = .ok (.iinc 4 1, 3) := by decide +kernel
theorem dX6_passDay_111 : decode cX6_passDay 111 = .ok (.goto (-96), 3) := by decide +kernel
theorem dX6_passDay_114 : decode cX6_passDay 114 = .ok (.aload_n 0, 1) := by decide +kernel
theorem dX6_passDay_115 : decode cX6_passDay 115 = .ok (.iload_n 3, 1) := by decide +kernel
theorem dX6_passDay_116 : decode cX6_passDay 116 = .ok (.putfield 68, 3) := by decide +kernel
theorem dX6_passDay_119 : decode cX6_passDay 119 = .ok (.iconst 0, 1) := by decide +kernel
theorem dX6_passDay_120 : decode cX6_passDay 120 = .ok (.istore 4, 2) := by decide +kernel
theorem dX6_passDay_122 : decode cX6_passDay 122 = .ok (.iload 4, 2) := by decide +kernel
theorem dX6_passDay_124 : decode cX6_passDay 124 = .ok (.aload_n 0, 1) := by decide +kernel
theorem dX6_passDay_125 : decode cX6_passDay 125 = .ok (.getfield 12, 3) := by decide +kernel
theorem dX6_passDay_128 : decode cX6_passDay 128 = .ok (.invokevirtual 112, 3) := by decide +kernel
theorem dX6_passDay_131 : decode cX6_passDay 131 = .ok (.if_icmp .ge 52, 3) := by decide +kernel
theorem dX6_passDay_134 : decode cX6_passDay 134 = .ok (.aload_n 0, 1) := by decide +kernel
theorem dX6_passDay_135 : decode cX6_passDay 135 = .ok (.getfield 12, 3) := by decide +kernel
theorem dX6_passDay_138 : decode cX6_passDay 138 = .ok (.iload 4, 2) := by decide +kernel
theorem dX6_passDay_140 : decode cX6_passDay 140 = .ok (.iload_n 2, 1) := by decide +kernel
theorem dX6_passDay_141 : decode cX6_passDay 141 = .ok (.invokevirtual 115, 3) := by decide +kernel
theorem dX6_passDay_144 : decode cX6_passDay 144 = .ok (.istore 5, 2) := by decide +kernel
theorem dX6_passDay_146 : decode cX6_passDay 146 = .ok (.iconst 0, 1) := by decide +kernel
theorem dX6_passDay_147 : decode cX6_passDay 147 = .ok (.istore 6, 2) := by decide +kernel
theorem dX6_passDay_149 : decode cX6_passDay 149 = .ok (.iload 6, 2) := by decide +kernel
theorem dX6_passDay_151 : decode cX6_passDay 151 = .ok (.iconst 2, 1) := by decide +kernel
theorem dX6_passDay_152 : decode cX6_passDay 152 = .ok (.if_icmp .ge 25, 3) := by decide +kernel
theorem dX6_passDay_155 : decode cX6_passDay 155 = .ok (.iload 5, 2) := by decide +kernel
theorem dX6_passDay_157 : decode cX6_passDay 157 = .ok (.iconst (-1), 1) := by decide +kernel
theorem dX6_passDay_158 : decode cX6_passDay 158 = .ok (.if_icmp .eq 19, 3) := by decide +kernel
theorem dX6_passDay_161 : decode cX6_passDay 161 = .ok (.aload_n 0, 1) := by decide +kernel
theorem dX6_passDay_162 : decode cX6_passDay 162 = .ok (.iload 4, 2) := by decide +kernel
theorem dX6_passDay_164 : decode cX6_passDay 164 = .ok (.iload 6, 2) := by decide +kernel
theorem dX6_passDay_166 : decode cX6_passDay 166 = .ok (.iload 5, 2) := by decide +kernel
theorem dX6_passDay_168 : decode cX6_passDay 168 = .ok (.invokevirtual 119, 3) := by decide +kernel
theorem dX6_passDay_171 : decode cX6_passDay 171 = .ok (.iinc 6 1, 3) := by decide +kernel
theorem dX6_passDay_174 : decode cX6_passDay 174 = .ok (.goto (-25), 3) := by decide +kernel
theorem dX6_passDay_177 : decode cX6_passDay 177 = .ok (.iinc 4 1, 3) := by decide +kernel
theorem dX6_passDay_180 : decode cX6_passDay 180 = .ok (.goto (-58), 3) := by decide +kernel
theorem dX6_passDay_183 : decode cX6_passDay 183 = .ok (.aload_n 0, 1) := by decide +kernel
theorem dX6_passDay_184 : decode cX6_passDay 184 = .ok (.getfield 101, 3) := by decide +kernel
theorem dX6_passDay_187 : decode cX6_passDay 187 = .ok (.ireturn, 1) := by decide +kernel
theorem dX6_arrive_0 : decode cX6_arrive 0 = .ok (.aload_n 0, 1) := by decide +kernel
theorem dX6_arrive_1 : decode cX6_arrive 1 = .ok (.getfield 34, 3) := by decide +kernel
theorem dX6_arrive_4 : decode cX6_arrive 4 = .ok (.iload_n 1, 1) := by decide +kernel
theorem dX6_arrive_5 : decode cX6_arrive 5 = .ok (.iconst 2, 1) := by decide +kernel
theorem dX6_arrive_6 : decode cX6_arrive 6 = .ok (.invokestatic 89, 3) := by decide +kernel
theorem dX6_arrive_9 : decode cX6_arrive 9 = .ok (.aload_n 0, 1) := by decide +kernel
theorem dX6_arrive_10 : decode cX6_arrive 10 = .ok (.getfield 43, 3) := by decide +kernel
theorem dX6_arrive_13 : decode cX6_arrive 13 = .ok (.iload_n 1, 1) := by decide +kernel
theorem dX6_arrive_14 : decode cX6_arrive 14 = .ok (.iload_n 2, 1) := by decide +kernel
theorem dX6_arrive_15 : decode cX6_arrive 15 = .ok (.invokestatic 89, 3) := by decide +kernel
theorem dX6_arrive_18 : decode cX6_arrive 18 = .ok (.aload_n 0, 1) := by decide +kernel
theorem dX6_arrive_19 : decode cX6_arrive 19 = .ok (.dup, 1) := by decide +kernel
theorem dX6_arrive_20 : decode cX6_arrive 20 = .ok (.getfield 71, 3) := by decide +kernel
theorem dX6_arrive_23 : decode cX6_arrive 23 = .ok (.iconst 1, 1) := by decide +kernel
theorem dX6_arrive_24 : decode cX6_arrive 24 = .ok (.iadd, 1) := by decide +kernel
theorem dX6_arrive_25 : decode cX6_arrive 25 = .ok (.putfield 71, 3) := by decide +kernel
theorem dX6_arrive_28 : decode cX6_arrive 28 = .ok (.aload_n 0, 1) := by decide +kernel
theorem dX6_arrive_29 : decode cX6_arrive 29 = .ok (.dup, 1) := by decide +kernel
theorem dX6_arrive_30 : decode cX6_arrive 30 = .ok (.getfield 74, 3) := by decide +kernel
theorem dX6_arrive_33 : decode cX6_arrive 33 = .ok (.iload_n 2, 1) := by decide +kernel
theorem dX6_arrive_34 : decode cX6_arrive 34 = .ok (.aload_n 0, 1) := by decide +kernel
theorem dX6_arrive_35 : decode cX6_arrive 35 = .ok (.getfield 40, 3) := by decide +kernel
theorem dX6_arrive_38 : decode cX6_arrive 38 = .ok (.iload_n 1, 1) := by decide +kernel
theorem dX6_arrive_39 : decode cX6_arrive 39 = .ok (.invokestatic 85, 3) := by decide +kernel
theorem dX6_arrive_42 : decode cX6_arrive 42 = .ok (.isub, 1) := by decide +kernel
theorem dX6_arrive_43 : decode cX6_arrive 43 = .ok (.iadd, 1) := by decide +kernel
theorem dX6_arrive_44 : decode cX6_arrive 44 = .ok (.putfield 74, 3) := by decide +kernel
theorem dX6_arrive_47 : decode cX6_arrive 47 = .ok (.aload_n 0, 1) := by decide +kernel
theorem dX6_arrive_48 : decode cX6_arrive 48 = .ok (.getfield 12, 3) := by decide +kernel
theorem dX6_arrive_51 : decode cX6_arrive 51 = .ok (.aload_n 0, 1) := by decide +kernel
theorem dX6_arrive_52 : decode cX6_arrive 52 = .ok (.getfield 31, 3) := by decide +kernel
theorem dX6_arrive_55 : decode cX6_arrive 55 = .ok (.iload_n 1, 1) := by decide +kernel
theorem dX6_arrive_56 : decode cX6_arrive 56 = .ok (.invokestatic 85, 3) := by decide +kernel
theorem dX6_arrive_59 : decode cX6_arrive 59 = .ok (.iconst 1, 1) := by decide +kernel
theorem dX6_arrive_60 : decode cX6_arrive 60 = .ok (.aload_n 0, 1) := by decide +kernel
theorem dX6_arrive_61 : decode cX6_arrive 61 = .ok (.iload_n 1, 1) := by decide +kernel
theorem dX6_arrive_62 : decode cX6_arrive 62 = .ok (.invokevirtual 122, 3) := by decide +kernel
theorem dX6_arrive_65 : decode cX6_arrive 65 = .ok (.isub, 1) := by decide +kernel
theorem dX6_arrive_66 : decode cX6_arrive 66 = .ok (.iconst 1, 1) := by decide +kernel
theorem dX6_arrive_67 : decode cX6_arrive 67 = .ok (.invokevirtual 125, 3) := by decide +kernel
theorem dX6_arrive_70 : decode cX6_arrive 70 = .ok (.aload_n 0, 1) := by decide +kernel
theorem dX6_arrive_71 : decode cX6_arrive 71 = .ok (.getfield 49, 3) := by decide +kernel
theorem dX6_arrive_74 : decode cX6_arrive 74 = .ok (.aload_n 0, 1) := by decide +kernel
theorem dX6_arrive_75 : decode cX6_arrive 75 = .ok (.getfield 101, 3) := by decide +kernel
theorem dX6_arrive_78 : decode cX6_arrive 78 = .ok (.iload_n 1, 1) := by decide +kernel
theorem dX6_arrive_79 : decode cX6_arrive 79 = .ok (.invokestatic 89, 3) := by decide +kernel
theorem dX6_arrive_82 : decode cX6_arrive 82 = .ok (.aload_n 0, 1) := by decide +kernel
theorem dX6_arrive_83 : decode cX6_arrive 83 = .ok (.dup, 1) := by decide +kernel
theorem dX6_arrive_84 : decode cX6_arrive 84 = .ok (.getfield 101, 3) := by decide +kernel
theorem dX6_arrive_87 : decode cX6_arrive 87 = .ok (.iconst 1, 1) := by decide +kernel
theorem dX6_arrive_88 : decode cX6_arrive 88 = .ok (.iadd, 1) := by decide +kernel
theorem dX6_arrive_89 : decode cX6_arrive 89 = .ok (.putfield 101, 3) := by decide +kernel
theorem dX6_arrive_92 : decode cX6_arrive 92 = .ok (.return_, 1) := by decide +kernel
theorem dX6_sendOff_0 : decode cX6_sendOff 0 = .ok (.iconst 0, 1) := by decide +kernel
theorem dX6_sendOff_1 : decode cX6_sendOff 1 = .ok (.istore 4, 2) := by decide +kernel
theorem dX6_sendOff_3 : decode cX6_sendOff 3 = .ok (.iload 4, 2) := by decide +kernel
theorem dX6_sendOff_5 : decode cX6_sendOff 5 = .ok (.aload_n 0, 1) := by decide +kernel
theorem dX6_sendOff_6 : decode cX6_sendOff 6 = .ok (.getfield 64, 3) := by decide +kernel
theorem dX6_sendOff_9 : decode cX6_sendOff 9 = .ok (.if_icmp .ge 123, 3) := by decide +kernel
theorem dX6_sendOff_12 : decode cX6_sendOff 12 = .ok (.aload_n 0, 1) := by decide +kernel
theorem dX6_sendOff_13 : decode cX6_sendOff 13 = .ok (.iload_n 1, 1) := by decide +kernel
theorem dX6_sendOff_14 : decode cX6_sendOff 14 = .ok (.iload_n 2, 1) := by decide +kernel
theorem dX6_sendOff_15 : decode cX6_sendOff 15 = .ok (.invokevirtual 128, 3) := by decide +kernel
theorem dX6_sendOff_18 : decode cX6_sendOff 18 = .ok (.ifCond .le 15, 3) := by decide +kernel
theorem dX6_sendOff_21 : decode cX6_sendOff 21 = .ok (.aload_n 0, 1) := by decide +kernel
theorem dX6_sendOff_22 : decode cX6_sendOff 22 = .ok (.getfield 12, 3) := by decide +kernel
theorem dX6_sendOff_25 : decode cX6_sendOff 25 = .ok (.iload_n 1, 1) := by decide +kernel
theorem dX6_sendOff_26 : decode cX6_sendOff 26 = .ok (.iload_n 2, 1) := by decide +kernel
theorem dX6_sendOff_27 : decode cX6_sendOff 27 = .ok (.invokevirtual 131, 3) := by decide +kernel
theorem dX6_sendOff_30 : decode cX6_sendOff 30 = .ok (.ifCond .gt 4, 3) := by decide +kernel
theorem dX6_sendOff_33 : decode cX6_sendOff 33 = .ok (.return_, 1) := by decide +kernel
theorem dX6_sendOff_34 : decode cX6_sendOff 34 = .ok (.aload_n 0, 1) := by decide +kernel
theorem dX6_sendOff_35 : decode cX6_sendOff 35 = .ok (.iload 4, 2) := by decide +kernel
theorem dX6_sendOff_37 : decode cX6_sendOff 37 = .ok (.invokevirtual 134, 3) := by decide +kernel
theorem dX6_sendOff_40 : decode cX6_sendOff 40 = .ok (.ifCond .ne 86, 3) := by decide +kernel
theorem dX6_sendOff_43 : decode cX6_sendOff 43 = .ok (.aload_n 0, 1) := by decide +kernel
theorem dX6_sendOff_44 : decode cX6_sendOff 44 = .ok (.getfield 31, 3) := by decide +kernel
theorem dX6_sendOff_47 : decode cX6_sendOff 47 = .ok (.iload 4, 2) := by decide +kernel
theorem dX6_sendOff_49 : decode cX6_sendOff 49 = .ok (.invokestatic 85, 3) := by decide +kernel
theorem dX6_sendOff_52 : decode cX6_sendOff 52 = .ok (.iload_n 1, 1) := by decide +kernel
theorem dX6_sendOff_53 : decode cX6_sendOff 53 = .ok (.if_icmp .ne 73, 3) := by decide +kernel
theorem dX6_sendOff_56 : decode cX6_sendOff 56 = .ok (.aload_n 0, 1) := by decide +kernel
theorem dX6_sendOff_57 : decode cX6_sendOff 57 = .ok (.iload 4, 2) := by decide +kernel
theorem dX6_sendOff_59 : decode cX6_sendOff 59 = .ok (.invokevirtual 122, 3) := by decide +kernel
theorem dX6_sendOff_62 : decode cX6_sendOff 62 = .ok (.iload_n 2, 1) := by decide +kernel
theorem dX6_sendOff_63 : decode cX6_sendOff 63 = .ok (.if_icmp .ne 63, 3) := by decide +kernel
theorem dX6_sendOff_66 : decode cX6_sendOff 66 = .ok (.aload_n 0, 1) := by decide +kernel
theorem dX6_sendOff_67 : decode cX6_sendOff 67 = .ok (.getfield 34, 3) := by decide +kernel
theorem dX6_sendOff_70 : decode cX6_sendOff 70 = .ok (.iload 4, 2) := by decide +kernel
theorem dX6_sendOff_72 : decode cX6_sendOff 72 = .ok (.iconst 1, 1) := by decide +kernel
theorem dX6_sendOff_73 : decode cX6_sendOff 73 = .ok (.invokestatic 89, 3) := by decide +kernel
theorem dX6_sendOff_76 : decode cX6_sendOff 76 = .ok (.aload_n 0, 1) := by decide +kernel
theorem dX6_sendOff_77 : decode cX6_sendOff 77 = .ok (.getfield 37, 3) := by decide +kernel
theorem dX6_sendOff_80 : decode cX6_sendOff 80 = .ok (.iload 4, 2) := by decide +kernel
theorem dX6_sendOff_82 : decode cX6_sendOff 82 = .ok (.iload_n 3, 1) := by decide +kernel
theorem dX6_sendOff_83 : decode cX6_sendOff 83 = .ok (.invokestatic 89, 3) := by decide +kernel
theorem dX6_sendOff_86 : decode cX6_sendOff 86 = .ok (.aload_n 0, 1) := by decide +kernel
theorem dX6_sendOff_87 : decode cX6_sendOff 87 = .ok (.getfield 46, 3) := by decide +kernel
theorem dX6_sendOff_90 : decode cX6_sendOff 90 = .ok (.aload_n 0, 1) := by decide +kernel
theorem dX6_sendOff_91 : decode cX6_sendOff 91 = .ok (.getfield 68, 3) := by decide +kernel
theorem dX6_sendOff_94 : decode cX6_sendOff 94 = .ok (.iload 4, 2) := by decide +kernel
theorem dX6_sendOff_96 : decode cX6_sendOff 96 = .ok (.invokestatic 89, 3) := by decide +kernel
theorem dX6_sendOff_99 : decode cX6_sendOff 99 = .ok (.aload_n 0, 1) := by decide +kernel
theorem dX6_sendOff_100 : decode cX6_sendOff 100 = .ok (.dup, 1) := by decide +kernel
theorem dX6_sendOff_101 : decode cX6_sendOff 101 = .ok (.getfield 68, 3) := by decide +kernel
theorem dX6_sendOff_104 : decode cX6_sendOff 104 = .ok (.iconst 1, 1) := by decide +kernel
theorem dX6_sendOff_105 : decode cX6_sendOff 105 = .ok (.iadd, 1) := by decide +kernel
theorem dX6_sendOff_106 : decode cX6_sendOff 106 = .ok (.putfield 68, 3) := by decide +kernel
theorem dX6_sendOff_109 : decode cX6_sendOff 109 = .ok (.aload_n 0, 1) := by decide +kernel
theorem dX6_sendOff_110 : decode cX6_sendOff 110 = .ok (.iload_n 1, 1) := by decide +kernel
theorem dX6_sendOff_111 : decode cX6_sendOff 111 = .ok (.iload_n 2, 1) := by decide +kernel
theorem dX6_sendOff_112 : decode cX6_sendOff 112 = .ok (.iconst (-1), 1) := by decide +kernel
theorem dX6_sendOff_113 : decode cX6_sendOff 113 = .ok (.invokevirtual 93, 3) := by decide +kernel
theorem dX6_sendOff_116 : decode cX6_sendOff 116 = .ok (.aload_n 0, 1) := by decide +kernel
theorem dX6_sendOff_117 : decode cX6_sendOff 117 = .ok (.getfield 12, 3) := by decide +kernel
theorem dX6_sendOff_120 : decode cX6_sendOff 120 = .ok (.iload_n 1, 1) := by decide +kernel
theorem dX6_sendOff_121 : decode cX6_sendOff 121 = .ok (.iload_n 2, 1) := by decide +kernel
theorem dX6_sendOff_122 : decode cX6_sendOff 122 = .ok (.iconst (-1), 1) := by decide +kernel
theorem dX6_sendOff_123 : decode cX6_sendOff 123 = .ok (.invokevirtual 125, 3) := by decide +kernel
theorem dX6_sendOff_126 : decode cX6_sendOff 126 = .ok (.iinc 4 1, 3) := by decide +kernel
theorem dX6_sendOff_129 : decode cX6_sendOff 129 = .ok (.goto (-126), 3) := by decide +kernel
theorem dX6_sendOff_132 : decode cX6_sendOff 132 = .ok (.return_, 1) := by decide +kernel
theorem dX7_init_0 : decode cX7_init 0 = .ok (.aload_n 0, 1) := by decide +kernel
theorem dX7_init_1 : decode cX7_init 1 = .ok (.invokespecial 5, 3) := by decide +kernel
theorem dX7_init_4 : decode cX7_init 4 = .ok (.aload_n 0, 1) := by decide +kernel
theorem dX7_init_5 : decode cX7_init 5 = .ok (.bipush 60, 2) := by decide +kernel
theorem dX7_init_7 : decode cX7_init 7 = .ok (.newarray .int, 2) := by decide +kernel
theorem dX7_init_9 : decode cX7_init 9 = .ok (.putfield 11, 3) := by decide +kernel
theorem dX7_init_12 : decode cX7_init 12 = .ok (.aload_n 0, 1) := by decide +kernel
theorem dX7_init_13 : decode cX7_init 13 = .ok (.sipush 360, 3) := by decide +kernel
theorem dX7_init_16 : decode cX7_init 16 = .ok (.newarray .int, 2) := by decide +kernel
theorem dX7_init_18 : decode cX7_init 18 = .ok (.putfield 15, 3) := by decide +kernel
theorem dX7_init_21 : decode cX7_init 21 = .ok (.aload_n 0, 1) := by decide +kernel
theorem dX7_init_22 : decode cX7_init 22 = .ok (.bipush 60, 2) := by decide +kernel
theorem dX7_init_24 : decode cX7_init 24 = .ok (.newarray .int, 2) := by decide +kernel
theorem dX7_init_26 : decode cX7_init 26 = .ok (.putfield 18, 3) := by decide +kernel
theorem dX7_init_29 : decode cX7_init 29 = .ok (.aload_n 0, 1) := by decide +kernel
theorem dX7_init_30 : decode cX7_init 30 = .ok (.bipush 60, 2) := by decide +kernel
theorem dX7_init_32 : decode cX7_init 32 = .ok (.newarray .int, 2) := by decide +kernel
theorem dX7_init_34 : decode cX7_init 34 = .ok (.putfield 21, 3) := by decide +kernel
theorem dX7_init_37 : decode cX7_init 37 = .ok (.aload_n 0, 1) := by decide +kernel
theorem dX7_init_38 : decode cX7_init 38 = .ok (.iconst 2, 1) := by decide +kernel
theorem dX7_init_39 : decode cX7_init 39 = .ok (.newarray .int, 2) := by decide +kernel
theorem dX7_init_41 : decode cX7_init 41 = .ok (.putfield 24, 3) := by decide +kernel
theorem dX7_init_44 : decode cX7_init 44 = .ok (.return_, 1) := by decide +kernel
theorem dX7_length_0 : decode cX7_length 0 = .ok (.aload_n 0, 1) := by decide +kernel
theorem dX7_length_1 : decode cX7_length 1 = .ok (.getfield 27, 3) := by decide +kernel
theorem dX7_length_4 : decode cX7_length 4 = .ok (.ireturn, 1) := by decide +kernel
theorem dX7_commandAt_0 : decode cX7_commandAt 0 = .ok (.aload_n 0, 1) := by decide +kernel
theorem dX7_commandAt_1 : decode cX7_commandAt 1 = .ok (.getfield 11, 3) := by decide +kernel
theorem dX7_commandAt_4 : decode cX7_commandAt 4 = .ok (.iload_n 1, 1) := by decide +kernel
theorem dX7_commandAt_5 : decode cX7_commandAt 5 = .ok (.invokestatic 31, 3) := by decide +kernel
theorem dX7_commandAt_8 : decode cX7_commandAt 8 = .ok (.ireturn, 1) := by decide +kernel
theorem dX7_argument_0 : decode cX7_argument 0 = .ok (.aload_n 0, 1) := by decide +kernel
theorem dX7_argument_1 : decode cX7_argument 1 = .ok (.getfield 15, 3) := by decide +kernel
theorem dX7_argument_4 : decode cX7_argument 4 = .ok (.iload_n 1, 1) := by decide +kernel
theorem dX7_argument_5 : decode cX7_argument 5 = .ok (.bipush 6, 2) := by decide +kernel
theorem dX7_argument_7 : decode cX7_argument 7 = .ok (.imul, 1) := by decide +kernel
theorem dX7_argument_8 : decode cX7_argument 8 = .ok (.iload_n 2, 1) := by decide +kernel
theorem dX7_argument_9 : decode cX7_argument 9 = .ok (.iadd, 1) := by decide +kernel
theorem dX7_argument_10 : decode cX7_argument 10 = .ok (.invokestatic 31, 3) := by decide +kernel
theorem dX7_argument_13 : decode cX7_argument 13 = .ok (.ireturn, 1) := by decide +kernel
theorem dX7_isJump_0 : decode cX7_isJump 0 = .ok (.aload_n 0, 1) := by decide +kernel
theorem dX7_isJump_1 : decode cX7_isJump 1 = .ok (.iload_n 1, 1) := by decide +kernel
theorem dX7_isJump_2 : decode cX7_isJump 2 = .ok (.invokevirtual 35, 3) := by decide +kernel
theorem dX7_isJump_5 : decode cX7_isJump 5 = .ok (.bipush 7, 2) := by decide +kernel
theorem dX7_isJump_7 : decode cX7_isJump 7 = .ok (.if_icmp .eq 13, 3) := by decide +kernel
theorem dX7_isJump_10 : decode cX7_isJump 10 = .ok (.aload_n 0, 1) := by decide +kernel
theorem dX7_isJump_11 : decode cX7_isJump 11 = .ok (.iload_n 1, 1) := by decide +kernel
theorem dX7_isJump_12 : decode cX7_isJump 12 = .ok (.invokevirtual 35, 3) := by decide +kernel
theorem dX7_isJump_15 : decode cX7_isJump 15 = .ok (.bipush 8, 2) := by decide +kernel
theorem dX7_isJump_17 : decode cX7_isJump 17 = .ok (.if_icmp .ne 7, 3) := by decide +kernel
theorem dX7_isJump_20 : decode cX7_isJump 20 = .ok (.iconst 1, 1) := by decide +kernel
theorem dX7_isJump_21 : decode cX7_isJump 21 = .ok (.goto 4, 3) := by decide +kernel
theorem dX7_isJump_24 : decode cX7_isJump 24 = .ok (.iconst 0, 1) := by decide +kernel
theorem dX7_isJump_25 : decode cX7_isJump 25 = .ok (.ireturn, 1) := by decide +kernel
theorem dX7_jump_0 : decode cX7_jump 0 = .ok (.aload_n 0, 1) := by decide +kernel
theorem dX7_jump_1 : decode cX7_jump 1 = .ok (.getfield 18, 3) := by decide +kernel
theorem dX7_jump_4 : decode cX7_jump 4 = .ok (.iload_n 1, 1) := by decide +kernel
theorem dX7_jump_5 : decode cX7_jump 5 = .ok (.invokestatic 31, 3) := by decide +kernel
theorem dX7_jump_8 : decode cX7_jump 8 = .ok (.istore_n 2, 1) := by decide +kernel
theorem dX7_jump_9 : decode cX7_jump 9 = .ok (.aload_n 0, 1) := by decide +kernel
theorem dX7_jump_10 : decode cX7_jump 10 = .ok (.iload_n 1, 1) := by decide +kernel
theorem dX7_jump_11 : decode cX7_jump 11 = .ok (.invokevirtual 35, 3) := by decide +kernel
theorem dX7_jump_14 : decode cX7_jump 14 = .ok (.bipush 7, 2) := by decide +kernel
theorem dX7_jump_16 : decode cX7_jump 16 = .ok (.if_icmp .ne 36, 3) := by decide +kernel
theorem dX7_jump_19 : decode cX7_jump 19 = .ok (.aload_n 0, 1) := by decide +kernel
theorem dX7_jump_20 : decode cX7_jump 20 = .ok (.getfield 21, 3) := by decide +kernel
theorem dX7_jump_23 : decode cX7_jump 23 = .ok (.iload_n 1, 1) := by decide +kernel
theorem dX7_jump_24 : decode cX7_jump 24 = .ok (.aload_n 0, 1) := by decide +kernel
theorem dX7_jump_25 : decode cX7_jump 25 = .ok (.iload_n 1, 1) := by decide +kernel
theorem dX7_jump_26 : decode cX7_jump 26 = .ok (.iconst 0, 1) := by decide +kernel
theorem dX7_jump_27 : decode cX7_jump 27 = .ok (.invokevirtual 39, 3) := by decide +kernel
theorem dX7_jump_30 : decode cX7_jump 30 = .ok (.invokestatic 43, 3) := by decide +kernel
theorem dX7_jump_33 : decode cX7_jump 33 = .ok (.aload_n 0, 1) := by decide +kernel
theorem dX7_jump_34 : decode cX7_jump 34 = .ok (.iload_n 1, 1) := by decide +kernel
theorem dX7_jump_35 : decode cX7_jump 35 = .ok (.iconst 0, 1) := by decide +kernel
theorem dX7_jump_36 : decode cX7_jump 36 = .ok (.invokevirtual 39, 3) := by decide +kernel
theorem dX7_jump_39 : decode cX7_jump 39 = .ok (.ifCond .le 9, 3) := by decide +kernel
theorem dX7_jump_42 : decode cX7_jump 42 = .ok (.iload_n 1, 1) := by decide +kernel
theorem dX7_jump_43 : decode cX7_jump 43 = .ok (.iconst 1, 1) := by decide +kernel
theorem dX7_jump_44 : decode cX7_jump 44 = .ok (.iadd, 1) := by decide +kernel
theorem dX7_jump_45 : decode cX7_jump 45 = .ok (.goto 6, 3) := by decide +kernel
theorem dX7_jump_48 : decode cX7_jump 48 = .ok (.iload_n 2, 1) := by decide +kernel
theorem dX7_jump_49 : decode cX7_jump 49 = .ok (.iconst 1, 1) := by decide +kernel
theorem dX7_jump_50 : decode cX7_jump 50 = .ok (.iadd, 1) := by decide +kernel
theorem dX7_jump_51 : decode cX7_jump 51 = .ok (.ireturn, 1) := by decide +kernel
theorem dX7_jump_52 : decode cX7_jump 52 = .ok (.aload_n 0, 1) := by decide +kernel
theorem dX7_jump_53 : decode cX7_jump 53 = .ok (.getfield 21, 3) := by decide +kernel
theorem dX7_jump_56 : decode cX7_jump 56 = .ok (.iload_n 2, 1) := by decide +kernel
theorem dX7_jump_57 : decode cX7_jump 57 = .ok (.invokestatic 31, 3) := by decide +kernel
theorem dX7_jump_60 : decode cX7_jump 60 = .ok (.iconst 1, 1) := by decide +kernel
theorem dX7_jump_61 : decode cX7_jump 61 = .ok (.isub, 1) := by decide +kernel
theorem dX7_jump_62 : decode cX7_jump 62 = .ok (.istore_n 3, 1) := by decide +kernel
theorem dX7_jump_63 : decode cX7_jump 63 = .ok (.aload_n 0, 1) := by decide +kernel
theorem dX7_jump_64 : decode cX7_jump 64 = .ok (.getfield 21, 3) := by decide +kernel
theorem dX7_jump_67 : decode cX7_jump 67 = .ok (.iload_n 2, 1) := by decide +kernel
theorem dX7_jump_68 : decode cX7_jump 68 = .ok (.iload_n 3, 1) := by decide +kernel
theorem dX7_jump_69 : decode cX7_jump 69 = .ok (.invokestatic 43, 3) := by decide +kernel
theorem dX7_jump_72 : decode cX7_jump 72 = .ok (.iload_n 3, 1) := by decide +kernel
theorem dX7_jump_73 : decode cX7_jump 73 = .ok (.ifCond .le 9, 3) := by decide +kernel
theorem dX7_jump_76 : decode cX7_jump 76 = .ok (.iload_n 2, 1) := by decide +kernel
theorem dX7_jump_77 : decode cX7_jump 77 = .ok (.iconst 1, 1) := by decide +kernel
theorem dX7_jump_78 : decode cX7_jump 78 = .ok (.iadd, 1) := by decide +kernel
theorem dX7_jump_79 : decode cX7_jump 79 = .ok (.goto 6, 3) := by decide +kernel
theorem dX7_jump_82 : decode cX7_jump 82 = .ok (.iload_n 1, 1) := by decide +kernel
theorem dX7_jump_83 : decode cX7_jump 83 = .ok (.iconst 1, 1) := by decide +kernel
theorem dX7_jump_84 : decode cX7_jump 84 = .ok (.iadd, 1) := by decide +kernel
theorem dX7_jump_85 : decode cX7_jump 85 = .ok (.ireturn, 1) := by decide +kernel
theorem dX7_read_0 : decode cX7_read 0 = .ok (.aload_n 0, 1) := by decide +kernel
theorem dX7_read_1 : decode cX7_read 1 = .ok (.iconst 0, 1) := by decide +kernel
theorem dX7_read_2 : decode cX7_read 2 = .ok (.putfield 27, 3) := by decide +kernel
theorem dX7_read_5 : decode cX7_read 5 = .ok (.aload_n 0, 1) := by decide +kernel
theorem dX7_read_6 : decode cX7_read 6 = .ok (.iconst 0, 1) := by decide +kernel
theorem dX7_read_7 : decode cX7_read 7 = .ok (.putfield 47, 3) := by decide +kernel
theorem dX7_read_10 : decode cX7_read 10 = .ok (.aload_n 0, 1) := by decide +kernel
theorem dX7_read_11 : decode cX7_read 11 = .ok (.iconst 0, 1) := by decide +kernel
theorem dX7_read_12 : decode cX7_read 12 = .ok (.putfield 50, 3) := by decide +kernel
theorem dX7_read_15 : decode cX7_read 15 = .ok (.aload_n 1, 1) := by decide +kernel
theorem dX7_read_16 : decode cX7_read 16 = .ok (.invokevirtual 53, 3) := by decide +kernel
theorem dX7_read_19 : decode cX7_read 19 = .ok (.iconst 0, 1) := by decide +kernel
theorem dX7_read_20 : decode cX7_read 20 = .ok (.istore_n 2, 1) := by decide +kernel
theorem dX7_read_21 : decode cX7_read 21 = .ok (.iload_n 2, 1) := by decide +kernel
theorem dX7_read_22 : decode cX7_read 22 = .ok (.sipush 800, 3) := by decide +kernel
theorem dX7_read_25 : decode cX7_read 25 = .ok (.if_icmp .gt 65, 3) := by decide +kernel
theorem dX7_read_28 : decode cX7_read 28 = .ok (.aload_n 1, 1) := by decide +kernel
theorem dX7_read_29 : decode cX7_read 29 = .ok (.invokevirtual 58, 3) := by decide +kernel
theorem dX7_read_32 : decode cX7_read 32 = .ok (.ifCond .ne 58, 3) := by decide +kernel
theorem dX7_read_35 : decode cX7_read 35 = .ok (.aload_n 0, 1) := by decide +kernel
theorem dX7_read_36 : decode cX7_read 36 = .ok (.getfield 50, 3) := by decide +kernel
theorem dX7_read_39 : decode cX7_read 39 = .ok (.ifCond .ne 11, 3) := by decide +kernel
theorem dX7_read_42 : decode cX7_read 42 = .ok (.aload_n 1, 1) := by decide +kernel
theorem dX7_read_43 : decode cX7_read 43 = .ok (.invokevirtual 62, 3) := by decide +kernel
theorem dX7_read_46 : decode cX7_read 46 = .ok (.ifCond .eq 4, 3) := by decide +kernel
theorem dX7_read_49 : decode cX7_read 49 = .ok (.return_, 1) := by decide +kernel
theorem dX7_read_50 : decode cX7_read 50 = .ok (.aload_n 0, 1) := by decide +kernel
theorem dX7_read_51 : decode cX7_read 51 = .ok (.getfield 50, 3) := by decide +kernel
theorem dX7_read_54 : decode cX7_read 54 = .ok (.ifCond .le 25, 3) := by decide +kernel
theorem dX7_read_57 : decode cX7_read 57 = .ok (.aload_n 1, 1) := by decide +kernel
theorem dX7_read_58 : decode cX7_read 58 = .ok (.bipush 41, 2) := by decide +kernel
theorem dX7_read_60 : decode cX7_read 60 = .ok (.invokevirtual 65, 3) := by decide +kernel
theorem dX7_read_63 : decode cX7_read 63 = .ok (.ifCond .eq 16, 3) := by decide +kernel
theorem dX7_read_66 : decode cX7_read 66 = .ok (.aload_n 0, 1) := by decide +kernel
theorem dX7_read_67 : decode cX7_read 67 = .ok (.invokevirtual 69, 3) := by decide +kernel
theorem dX7_read_70 : decode cX7_read 70 = .ok (.aload_n 1, 1) := by decide +kernel
theorem dX7_read_71 : decode cX7_read 71 = .ok (.bipush 59, 2) := by decide +kernel
theorem dX7_read_73 : decode cX7_read 73 = .ok (.invokevirtual 72, 3) := by decide +kernel
theorem dX7_read_76 : decode cX7_read 76 = .ok (.goto 8, 3) := by decide +kernel
theorem dX7_read_79 : decode cX7_read 79 = .ok (.aload_n 0, 1) := by decide +kernel
theorem dX7_read_80 : decode cX7_read 80 = .ok (.aload_n 1, 1) := by decide +kernel
theorem dX7_read_81 : decode cX7_read 81 = .ok (.invokevirtual 76, 3) := by decide +kernel
theorem dX7_read_84 : decode cX7_read 84 = .ok (.iinc 2 1, 3) := by decide +kernel
theorem dX7_read_87 : decode cX7_read 87 = .ok (.goto (-66), 3) := by decide +kernel
theorem dX7_read_90 : decode cX7_read 90 = .ok (.return_, 1) := by decide +kernel
theorem dX7_readCommand_0 : decode cX7_readCommand 0 = .ok (.aload_n 1, 1) := by decide +kernel
theorem dX7_readCommand_1 : decode cX7_readCommand 1 = .ok (.invokestatic 80, 3) := by decide +kernel
theorem dX7_readCommand_4 : decode cX7_readCommand 4 = .ok (.istore_n 2, 1) := by decide +kernel
theorem dX7_readCommand_5 : decode cX7_readCommand 5 = .ok (.iload_n 2, 1) := by decide +kernel
theorem dX7_readCommand_6 : decode cX7_readCommand 6 = .ok (.iconst (-1), 1) := by decide +kernel
theorem dX7_readCommand_7 : decode cX7_readCommand 7 = .ok (.if_icmp .ne 9, 3) := by decide +kernel
theorem dX7_readCommand_10 : decode cX7_readCommand 10 = .ok (.aload_n 1, 1) := by decide +kernel
theorem dX7_readCommand_11 : decode cX7_readCommand 11 = .ok (.iconst 1, 1) := by decide +kernel
theorem dX7_readCommand_12 : decode cX7_readCommand 12 = .ok (.invokevirtual 84, 3) := by decide +kernel
theorem dX7_readCommand_15 : decode cX7_readCommand 15 = .ok (.return_, 1) := by decide +kernel
theorem dX7_readCommand_16 : decode cX7_readCommand 16 = .ok (.aload_n 0, 1) := by decide +kernel
theorem dX7_readCommand_17 : decode cX7_readCommand 17 = .ok (.getfield 47, 3) := by decide +kernel
theorem dX7_readCommand_20 : decode cX7_readCommand 20 = .ok (.bipush 30, 2) := by decide +kernel
theorem dX7_readCommand_22 : decode cX7_readCommand 22 = .ok (.if_icmp .lt 9, 3) := by decide +kernel
theorem dX7_readCommand_25 : decode cX7_readCommand 25 = .ok (.aload_n 1, 1) := by decide +kernel
theorem dX7_readCommand_26 : decode cX7_readCommand 26 = .ok (.iconst 4, 1) := by decide +kernel
theorem dX7_readCommand_27 : decode cX7_readCommand 27 = .ok (.invokevirtual 84, 3) := by decide +kernel
theorem dX7_readCommand_30 : decode cX7_readCommand 30 = .ok (.return_, 1) := by decide +kernel
theorem dX7_readCommand_31 : decode cX7_readCommand 31 = .ok (.aload_n 0, 1) := by decide +kernel
theorem dX7_readCommand_32 : decode cX7_readCommand 32 = .ok (.dup, 1) := by decide +kernel
theorem dX7_readCommand_33 : decode cX7_readCommand 33 = .ok (.getfield 47, 3) := by decide +kernel
theorem dX7_readCommand_36 : decode cX7_readCommand 36 = .ok (.iconst 1, 1) := by decide +kernel
theorem dX7_readCommand_37 : decode cX7_readCommand 37 = .ok (.iadd, 1) := by decide +kernel
theorem dX7_readCommand_38 : decode cX7_readCommand 38 = .ok (.putfield 47, 3) := by decide +kernel
theorem dX7_readCommand_41 : decode cX7_readCommand 41 = .ok (.aload_n 1, 1) := by decide +kernel
theorem dX7_readCommand_42 : decode cX7_readCommand 42 = .ok (.invokevirtual 88, 3) := by decide +kernel
theorem dX7_readCommand_45 : decode cX7_readCommand 45 = .ok (.iload_n 2, 1) := by decide +kernel
theorem dX7_readCommand_46 : decode cX7_readCommand 46 = .ok (.invokestatic 91, 3) := by decide +kernel
theorem dX7_readCommand_49 : decode cX7_readCommand 49 = .ok (.astore_n 3, 1) := by decide +kernel
theorem dX7_readCommand_50 : decode cX7_readCommand 50 = .ok (.iconst 0, 1) := by decide +kernel
theorem dX7_readCommand_51 : decode cX7_readCommand 51 = .ok (.istore 4, 2) := by decide +kernel
theorem dX7_readCommand_53 : decode cX7_readCommand 53 = .ok (.iload 4, 2) := by decide +kernel
theorem dX7_readCommand_55 : decode cX7_readCommand 55 = .ok (.aload_n 3, 1) := by decide +kernel
theorem dX7_readCommand_56 : decode cX7_readCommand 56 = .ok (.invokevirtual 95, 3) := by decide +kernel
theorem dX7_readCommand_59 : decode cX7_readCommand 59 = .ok (.if_icmp .ge 48, 3) := by decide +kernel
theorem dX7_readCommand_62 : decode cX7_readCommand 62 = .ok (.aload_n 3, 1) := by decide +kernel
theorem dX7_readCommand_63 : decode cX7_readCommand 63 = .ok (.iload 4, 2) := by decide +kernel
theorem dX7_readCommand_65 : decode cX7_readCommand 65 = .ok (.invokevirtual 100, 3) := by decide +kernel
theorem dX7_readCommand_68 : decode cX7_readCommand 68 = .ok (.istore 5, 2) := by decide +kernel
theorem dX7_readCommand_70 : decode cX7_readCommand 70 = .ok (.aload_n 0, 1) := by decide +kernel
theorem dX7_readCommand_71 : decode cX7_readCommand 71 = .ok (.getfield 15, 3) := by decide +kernel
theorem dX7_readCommand_74 : decode cX7_readCommand 74 = .ok (.aload_n 0, 1) := by decide +kernel
theorem dX7_readCommand_75 : decode cX7_readCommand 75 = .ok (.getfield 27, 3) := by decide +kernel
theorem dX7_readCommand_78 : decode cX7_readCommand 78 = .ok (.bipush 6, 2) := by decide +kernel
theorem dX7_readCommand_80 : decode cX7_readCommand 80 = .ok (.imul, 1) := by decide +kernel
theorem dX7_readCommand_81 : decode cX7_readCommand 81 = .ok (.iload 4, 2) := by decide +kernel
theorem dX7_readCommand_83 : decode cX7_readCommand 83 = .ok (.iadd, 1) := by decide +kernel
theorem dX7_readCommand_84 : decode cX7_readCommand 84 = .ok (.aload_n 1, 1) := by decide +kernel
theorem dX7_readCommand_85 : decode cX7_readCommand 85 = .ok (.iload 5, 2) := by decide +kernel
theorem dX7_readCommand_87 : decode cX7_readCommand 87 = .ok (.invokestatic 104, 3) := by decide +kernel
theorem dX7_readCommand_90 : decode cX7_readCommand 90 = .ok (.iload 5, 2) := by decide +kernel
theorem dX7_readCommand_92 : decode cX7_readCommand 92 = .ok (.invokestatic 108, 3) := by decide +kernel
theorem dX7_readCommand_95 : decode cX7_readCommand 95 = .ok (.invokevirtual 111, 3) := by decide +kernel
theorem dX7_readCommand_98 : decode cX7_readCommand 98 = .ok (.invokestatic 43, 3) := by decide +kernel
theorem dX7_readCommand_101 : decode cX7_readCommand 101 = .ok (.iinc 4 1, 3) := by decide +kernel
theorem dX7_readCommand_104 : decode cX7_readCommand 104 = .ok (.goto (-51), 3) := by decide +kernel
theorem dX7_readCommand_107 : decode cX7_readCommand 107 = .ok (.iload_n 2, 1) := by decide +kernel
theorem dX7_readCommand_108 : decode cX7_readCommand 108 = .ok (.bipush 7, 2) := by decide +kernel
theorem dX7_readCommand_110 : decode cX7_readCommand 110 = .ok (.if_icmp .ne 11, 3) := by decide +kernel
theorem dX7_readCommand_113 : decode cX7_readCommand 113 = .ok (.aload_n 0, 1) := by decide +kernel
theorem dX7_readCommand_114 : decode cX7_readCommand 114 = .ok (.aload_n 1, 1) := by decide +kernel
theorem dX7_readCommand_115 : decode cX7_readCommand 115 = .ok (.invokevirtual 114, 3) := by decide +kernel
theorem dX7_readCommand_118 : decode cX7_readCommand 118 = .ok (.goto 9, 3) := by decide +kernel
theorem dX7_readCommand_121 : decode cX7_readCommand 121 = .ok (.aload_n 1, 1) := by decide +kernel
theorem dX7_readCommand_122 : decode cX7_readCommand 122 = .ok (.bipush 59, 2) := by decide +kernel
theorem dX7_readCommand_124 : decode cX7_readCommand 124 = .ok (.invokevirtual 72, 3) := by decide +kernel
theorem dX7_readCommand_127 : decode cX7_readCommand 127 = .ok (.aload_n 0, 1) := by decide +kernel
theorem dX7_readCommand_128 : decode cX7_readCommand 128 = .ok (.getfield 11, 3) := by decide +kernel
theorem dX7_readCommand_131 : decode cX7_readCommand 131 = .ok (.aload_n 0, 1) := by decide +kernel
theorem dX7_readCommand_132 : decode cX7_readCommand 132 = .ok (.getfield 27, 3) := by decide +kernel
theorem dX7_readCommand_135 : decode cX7_readCommand 135 = .ok (.iload_n 2, 1) := by decide +kernel
theorem dX7_readCommand_136 : decode cX7_readCommand 136 = .ok (.invokestatic 43, 3) := by decide +kernel
theorem dX7_readCommand_139 : decode cX7_readCommand 139 = .ok (.aload_n 0, 1) := by decide +kernel
theorem dX7_readCommand_140 : decode cX7_readCommand 140 = .ok (.dup, 1) := by decide +kernel
theorem dX7_readCommand_141 : decode cX7_readCommand 141 = .ok (.getfield 27, 3) := by decide +kernel
theorem dX7_readCommand_144 : decode cX7_readCommand 144 = .ok (.iconst 1, 1) := by decide +kernel
theorem dX7_readCommand_145 : decode cX7_readCommand 145 = .ok (.iadd, 1) := by decide +kernel
theorem dX7_readCommand_146 : decode cX7_readCommand 146 = .ok (.putfield 27, 3) := by decide +kernel
theorem dX7_readCommand_149 : decode cX7_readCommand 149 = .ok (.return_, 1) := by decide +kernel
theorem dX7_openBracket_0 : decode cX7_openBracket 0 = .ok (.aload_n 0, 1) := by decide +kernel
theorem dX7_openBracket_1 : decode cX7_openBracket 1 = .ok (.getfield 50, 3) := by decide +kernel
theorem dX7_openBracket_4 : decode cX7_openBracket 4 = .ok (.iconst 2, 1) := by decide +kernel
theorem dX7_openBracket_5 : decode cX7_openBracket 5 = .ok (.if_icmp .lt 17, 3) := by decide +kernel
theorem dX7_openBracket_8 : decode cX7_openBracket 8 = .ok (.aload_n 1, 1) := by decide +kernel
theorem dX7_openBracket_9 : decode cX7_openBracket 9 = .ok (.bipush 40, 2) := by decide +kernel
theorem dX7_openBracket_11 : decode cX7_openBracket 11 = .ok (.invokevirtual 117, 3) := by decide +kernel
theorem dX7_openBracket_14 : decode cX7_openBracket 14 = .ok (.ifCond .eq 8, 3) := by decide +kernel
theorem dX7_openBracket_17 : decode cX7_openBracket 17 = .ok (.aload_n 1, 1) := by decide +kernel
theorem dX7_openBracket_18 : decode cX7_openBracket 18 = .ok (.iconst 4, 1) := by decide +kernel
theorem dX7_openBracket_19 : decode cX7_openBracket 19 = .ok (.invokevirtual 84, 3) := by decide +kernel
theorem dX7_openBracket_22 : decode cX7_openBracket 22 = .ok (.aload_n 1, 1) := by decide +kernel
theorem dX7_openBracket_23 : decode cX7_openBracket 23 = .ok (.bipush 40, 2) := by decide +kernel
theorem dX7_openBracket_25 : decode cX7_openBracket 25 = .ok (.invokevirtual 72, 3) := by decide +kernel
theorem dX7_openBracket_28 : decode cX7_openBracket 28 = .ok (.aload_n 1, 1) := by decide +kernel
theorem dX7_openBracket_29 : decode cX7_openBracket 29 = .ok (.invokevirtual 58, 3) := by decide +kernel
theorem dX7_openBracket_32 : decode cX7_openBracket 32 = .ok (.ifCond .ne 28, 3) := by decide +kernel
theorem dX7_openBracket_35 : decode cX7_openBracket 35 = .ok (.aload_n 0, 1) := by decide +kernel
theorem dX7_openBracket_36 : decode cX7_openBracket 36 = .ok (.getfield 24, 3) := by decide +kernel
theorem dX7_openBracket_39 : decode cX7_openBracket 39 = .ok (.aload_n 0, 1) := by decide +kernel
theorem dX7_openBracket_40 : decode cX7_openBracket 40 = .ok (.getfield 50, 3) := by decide +kernel
theorem dX7_openBracket_43 : decode cX7_openBracket 43 = .ok (.aload_n 0, 1) := by decide +kernel
theorem dX7_openBracket_44 : decode cX7_openBracket 44 = .ok (.getfield 27, 3) := by decide +kernel
theorem dX7_openBracket_47 : decode cX7_openBracket 47 = .ok (.invokestatic 43, 3) := by decide +kernel
theorem dX7_openBracket_50 : decode cX7_openBracket 50 = .ok (.aload_n 0, 1) := by decide +kernel
theorem dX7_openBracket_51 : decode cX7_openBracket 51 = .ok (.dup, 1) := by decide +kernel
theorem dX7_openBracket_52 : decode cX7_openBracket 52 = .ok (.getfield 50, 3) := by decide +kernel
theorem dX7_openBracket_55 : decode cX7_openBracket 55 = .ok (.iconst 1, 1) := by decide +kernel
theorem dX7_openBracket_56 : decode cX7_openBracket 56 = .ok (.iadd, 1) := by decide +kernel
theorem dX7_openBracket_57 : decode cX7_openBracket 57 = .ok (.putfield 50, 3) := by decide +kernel
theorem dX7_openBracket_60 : decode cX7_openBracket 60 = .ok (.return_, 1) := by decide +kernel
theorem dX7_closeBracket_0 : decode cX7_closeBracket 0 = .ok (.aload_n 0, 1) := by decide +kernel
theorem dX7_closeBracket_1 : decode cX7_closeBracket 1 = .ok (.dup, 1) := by decide +kernel
theorem dX7_closeBracket_2 : decode cX7_closeBracket 2 = .ok (.getfield 50, 3) := by decide +kernel
theorem dX7_closeBracket_5 : decode cX7_closeBracket 5 = .ok (.iconst 1, 1) := by decide +kernel
theorem dX7_closeBracket_6 : decode cX7_closeBracket 6 = .ok (.isub, 1) := by decide +kernel
theorem dX7_closeBracket_7 : decode cX7_closeBracket 7 = .ok (.putfield 50, 3) := by decide +kernel
theorem dX7_closeBracket_10 : decode cX7_closeBracket 10 = .ok (.aload_n 0, 1) := by decide +kernel
theorem dX7_closeBracket_11 : decode cX7_closeBracket 11 = .ok (.getfield 24, 3) := by decide +kernel
theorem dX7_closeBracket_14 : decode cX7_closeBracket 14 = .ok (.aload_n 0, 1) := by decide +kernel
theorem dX7_closeBracket_15 : decode cX7_closeBracket 15 = .ok (.getfield 50, 3) := by decide +kernel
theorem dX7_closeBracket_18 : decode cX7_closeBracket 18 = .ok (.invokestatic 31, 3) := by decide +kernel
theorem dX7_closeBracket_21 : decode cX7_closeBracket 21 = .ok (.istore_n 1, 1) := by decide +kernel
theorem dX7_closeBracket_22 : decode cX7_closeBracket 22 = .ok (.aload_n 0, 1) := by decide +kernel
theorem dX7_closeBracket_23 : decode cX7_closeBracket 23 = .ok (.getfield 11, 3) := by decide +kernel
theorem dX7_closeBracket_26 : decode cX7_closeBracket 26 = .ok (.aload_n 0, 1) := by decide +kernel
theorem dX7_closeBracket_27 : decode cX7_closeBracket 27 = .ok (.getfield 27, 3) := by decide +kernel
theorem dX7_closeBracket_30 : decode cX7_closeBracket 30 = .ok (.bipush 8, 2) := by decide +kernel
theorem dX7_closeBracket_32 : decode cX7_closeBracket 32 = .ok (.invokestatic 43, 3) := by decide +kernel
theorem dX7_closeBracket_35 : decode cX7_closeBracket 35 = .ok (.aload_n 0, 1) := by decide +kernel
theorem dX7_closeBracket_36 : decode cX7_closeBracket 36 = .ok (.getfield 18, 3) := by decide +kernel
theorem dX7_closeBracket_39 : decode cX7_closeBracket 39 = .ok (.aload_n 0, 1) := by decide +kernel
theorem dX7_closeBracket_40 : decode cX7_closeBracket 40 = .ok (.getfield 27, 3) := by decide +kernel
theorem dX7_closeBracket_43 : decode cX7_closeBracket 43 = .ok (.iload_n 1, 1) := by decide +kernel
theorem dX7_closeBracket_44 : decode cX7_closeBracket 44 = .ok (.invokestatic 43, 3) := by decide +kernel
theorem dX7_closeBracket_47 : decode cX7_closeBracket 47 = .ok (.aload_n 0, 1) := by decide +kernel
theorem dX7_closeBracket_48 : decode cX7_closeBracket 48 = .ok (.getfield 18, 3) := by decide +kernel
theorem dX7_closeBracket_51 : decode cX7_closeBracket 51 = .ok (.iload_n 1, 1) := by decide +kernel
theorem dX7_closeBracket_52 : decode cX7_closeBracket 52 = .ok (.aload_n 0, 1) := by decide +kernel
theorem dX7_closeBracket_53 : decode cX7_closeBracket 53 = .ok (.getfield 27, 3) := by decide +kernel
theorem dX7_closeBracket_56 : decode cX7_closeBracket 56 = .ok (.invokestatic 43, 3) := by decide +kernel
theorem dX7_closeBracket_59 : decode cX7_closeBracket 59 = .ok (.aload_n 0, 1) := by decide +kernel
theorem dX7_closeBracket_60 : decode cX7_closeBracket 60 = .ok (.dup, 1) := by decide +kernel
theorem dX7_closeBracket_61 : decode cX7_closeBracket 61 = .ok (.getfield 27, 3) := by decide +kernel
theorem dX7_closeBracket_64 : decode cX7_closeBracket 64 = .ok (.iconst 1, 1) := by decide +kernel
theorem dX7_closeBracket_65 : decode cX7_closeBracket 65 = .ok (.iadd, 1) := by decide +kernel
theorem dX7_closeBracket_66 : decode cX7_closeBracket 66 = .ok (.putfield 27, 3) := by decide +kernel
theorem dX7_closeBracket_69 : decode cX7_closeBracket 69 = .ok (.return_, 1) := by decide +kernel
theorem dX7_commandOf_0 : decode cX7_commandOf 0 = .ok (.aload_n 0, 1) := by decide +kernel
theorem dX7_commandOf_1 : decode cX7_commandOf 1 = .ok (.ldc 120, 2) := by decide +kernel
theorem dX7_commandOf_3 : decode cX7_commandOf 3 = .ok (.invokevirtual 122, 3) := by decide +kernel
theorem dX7_commandOf_6 : decode cX7_commandOf 6 = .ok (.ifCond .eq 5, 3) := by decide +kernel
theorem dX7_commandOf_9 : decode cX7_commandOf 9 = .ok (.iconst 1, 1) := by decide +kernel
theorem dX7_commandOf_10 : decode cX7_commandOf 10 = .ok (.ireturn, 1) := by decide +kernel
theorem dX7_commandOf_11 : decode cX7_commandOf 11 = .ok (.aload_n 0, 1) := by decide +kernel
theorem dX7_commandOf_12 : decode cX7_commandOf 12 = .ok (.ldc 126, 2) := by decide +kernel
theorem dX7_commandOf_14 : decode cX7_commandOf 14 = .ok (.invokevirtual 122, 3) := by decide +kernel
theorem dX7_commandOf_17 : decode cX7_commandOf 17 = .ok (.ifCond .eq 5, 3) := by decide +kernel
theorem dX7_commandOf_20 : decode cX7_commandOf 20 = .ok (.iconst 2, 1) := by decide +kernel
theorem dX7_commandOf_21 : decode cX7_commandOf 21 = .ok (.ireturn, 1) := by decide +kernel
theorem dX7_commandOf_22 : decode cX7_commandOf 22 = .ok (.aload_n 0, 1) := by decide +kernel
theorem dX7_commandOf_23 : decode cX7_commandOf 23 = .ok (.ldc 128, 2) := by decide +kernel
theorem dX7_commandOf_25 : decode cX7_commandOf 25 = .ok (.invokevirtual 122, 3) := by decide +kernel
theorem dX7_commandOf_28 : decode cX7_commandOf 28 = .ok (.ifCond .eq 5, 3) := by decide +kernel
theorem dX7_commandOf_31 : decode cX7_commandOf 31 = .ok (.iconst 3, 1) := by decide +kernel
theorem dX7_commandOf_32 : decode cX7_commandOf 32 = .ok (.ireturn, 1) := by decide +kernel
theorem dX7_commandOf_33 : decode cX7_commandOf 33 = .ok (.aload_n 0, 1) := by decide +kernel
theorem dX7_commandOf_34 : decode cX7_commandOf 34 = .ok (.ldc 130, 2) := by decide +kernel
theorem dX7_commandOf_36 : decode cX7_commandOf 36 = .ok (.invokevirtual 122, 3) := by decide +kernel
theorem dX7_commandOf_39 : decode cX7_commandOf 39 = .ok (.ifCond .eq 5, 3) := by decide +kernel
theorem dX7_commandOf_42 : decode cX7_commandOf 42 = .ok (.iconst 4, 1) := by decide +kernel
theorem dX7_commandOf_43 : decode cX7_commandOf 43 = .ok (.ireturn, 1) := by decide +kernel
theorem dX7_commandOf_44 : decode cX7_commandOf 44 = .ok (.aload_n 0, 1) := by decide +kernel
theorem dX7_commandOf_45 : decode cX7_commandOf 45 = .ok (.ldc 132, 2) := by decide +kernel
theorem dX7_commandOf_47 : decode cX7_commandOf 47 = .ok (.invokevirtual 122, 3) := by decide +kernel
theorem dX7_commandOf_50 : decode cX7_commandOf 50 = .ok (.ifCond .eq 5, 3) := by decide +kernel
theorem dX7_commandOf_53 : decode cX7_commandOf 53 = .ok (.iconst 5, 1) := by decide +kernel
theorem dX7_commandOf_54 : decode cX7_commandOf 54 = .ok (.ireturn, 1) := by decide +kernel
theorem dX7_commandOf_55 : decode cX7_commandOf 55 = .ok (.aload_n 0, 1) := by decide +kernel
theorem dX7_commandOf_56 : decode cX7_commandOf 56 = .ok (.ldc 134, 2) := by decide +kernel
theorem dX7_commandOf_58 : decode cX7_commandOf 58 = .ok (.invokevirtual 122, 3) := by decide +kernel
theorem dX7_commandOf_61 : decode cX7_commandOf 61 = .ok (.ifCond .eq 6, 3) := by decide +kernel
theorem dX7_commandOf_64 : decode cX7_commandOf 64 = .ok (.bipush 6, 2) := by decide +kernel
theorem dX7_commandOf_66 : decode cX7_commandOf 66 = .ok (.ireturn, 1) := by decide +kernel
theorem dX7_commandOf_67 : decode cX7_commandOf 67 = .ok (.aload_n 0, 1) := by decide +kernel
theorem dX7_commandOf_68 : decode cX7_commandOf 68 = .ok (.ldc 136, 2) := by decide +kernel
theorem dX7_commandOf_70 : decode cX7_commandOf 70 = .ok (.invokevirtual 122, 3) := by decide +kernel
theorem dX7_commandOf_73 : decode cX7_commandOf 73 = .ok (.ifCond .eq 8, 3) := by decide +kernel
theorem dX7_commandOf_76 : decode cX7_commandOf 76 = .ok (.bipush 7, 2) := by decide +kernel
theorem dX7_commandOf_78 : decode cX7_commandOf 78 = .ok (.goto 4, 3) := by decide +kernel
theorem dX7_commandOf_81 : decode cX7_commandOf 81 = .ok (.iconst (-1), 1) := by decide +kernel
theorem dX7_commandOf_82 : decode cX7_commandOf 82 = .ok (.ireturn, 1) := by decide +kernel
theorem dX7_argumentsOf_0 : decode cX7_argumentsOf 0 = .ok (.iload_n 0, 1) := by decide +kernel
theorem dX7_argumentsOf_1 : decode cX7_argumentsOf 1 = .ok (.tableswitch 57 1 6 #[39, 42, 45, 48, 51, 54], 39) := by decide +kernel
theorem dX7_argumentsOf_40 : decode cX7_argumentsOf 40 = .ok (.ldc 138, 2) := by decide +kernel
theorem dX7_argumentsOf_42 : decode cX7_argumentsOf 42 = .ok (.areturn, 1) := by decide +kernel
theorem dX7_argumentsOf_43 : decode cX7_argumentsOf 43 = .ok (.ldc 140, 2) := by decide +kernel
theorem dX7_argumentsOf_45 : decode cX7_argumentsOf 45 = .ok (.areturn, 1) := by decide +kernel
theorem dX7_argumentsOf_46 : decode cX7_argumentsOf 46 = .ok (.ldc 142, 2) := by decide +kernel
theorem dX7_argumentsOf_48 : decode cX7_argumentsOf 48 = .ok (.areturn, 1) := by decide +kernel
theorem dX7_argumentsOf_49 : decode cX7_argumentsOf 49 = .ok (.ldc 144, 2) := by decide +kernel
theorem dX7_argumentsOf_51 : decode cX7_argumentsOf 51 = .ok (.areturn, 1) := by decide +kernel
theorem dX7_argumentsOf_52 : decode cX7_argumentsOf 52 = .ok (.ldc 146, 2) := by decide +kernel
theorem dX7_argumentsOf_54 : decode cX7_argumentsOf 54 = .ok (.areturn, 1) := by decide +kernel
theorem dX7_argumentsOf_55 : decode cX7_argumentsOf 55 = .ok (.ldc 148, 2) := by decide +kernel
theorem dX7_argumentsOf_57 : decode cX7_argumentsOf 57 = .ok (.areturn, 1) := by decide +kernel
theorem dX7_argumentsOf_58 : decode cX7_argumentsOf 58 = .ok (.ldc 150, 2) := by decide +kernel
theorem dX7_argumentsOf_60 : decode cX7_argumentsOf 60 = .ok (.areturn, 1) := by decide +kernel
theorem dX7_lowest_0 : decode cX7_lowest 0 = .ok (.iload_n 0, 1) := by decide +kernel
theorem dX7_lowest_1 : decode cX7_lowest 1 = .ok (.bipush 100, 2) := by decide +kernel
theorem dX7_lowest_3 : decode cX7_lowest 3 = .ok (.if_icmp .ne 7, 3) := by decide +kernel
theorem dX7_lowest_6 : decode cX7_lowest 6 = .ok (.iconst 1, 1) := by decide +kernel
theorem dX7_lowest_7 : decode cX7_lowest 7 = .ok (.goto 4, 3) := by decide +kernel
theorem dX7_lowest_10 : decode cX7_lowest 10 = .ok (.iconst 0, 1) := by decide +kernel
theorem dX7_lowest_11 : decode cX7_lowest 11 = .ok (.ireturn, 1) := by decide +kernel
theorem dX7_highest_0 : decode cX7_highest 0 = .ok (.iload_n 0, 1) := by decide +kernel
theorem dX7_highest_1 : decode cX7_highest 1 = .ok (.tableswitch 114 100 119 #[105, 114, 114, 114, 111, 114, 114, 114, 102, 108, 114, 114, 100, 114, 114, 97, 114, 114, 114, 95], 95) := by decide +kernel
theorem dX7_highest_96 : decode cX7_highest 96 = .ok (.iconst 1, 1) := by decide +kernel
theorem dX7_highest_97 : decode cX7_highest 97 = .ok (.ireturn, 1) := by decide +kernel
theorem dX7_highest_98 : decode cX7_highest 98 = .ok (.bipush 63, 2) := by decide +kernel
theorem dX7_highest_100 : decode cX7_highest 100 = .ok (.ireturn, 1) := by decide +kernel
theorem dX7_highest_101 : decode cX7_highest 101 = .ok (.iconst 3, 1) := by decide +kernel
theorem dX7_highest_102 : decode cX7_highest 102 = .ok (.ireturn, 1) := by decide +kernel
theorem dX7_highest_103 : decode cX7_highest 103 = .ok (.bipush 79, 2) := by decide +kernel
theorem dX7_highest_105 : decode cX7_highest 105 = .ok (.ireturn, 1) := by decide +kernel
theorem dX7_highest_106 : decode cX7_highest 106 = .ok (.bipush 60, 2) := by decide +kernel
theorem dX7_highest_108 : decode cX7_highest 108 = .ok (.ireturn, 1) := by decide +kernel
theorem dX7_highest_109 : decode cX7_highest 109 = .ok (.bipush 11, 2) := by decide +kernel
theorem dX7_highest_111 : decode cX7_highest 111 = .ok (.ireturn, 1) := by decide +kernel
theorem dX7_highest_112 : decode cX7_highest 112 = .ok (.bipush 9, 2) := by decide +kernel
theorem dX7_highest_114 : decode cX7_highest 114 = .ok (.ireturn, 1) := by decide +kernel
theorem dX7_highest_115 : decode cX7_highest 115 = .ok (.bipush 20, 2) := by decide +kernel
theorem dX7_highest_117 : decode cX7_highest 117 = .ok (.ireturn, 1) := by decide +kernel
theorem dX8_init_0 : decode cX8_init 0 = .ok (.aload_n 0, 1) := by decide +kernel
theorem dX8_init_1 : decode cX8_init 1 = .ok (.invokespecial 3, 3) := by decide +kernel
theorem dX8_init_4 : decode cX8_init 4 = .ok (.aload_n 0, 1) := by decide +kernel
theorem dX8_init_5 : decode cX8_init 5 = .ok (.sipush 800, 3) := by decide +kernel
theorem dX8_init_8 : decode cX8_init 8 = .ok (.newarray .int, 2) := by decide +kernel
theorem dX8_init_10 : decode cX8_init 10 = .ok (.putfield 9, 3) := by decide +kernel
theorem dX8_init_13 : decode cX8_init 13 = .ok (.aload_n 0, 1) := by decide +kernel
theorem dX8_init_14 : decode cX8_init 14 = .ok (.iconst (-1), 1) := by decide +kernel
theorem dX8_init_15 : decode cX8_init 15 = .ok (.putfield 15, 3) := by decide +kernel
theorem dX8_init_18 : decode cX8_init 18 = .ok (.return_, 1) := by decide +kernel
theorem dX8_length_0 : decode cX8_length 0 = .ok (.aload_n 0, 1) := by decide +kernel
theorem dX8_length_1 : decode cX8_length 1 = .ok (.getfield 19, 3) := by decide +kernel
theorem dX8_length_4 : decode cX8_length 4 = .ok (.ireturn, 1) := by decide +kernel
theorem dX8_add_0 : decode cX8_add 0 = .ok (.aload_n 0, 1) := by decide +kernel
theorem dX8_add_1 : decode cX8_add 1 = .ok (.getfield 19, 3) := by decide +kernel
theorem dX8_add_4 : decode cX8_add 4 = .ok (.aload_n 0, 1) := by decide +kernel
theorem dX8_add_5 : decode cX8_add 5 = .ok (.getfield 9, 3) := by decide +kernel
theorem dX8_add_8 : decode cX8_add 8 = .ok (.arraylength, 1) := by decide +kernel
theorem dX8_add_9 : decode cX8_add 9 = .ok (.if_icmp .ge 25, 3) := by decide +kernel
theorem dX8_add_12 : decode cX8_add 12 = .ok (.aload_n 0, 1) := by decide +kernel
theorem dX8_add_13 : decode cX8_add 13 = .ok (.getfield 9, 3) := by decide +kernel
theorem dX8_add_16 : decode cX8_add 16 = .ok (.aload_n 0, 1) := by decide +kernel
theorem dX8_add_17 : decode cX8_add 17 = .ok (.getfield 19, 3) := by decide +kernel
theorem dX8_add_20 : decode cX8_add 20 = .ok (.iload_n 1, 1) := by decide +kernel
theorem dX8_add_21 : decode cX8_add 21 = .ok (.invokestatic 22, 3) := by decide +kernel
theorem dX8_add_24 : decode cX8_add 24 = .ok (.aload_n 0, 1) := by decide +kernel
theorem dX8_add_25 : decode cX8_add 25 = .ok (.dup, 1) := by decide +kernel
theorem dX8_add_26 : decode cX8_add 26 = .ok (.getfield 19, 3) := by decide +kernel
theorem dX8_add_29 : decode cX8_add 29 = .ok (.iconst 1, 1) := by decide +kernel
theorem dX8_add_30 : decode cX8_add 30 = .ok (.iadd, 1) := by decide +kernel
theorem dX8_add_31 : decode cX8_add 31 = .ok (.putfield 19, 3) := by decide +kernel
theorem dX8_add_34 : decode cX8_add 34 = .ok (.return_, 1) := by decide +kernel
theorem dX8_shorten_0 : decode cX8_shorten 0 = .ok (.aload_n 0, 1) := by decide +kernel
theorem dX8_shorten_1 : decode cX8_shorten 1 = .ok (.getfield 19, 3) := by decide +kernel
theorem dX8_shorten_4 : decode cX8_shorten 4 = .ok (.iload_n 1, 1) := by decide +kernel
theorem dX8_shorten_5 : decode cX8_shorten 5 = .ok (.isub, 1) := by decide +kernel
theorem dX8_shorten_6 : decode cX8_shorten 6 = .ok (.istore_n 2, 1) := by decide +kernel
theorem dX8_shorten_7 : decode cX8_shorten 7 = .ok (.aload_n 0, 1) := by decide +kernel
theorem dX8_shorten_8 : decode cX8_shorten 8 = .ok (.iload_n 1, 1) := by decide +kernel
theorem dX8_shorten_9 : decode cX8_shorten 9 = .ok (.putfield 19, 3) := by decide +kernel
theorem dX8_shorten_12 : decode cX8_shorten 12 = .ok (.iload_n 2, 1) := by decide +kernel
theorem dX8_shorten_13 : decode cX8_shorten 13 = .ok (.ireturn, 1) := by decide +kernel
theorem dX8_clear_0 : decode cX8_clear 0 = .ok (.aload_n 0, 1) := by decide +kernel
theorem dX8_clear_1 : decode cX8_clear 1 = .ok (.iconst 0, 1) := by decide +kernel
theorem dX8_clear_2 : decode cX8_clear 2 = .ok (.putfield 19, 3) := by decide +kernel
theorem dX8_clear_5 : decode cX8_clear 5 = .ok (.return_, 1) := by decide +kernel
theorem dX8_error_0 : decode cX8_error 0 = .ok (.aload_n 0, 1) := by decide +kernel
theorem dX8_error_1 : decode cX8_error 1 = .ok (.getfield 26, 3) := by decide +kernel
theorem dX8_error_4 : decode cX8_error 4 = .ok (.ireturn, 1) := by decide +kernel
theorem dX8_errorAt_0 : decode cX8_errorAt 0 = .ok (.aload_n 0, 1) := by decide +kernel
theorem dX8_errorAt_1 : decode cX8_errorAt 1 = .ok (.getfield 15, 3) := by decide +kernel
theorem dX8_errorAt_4 : decode cX8_errorAt 4 = .ok (.ireturn, 1) := by decide +kernel
theorem dX8_hasError_0 : decode cX8_hasError 0 = .ok (.aload_n 0, 1) := by decide +kernel
theorem dX8_hasError_1 : decode cX8_hasError 1 = .ok (.getfield 26, 3) := by decide +kernel
theorem dX8_hasError_4 : decode cX8_hasError 4 = .ok (.ifCond .eq 7, 3) := by decide +kernel
theorem dX8_hasError_7 : decode cX8_hasError 7 = .ok (.iconst 1, 1) := by decide +kernel
theorem dX8_hasError_8 : decode cX8_hasError 8 = .ok (.goto 4, 3) := by decide +kernel
theorem dX8_hasError_11 : decode cX8_hasError 11 = .ok (.iconst 0, 1) := by decide +kernel
theorem dX8_hasError_12 : decode cX8_hasError 12 = .ok (.ireturn, 1) := by decide +kernel
theorem dX8_begin_0 : decode cX8_begin 0 = .ok (.aload_n 0, 1) := by decide +kernel
theorem dX8_begin_1 : decode cX8_begin 1 = .ok (.iconst 0, 1) := by decide +kernel
theorem dX8_begin_2 : decode cX8_begin 2 = .ok (.putfield 26, 3) := by decide +kernel
theorem dX8_begin_5 : decode cX8_begin 5 = .ok (.aload_n 0, 1) := by decide +kernel
theorem dX8_begin_6 : decode cX8_begin 6 = .ok (.iconst (-1), 1) := by decide +kernel
theorem dX8_begin_7 : decode cX8_begin 7 = .ok (.putfield 15, 3) := by decide +kernel
theorem dX8_begin_10 : decode cX8_begin 10 = .ok (.aload_n 0, 1) := by decide +kernel
theorem dX8_begin_11 : decode cX8_begin 11 = .ok (.iconst 0, 1) := by decide +kernel
theorem dX8_begin_12 : decode cX8_begin 12 = .ok (.putfield 29, 3) := by decide +kernel
theorem dX8_begin_15 : decode cX8_begin 15 = .ok (.aload_n 0, 1) := by decide +kernel
theorem dX8_begin_16 : decode cX8_begin 16 = .ok (.invokevirtual 32, 3) := by decide +kernel
theorem dX8_begin_19 : decode cX8_begin 19 = .ok (.return_, 1) := by decide +kernel
theorem dX8_step_0 : decode cX8_step 0 = .ok (.aload_n 0, 1) := by decide +kernel
theorem dX8_step_1 : decode cX8_step 1 = .ok (.aload_n 0, 1) := by decide +kernel
theorem dX8_step_2 : decode cX8_step 2 = .ok (.getfield 35, 3) := by decide +kernel
theorem dX8_step_5 : decode cX8_step 5 = .ok (.putfield 38, 3) := by decide +kernel
theorem dX8_step_8 : decode cX8_step 8 = .ok (.aload_n 0, 1) := by decide +kernel
theorem dX8_step_9 : decode cX8_step 9 = .ok (.aload_n 0, 1) := by decide +kernel
theorem dX8_step_10 : decode cX8_step 10 = .ok (.getfield 29, 3) := by decide +kernel
theorem dX8_step_13 : decode cX8_step 13 = .ok (.putfield 35, 3) := by decide +kernel
theorem dX8_step_16 : decode cX8_step 16 = .ok (.aload_n 0, 1) := by decide +kernel
theorem dX8_step_17 : decode cX8_step 17 = .ok (.getfield 35, 3) := by decide +kernel
theorem dX8_step_20 : decode cX8_step 20 = .ok (.aload_n 0, 1) := by decide +kernel
theorem dX8_step_21 : decode cX8_step 21 = .ok (.getfield 19, 3) := by decide +kernel
theorem dX8_step_24 : decode cX8_step 24 = .ok (.if_icmp .ge 33, 3) := by decide +kernel
theorem dX8_step_27 : decode cX8_step 27 = .ok (.aload_n 0, 1) := by decide +kernel
theorem dX8_step_28 : decode cX8_step 28 = .ok (.getfield 9, 3) := by decide +kernel
theorem dX8_step_31 : decode cX8_step 31 = .ok (.aload_n 0, 1) := by decide +kernel
theorem dX8_step_32 : decode cX8_step 32 = .ok (.getfield 35, 3) := by decide +kernel
theorem dX8_step_35 : decode cX8_step 35 = .ok (.invokestatic 41, 3) := by decide +kernel
theorem dX8_step_38 : decode cX8_step 38 = .ok (.invokestatic 45, 3) := by decide +kernel
theorem dX8_step_41 : decode cX8_step 41 = .ok (.ifCond .eq 16, 3) := by decide +kernel
theorem dX8_step_44 : decode cX8_step 44 = .ok (.aload_n 0, 1) := by decide +kernel
theorem dX8_step_45 : decode cX8_step 45 = .ok (.dup, 1) := by decide +kernel
theorem dX8_step_46 : decode cX8_step 46 = .ok (.getfield 35, 3) := by decide +kernel
theorem dX8_step_49 : decode cX8_step 49 = .ok (.iconst 1, 1) := by decide +kernel
theorem dX8_step_50 : decode cX8_step 50 = .ok (.iadd, 1) := by decide +kernel
theorem dX8_step_51 : decode cX8_step 51 = .ok (.putfield 35, 3) := by decide +kernel
theorem dX8_step_54 : decode cX8_step 54 = .ok (.goto (-38), 3) := by decide +kernel
theorem dX8_step_57 : decode cX8_step 57 = .ok (.aload_n 0, 1) := by decide +kernel
theorem dX8_step_58 : decode cX8_step 58 = .ok (.aload_n 0, 1) := by decide +kernel
theorem dX8_step_59 : decode cX8_step 59 = .ok (.getfield 35, 3) := by decide +kernel
theorem dX8_step_62 : decode cX8_step 62 = .ok (.putfield 29, 3) := by decide +kernel
theorem dX8_step_65 : decode cX8_step 65 = .ok (.aload_n 0, 1) := by decide +kernel
theorem dX8_step_66 : decode cX8_step 66 = .ok (.iconst 0, 1) := by decide +kernel
theorem dX8_step_67 : decode cX8_step 67 = .ok (.putfield 49, 3) := by decide +kernel
theorem dX8_step_70 : decode cX8_step 70 = .ok (.aload_n 0, 1) := by decide +kernel
theorem dX8_step_71 : decode cX8_step 71 = .ok (.getfield 9, 3) := by decide +kernel
theorem dX8_step_74 : decode cX8_step 74 = .ok (.aload_n 0, 1) := by decide +kernel
theorem dX8_step_75 : decode cX8_step 75 = .ok (.getfield 35, 3) := by decide +kernel
theorem dX8_step_78 : decode cX8_step 78 = .ok (.invokestatic 41, 3) := by decide +kernel
theorem dX8_step_81 : decode cX8_step 81 = .ok (.istore_n 1, 1) := by decide +kernel
theorem dX8_step_82 : decode cX8_step 82 = .ok (.aload_n 0, 1) := by decide +kernel
theorem dX8_step_83 : decode cX8_step 83 = .ok (.getfield 35, 3) := by decide +kernel
theorem dX8_step_86 : decode cX8_step 86 = .ok (.aload_n 0, 1) := by decide +kernel
theorem dX8_step_87 : decode cX8_step 87 = .ok (.getfield 19, 3) := by decide +kernel
theorem dX8_step_90 : decode cX8_step 90 = .ok (.if_icmp .lt 11, 3) := by decide +kernel
theorem dX8_step_93 : decode cX8_step 93 = .ok (.aload_n 0, 1) := by decide +kernel
theorem dX8_step_94 : decode cX8_step 94 = .ok (.iconst 0, 1) := by decide +kernel
theorem dX8_step_95 : decode cX8_step 95 = .ok (.putfield 52, 3) := by decide +kernel
theorem dX8_step_98 : decode cX8_step 98 = .ok (.goto 73, 3) := by decide +kernel
theorem dX8_step_101 : decode cX8_step 101 = .ok (.iload_n 1, 1) := by decide +kernel
theorem dX8_step_102 : decode cX8_step 102 = .ok (.invokestatic 55, 3) := by decide +kernel
theorem dX8_step_105 : decode cX8_step 105 = .ok (.ifCond .eq 10, 3) := by decide +kernel
theorem dX8_step_108 : decode cX8_step 108 = .ok (.aload_n 0, 1) := by decide +kernel
theorem dX8_step_109 : decode cX8_step 109 = .ok (.invokevirtual 58, 3) := by decide +kernel
theorem dX8_step_112 : decode cX8_step 112 = .ok (.goto 59, 3) := by decide +kernel
theorem dX8_step_115 : decode cX8_step 115 = .ok (.iload_n 1, 1) := by decide +kernel
theorem dX8_step_116 : decode cX8_step 116 = .ok (.invokestatic 61, 3) := by decide +kernel
theorem dX8_step_119 : decode cX8_step 119 = .ok (.ifCond .eq 10, 3) := by decide +kernel
theorem dX8_step_122 : decode cX8_step 122 = .ok (.aload_n 0, 1) := by decide +kernel
theorem dX8_step_123 : decode cX8_step 123 = .ok (.invokevirtual 64, 3) := by decide +kernel
theorem dX8_step_126 : decode cX8_step 126 = .ok (.goto 45, 3) := by decide +kernel
theorem dX8_step_129 : decode cX8_step 129 = .ok (.aload_n 0, 1) := by decide +kernel
theorem dX8_step_130 : decode cX8_step 130 = .ok (.iload_n 1, 1) := by decide +kernel
theorem dX8_step_131 : decode cX8_step 131 = .ok (.bipush 59, 2) := by decide +kernel
theorem dX8_step_133 : decode cX8_step 133 = .ok (.if_icmp .eq 15, 3) := by decide +kernel
theorem dX8_step_136 : decode cX8_step 136 = .ok (.iload_n 1, 1) := by decide +kernel
theorem dX8_step_137 : decode cX8_step 137 = .ok (.bipush 40, 2) := by decide +kernel
theorem dX8_step_139 : decode cX8_step 139 = .ok (.if_icmp .eq 9, 3) := by decide +kernel
theorem dX8_step_142 : decode cX8_step 142 = .ok (.iload_n 1, 1) := by decide +kernel
theorem dX8_step_143 : decode cX8_step 143 = .ok (.bipush 41, 2) := by decide +kernel
theorem dX8_step_145 : decode cX8_step 145 = .ok (.if_icmp .ne 7, 3) := by decide +kernel
theorem dX8_step_148 : decode cX8_step 148 = .ok (.iconst 3, 1) := by decide +kernel
theorem dX8_step_149 : decode cX8_step 149 = .ok (.goto 4, 3) := by decide +kernel
theorem dX8_step_152 : decode cX8_step 152 = .ok (.iconst 4, 1) := by decide +kernel
theorem dX8_step_153 : decode cX8_step 153 = .ok (.putfield 52, 3) := by decide +kernel
theorem dX8_step_156 : decode cX8_step 156 = .ok (.aload_n 0, 1) := by decide +kernel
theorem dX8_step_157 : decode cX8_step 157 = .ok (.iload_n 1, 1) := by decide +kernel
theorem dX8_step_158 : decode cX8_step 158 = .ok (.putfield 49, 3) := by decide +kernel
theorem dX8_step_161 : decode cX8_step 161 = .ok (.aload_n 0, 1) := by decide +kernel
theorem dX8_step_162 : decode cX8_step 162 = .ok (.aload_n 0, 1) := by decide +kernel
theorem dX8_step_163 : decode cX8_step 163 = .ok (.getfield 35, 3) := by decide +kernel
theorem dX8_step_166 : decode cX8_step 166 = .ok (.iconst 1, 1) := by decide +kernel
theorem dX8_step_167 : decode cX8_step 167 = .ok (.iadd, 1) := by decide +kernel
theorem dX8_step_168 : decode cX8_step 168 = .ok (.putfield 29, 3) := by decide +kernel
theorem dX8_step_171 : decode cX8_step 171 = .ok (.return_, 1) := by decide +kernel
theorem dX8_stepOverWord_0 : decode cX8_stepOverWord 0 = .ok (.aload_n 0, 1) := by decide +kernel
theorem dX8_stepOverWord_1 : decode cX8_stepOverWord 1 = .ok (.iconst 1, 1) := by decide +kernel
theorem dX8_stepOverWord_2 : decode cX8_stepOverWord 2 = .ok (.putfield 52, 3) := by decide +kernel
theorem dX8_stepOverWord_5 : decode cX8_stepOverWord 5 = .ok (.aload_n 0, 1) := by decide +kernel
theorem dX8_stepOverWord_6 : decode cX8_stepOverWord 6 = .ok (.getfield 29, 3) := by decide +kernel
theorem dX8_stepOverWord_9 : decode cX8_stepOverWord 9 = .ok (.aload_n 0, 1) := by decide +kernel
theorem dX8_stepOverWord_10 : decode cX8_stepOverWord 10 = .ok (.getfield 19, 3) := by decide +kernel
theorem dX8_stepOverWord_13 : decode cX8_stepOverWord 13 = .ok (.if_icmp .ge 33, 3) := by decide +kernel
theorem dX8_stepOverWord_16 : decode cX8_stepOverWord 16 = .ok (.aload_n 0, 1) := by decide +kernel
theorem dX8_stepOverWord_17 : decode cX8_stepOverWord 17 = .ok (.getfield 9, 3) := by decide +kernel
theorem dX8_stepOverWord_20 : decode cX8_stepOverWord 20 = .ok (.aload_n 0, 1) := by decide +kernel
theorem dX8_stepOverWord_21 : decode cX8_stepOverWord 21 = .ok (.getfield 29, 3) := by decide +kernel
theorem dX8_stepOverWord_24 : decode cX8_stepOverWord 24 = .ok (.invokestatic 41, 3) := by decide +kernel
theorem dX8_stepOverWord_27 : decode cX8_stepOverWord 27 = .ok (.invokestatic 55, 3) := by decide +kernel
theorem dX8_stepOverWord_30 : decode cX8_stepOverWord 30 = .ok (.ifCond .eq 16, 3) := by decide +kernel
theorem dX8_stepOverWord_33 : decode cX8_stepOverWord 33 = .ok (.aload_n 0, 1) := by decide +kernel
theorem dX8_stepOverWord_34 : decode cX8_stepOverWord 34 = .ok (.dup, 1) := by decide +kernel
theorem dX8_stepOverWord_35 : decode cX8_stepOverWord 35 = .ok (.getfield 29, 3) := by decide +kernel
theorem dX8_stepOverWord_38 : decode cX8_stepOverWord 38 = .ok (.iconst 1, 1) := by decide +kernel
theorem dX8_stepOverWord_39 : decode cX8_stepOverWord 39 = .ok (.iadd, 1) := by decide +kernel
theorem dX8_stepOverWord_40 : decode cX8_stepOverWord 40 = .ok (.putfield 29, 3) := by decide +kernel
theorem dX8_stepOverWord_43 : decode cX8_stepOverWord 43 = .ok (.goto (-38), 3) := by decide +kernel
theorem dX8_stepOverWord_46 : decode cX8_stepOverWord 46 = .ok (.return_, 1) := by decide +kernel
theorem dX8_stepOverNumber_0 : decode cX8_stepOverNumber 0 = .ok (.aload_n 0, 1) := by decide +kernel
theorem dX8_stepOverNumber_1 : decode cX8_stepOverNumber 1 = .ok (.iconst 2, 1) := by decide +kernel
theorem dX8_stepOverNumber_2 : decode cX8_stepOverNumber 2 = .ok (.putfield 52, 3) := by decide +kernel
theorem dX8_stepOverNumber_5 : decode cX8_stepOverNumber 5 = .ok (.aload_n 0, 1) := by decide +kernel
theorem dX8_stepOverNumber_6 : decode cX8_stepOverNumber 6 = .ok (.getfield 29, 3) := by decide +kernel
theorem dX8_stepOverNumber_9 : decode cX8_stepOverNumber 9 = .ok (.aload_n 0, 1) := by decide +kernel
theorem dX8_stepOverNumber_10 : decode cX8_stepOverNumber 10 = .ok (.getfield 19, 3) := by decide +kernel
theorem dX8_stepOverNumber_13 : decode cX8_stepOverNumber 13 = .ok (.if_icmp .ge 65, 3) := by decide +kernel
theorem dX8_stepOverNumber_16 : decode cX8_stepOverNumber 16 = .ok (.aload_n 0, 1) := by decide +kernel
theorem dX8_stepOverNumber_17 : decode cX8_stepOverNumber 17 = .ok (.getfield 9, 3) := by decide +kernel
theorem dX8_stepOverNumber_20 : decode cX8_stepOverNumber 20 = .ok (.aload_n 0, 1) := by decide +kernel
theorem dX8_stepOverNumber_21 : decode cX8_stepOverNumber 21 = .ok (.getfield 29, 3) := by decide +kernel
theorem dX8_stepOverNumber_24 : decode cX8_stepOverNumber 24 = .ok (.invokestatic 41, 3) := by decide +kernel
theorem dX8_stepOverNumber_27 : decode cX8_stepOverNumber 27 = .ok (.invokestatic 61, 3) := by decide +kernel
theorem dX8_stepOverNumber_30 : decode cX8_stepOverNumber 30 = .ok (.ifCond .eq 48, 3) := by decide +kernel
theorem dX8_stepOverNumber_33 : decode cX8_stepOverNumber 33 = .ok (.aload_n 0, 1) := by decide +kernel
theorem dX8_stepOverNumber_34 : decode cX8_stepOverNumber 34 = .ok (.sipush 1000, 3) := by decide +kernel
theorem dX8_stepOverNumber_37 : decode cX8_stepOverNumber 37 = .ok (.aload_n 0, 1) := by decide +kernel
theorem dX8_stepOverNumber_38 : decode cX8_stepOverNumber 38 = .ok (.getfield 49, 3) := by decide +kernel
theorem dX8_stepOverNumber_41 : decode cX8_stepOverNumber 41 = .ok (.bipush 10, 2) := by decide +kernel
theorem dX8_stepOverNumber_43 : decode cX8_stepOverNumber 43 = .ok (.imul, 1) := by decide +kernel
theorem dX8_stepOverNumber_44 : decode cX8_stepOverNumber 44 = .ok (.aload_n 0, 1) := by decide +kernel
theorem dX8_stepOverNumber_45 : decode cX8_stepOverNumber 45 = .ok (.getfield 9, 3) := by decide +kernel
theorem dX8_stepOverNumber_48 : decode cX8_stepOverNumber 48 = .ok (.aload_n 0, 1) := by decide +kernel
theorem dX8_stepOverNumber_49 : decode cX8_stepOverNumber 49 = .ok (.getfield 29, 3) := by decide +kernel
theorem dX8_stepOverNumber_52 : decode cX8_stepOverNumber 52 = .ok (.invokestatic 41, 3) := by decide +kernel
theorem dX8_stepOverNumber_55 : decode cX8_stepOverNumber 55 = .ok (.iadd, 1) := by decide +kernel
theorem dX8_stepOverNumber_56 : decode cX8_stepOverNumber 56 = .ok (.bipush 48, 2) := by decide +kernel
theorem dX8_stepOverNumber_58 : decode cX8_stepOverNumber 58 = .ok (.isub, 1) := by decide +kernel
theorem dX8_stepOverNumber_59 : decode cX8_stepOverNumber 59 = .ok (.invokestatic 67, 3) := by decide +kernel
theorem dX8_stepOverNumber_62 : decode cX8_stepOverNumber 62 = .ok (.putfield 49, 3) := by decide +kernel
theorem dX8_stepOverNumber_65 : decode cX8_stepOverNumber 65 = .ok (.aload_n 0, 1) := by decide +kernel
theorem dX8_stepOverNumber_66 : decode cX8_stepOverNumber 66 = .ok (.dup, 1) := by decide +kernel
theorem dX8_stepOverNumber_67 : decode cX8_stepOverNumber 67 = .ok (.getfield 29, 3) := by decide +kernel
theorem dX8_stepOverNumber_70 : decode cX8_stepOverNumber 70 = .ok (.iconst 1, 1) := by decide +kernel
theorem dX8_stepOverNumber_71 : decode cX8_stepOverNumber 71 = .ok (.iadd, 1) := by decide +kernel
theorem dX8_stepOverNumber_72 : decode cX8_stepOverNumber 72 = .ok (.putfield 29, 3) := by decide +kernel
theorem dX8_stepOverNumber_75 : decode cX8_stepOverNumber 75 = .ok (.goto (-70), 3) := by decide +kernel
theorem dX8_stepOverNumber_78 : decode cX8_stepOverNumber 78 = .ok (.return_, 1) := by decide +kernel
theorem dX8_isBlank_0 : decode cX8_isBlank 0 = .ok (.iload_n 0, 1) := by decide +kernel
theorem dX8_isBlank_1 : decode cX8_isBlank 1 = .ok (.bipush 32, 2) := by decide +kernel
theorem dX8_isBlank_3 : decode cX8_isBlank 3 = .ok (.if_icmp .eq 9, 3) := by decide +kernel
theorem dX8_isBlank_6 : decode cX8_isBlank 6 = .ok (.iload_n 0, 1) := by decide +kernel
theorem dX8_isBlank_7 : decode cX8_isBlank 7 = .ok (.bipush 10, 2) := by decide +kernel
theorem dX8_isBlank_9 : decode cX8_isBlank 9 = .ok (.if_icmp .ne 7, 3) := by decide +kernel
theorem dX8_isBlank_12 : decode cX8_isBlank 12 = .ok (.iconst 1, 1) := by decide +kernel
theorem dX8_isBlank_13 : decode cX8_isBlank 13 = .ok (.goto 4, 3) := by decide +kernel
theorem dX8_isBlank_16 : decode cX8_isBlank 16 = .ok (.iconst 0, 1) := by decide +kernel
theorem dX8_isBlank_17 : decode cX8_isBlank 17 = .ok (.ireturn, 1) := by decide +kernel
theorem dX8_isLetter_0 : decode cX8_isLetter 0 = .ok (.iload_n 0, 1) := by decide +kernel
theorem dX8_isLetter_1 : decode cX8_isLetter 1 = .ok (.bipush 97, 2) := by decide +kernel
theorem dX8_isLetter_3 : decode cX8_isLetter 3 = .ok (.if_icmp .lt 13, 3) := by decide +kernel
theorem dX8_isLetter_6 : decode cX8_isLetter 6 = .ok (.iload_n 0, 1) := by decide +kernel
theorem dX8_isLetter_7 : decode cX8_isLetter 7 = .ok (.bipush 122, 2) := by decide +kernel
theorem dX8_isLetter_9 : decode cX8_isLetter 9 = .ok (.if_icmp .gt 7, 3) := by decide +kernel
theorem dX8_isLetter_12 : decode cX8_isLetter 12 = .ok (.iconst 1, 1) := by decide +kernel
theorem dX8_isLetter_13 : decode cX8_isLetter 13 = .ok (.goto 4, 3) := by decide +kernel
theorem dX8_isLetter_16 : decode cX8_isLetter 16 = .ok (.iconst 0, 1) := by decide +kernel
theorem dX8_isLetter_17 : decode cX8_isLetter 17 = .ok (.ireturn, 1) := by decide +kernel
theorem dX8_isDigit_0 : decode cX8_isDigit 0 = .ok (.iload_n 0, 1) := by decide +kernel
theorem dX8_isDigit_1 : decode cX8_isDigit 1 = .ok (.bipush 48, 2) := by decide +kernel
theorem dX8_isDigit_3 : decode cX8_isDigit 3 = .ok (.if_icmp .lt 13, 3) := by decide +kernel
theorem dX8_isDigit_6 : decode cX8_isDigit 6 = .ok (.iload_n 0, 1) := by decide +kernel
theorem dX8_isDigit_7 : decode cX8_isDigit 7 = .ok (.bipush 57, 2) := by decide +kernel
theorem dX8_isDigit_9 : decode cX8_isDigit 9 = .ok (.if_icmp .gt 7, 3) := by decide +kernel
theorem dX8_isDigit_12 : decode cX8_isDigit 12 = .ok (.iconst 1, 1) := by decide +kernel
theorem dX8_isDigit_13 : decode cX8_isDigit 13 = .ok (.goto 4, 3) := by decide +kernel
theorem dX8_isDigit_16 : decode cX8_isDigit 16 = .ok (.iconst 0, 1) := by decide +kernel
theorem dX8_isDigit_17 : decode cX8_isDigit 17 = .ok (.ireturn, 1) := by decide +kernel
theorem dX8_fail_0 : decode cX8_fail 0 = .ok (.aload_n 0, 1) := by decide +kernel
theorem dX8_fail_1 : decode cX8_fail 1 = .ok (.getfield 26, 3) := by decide +kernel
theorem dX8_fail_4 : decode cX8_fail 4 = .ok (.ifCond .ne 16, 3) := by decide +kernel
theorem dX8_fail_7 : decode cX8_fail 7 = .ok (.aload_n 0, 1) := by decide +kernel
theorem dX8_fail_8 : decode cX8_fail 8 = .ok (.iload_n 1, 1) := by decide +kernel
theorem dX8_fail_9 : decode cX8_fail 9 = .ok (.putfield 26, 3) := by decide +kernel
theorem dX8_fail_12 : decode cX8_fail 12 = .ok (.aload_n 0, 1) := by decide +kernel
theorem dX8_fail_13 : decode cX8_fail 13 = .ok (.aload_n 0, 1) := by decide +kernel
theorem dX8_fail_14 : decode cX8_fail 14 = .ok (.getfield 35, 3) := by decide +kernel
theorem dX8_fail_17 : decode cX8_fail 17 = .ok (.putfield 15, 3) := by decide +kernel
theorem dX8_fail_20 : decode cX8_fail 20 = .ok (.return_, 1) := by decide +kernel
theorem dX8_failBefore_0 : decode cX8_failBefore 0 = .ok (.aload_n 0, 1) := by decide +kernel
theorem dX8_failBefore_1 : decode cX8_failBefore 1 = .ok (.getfield 26, 3) := by decide +kernel
theorem dX8_failBefore_4 : decode cX8_failBefore 4 = .ok (.ifCond .ne 16, 3) := by decide +kernel
theorem dX8_failBefore_7 : decode cX8_failBefore 7 = .ok (.aload_n 0, 1) := by decide +kernel
theorem dX8_failBefore_8 : decode cX8_failBefore 8 = .ok (.iload_n 1, 1) := by decide +kernel
theorem dX8_failBefore_9 : decode cX8_failBefore 9 = .ok (.putfield 26, 3) := by decide +kernel
theorem dX8_failBefore_12 : decode cX8_failBefore 12 = .ok (.aload_n 0, 1) := by decide +kernel
theorem dX8_failBefore_13 : decode cX8_failBefore 13 = .ok (.aload_n 0, 1) := by decide +kernel
theorem dX8_failBefore_14 : decode cX8_failBefore 14 = .ok (.getfield 38, 3) := by decide +kernel
theorem dX8_failBefore_17 : decode cX8_failBefore 17 = .ok (.putfield 15, 3) := by decide +kernel
theorem dX8_failBefore_20 : decode cX8_failBefore 20 = .ok (.return_, 1) := by decide +kernel
theorem dX8_isEnd_0 : decode cX8_isEnd 0 = .ok (.aload_n 0, 1) := by decide +kernel
theorem dX8_isEnd_1 : decode cX8_isEnd 1 = .ok (.getfield 26, 3) := by decide +kernel
theorem dX8_isEnd_4 : decode cX8_isEnd 4 = .ok (.ifCond .ne 14, 3) := by decide +kernel
theorem dX8_isEnd_7 : decode cX8_isEnd 7 = .ok (.aload_n 0, 1) := by decide +kernel
theorem dX8_isEnd_8 : decode cX8_isEnd 8 = .ok (.getfield 52, 3) := by decide +kernel
theorem dX8_isEnd_11 : decode cX8_isEnd 11 = .ok (.ifCond .ne 7, 3) := by decide +kernel
theorem dX8_isEnd_14 : decode cX8_isEnd 14 = .ok (.iconst 1, 1) := by decide +kernel
theorem dX8_isEnd_15 : decode cX8_isEnd 15 = .ok (.goto 4, 3) := by decide +kernel
theorem dX8_isEnd_18 : decode cX8_isEnd 18 = .ok (.iconst 0, 1) := by decide +kernel
theorem dX8_isEnd_19 : decode cX8_isEnd 19 = .ok (.ireturn, 1) := by decide +kernel
theorem dX8_isWord_0 : decode cX8_isWord 0 = .ok (.aload_n 0, 1) := by decide +kernel
theorem dX8_isWord_1 : decode cX8_isWord 1 = .ok (.getfield 26, 3) := by decide +kernel
theorem dX8_isWord_4 : decode cX8_isWord 4 = .ok (.ifCond .ne 27, 3) := by decide +kernel
theorem dX8_isWord_7 : decode cX8_isWord 7 = .ok (.aload_n 0, 1) := by decide +kernel
theorem dX8_isWord_8 : decode cX8_isWord 8 = .ok (.getfield 52, 3) := by decide +kernel
theorem dX8_isWord_11 : decode cX8_isWord 11 = .ok (.iconst 1, 1) := by decide +kernel
theorem dX8_isWord_12 : decode cX8_isWord 12 = .ok (.if_icmp .ne 19, 3) := by decide +kernel
theorem dX8_isWord_15 : decode cX8_isWord 15 = .ok (.aload_n 0, 1) := by decide +kernel
theorem dX8_isWord_16 : decode cX8_isWord 16 = .ok (.getfield 29, 3) := by decide +kernel
theorem dX8_isWord_19 : decode cX8_isWord 19 = .ok (.aload_n 0, 1) := by decide +kernel
theorem dX8_isWord_20 : decode cX8_isWord 20 = .ok (.getfield 35, 3) := by decide +kernel
theorem dX8_isWord_23 : decode cX8_isWord 23 = .ok (.isub, 1) := by decide +kernel
theorem dX8_isWord_24 : decode cX8_isWord 24 = .ok (.aload_n 1, 1) := by decide +kernel
theorem dX8_isWord_25 : decode cX8_isWord 25 = .ok (.invokevirtual 73, 3) := by decide +kernel
theorem dX8_isWord_28 : decode cX8_isWord 28 = .ok (.if_icmp .eq 5, 3) := by decide +kernel
theorem dX8_isWord_31 : decode cX8_isWord 31 = .ok (.iconst 0, 1) := by decide +kernel
theorem dX8_isWord_32 : decode cX8_isWord 32 = .ok (.ireturn, 1) := by decide +kernel
