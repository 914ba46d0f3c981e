theorem dX2_makeMove_48 : decode cX2_makeMove 48 = .ok (.getfield 43, 3) := by decide +kernel
theorem dX2_makeMove_51 : decode cX2_makeMove 51 = .ok (.invokevirtual 144, 3) := by decide +kernel
theorem dX2_makeMove_54 : decode cX2_makeMove 54 = .ok (.pop, 1) := by decide +kernel
theorem dX2_makeMove_55 : decode cX2_makeMove 55 = .ok (.aload 5, 2) := by decide +kernel
theorem dX2_makeMove_57 : decode cX2_makeMove 57 = .ok (.aload_n 0, 1) := by decide +kernel
theorem dX2_makeMove_58 : decode cX2_makeMove 58 = .ok (.getfield 43, 3) := by decide +kernel
theorem dX2_makeMove_61 : decode cX2_makeMove 61 = .ok (.invokevirtual 148, 3) := by decide +kernel
theorem dX2_makeMove_64 : decode cX2_makeMove 64 = .ok (.iload 6, 2) := by decide +kernel
theorem dX2_makeMove_66 : decode cX2_makeMove 66 = .ok (.ireturn, 1) := by decide +kernel
theorem dX2_promiseFault_0 : decode cX2_promiseFault 0 = .ok (.iload_n 1, 1) := by decide +kernel
theorem dX2_promiseFault_1 : decode cX2_promiseFault 1 = .ok (.invokestatic 113, 3) := by decide +kernel
theorem dX2_promiseFault_4 : decode cX2_promiseFault 4 = .ok (.ifCond .eq 49, 3) := by decide +kernel
theorem dX2_promiseFault_7 : decode cX2_promiseFault 7 = .ok (.aload_n 0, 1) := by decide +kernel
theorem dX2_promiseFault_8 : decode cX2_promiseFault 8 = .ok (.invokevirtual 104, 3) := by decide +kernel
theorem dX2_promiseFault_11 : decode cX2_promiseFault 11 = .ok (.iload_n 2, 1) := by decide +kernel
theorem dX2_promiseFault_12 : decode cX2_promiseFault 12 = .ok (.invokevirtual 120, 3) := by decide +kernel
theorem dX2_promiseFault_15 : decode cX2_promiseFault 15 = .ok (.ifCond .eq 38, 3) := by decide +kernel
theorem dX2_promiseFault_18 : decode cX2_promiseFault 18 = .ok (.aload_n 0, 1) := by decide +kernel
theorem dX2_promiseFault_19 : decode cX2_promiseFault 19 = .ok (.iload_n 3, 1) := by decide +kernel
theorem dX2_promiseFault_20 : decode cX2_promiseFault 20 = .ok (.invokevirtual 117, 3) := by decide +kernel
theorem dX2_promiseFault_23 : decode cX2_promiseFault 23 = .ok (.ifCond .eq 30, 3) := by decide +kernel
theorem dX2_promiseFault_26 : decode cX2_promiseFault 26 = .ok (.aload_n 0, 1) := by decide +kernel
theorem dX2_promiseFault_27 : decode cX2_promiseFault 27 = .ok (.iload 4, 2) := by decide +kernel
theorem dX2_promiseFault_29 : decode cX2_promiseFault 29 = .ok (.invokevirtual 117, 3) := by decide +kernel
theorem dX2_promiseFault_32 : decode cX2_promiseFault 32 = .ok (.ifCond .eq 21, 3) := by decide +kernel
theorem dX2_promiseFault_35 : decode cX2_promiseFault 35 = .ok (.aload_n 0, 1) := by decide +kernel
theorem dX2_promiseFault_36 : decode cX2_promiseFault 36 = .ok (.iload 5, 2) := by decide +kernel
theorem dX2_promiseFault_38 : decode cX2_promiseFault 38 = .ok (.invokevirtual 117, 3) := by decide +kernel
theorem dX2_promiseFault_41 : decode cX2_promiseFault 41 = .ok (.ifCond .eq 12, 3) := by decide +kernel
theorem dX2_promiseFault_44 : decode cX2_promiseFault 44 = .ok (.aload_n 0, 1) := by decide +kernel
theorem dX2_promiseFault_45 : decode cX2_promiseFault 45 = .ok (.iload 6, 2) := by decide +kernel
theorem dX2_promiseFault_47 : decode cX2_promiseFault 47 = .ok (.invokevirtual 117, 3) := by decide +kernel
theorem dX2_promiseFault_50 : decode cX2_promiseFault 50 = .ok (.ifCond .ne 5, 3) := by decide +kernel
theorem dX2_promiseFault_53 : decode cX2_promiseFault 53 = .ok (.iconst 1, 1) := by decide +kernel
theorem dX2_promiseFault_54 : decode cX2_promiseFault 54 = .ok (.ireturn, 1) := by decide +kernel
theorem dX2_promiseFault_55 : decode cX2_promiseFault 55 = .ok (.aload_n 0, 1) := by decide +kernel
theorem dX2_promiseFault_56 : decode cX2_promiseFault 56 = .ok (.iload_n 1, 1) := by decide +kernel
theorem dX2_promiseFault_57 : decode cX2_promiseFault 57 = .ok (.invokevirtual 69, 3) := by decide +kernel
theorem dX2_promiseFault_60 : decode cX2_promiseFault 60 = .ok (.astore 7, 2) := by decide +kernel
theorem dX2_promiseFault_62 : decode cX2_promiseFault 62 = .ok (.aload 7, 2) := by decide +kernel
theorem dX2_promiseFault_64 : decode cX2_promiseFault 64 = .ok (.invokevirtual 151, 3) := by decide +kernel
theorem dX2_promiseFault_67 : decode cX2_promiseFault 67 = .ok (.ifCond .ne 42, 3) := by decide +kernel
theorem dX2_promiseFault_70 : decode cX2_promiseFault 70 = .ok (.aload_n 0, 1) := by decide +kernel
theorem dX2_promiseFault_71 : decode cX2_promiseFault 71 = .ok (.iload_n 1, 1) := by decide +kernel
theorem dX2_promiseFault_72 : decode cX2_promiseFault 72 = .ok (.invokevirtual 57, 3) := by decide +kernel
theorem dX2_promiseFault_75 : decode cX2_promiseFault 75 = .ok (.invokevirtual 123, 3) := by decide +kernel
theorem dX2_promiseFault_78 : decode cX2_promiseFault 78 = .ok (.ifCond .ne 31, 3) := by decide +kernel
theorem dX2_promiseFault_81 : decode cX2_promiseFault 81 = .ok (.aload_n 0, 1) := by decide +kernel
theorem dX2_promiseFault_82 : decode cX2_promiseFault 82 = .ok (.iload_n 1, 1) := by decide +kernel
theorem dX2_promiseFault_83 : decode cX2_promiseFault 83 = .ok (.invokevirtual 57, 3) := by decide +kernel
theorem dX2_promiseFault_86 : decode cX2_promiseFault 86 = .ok (.aload 7, 2) := by decide +kernel
theorem dX2_promiseFault_88 : decode cX2_promiseFault 88 = .ok (.invokevirtual 81, 3) := by decide +kernel
theorem dX2_promiseFault_91 : decode cX2_promiseFault 91 = .ok (.iconst 1, 1) := by decide +kernel
theorem dX2_promiseFault_92 : decode cX2_promiseFault 92 = .ok (.iadd, 1) := by decide +kernel
theorem dX2_promiseFault_93 : decode cX2_promiseFault 93 = .ok (.invokevirtual 154, 3) := by decide +kernel
theorem dX2_promiseFault_96 : decode cX2_promiseFault 96 = .ok (.ifCond .ne 13, 3) := by decide +kernel
theorem dX2_promiseFault_99 : decode cX2_promiseFault 99 = .ok (.aload_n 0, 1) := by decide +kernel
theorem dX2_promiseFault_100 : decode cX2_promiseFault 100 = .ok (.getfield 26, 3) := by decide +kernel
theorem dX2_promiseFault_103 : decode cX2_promiseFault 103 = .ok (.invokevirtual 127, 3) := by decide +kernel
theorem dX2_promiseFault_106 : decode cX2_promiseFault 106 = .ok (.ifCond .eq 5, 3) := by decide +kernel
theorem dX2_promiseFault_109 : decode cX2_promiseFault 109 = .ok (.iconst 2, 1) := by decide +kernel
theorem dX2_promiseFault_110 : decode cX2_promiseFault 110 = .ok (.ireturn, 1) := by decide +kernel
theorem dX2_promiseFault_111 : decode cX2_promiseFault 111 = .ok (.aload 7, 2) := by decide +kernel
theorem dX2_promiseFault_113 : decode cX2_promiseFault 113 = .ok (.iload_n 3, 1) := by decide +kernel
theorem dX2_promiseFault_114 : decode cX2_promiseFault 114 = .ok (.invokevirtual 130, 3) := by decide +kernel
theorem dX2_promiseFault_117 : decode cX2_promiseFault 117 = .ok (.iconst 1, 1) := by decide +kernel
theorem dX2_promiseFault_118 : decode cX2_promiseFault 118 = .ok (.iload_n 1, 1) := by decide +kernel
theorem dX2_promiseFault_119 : decode cX2_promiseFault 119 = .ok (.isub, 1) := by decide +kernel
theorem dX2_promiseFault_120 : decode cX2_promiseFault 120 = .ok (.if_icmp .ne 14, 3) := by decide +kernel
theorem dX2_promiseFault_123 : decode cX2_promiseFault 123 = .ok (.aload 7, 2) := by decide +kernel
theorem dX2_promiseFault_125 : decode cX2_promiseFault 125 = .ok (.iload_n 3, 1) := by decide +kernel
theorem dX2_promiseFault_126 : decode cX2_promiseFault 126 = .ok (.iload 4, 2) := by decide +kernel
theorem dX2_promiseFault_128 : decode cX2_promiseFault 128 = .ok (.invokevirtual 133, 3) := by decide +kernel
theorem dX2_promiseFault_131 : decode cX2_promiseFault 131 = .ok (.ifCond .ne 5, 3) := by decide +kernel
theorem dX2_promiseFault_134 : decode cX2_promiseFault 134 = .ok (.iconst 3, 1) := by decide +kernel
theorem dX2_promiseFault_135 : decode cX2_promiseFault 135 = .ok (.ireturn, 1) := by decide +kernel
theorem dX2_promiseFault_136 : decode cX2_promiseFault 136 = .ok (.aload_n 0, 1) := by decide +kernel
theorem dX2_promiseFault_137 : decode cX2_promiseFault 137 = .ok (.getfield 33, 3) := by decide +kernel
theorem dX2_promiseFault_140 : decode cX2_promiseFault 140 = .ok (.aload 7, 2) := by decide +kernel
theorem dX2_promiseFault_142 : decode cX2_promiseFault 142 = .ok (.invokevirtual 157, 3) := by decide +kernel
theorem dX2_promiseFault_145 : decode cX2_promiseFault 145 = .ok (.aload_n 0, 1) := by decide +kernel
theorem dX2_promiseFault_146 : decode cX2_promiseFault 146 = .ok (.getfield 33, 3) := by decide +kernel
theorem dX2_promiseFault_149 : decode cX2_promiseFault 149 = .ok (.iload_n 3, 1) := by decide +kernel
theorem dX2_promiseFault_150 : decode cX2_promiseFault 150 = .ok (.iload 4, 2) := by decide +kernel
theorem dX2_promiseFault_152 : decode cX2_promiseFault 152 = .ok (.invokestatic 137, 3) := by decide +kernel
theorem dX2_promiseFault_155 : decode cX2_promiseFault 155 = .ok (.invokevirtual 160, 3) := by decide +kernel
theorem dX2_promiseFault_158 : decode cX2_promiseFault 158 = .ok (.aload_n 0, 1) := by decide +kernel
theorem dX2_promiseFault_159 : decode cX2_promiseFault 159 = .ok (.getfield 33, 3) := by decide +kernel
theorem dX2_promiseFault_162 : decode cX2_promiseFault 162 = .ok (.invokevirtual 151, 3) := by decide +kernel
theorem dX2_promiseFault_165 : decode cX2_promiseFault 165 = .ok (.ifCond .ne 34, 3) := by decide +kernel
theorem dX2_promiseFault_168 : decode cX2_promiseFault 168 = .ok (.aload_n 0, 1) := by decide +kernel
theorem dX2_promiseFault_169 : decode cX2_promiseFault 169 = .ok (.getfield 33, 3) := by decide +kernel
theorem dX2_promiseFault_172 : decode cX2_promiseFault 172 = .ok (.iload 5, 2) := by decide +kernel
theorem dX2_promiseFault_174 : decode cX2_promiseFault 174 = .ok (.invokevirtual 130, 3) := by decide +kernel
theorem dX2_promiseFault_177 : decode cX2_promiseFault 177 = .ok (.iload_n 1, 1) := by decide +kernel
theorem dX2_promiseFault_178 : decode cX2_promiseFault 178 = .ok (.if_icmp .ne 21, 3) := by decide +kernel
theorem dX2_promiseFault_181 : decode cX2_promiseFault 181 = .ok (.aload_n 0, 1) := by decide +kernel
theorem dX2_promiseFault_182 : decode cX2_promiseFault 182 = .ok (.getfield 33, 3) := by decide +kernel
theorem dX2_promiseFault_185 : decode cX2_promiseFault 185 = .ok (.iload 5, 2) := by decide +kernel
theorem dX2_promiseFault_187 : decode cX2_promiseFault 187 = .ok (.iload 6, 2) := by decide +kernel
theorem dX2_promiseFault_189 : decode cX2_promiseFault 189 = .ok (.invokevirtual 133, 3) := by decide +kernel
theorem dX2_promiseFault_192 : decode cX2_promiseFault 192 = .ok (.ifCond .eq 7, 3) := by decide +kernel
theorem dX2_promiseFault_195 : decode cX2_promiseFault 195 = .ok (.iconst 0, 1) := by decide +kernel
theorem dX2_promiseFault_196 : decode cX2_promiseFault 196 = .ok (.goto 4, 3) := by decide +kernel
theorem dX2_promiseFault_199 : decode cX2_promiseFault 199 = .ok (.iconst 3, 1) := by decide +kernel
theorem dX2_promiseFault_200 : decode cX2_promiseFault 200 = .ok (.ireturn, 1) := by decide +kernel
theorem dX2_makePromise_0 : decode cX2_makePromise 0 = .ok (.aload_n 0, 1) := by decide +kernel
theorem dX2_makePromise_1 : decode cX2_makePromise 1 = .ok (.iload_n 1, 1) := by decide +kernel
theorem dX2_makePromise_2 : decode cX2_makePromise 2 = .ok (.invokevirtual 69, 3) := by decide +kernel
theorem dX2_makePromise_5 : decode cX2_makePromise 5 = .ok (.invokevirtual 81, 3) := by decide +kernel
theorem dX2_makePromise_8 : decode cX2_makePromise 8 = .ok (.iconst 1, 1) := by decide +kernel
theorem dX2_makePromise_9 : decode cX2_makePromise 9 = .ok (.iadd, 1) := by decide +kernel
theorem dX2_makePromise_10 : decode cX2_makePromise 10 = .ok (.istore 5, 2) := by decide +kernel
theorem dX2_makePromise_12 : decode cX2_makePromise 12 = .ok (.aload_n 0, 1) := by decide +kernel
theorem dX2_makePromise_13 : decode cX2_makePromise 13 = .ok (.iload_n 1, 1) := by decide +kernel
theorem dX2_makePromise_14 : decode cX2_makePromise 14 = .ok (.invokevirtual 57, 3) := by decide +kernel
theorem dX2_makePromise_17 : decode cX2_makePromise 17 = .ok (.iload 5, 2) := by decide +kernel
theorem dX2_makePromise_19 : decode cX2_makePromise 19 = .ok (.iload_n 3, 1) := by decide +kernel
theorem dX2_makePromise_20 : decode cX2_makePromise 20 = .ok (.iload 4, 2) := by decide +kernel
theorem dX2_makePromise_22 : decode cX2_makePromise 22 = .ok (.invokevirtual 163, 3) := by decide +kernel
theorem dX2_makePromise_25 : decode cX2_makePromise 25 = .ok (.aload_n 0, 1) := by decide +kernel
theorem dX2_makePromise_26 : decode cX2_makePromise 26 = .ok (.getfield 26, 3) := by decide +kernel
theorem dX2_makePromise_29 : decode cX2_makePromise 29 = .ok (.iload_n 1, 1) := by decide +kernel
theorem dX2_makePromise_30 : decode cX2_makePromise 30 = .ok (.iload 5, 2) := by decide +kernel
theorem dX2_makePromise_32 : decode cX2_makePromise 32 = .ok (.iload 4, 2) := by decide +kernel
theorem dX2_makePromise_34 : decode cX2_makePromise 34 = .ok (.iload_n 3, 1) := by decide +kernel
theorem dX2_makePromise_35 : decode cX2_makePromise 35 = .ok (.iload_n 2, 1) := by decide +kernel
theorem dX2_makePromise_36 : decode cX2_makePromise 36 = .ok (.aload_n 0, 1) := by decide +kernel
theorem dX2_makePromise_37 : decode cX2_makePromise 37 = .ok (.getfield 43, 3) := by decide +kernel
theorem dX2_makePromise_40 : decode cX2_makePromise 40 = .ok (.invokevirtual 144, 3) := by decide +kernel
theorem dX2_makePromise_43 : decode cX2_makePromise 43 = .ok (.pop, 1) := by decide +kernel
theorem dX2_makePromise_44 : decode cX2_makePromise 44 = .ok (.iload 5, 2) := by decide +kernel
theorem dX2_makePromise_46 : decode cX2_makePromise 46 = .ok (.ireturn, 1) := by decide +kernel
theorem dX2_copyFault_0 : decode cX2_copyFault 0 = .ok (.aload_n 0, 1) := by decide +kernel
theorem dX2_copyFault_1 : decode cX2_copyFault 1 = .ok (.getfield 26, 3) := by decide +kernel
theorem dX2_copyFault_4 : decode cX2_copyFault 4 = .ok (.iload_n 1, 1) := by decide +kernel
theorem dX2_copyFault_5 : decode cX2_copyFault 5 = .ok (.invokevirtual 167, 3) := by decide +kernel
theorem dX2_copyFault_8 : decode cX2_copyFault 8 = .ok (.ifCond .eq 14, 3) := by decide +kernel
theorem dX2_copyFault_11 : decode cX2_copyFault 11 = .ok (.aload_n 0, 1) := by decide +kernel
theorem dX2_copyFault_12 : decode cX2_copyFault 12 = .ok (.invokevirtual 104, 3) := by decide +kernel
theorem dX2_copyFault_15 : decode cX2_copyFault 15 = .ok (.iload_n 2, 1) := by decide +kernel
theorem dX2_copyFault_16 : decode cX2_copyFault 16 = .ok (.invokevirtual 120, 3) := by decide +kernel
theorem dX2_copyFault_19 : decode cX2_copyFault 19 = .ok (.ifCond .ne 5, 3) := by decide +kernel
theorem dX2_copyFault_22 : decode cX2_copyFault 22 = .ok (.iconst 1, 1) := by decide +kernel
theorem dX2_copyFault_23 : decode cX2_copyFault 23 = .ok (.ireturn, 1) := by decide +kernel
theorem dX2_copyFault_24 : decode cX2_copyFault 24 = .ok (.aload_n 0, 1) := by decide +kernel
theorem dX2_copyFault_25 : decode cX2_copyFault 25 = .ok (.getfield 26, 3) := by decide +kernel
theorem dX2_copyFault_28 : decode cX2_copyFault 28 = .ok (.invokevirtual 127, 3) := by decide +kernel
theorem dX2_copyFault_31 : decode cX2_copyFault 31 = .ok (.ifCond .eq 7, 3) := by decide +kernel
theorem dX2_copyFault_34 : decode cX2_copyFault 34 = .ok (.iconst 2, 1) := by decide +kernel
theorem dX2_copyFault_35 : decode cX2_copyFault 35 = .ok (.goto 4, 3) := by decide +kernel
theorem dX2_copyFault_38 : decode cX2_copyFault 38 = .ok (.iconst 0, 1) := by decide +kernel
theorem dX2_copyFault_39 : decode cX2_copyFault 39 = .ok (.ireturn, 1) := by decide +kernel
theorem dX2_makeCopy_0 : decode cX2_makeCopy 0 = .ok (.aload_n 0, 1) := by decide +kernel
theorem dX2_makeCopy_1 : decode cX2_makeCopy 1 = .ok (.getfield 26, 3) := by decide +kernel
theorem dX2_makeCopy_4 : decode cX2_makeCopy 4 = .ok (.aload_n 0, 1) := by decide +kernel
theorem dX2_makeCopy_5 : decode cX2_makeCopy 5 = .ok (.getfield 26, 3) := by decide +kernel
theorem dX2_makeCopy_8 : decode cX2_makeCopy 8 = .ok (.iload_n 1, 1) := by decide +kernel
theorem dX2_makeCopy_9 : decode cX2_makeCopy 9 = .ok (.invokevirtual 87, 3) := by decide +kernel
theorem dX2_makeCopy_12 : decode cX2_makeCopy 12 = .ok (.aload_n 0, 1) := by decide +kernel
theorem dX2_makeCopy_13 : decode cX2_makeCopy 13 = .ok (.getfield 26, 3) := by decide +kernel
theorem dX2_makeCopy_16 : decode cX2_makeCopy 16 = .ok (.iload_n 1, 1) := by decide +kernel
theorem dX2_makeCopy_17 : decode cX2_makeCopy 17 = .ok (.invokevirtual 94, 3) := by decide +kernel
theorem dX2_makeCopy_20 : decode cX2_makeCopy 20 = .ok (.aload_n 0, 1) := by decide +kernel
theorem dX2_makeCopy_21 : decode cX2_makeCopy 21 = .ok (.getfield 26, 3) := by decide +kernel
theorem dX2_makeCopy_24 : decode cX2_makeCopy 24 = .ok (.iload_n 1, 1) := by decide +kernel
theorem dX2_makeCopy_25 : decode cX2_makeCopy 25 = .ok (.invokevirtual 168, 3) := by decide +kernel
theorem dX2_makeCopy_28 : decode cX2_makeCopy 28 = .ok (.aload_n 0, 1) := by decide +kernel
theorem dX2_makeCopy_29 : decode cX2_makeCopy 29 = .ok (.getfield 26, 3) := by decide +kernel
theorem dX2_makeCopy_32 : decode cX2_makeCopy 32 = .ok (.iload_n 1, 1) := by decide +kernel
theorem dX2_makeCopy_33 : decode cX2_makeCopy 33 = .ok (.invokevirtual 171, 3) := by decide +kernel
theorem dX2_makeCopy_36 : decode cX2_makeCopy 36 = .ok (.iload_n 2, 1) := by decide +kernel
theorem dX2_makeCopy_37 : decode cX2_makeCopy 37 = .ok (.aload_n 0, 1) := by decide +kernel
theorem dX2_makeCopy_38 : decode cX2_makeCopy 38 = .ok (.getfield 43, 3) := by decide +kernel
theorem dX2_makeCopy_41 : decode cX2_makeCopy 41 = .ok (.invokevirtual 144, 3) := by decide +kernel
theorem dX2_makeCopy_44 : decode cX2_makeCopy 44 = .ok (.ireturn, 1) := by decide +kernel
theorem dX2_daysFault_0 : decode cX2_daysFault 0 = .ok (.iload_n 1, 1) := by decide +kernel
theorem dX2_daysFault_1 : decode cX2_daysFault 1 = .ok (.iconst 1, 1) := by decide +kernel
theorem dX2_daysFault_2 : decode cX2_daysFault 2 = .ok (.if_icmp .lt 9, 3) := by decide +kernel
theorem dX2_daysFault_5 : decode cX2_daysFault 5 = .ok (.iload_n 1, 1) := by decide +kernel
theorem dX2_daysFault_6 : decode cX2_daysFault 6 = .ok (.bipush 60, 2) := by decide +kernel
theorem dX2_daysFault_8 : decode cX2_daysFault 8 = .ok (.if_icmp .le 5, 3) := by decide +kernel
theorem dX2_daysFault_11 : decode cX2_daysFault 11 = .ok (.iconst 3, 1) := by decide +kernel
theorem dX2_daysFault_12 : decode cX2_daysFault 12 = .ok (.ireturn, 1) := by decide +kernel
theorem dX2_daysFault_13 : decode cX2_daysFault 13 = .ok (.aload_n 0, 1) := by decide +kernel
theorem dX2_daysFault_14 : decode cX2_daysFault 14 = .ok (.getfield 43, 3) := by decide +kernel
theorem dX2_daysFault_17 : decode cX2_daysFault 17 = .ok (.iload_n 1, 1) := by decide +kernel
theorem dX2_daysFault_18 : decode cX2_daysFault 18 = .ok (.iadd, 1) := by decide +kernel
theorem dX2_daysFault_19 : decode cX2_daysFault 19 = .ok (.sipush 9999, 3) := by decide +kernel
theorem dX2_daysFault_22 : decode cX2_daysFault 22 = .ok (.if_icmp .le 7, 3) := by decide +kernel
theorem dX2_daysFault_25 : decode cX2_daysFault 25 = .ok (.iconst 2, 1) := by decide +kernel
theorem dX2_daysFault_26 : decode cX2_daysFault 26 = .ok (.goto 4, 3) := by decide +kernel
theorem dX2_daysFault_29 : decode cX2_daysFault 29 = .ok (.iconst 0, 1) := by decide +kernel
theorem dX2_daysFault_30 : decode cX2_daysFault 30 = .ok (.ireturn, 1) := by decide +kernel
theorem dX2_letDaysPass_0 : decode cX2_letDaysPass 0 = .ok (.iconst 0, 1) := by decide +kernel
theorem dX2_letDaysPass_1 : decode cX2_letDaysPass 1 = .ok (.istore_n 2, 1) := by decide +kernel
theorem dX2_letDaysPass_2 : decode cX2_letDaysPass 2 = .ok (.iconst 0, 1) := by decide +kernel
theorem dX2_letDaysPass_3 : decode cX2_letDaysPass 3 = .ok (.istore_n 3, 1) := by decide +kernel
theorem dX2_letDaysPass_4 : decode cX2_letDaysPass 4 = .ok (.iload_n 3, 1) := by decide +kernel
theorem dX2_letDaysPass_5 : decode cX2_letDaysPass 5 = .ok (.iload_n 1, 1) := by decide +kernel
theorem dX2_letDaysPass_6 : decode cX2_letDaysPass 6 = .ok (.if_icmp .ge 16, 3) := by decide +kernel
theorem dX2_letDaysPass_9 : decode cX2_letDaysPass 9 = .ok (.iload_n 2, 1) := by decide +kernel
theorem dX2_letDaysPass_10 : decode cX2_letDaysPass 10 = .ok (.aload_n 0, 1) := by decide +kernel
theorem dX2_letDaysPass_11 : decode cX2_letDaysPass 11 = .ok (.invokevirtual 174, 3) := by decide +kernel
theorem dX2_letDaysPass_14 : decode cX2_letDaysPass 14 = .ok (.iadd, 1) := by decide +kernel
theorem dX2_letDaysPass_15 : decode cX2_letDaysPass 15 = .ok (.istore_n 2, 1) := by decide +kernel
theorem dX2_letDaysPass_16 : decode cX2_letDaysPass 16 = .ok (.iinc 3 1, 3) := by decide +kernel
theorem dX2_letDaysPass_19 : decode cX2_letDaysPass 19 = .ok (.goto (-15), 3) := by decide +kernel
theorem dX2_letDaysPass_22 : decode cX2_letDaysPass 22 = .ok (.iload_n 2, 1) := by decide +kernel
theorem dX2_letDaysPass_23 : decode cX2_letDaysPass 23 = .ok (.ireturn, 1) := by decide +kernel
theorem dX2_passDay_0 : decode cX2_passDay 0 = .ok (.aload_n 0, 1) := by decide +kernel
theorem dX2_passDay_1 : decode cX2_passDay 1 = .ok (.dup, 1) := by decide +kernel
theorem dX2_passDay_2 : decode cX2_passDay 2 = .ok (.getfield 43, 3) := by decide +kernel
theorem dX2_passDay_5 : decode cX2_passDay 5 = .ok (.iconst 1, 1) := by decide +kernel
theorem dX2_passDay_6 : decode cX2_passDay 6 = .ok (.iadd, 1) := by decide +kernel
theorem dX2_passDay_7 : decode cX2_passDay 7 = .ok (.putfield 43, 3) := by decide +kernel
theorem dX2_passDay_10 : decode cX2_passDay 10 = .ok (.aload_n 0, 1) := by decide +kernel
theorem dX2_passDay_11 : decode cX2_passDay 11 = .ok (.getfield 26, 3) := by decide +kernel
theorem dX2_passDay_14 : decode cX2_passDay 14 = .ok (.aload_n 0, 1) := by decide +kernel
theorem dX2_passDay_15 : decode cX2_passDay 15 = .ok (.getfield 43, 3) := by decide +kernel
theorem dX2_passDay_18 : decode cX2_passDay 18 = .ok (.invokevirtual 177, 3) := by decide +kernel
theorem dX2_passDay_21 : decode cX2_passDay 21 = .ok (.istore_n 1, 1) := by decide +kernel
theorem dX2_passDay_22 : decode cX2_passDay 22 = .ok (.iconst 0, 1) := by decide +kernel
theorem dX2_passDay_23 : decode cX2_passDay 23 = .ok (.istore_n 2, 1) := by decide +kernel
theorem dX2_passDay_24 : decode cX2_passDay 24 = .ok (.iload_n 2, 1) := by decide +kernel
theorem dX2_passDay_25 : decode cX2_passDay 25 = .ok (.iload_n 1, 1) := by decide +kernel
theorem dX2_passDay_26 : decode cX2_passDay 26 = .ok (.if_icmp .ge 85, 3) := by decide +kernel
theorem dX2_passDay_29 : decode cX2_passDay 29 = .ok (.aload_n 0, 1) := by decide +kernel
theorem dX2_passDay_30 : decode cX2_passDay 30 = .ok (.getfield 26, 3) := by decide +kernel
theorem dX2_passDay_33 : decode cX2_passDay 33 = .ok (.iload_n 2, 1) := by decide +kernel
theorem dX2_passDay_34 : decode cX2_passDay 34 = .ok (.invokevirtual 179, 3) := by decide +kernel
theorem dX2_passDay_37 : decode cX2_passDay 37 = .ok (.istore_n 3, 1) := by decide +kernel
theorem dX2_passDay_38 : decode cX2_passDay 38 = .ok (.aload_n 0, 1) := by decide +kernel
theorem dX2_passDay_39 : decode cX2_passDay 39 = .ok (.iconst 1, 1) := by decide +kernel
theorem dX2_passDay_40 : decode cX2_passDay 40 = .ok (.aload_n 0, 1) := by decide +kernel
theorem dX2_passDay_41 : decode cX2_passDay 41 = .ok (.getfield 26, 3) := by decide +kernel
theorem dX2_passDay_44 : decode cX2_passDay 44 = .ok (.iload_n 3, 1) := by decide +kernel
theorem dX2_passDay_45 : decode cX2_passDay 45 = .ok (.invokevirtual 87, 3) := by decide +kernel
theorem dX2_passDay_48 : decode cX2_passDay 48 = .ok (.isub, 1) := by decide +kernel
theorem dX2_passDay_49 : decode cX2_passDay 49 = .ok (.invokevirtual 57, 3) := by decide +kernel
theorem dX2_passDay_52 : decode cX2_passDay 52 = .ok (.astore 4, 2) := by decide +kernel
theorem dX2_passDay_54 : decode cX2_passDay 54 = .ok (.aload 4, 2) := by decide +kernel
theorem dX2_passDay_56 : decode cX2_passDay 56 = .ok (.aload_n 0, 1) := by decide +kernel
theorem dX2_passDay_57 : decode cX2_passDay 57 = .ok (.getfield 26, 3) := by decide +kernel
theorem dX2_passDay_60 : decode cX2_passDay 60 = .ok (.iload_n 3, 1) := by decide +kernel
theorem dX2_passDay_61 : decode cX2_passDay 61 = .ok (.invokevirtual 94, 3) := by decide +kernel
theorem dX2_passDay_64 : decode cX2_passDay 64 = .ok (.aload_n 0, 1) := by decide +kernel
theorem dX2_passDay_65 : decode cX2_passDay 65 = .ok (.getfield 26, 3) := by decide +kernel
theorem dX2_passDay_68 : decode cX2_passDay 68 = .ok (.iload_n 3, 1) := by decide +kernel
theorem dX2_passDay_69 : decode cX2_passDay 69 = .ok (.invokevirtual 168, 3) := by decide +kernel
theorem dX2_passDay_72 : decode cX2_passDay 72 = .ok (.aload_n 0, 1) := by decide +kernel
theorem dX2_passDay_73 : decode cX2_passDay 73 = .ok (.getfield 26, 3) := by decide +kernel
theorem dX2_passDay_76 : decode cX2_passDay 76 = .ok (.iload_n 3, 1) := by decide +kernel
theorem dX2_passDay_77 : decode cX2_passDay 77 = .ok (.invokevirtual 171, 3) := by decide +kernel
theorem dX2_passDay_80 : decode cX2_passDay 80 = .ok (.invokevirtual 182, 3) := by decide +kernel
theorem dX2_passDay_83 : decode cX2_passDay 83 = .ok (.ifCond .ne 13, 3) := by decide +kernel
theorem dX2_passDay_86 : decode cX2_passDay 86 = .ok (.aload_n 0, 1) := by decide +kernel
theorem dX2_passDay_87 : decode cX2_passDay 87 = .ok (.dup, 1) := by decide +kernel
theorem dX2_passDay_88 : decode cX2_passDay 88 = .ok (.getfield 47, 3) := by decide +kernel
theorem dX2_passDay_91 : decode cX2_passDay 91 = .ok (.iconst 1, 1) := by decide +kernel
theorem dX2_passDay_92 : decode cX2_passDay 92 = .ok (.iadd, 1) := by decide +kernel
theorem dX2_passDay_93 : decode cX2_passDay 93 = .ok (.putfield 47, 3) := by decide +kernel
theorem dX2_passDay_96 : decode cX2_passDay 96 = .ok (.aload 4, 2) := by decide +kernel
theorem dX2_passDay_98 : decode cX2_passDay 98 = .ok (.aload_n 0, 1) := by decide +kernel
theorem dX2_passDay_99 : decode cX2_passDay 99 = .ok (.getfield 43, 3) := by decide +kernel
theorem dX2_passDay_102 : decode cX2_passDay 102 = .ok (.invokevirtual 148, 3) := by decide +kernel
theorem dX2_passDay_105 : decode cX2_passDay 105 = .ok (.iinc 2 1, 3) := by decide +kernel
theorem dX2_passDay_108 : decode cX2_passDay 108 = .ok (.goto (-84), 3) := by decide +kernel
theorem dX2_passDay_111 : decode cX2_passDay 111 = .ok (.iload_n 1, 1) := by decide +kernel
theorem dX2_passDay_112 : decode cX2_passDay 112 = .ok (.ireturn, 1) := by decide +kernel
theorem dX2_muleFault_0 : decode cX2_muleFault 0 = .ok (.aload_n 0, 1) := by decide +kernel
theorem dX2_muleFault_1 : decode cX2_muleFault 1 = .ok (.invokevirtual 104, 3) := by decide +kernel
theorem dX2_muleFault_4 : decode cX2_muleFault 4 = .ok (.iload_n 1, 1) := by decide +kernel
theorem dX2_muleFault_5 : decode cX2_muleFault 5 = .ok (.invokevirtual 120, 3) := by decide +kernel
theorem dX2_muleFault_8 : decode cX2_muleFault 8 = .ok (.ifCond .eq 10, 3) := by decide +kernel
theorem dX2_muleFault_11 : decode cX2_muleFault 11 = .ok (.iload_n 2, 1) := by decide +kernel
theorem dX2_muleFault_12 : decode cX2_muleFault 12 = .ok (.invokestatic 113, 3) := by decide +kernel
theorem dX2_muleFault_15 : decode cX2_muleFault 15 = .ok (.ifCond .ne 5, 3) := by decide +kernel
theorem dX2_muleFault_18 : decode cX2_muleFault 18 = .ok (.iconst 1, 1) := by decide +kernel
theorem dX2_muleFault_19 : decode cX2_muleFault 19 = .ok (.ireturn, 1) := by decide +kernel
theorem dX2_muleFault_20 : decode cX2_muleFault 20 = .ok (.aload_n 0, 1) := by decide +kernel
theorem dX2_muleFault_21 : decode cX2_muleFault 21 = .ok (.invokevirtual 104, 3) := by decide +kernel
theorem dX2_muleFault_24 : decode cX2_muleFault 24 = .ok (.iload_n 1, 1) := by decide +kernel
theorem dX2_muleFault_25 : decode cX2_muleFault 25 = .ok (.iload_n 2, 1) := by decide +kernel
theorem dX2_muleFault_26 : decode cX2_muleFault 26 = .ok (.invokevirtual 186, 3) := by decide +kernel
theorem dX2_muleFault_29 : decode cX2_muleFault 29 = .ok (.bipush 9, 2) := by decide +kernel
theorem dX2_muleFault_31 : decode cX2_muleFault 31 = .ok (.if_icmp .lt 7, 3) := by decide +kernel
theorem dX2_muleFault_34 : decode cX2_muleFault 34 = .ok (.iconst 2, 1) := by decide +kernel
theorem dX2_muleFault_35 : decode cX2_muleFault 35 = .ok (.goto 4, 3) := by decide +kernel
theorem dX2_muleFault_38 : decode cX2_muleFault 38 = .ok (.iconst 0, 1) := by decide +kernel
theorem dX2_muleFault_39 : decode cX2_muleFault 39 = .ok (.ireturn, 1) := by decide +kernel
theorem dX2_snowFault_0 : decode cX2_snowFault 0 = .ok (.aload_n 0, 1) := by decide +kernel
theorem dX2_snowFault_1 : decode cX2_snowFault 1 = .ok (.invokevirtual 104, 3) := by decide +kernel
theorem dX2_snowFault_4 : decode cX2_snowFault 4 = .ok (.iload_n 1, 1) := by decide +kernel
theorem dX2_snowFault_5 : decode cX2_snowFault 5 = .ok (.invokevirtual 120, 3) := by decide +kernel
theorem dX2_snowFault_8 : decode cX2_snowFault 8 = .ok (.ifCond .eq 10, 3) := by decide +kernel
theorem dX2_snowFault_11 : decode cX2_snowFault 11 = .ok (.iload_n 2, 1) := by decide +kernel
theorem dX2_snowFault_12 : decode cX2_snowFault 12 = .ok (.invokestatic 189, 3) := by decide +kernel
theorem dX2_snowFault_15 : decode cX2_snowFault 15 = .ok (.ifCond .ne 5, 3) := by decide +kernel
theorem dX2_snowFault_18 : decode cX2_snowFault 18 = .ok (.iconst 1, 1) := by decide +kernel
theorem dX2_snowFault_19 : decode cX2_snowFault 19 = .ok (.ireturn, 1) := by decide +kernel
theorem dX2_snowFault_20 : decode cX2_snowFault 20 = .ok (.iload_n 3, 1) := by decide +kernel
theorem dX2_snowFault_21 : decode cX2_snowFault 21 = .ok (.ifCond .lt 9, 3) := by decide +kernel
theorem dX2_snowFault_24 : decode cX2_snowFault 24 = .ok (.iload_n 3, 1) := by decide +kernel
theorem dX2_snowFault_25 : decode cX2_snowFault 25 = .ok (.bipush 9, 2) := by decide +kernel
theorem dX2_snowFault_27 : decode cX2_snowFault 27 = .ok (.if_icmp .le 7, 3) := by decide +kernel
theorem dX2_snowFault_30 : decode cX2_snowFault 30 = .ok (.iconst 3, 1) := by decide +kernel
theorem dX2_snowFault_31 : decode cX2_snowFault 31 = .ok (.goto 4, 3) := by decide +kernel
theorem dX2_snowFault_34 : decode cX2_snowFault 34 = .ok (.iconst 0, 1) := by decide +kernel
theorem dX2_snowFault_35 : decode cX2_snowFault 35 = .ok (.ireturn, 1) := by decide +kernel
theorem dX3_init_0 : decode cX3_init 0 = .ok (.aload_n 0, 1) := by decide +kernel
theorem dX3_init_1 : decode cX3_init 1 = .ok (.invokespecial 3, 3) := by decide +kernel
theorem dX3_init_4 : decode cX3_init 4 = .ok (.aload_n 0, 1) := by decide +kernel
theorem dX3_init_5 : decode cX3_init 5 = .ok (.bipush 8, 2) := by decide +kernel
theorem dX3_init_7 : decode cX3_init 7 = .ok (.anewarray 9, 3) := by decide +kernel
theorem dX3_init_10 : decode cX3_init 10 = .ok (.putfield 11, 3) := by decide +kernel
theorem dX3_init_13 : decode cX3_init 13 = .ok (.iconst 0, 1) := by decide +kernel
theorem dX3_init_14 : decode cX3_init 14 = .ok (.istore_n 1, 1) := by decide +kernel
theorem dX3_init_15 : decode cX3_init 15 = .ok (.iload_n 1, 1) := by decide +kernel
theorem dX3_init_16 : decode cX3_init 16 = .ok (.aload_n 0, 1) := by decide +kernel
theorem dX3_init_17 : decode cX3_init 17 = .ok (.getfield 11, 3) := by decide +kernel
theorem dX3_init_20 : decode cX3_init 20 = .ok (.arraylength, 1) := by decide +kernel
theorem dX3_init_21 : decode cX3_init 21 = .ok (.if_icmp .ge 22, 3) := by decide +kernel
theorem dX3_init_24 : decode cX3_init 24 = .ok (.aload_n 0, 1) := by decide +kernel
theorem dX3_init_25 : decode cX3_init 25 = .ok (.getfield 11, 3) := by decide +kernel
theorem dX3_init_28 : decode cX3_init 28 = .ok (.iload_n 1, 1) := by decide +kernel
theorem dX3_init_29 : decode cX3_init 29 = .ok (.new 9, 3) := by decide +kernel
theorem dX3_init_32 : decode cX3_init 32 = .ok (.dup, 1) := by decide +kernel
theorem dX3_init_33 : decode cX3_init 33 = .ok (.invokespecial 17, 3) := by decide +kernel
theorem dX3_init_36 : decode cX3_init 36 = .ok (.aastore, 1) := by decide +kernel
theorem dX3_init_37 : decode cX3_init 37 = .ok (.iinc 1 1, 3) := by decide +kernel
theorem dX3_init_40 : decode cX3_init 40 = .ok (.goto (-25), 3) := by decide +kernel
theorem dX3_init_43 : decode cX3_init 43 = .ok (.return_, 1) := by decide +kernel
theorem dX3_count_0 : decode cX3_count 0 = .ok (.aload_n 0, 1) := by decide +kernel
theorem dX3_count_1 : decode cX3_count 1 = .ok (.getfield 18, 3) := by decide +kernel
theorem dX3_count_4 : decode cX3_count 4 = .ok (.ireturn, 1) := by decide +kernel
theorem dX3_forget_0 : decode cX3_forget 0 = .ok (.aload_n 0, 1) := by decide +kernel
theorem dX3_forget_1 : decode cX3_forget 1 = .ok (.iconst 0, 1) := by decide +kernel
theorem dX3_forget_2 : decode cX3_forget 2 = .ok (.putfield 18, 3) := by decide +kernel
theorem dX3_forget_5 : decode cX3_forget 5 = .ok (.return_, 1) := by decide +kernel
theorem dX3_remember_0 : decode cX3_remember 0 = .ok (.aload_n 0, 1) := by decide +kernel
theorem dX3_remember_1 : decode cX3_remember 1 = .ok (.aload_n 0, 1) := by decide +kernel
theorem dX3_remember_2 : decode cX3_remember 2 = .ok (.getfield 22, 3) := by decide +kernel
theorem dX3_remember_5 : decode cX3_remember 5 = .ok (.iconst 1, 1) := by decide +kernel
theorem dX3_remember_6 : decode cX3_remember 6 = .ok (.iadd, 1) := by decide +kernel
theorem dX3_remember_7 : decode cX3_remember 7 = .ok (.aload_n 0, 1) := by decide +kernel
theorem dX3_remember_8 : decode cX3_remember 8 = .ok (.getfield 11, 3) := by decide +kernel
theorem dX3_remember_11 : decode cX3_remember 11 = .ok (.arraylength, 1) := by decide +kernel
theorem dX3_remember_12 : decode cX3_remember 12 = .ok (.if_icmp .ge 12, 3) := by decide +kernel
theorem dX3_remember_15 : decode cX3_remember 15 = .ok (.aload_n 0, 1) := by decide +kernel
theorem dX3_remember_16 : decode cX3_remember 16 = .ok (.getfield 22, 3) := by decide +kernel
theorem dX3_remember_19 : decode cX3_remember 19 = .ok (.iconst 1, 1) := by decide +kernel
theorem dX3_remember_20 : decode cX3_remember 20 = .ok (.iadd, 1) := by decide +kernel
theorem dX3_remember_21 : decode cX3_remember 21 = .ok (.goto 4, 3) := by decide +kernel
theorem dX3_remember_24 : decode cX3_remember 24 = .ok (.iconst 0, 1) := by decide +kernel
theorem dX3_remember_25 : decode cX3_remember 25 = .ok (.putfield 22, 3) := by decide +kernel
theorem dX3_remember_28 : decode cX3_remember 28 = .ok (.aload_n 0, 1) := by decide +kernel
theorem dX3_remember_29 : decode cX3_remember 29 = .ok (.aload_n 0, 1) := by decide +kernel
theorem dX3_remember_30 : decode cX3_remember 30 = .ok (.getfield 18, 3) := by decide +kernel
theorem dX3_remember_33 : decode cX3_remember 33 = .ok (.iconst 1, 1) := by decide +kernel
theorem dX3_remember_34 : decode cX3_remember 34 = .ok (.iadd, 1) := by decide +kernel
theorem dX3_remember_35 : decode cX3_remember 35 = .ok (.aload_n 0, 1) := by decide +kernel
theorem dX3_remember_36 : decode cX3_remember 36 = .ok (.getfield 11, 3) := by decide +kernel
theorem dX3_remember_39 : decode cX3_remember 39 = .ok (.arraylength, 1) := by decide +kernel
theorem dX3_remember_40 : decode cX3_remember 40 = .ok (.invokestatic 25, 3) := by decide +kernel
theorem dX3_remember_43 : decode cX3_remember 43 = .ok (.putfield 18, 3) := by decide +kernel
theorem dX3_remember_46 : decode cX3_remember 46 = .ok (.aload_n 0, 1) := by decide +kernel
theorem dX3_remember_47 : decode cX3_remember 47 = .ok (.invokevirtual 31, 3) := by decide +kernel
theorem dX3_remember_50 : decode cX3_remember 50 = .ok (.astore_n 2, 1) := by decide +kernel
theorem dX3_remember_51 : decode cX3_remember 51 = .ok (.aload_n 2, 1) := by decide +kernel
theorem dX3_remember_52 : decode cX3_remember 52 = .ok (.ifnull 8, 3) := by decide +kernel
theorem dX3_remember_55 : decode cX3_remember 55 = .ok (.aload_n 2, 1) := by decide +kernel
theorem dX3_remember_56 : decode cX3_remember 56 = .ok (.aload_n 1, 1) := by decide +kernel
theorem dX3_remember_57 : decode cX3_remember 57 = .ok (.invokevirtual 35, 3) := by decide +kernel
theorem dX3_remember_60 : decode cX3_remember 60 = .ok (.return_, 1) := by decide +kernel
theorem dX3_takeBack_0 : decode cX3_takeBack 0 = .ok (.aload_n 0, 1) := by decide +kernel
theorem dX3_takeBack_1 : decode cX3_takeBack 1 = .ok (.invokevirtual 31, 3) := by decide +kernel
theorem dX3_takeBack_4 : decode cX3_takeBack 4 = .ok (.astore_n 2, 1) := by decide +kernel
theorem dX3_takeBack_5 : decode cX3_takeBack 5 = .ok (.aload_n 2, 1) := by decide +kernel
theorem dX3_takeBack_6 : decode cX3_takeBack 6 = .ok (.ifnull 8, 3) := by decide +kernel
theorem dX3_takeBack_9 : decode cX3_takeBack 9 = .ok (.aload_n 1, 1) := by decide +kernel
theorem dX3_takeBack_10 : decode cX3_takeBack 10 = .ok (.aload_n 2, 1) := by decide +kernel
theorem dX3_takeBack_11 : decode cX3_takeBack 11 = .ok (.invokevirtual 35, 3) := by decide +kernel
theorem dX3_takeBack_14 : decode cX3_takeBack 14 = .ok (.aload_n 0, 1) := by decide +kernel
theorem dX3_takeBack_15 : decode cX3_takeBack 15 = .ok (.aload_n 0, 1) := by decide +kernel
theorem dX3_takeBack_16 : decode cX3_takeBack 16 = .ok (.getfield 22, 3) := by decide +kernel
theorem dX3_takeBack_19 : decode cX3_takeBack 19 = .ok (.ifCond .le 12, 3) := by decide +kernel
theorem dX3_takeBack_22 : decode cX3_takeBack 22 = .ok (.aload_n 0, 1) := by decide +kernel
theorem dX3_takeBack_23 : decode cX3_takeBack 23 = .ok (.getfield 22, 3) := by decide +kernel
theorem dX3_takeBack_26 : decode cX3_takeBack 26 = .ok (.iconst 1, 1) := by decide +kernel
theorem dX3_takeBack_27 : decode cX3_takeBack 27 = .ok (.isub, 1) := by decide +kernel
theorem dX3_takeBack_28 : decode cX3_takeBack 28 = .ok (.goto 10, 3) := by decide +kernel
theorem dX3_takeBack_31 : decode cX3_takeBack 31 = .ok (.aload_n 0, 1) := by decide +kernel
theorem dX3_takeBack_32 : decode cX3_takeBack 32 = .ok (.getfield 11, 3) := by decide +kernel
theorem dX3_takeBack_35 : decode cX3_takeBack 35 = .ok (.arraylength, 1) := by decide +kernel
theorem dX3_takeBack_36 : decode cX3_takeBack 36 = .ok (.iconst 1, 1) := by decide +kernel
theorem dX3_takeBack_37 : decode cX3_takeBack 37 = .ok (.isub, 1) := by decide +kernel
theorem dX3_takeBack_38 : decode cX3_takeBack 38 = .ok (.putfield 22, 3) := by decide +kernel
theorem dX3_takeBack_41 : decode cX3_takeBack 41 = .ok (.aload_n 0, 1) := by decide +kernel
theorem dX3_takeBack_42 : decode cX3_takeBack 42 = .ok (.dup, 1) := by decide +kernel
theorem dX3_takeBack_43 : decode cX3_takeBack 43 = .ok (.getfield 18, 3) := by decide +kernel
theorem dX3_takeBack_46 : decode cX3_takeBack 46 = .ok (.iconst 1, 1) := by decide +kernel
theorem dX3_takeBack_47 : decode cX3_takeBack 47 = .ok (.isub, 1) := by decide +kernel
theorem dX3_takeBack_48 : decode cX3_takeBack 48 = .ok (.putfield 18, 3) := by decide +kernel
theorem dX3_takeBack_51 : decode cX3_takeBack 51 = .ok (.return_, 1) := by decide +kernel
theorem dX3_newestGame_0 : decode cX3_newestGame 0 = .ok (.aload_n 0, 1) := by decide +kernel
theorem dX3_newestGame_1 : decode cX3_newestGame 1 = .ok (.getfield 22, 3) := by decide +kernel
theorem dX3_newestGame_4 : decode cX3_newestGame 4 = .ok (.ifCond .lt 27, 3) := by decide +kernel
theorem dX3_newestGame_7 : decode cX3_newestGame 7 = .ok (.aload_n 0, 1) := by decide +kernel
theorem dX3_newestGame_8 : decode cX3_newestGame 8 = .ok (.getfield 22, 3) := by decide +kernel
theorem dX3_newestGame_11 : decode cX3_newestGame 11 = .ok (.aload_n 0, 1) := by decide +kernel
theorem dX3_newestGame_12 : decode cX3_newestGame 12 = .ok (.getfield 11, 3) := by decide +kernel
theorem dX3_newestGame_15 : decode cX3_newestGame 15 = .ok (.arraylength, 1) := by decide +kernel
theorem dX3_newestGame_16 : decode cX3_newestGame 16 = .ok (.if_icmp .ge 15, 3) := by decide +kernel
theorem dX3_newestGame_19 : decode cX3_newestGame 19 = .ok (.aload_n 0, 1) := by decide +kernel
theorem dX3_newestGame_20 : decode cX3_newestGame 20 = .ok (.getfield 11, 3) := by decide +kernel
theorem dX3_newestGame_23 : decode cX3_newestGame 23 = .ok (.aload_n 0, 1) := by decide +kernel
theorem dX3_newestGame_24 : decode cX3_newestGame 24 = .ok (.getfield 22, 3) := by decide +kernel
theorem dX3_newestGame_27 : decode cX3_newestGame 27 = .ok (.aaload, 1) := by decide +kernel
theorem dX3_newestGame_28 : decode cX3_newestGame 28 = .ok (.goto 4, 3) := by decide +kernel
theorem dX3_newestGame_31 : decode cX3_newestGame 31 = .ok (.aconst_null, 1) := by decide +kernel
theorem dX3_newestGame_32 : decode cX3_newestGame 32 = .ok (.areturn, 1) := by decide +kernel
theorem dX4_init_0 : decode cX4_init 0 = .ok (.aload_n 0, 1) := by decide +kernel
theorem dX4_init_1 : decode cX4_init 1 = .ok (.invokespecial 3, 3) := by decide +kernel
theorem dX4_init_4 : decode cX4_init 4 = .ok (.aload_n 0, 1) := by decide +kernel
theorem dX4_init_5 : decode cX4_init 5 = .ok (.sipush 400, 3) := by decide +kernel
theorem dX4_init_8 : decode cX4_init 8 = .ok (.newarray .int, 2) := by decide +kernel
theorem dX4_init_10 : decode cX4_init 10 = .ok (.putfield 9, 3) := by decide +kernel
theorem dX4_init_13 : decode cX4_init 13 = .ok (.return_, 1) := by decide +kernel
theorem dX5_init_0 : decode cX5_init 0 = .ok (.aload_n 0, 1) := by decide +kernel
theorem dX5_init_1 : decode cX5_init 1 = .ok (.invokespecial 3, 3) := by decide +kernel
theorem dX5_init_4 : decode cX5_init 4 = .ok (.aload_n 0, 1) := by decide +kernel
theorem dX5_init_5 : decode cX5_init 5 = .ok (.iconst 4, 1) := by decide +kernel
theorem dX5_init_6 : decode cX5_init 6 = .ok (.newarray .int, 2) := by decide +kernel
theorem dX5_init_8 : decode cX5_init 8 = .ok (.putfield 9, 3) := by decide +kernel
theorem dX5_init_11 : decode cX5_init 11 = .ok (.aload_n 0, 1) := by decide +kernel
theorem dX5_init_12 : decode cX5_init 12 = .ok (.bipush 48, 2) := by decide +kernel
theorem dX5_init_14 : decode cX5_init 14 = .ok (.newarray .int, 2) := by decide +kernel
theorem dX5_init_16 : decode cX5_init 16 = .ok (.putfield 15, 3) := by decide +kernel
theorem dX5_init_19 : decode cX5_init 19 = .ok (.aload_n 0, 1) := by decide +kernel
theorem dX5_init_20 : decode cX5_init 20 = .ok (.bipush 8, 2) := by decide +kernel
theorem dX5_init_22 : decode cX5_init 22 = .ok (.newarray .int, 2) := by decide +kernel
theorem dX5_init_24 : decode cX5_init 24 = .ok (.putfield 18, 3) := by decide +kernel
theorem dX5_init_27 : decode cX5_init 27 = .ok (.return_, 1) := by decide +kernel
theorem dX5_clear_0 : decode cX5_clear 0 = .ok (.aload_n 0, 1) := by decide +kernel
theorem dX5_clear_1 : decode cX5_clear 1 = .ok (.getfield 9, 3) := by decide +kernel
theorem dX5_clear_4 : decode cX5_clear 4 = .ok (.iconst 0, 1) := by decide +kernel
theorem dX5_clear_5 : decode cX5_clear 5 = .ok (.invokestatic 21, 3) := by decide +kernel
theorem dX5_clear_8 : decode cX5_clear 8 = .ok (.aload_n 0, 1) := by decide +kernel
theorem dX5_clear_9 : decode cX5_clear 9 = .ok (.getfield 15, 3) := by decide +kernel
theorem dX5_clear_12 : decode cX5_clear 12 = .ok (.iconst 0, 1) := by decide +kernel
theorem dX5_clear_13 : decode cX5_clear 13 = .ok (.invokestatic 21, 3) := by decide +kernel
theorem dX5_clear_16 : decode cX5_clear 16 = .ok (.aload_n 0, 1) := by decide +kernel
theorem dX5_clear_17 : decode cX5_clear 17 = .ok (.getfield 18, 3) := by decide +kernel
theorem dX5_clear_20 : decode cX5_clear 20 = .ok (.iconst 0, 1) := by decide +kernel
theorem dX5_clear_21 : decode cX5_clear 21 = .ok (.invokestatic 21, 3) := by decide +kernel
theorem dX5_clear_24 : decode cX5_clear 24 = .ok (.aload_n 0, 1) := by decide +kernel
theorem dX5_clear_25 : decode cX5_clear 25 = .ok (.iconst 0, 1) := by decide +kernel
theorem dX5_clear_26 : decode cX5_clear 26 = .ok (.putfield 27, 3) := by decide +kernel
theorem dX5_clear_29 : decode cX5_clear 29 = .ok (.aload_n 0, 1) := by decide +kernel
theorem dX5_clear_30 : decode cX5_clear 30 = .ok (.iconst 0, 1) := by decide +kernel
theorem dX5_clear_31 : decode cX5_clear 31 = .ok (.putfield 31, 3) := by decide +kernel
theorem dX5_clear_34 : decode cX5_clear 34 = .ok (.return_, 1) := by decide +kernel
theorem dX5_copyFrom_0 : decode cX5_copyFrom 0 = .ok (.aload_n 1, 1) := by decide +kernel
theorem dX5_copyFrom_1 : decode cX5_copyFrom 1 = .ok (.getfield 9, 3) := by decide +kernel
theorem dX5_copyFrom_4 : decode cX5_copyFrom 4 = .ok (.aload_n 0, 1) := by decide +kernel
theorem dX5_copyFrom_5 : decode cX5_copyFrom 5 = .ok (.getfield 9, 3) := by decide +kernel
theorem dX5_copyFrom_8 : decode cX5_copyFrom 8 = .ok (.invokestatic 34, 3) := by decide +kernel
theorem dX5_copyFrom_11 : decode cX5_copyFrom 11 = .ok (.aload_n 1, 1) := by decide +kernel
theorem dX5_copyFrom_12 : decode cX5_copyFrom 12 = .ok (.getfield 15, 3) := by decide +kernel
theorem dX5_copyFrom_15 : decode cX5_copyFrom 15 = .ok (.aload_n 0, 1) := by decide +kernel
theorem dX5_copyFrom_16 : decode cX5_copyFrom 16 = .ok (.getfield 15, 3) := by decide +kernel
theorem dX5_copyFrom_19 : decode cX5_copyFrom 19 = .ok (.invokestatic 34, 3) := by decide +kernel
theorem dX5_copyFrom_22 : decode cX5_copyFrom 22 = .ok (.aload_n 1, 1) := by decide +kernel
theorem dX5_copyFrom_23 : decode cX5_copyFrom 23 = .ok (.getfield 18, 3) := by decide +kernel
theorem dX5_copyFrom_26 : decode cX5_copyFrom 26 = .ok (.aload_n 0, 1) := by decide +kernel
theorem dX5_copyFrom_27 : decode cX5_copyFrom 27 = .ok (.getfield 18, 3) := by decide +kernel
theorem dX5_copyFrom_30 : decode cX5_copyFrom 30 = .ok (.invokestatic 34, 3) := by decide +kernel
theorem dX5_copyFrom_33 : decode cX5_copyFrom 33 = .ok (.aload_n 0, 1) := by decide +kernel
theorem dX5_copyFrom_34 : decode cX5_copyFrom 34 = .ok (.aload_n 1, 1) := by decide +kernel
theorem dX5_copyFrom_35 : decode cX5_copyFrom 35 = .ok (.getfield 27, 3) := by decide +kernel
theorem dX5_copyFrom_38 : decode cX5_copyFrom 38 = .ok (.putfield 27, 3) := by decide +kernel
theorem dX5_copyFrom_41 : decode cX5_copyFrom 41 = .ok (.aload_n 0, 1) := by decide +kernel
theorem dX5_copyFrom_42 : decode cX5_copyFrom 42 = .ok (.aload_n 1, 1) := by decide +kernel
theorem dX5_copyFrom_43 : decode cX5_copyFrom 43 = .ok (.getfield 31, 3) := by decide +kernel
theorem dX5_copyFrom_46 : decode cX5_copyFrom 46 = .ok (.putfield 31, 3) := by decide +kernel
theorem dX5_copyFrom_49 : decode cX5_copyFrom 49 = .ok (.return_, 1) := by decide +kernel
theorem dX5_open_0 : decode cX5_open 0 = .ok (.aload_n 0, 1) := by decide +kernel
theorem dX5_open_1 : decode cX5_open 1 = .ok (.getfield 9, 3) := by decide +kernel
theorem dX5_open_4 : decode cX5_open 4 = .ok (.aload_n 0, 1) := by decide +kernel
theorem dX5_open_5 : decode cX5_open 5 = .ok (.getfield 27, 3) := by decide +kernel
theorem dX5_open_8 : decode cX5_open 8 = .ok (.iload_n 1, 1) := by decide +kernel
theorem dX5_open_9 : decode cX5_open 9 = .ok (.invokestatic 38, 3) := by decide +kernel
theorem dX5_open_12 : decode cX5_open 12 = .ok (.aload_n 0, 1) := by decide +kernel
theorem dX5_open_13 : decode cX5_open 13 = .ok (.getfield 18, 3) := by decide +kernel
theorem dX5_open_16 : decode cX5_open 16 = .ok (.aload_n 0, 1) := by decide +kernel
theorem dX5_open_17 : decode cX5_open 17 = .ok (.getfield 27, 3) := by decide +kernel
theorem dX5_open_20 : decode cX5_open 20 = .ok (.iconst 2, 1) := by decide +kernel
theorem dX5_open_21 : decode cX5_open 21 = .ok (.imul, 1) := by decide +kernel
theorem dX5_open_22 : decode cX5_open 22 = .ok (.iload_n 2, 1) := by decide +kernel
theorem dX5_open_23 : decode cX5_open 23 = .ok (.invokestatic 38, 3) := by decide +kernel
theorem dX5_open_26 : decode cX5_open 26 = .ok (.aload_n 0, 1) := by decide +kernel
theorem dX5_open_27 : decode cX5_open 27 = .ok (.getfield 18, 3) := by decide +kernel
theorem dX5_open_30 : decode cX5_open 30 = .ok (.aload_n 0, 1) := by decide +kernel
theorem dX5_open_31 : decode cX5_open 31 = .ok (.getfield 27, 3) := by decide +kernel
theorem dX5_open_34 : decode cX5_open 34 = .ok (.iconst 2, 1) := by decide +kernel
theorem dX5_open_35 : decode cX5_open 35 = .ok (.imul, 1) := by decide +kernel
theorem dX5_open_36 : decode cX5_open 36 = .ok (.iconst 1, 1) := by decide +kernel
theorem dX5_open_37 : decode cX5_open 37 = .ok (.iadd, 1) := by decide +kernel
theorem dX5_open_38 : decode cX5_open 38 = .ok (.iload_n 3, 1) := by decide +kernel
theorem dX5_open_39 : decode cX5_open 39 = .ok (.invokestatic 38, 3) := by decide +kernel
theorem dX5_open_42 : decode cX5_open 42 = .ok (.aload_n 0, 1) := by decide +kernel
theorem dX5_open_43 : decode cX5_open 43 = .ok (.dup, 1) := by decide +kernel
theorem dX5_open_44 : decode cX5_open 44 = .ok (.getfield 31, 3) := by decide +kernel
theorem dX5_open_47 : decode cX5_open 47 = .ok (.iload_n 2, 1) := by decide +kernel
theorem dX5_open_48 : decode cX5_open 48 = .ok (.iload_n 3, 1) := by decide +kernel
theorem dX5_open_49 : decode cX5_open 49 = .ok (.iadd, 1) := by decide +kernel
theorem dX5_open_50 : decode cX5_open 50 = .ok (.iadd, 1) := by decide +kernel
theorem dX5_open_51 : decode cX5_open 51 = .ok (.putfield 31, 3) := by decide +kernel
theorem dX5_open_54 : decode cX5_open 54 = .ok (.aload_n 0, 1) := by decide +kernel
theorem dX5_open_55 : decode cX5_open 55 = .ok (.dup, 1) := by decide +kernel
theorem dX5_open_56 : decode cX5_open 56 = .ok (.getfield 27, 3) := by decide +kernel
theorem dX5_open_59 : decode cX5_open 59 = .ok (.iconst 1, 1) := by decide +kernel
theorem dX5_open_60 : decode cX5_open 60 = .ok (.iadd, 1) := by decide +kernel
theorem dX5_open_61 : decode cX5_open 61 = .ok (.putfield 27, 3) := by decide +kernel
theorem dX5_open_64 : decode cX5_open 64 = .ok (.return_, 1) := by decide +kernel
theorem dX5_count_0 : decode cX5_count 0 = .ok (.aload_n 0, 1) := by decide +kernel
theorem dX5_count_1 : decode cX5_count 1 = .ok (.getfield 27, 3) := by decide +kernel
theorem dX5_count_4 : decode cX5_count 4 = .ok (.ireturn, 1) := by decide +kernel
theorem dX5_exists_0 : decode cX5_exists 0 = .ok (.iload_n 1, 1) := by decide +kernel
theorem dX5_exists_1 : decode cX5_exists 1 = .ok (.ifCond .lt 15, 3) := by decide +kernel
theorem dX5_exists_4 : decode cX5_exists 4 = .ok (.iload_n 1, 1) := by decide +kernel
theorem dX5_exists_5 : decode cX5_exists 5 = .ok (.aload_n 0, 1) := by decide +kernel
theorem dX5_exists_6 : decode cX5_exists 6 = .ok (.getfield 27, 3) := by decide +kernel
theorem dX5_exists_9 : decode cX5_exists 9 = .ok (.if_icmp .ge 7, 3) := by decide +kernel
theorem dX5_exists_12 : decode cX5_exists 12 = .ok (.iconst 1, 1) := by decide +kernel
theorem dX5_exists_13 : decode cX5_exists 13 = .ok (.goto 4, 3) := by decide +kernel
theorem dX5_exists_16 : decode cX5_exists 16 = .ok (.iconst 0, 1) := by decide +kernel
theorem dX5_exists_17 : decode cX5_exists 17 = .ok (.ireturn, 1) := by decide +kernel
theorem dX5_snowIn_0 : decode cX5_snowIn 0 = .ok (.aload_n 0, 1) := by decide +kernel
theorem dX5_snowIn_1 : decode cX5_snowIn 1 = .ok (.getfield 15, 3) := by decide +kernel
theorem dX5_snowIn_4 : decode cX5_snowIn 4 = .ok (.iload_n 1, 1) := by decide +kernel
theorem dX5_snowIn_5 : decode cX5_snowIn 5 = .ok (.bipush 12, 2) := by decide +kernel
theorem dX5_snowIn_7 : decode cX5_snowIn 7 = .ok (.imul, 1) := by decide +kernel
theorem dX5_snowIn_8 : decode cX5_snowIn 8 = .ok (.iload_n 2, 1) := by decide +kernel
theorem dX5_snowIn_9 : decode cX5_snowIn 9 = .ok (.iadd, 1) := by decide +kernel
theorem dX5_snowIn_10 : decode cX5_snowIn 10 = .ok (.invokestatic 42, 3) := by decide +kernel
theorem dX5_snowIn_13 : decode cX5_snowIn 13 = .ok (.ireturn, 1) := by decide +kernel
theorem dX5_isClosed_0 : decode cX5_isClosed 0 = .ok (.aload_n 0, 1) := by decide +kernel
theorem dX5_isClosed_1 : decode cX5_isClosed 1 = .ok (.iload_n 1, 1) := by decide +kernel
theorem dX5_isClosed_2 : decode cX5_isClosed 2 = .ok (.iload_n 2, 1) := by decide +kernel
theorem dX5_isClosed_3 : decode cX5_isClosed 3 = .ok (.invokevirtual 46, 3) := by decide +kernel
theorem dX5_isClosed_6 : decode cX5_isClosed 6 = .ok (.bipush 9, 2) := by decide +kernel
theorem dX5_isClosed_8 : decode cX5_isClosed 8 = .ok (.if_icmp .lt 7, 3) := by decide +kernel
theorem dX5_isClosed_11 : decode cX5_isClosed 11 = .ok (.iconst 1, 1) := by decide +kernel
theorem dX5_isClosed_12 : decode cX5_isClosed 12 = .ok (.goto 4, 3) := by decide +kernel
theorem dX5_isClosed_15 : decode cX5_isClosed 15 = .ok (.iconst 0, 1) := by decide +kernel
theorem dX5_isClosed_16 : decode cX5_isClosed 16 = .ok (.ireturn, 1) := by decide +kernel
theorem dX5_daysOver_0 : decode cX5_daysOver 0 = .ok (.aload_n 0, 1) := by decide +kernel
theorem dX5_daysOver_1 : decode cX5_daysOver 1 = .ok (.iload_n 1, 1) := by decide +kernel
theorem dX5_daysOver_2 : decode cX5_daysOver 2 = .ok (.iload_n 2, 1) := by decide +kernel
theorem dX5_daysOver_3 : decode cX5_daysOver 3 = .ok (.invokevirtual 46, 3) := by decide +kernel
theorem dX5_daysOver_6 : decode cX5_daysOver 6 = .ok (.istore_n 3, 1) := by decide +kernel
theorem dX5_daysOver_7 : decode cX5_daysOver 7 = .ok (.iload_n 3, 1) := by decide +kernel
theorem dX5_daysOver_8 : decode cX5_daysOver 8 = .ok (.bipush 9, 2) := by decide +kernel
theorem dX5_daysOver_10 : decode cX5_daysOver 10 = .ok (.if_icmp .lt 7, 3) := by decide +kernel
theorem dX5_daysOver_13 : decode cX5_daysOver 13 = .ok (.iconst (-1), 1) := by decide +kernel
theorem dX5_daysOver_14 : decode cX5_daysOver 14 = .ok (.goto 13, 3) := by decide +kernel
theorem dX5_daysOver_17 : decode cX5_daysOver 17 = .ok (.aload_n 0, 1) := by decide +kernel
theorem dX5_daysOver_18 : decode cX5_daysOver 18 = .ok (.getfield 9, 3) := by decide +kernel
theorem dX5_daysOver_21 : decode cX5_daysOver 21 = .ok (.iload_n 1, 1) := by decide +kernel
theorem dX5_daysOver_22 : decode cX5_daysOver 22 = .ok (.invokestatic 42, 3) := by decide +kernel
theorem dX5_daysOver_25 : decode cX5_daysOver 25 = .ok (.iload_n 3, 1) := by decide +kernel
theorem dX5_daysOver_26 : decode cX5_daysOver 26 = .ok (.iadd, 1) := by decide +kernel
theorem dX5_daysOver_27 : decode cX5_daysOver 27 = .ok (.ireturn, 1) := by decide +kernel
theorem dX5_changeSnow_0 : decode cX5_changeSnow 0 = .ok (.aload_n 0, 1) := by decide +kernel
theorem dX5_changeSnow_1 : decode cX5_changeSnow 1 = .ok (.iload_n 1, 1) := by decide +kernel
theorem dX5_changeSnow_2 : decode cX5_changeSnow 2 = .ok (.iload_n 2, 1) := by decide +kernel
theorem dX5_changeSnow_3 : decode cX5_changeSnow 3 = .ok (.invokevirtual 46, 3) := by decide +kernel
theorem dX5_changeSnow_6 : decode cX5_changeSnow 6 = .ok (.istore 4, 2) := by decide +kernel
theorem dX5_changeSnow_8 : decode cX5_changeSnow 8 = .ok (.aload_n 0, 1) := by decide +kernel
theorem dX5_changeSnow_9 : decode cX5_changeSnow 9 = .ok (.getfield 15, 3) := by decide +kernel
theorem dX5_changeSnow_12 : decode cX5_changeSnow 12 = .ok (.iload_n 1, 1) := by decide +kernel
theorem dX5_changeSnow_13 : decode cX5_changeSnow 13 = .ok (.bipush 12, 2) := by decide +kernel
theorem dX5_changeSnow_15 : decode cX5_changeSnow 15 = .ok (.imul, 1) := by decide +kernel
theorem dX5_changeSnow_16 : decode cX5_changeSnow 16 = .ok (.iload_n 2, 1) := by decide +kernel
theorem dX5_changeSnow_17 : decode cX5_changeSnow 17 = .ok (.iadd, 1) := by decide +kernel
theorem dX5_changeSnow_18 : decode cX5_changeSnow 18 = .ok (.iload_n 3, 1) := by decide +kernel
theorem dX5_changeSnow_19 : decode cX5_changeSnow 19 = .ok (.invokestatic 38, 3) := by decide +kernel
theorem dX5_changeSnow_22 : decode cX5_changeSnow 22 = .ok (.iload 4, 2) := by decide +kernel
theorem dX5_changeSnow_24 : decode cX5_changeSnow 24 = .ok (.ireturn, 1) := by decide +kernel
theorem dX5_mulesAt_0 : decode cX5_mulesAt 0 = .ok (.aload_n 0, 1) := by decide +kernel
theorem dX5_mulesAt_1 : decode cX5_mulesAt 1 = .ok (.getfield 18, 3) := by decide +kernel
theorem dX5_mulesAt_4 : decode cX5_mulesAt 4 = .ok (.iload_n 1, 1) := by decide +kernel
theorem dX5_mulesAt_5 : decode cX5_mulesAt 5 = .ok (.iconst 2, 1) := by decide +kernel
theorem dX5_mulesAt_6 : decode cX5_mulesAt 6 = .ok (.imul, 1) := by decide +kernel
theorem dX5_mulesAt_7 : decode cX5_mulesAt 7 = .ok (.iload_n 2, 1) := by decide +kernel
theorem dX5_mulesAt_8 : decode cX5_mulesAt 8 = .ok (.iadd, 1) := by decide +kernel
theorem dX5_mulesAt_9 : decode cX5_mulesAt 9 = .ok (.invokestatic 42, 3) := by decide +kernel
theorem dX5_mulesAt_12 : decode cX5_mulesAt 12 = .ok (.ireturn, 1) := by decide +kernel
theorem dX5_bringMule_0 : decode cX5_bringMule 0 = .ok (.aload_n 0, 1) := by decide +kernel
theorem dX5_bringMule_1 : decode cX5_bringMule 1 = .ok (.dup, 1) := by decide +kernel
theorem dX5_bringMule_2 : decode cX5_bringMule 2 = .ok (.getfield 31, 3) := by decide +kernel
theorem dX5_bringMule_5 : decode cX5_bringMule 5 = .ok (.iconst 1, 1) := by decide +kernel
theorem dX5_bringMule_6 : decode cX5_bringMule 6 = .ok (.iadd, 1) := by decide +kernel
theorem dX5_bringMule_7 : decode cX5_bringMule 7 = .ok (.putfield 31, 3) := by decide +kernel
theorem dX5_bringMule_10 : decode cX5_bringMule 10 = .ok (.aload_n 0, 1) := by decide +kernel
theorem dX5_bringMule_11 : decode cX5_bringMule 11 = .ok (.iload_n 1, 1) := by decide +kernel
theorem dX5_bringMule_12 : decode cX5_bringMule 12 = .ok (.iload_n 2, 1) := by decide +kernel
theorem dX5_bringMule_13 : decode cX5_bringMule 13 = .ok (.iconst 1, 1) := by decide +kernel
theorem dX5_bringMule_14 : decode cX5_bringMule 14 = .ok (.invokevirtual 50, 3) := by decide +kernel
theorem dX5_bringMule_17 : decode cX5_bringMule 17 = .ok (.aload_n 0, 1) := by decide +kernel
theorem dX5_bringMule_18 : decode cX5_bringMule 18 = .ok (.iload_n 1, 1) := by decide +kernel
theorem dX5_bringMule_19 : decode cX5_bringMule 19 = .ok (.iload_n 2, 1) := by decide +kernel
theorem dX5_bringMule_20 : decode cX5_bringMule 20 = .ok (.invokevirtual 54, 3) := by decide +kernel
theorem dX5_bringMule_23 : decode cX5_bringMule 23 = .ok (.ireturn, 1) := by decide +kernel
theorem dX5_changeMules_0 : decode cX5_changeMules 0 = .ok (.iload_n 1, 1) := by decide +kernel
theorem dX5_changeMules_1 : decode cX5_changeMules 1 = .ok (.iconst 2, 1) := by decide +kernel
theorem dX5_changeMules_2 : decode cX5_changeMules 2 = .ok (.imul, 1) := by decide +kernel
theorem dX5_changeMules_3 : decode cX5_changeMules 3 = .ok (.iload_n 2, 1) := by decide +kernel
theorem dX5_changeMules_4 : decode cX5_changeMules 4 = .ok (.iadd, 1) := by decide +kernel
theorem dX5_changeMules_5 : decode cX5_changeMules 5 = .ok (.istore 4, 2) := by decide +kernel
theorem dX5_changeMules_7 : decode cX5_changeMules 7 = .ok (.aload_n 0, 1) := by decide +kernel
theorem dX5_changeMules_8 : decode cX5_changeMules 8 = .ok (.getfield 18, 3) := by decide +kernel
theorem dX5_changeMules_11 : decode cX5_changeMules 11 = .ok (.iload 4, 2) := by decide +kernel
theorem dX5_changeMules_13 : decode cX5_changeMules 13 = .ok (.aload_n 0, 1) := by decide +kernel
theorem dX5_changeMules_14 : decode cX5_changeMules 14 = .ok (.getfield 18, 3) := by decide +kernel
theorem dX5_changeMules_17 : decode cX5_changeMules 17 = .ok (.iload 4, 2) := by decide +kernel
theorem dX5_changeMules_19 : decode cX5_changeMules 19 = .ok (.invokestatic 42, 3) := by decide +kernel
theorem dX5_changeMules_22 : decode cX5_changeMules 22 = .ok (.iload_n 3, 1) := by decide +kernel
theorem dX5_changeMules_23 : decode cX5_changeMules 23 = .ok (.iadd, 1) := by decide +kernel
theorem dX5_changeMules_24 : decode cX5_changeMules 24 = .ok (.invokestatic 38, 3) := by decide +kernel
theorem dX5_changeMules_27 : decode cX5_changeMules 27 = .ok (.return_, 1) := by decide +kernel
theorem dX5_mulesAstray_0 : decode cX5_mulesAstray 0 = .ok (.iconst 0, 1) := by decide +kernel
theorem dX5_mulesAstray_1 : decode cX5_mulesAstray 1 = .ok (.istore_n 2, 1) := by decide +kernel
theorem dX5_mulesAstray_2 : decode cX5_mulesAstray 2 = .ok (.iconst 0, 1) := by decide +kernel
theorem dX5_mulesAstray_3 : decode cX5_mulesAstray 3 = .ok (.istore_n 3, 1) := by decide +kernel
theorem dX5_mulesAstray_4 : decode cX5_mulesAstray 4 = .ok (.iload_n 3, 1) := by decide +kernel
theorem dX5_mulesAstray_5 : decode cX5_mulesAstray 5 = .ok (.aload_n 0, 1) := by decide +kernel
theorem dX5_mulesAstray_6 : decode cX5_mulesAstray 6 = .ok (.getfield 18, 3) := by decide +kernel
theorem dX5_mulesAstray_9 : decode cX5_mulesAstray 9 = .ok (.arraylength, 1) := by decide +kernel
theorem dX5_mulesAstray_10 : decode cX5_mulesAstray 10 = .ok (.if_icmp .ge 20, 3) := by decide +kernel
theorem dX5_mulesAstray_13 : decode cX5_mulesAstray 13 = .ok (.iload_n 2, 1) := by decide +kernel
theorem dX5_mulesAstray_14 : decode cX5_mulesAstray 14 = .ok (.aload_n 0, 1) := by decide +kernel
theorem dX5_mulesAstray_15 : decode cX5_mulesAstray 15 = .ok (.getfield 18, 3) := by decide +kernel
theorem dX5_mulesAstray_18 : decode cX5_mulesAstray 18 = .ok (.iload_n 3, 1) := by decide +kernel
theorem dX5_mulesAstray_19 : decode cX5_mulesAstray 19 = .ok (.invokestatic 42, 3) := by decide +kernel
theorem dX5_mulesAstray_22 : decode cX5_mulesAstray 22 = .ok (.iadd, 1) := by decide +kernel
theorem dX5_mulesAstray_23 : decode cX5_mulesAstray 23 = .ok (.istore_n 2, 1) := by decide +kernel
theorem dX5_mulesAstray_24 : decode cX5_mulesAstray 24 = .ok (.iinc 3 1, 3) := by decide +kernel
theorem dX5_mulesAstray_27 : decode cX5_mulesAstray 27 = .ok (.goto (-23), 3) := by decide +kernel
theorem dX5_mulesAstray_30 : decode cX5_mulesAstray 30 = .ok (.aload_n 0, 1) := by decide +kernel
theorem dX5_mulesAstray_31 : decode cX5_mulesAstray 31 = .ok (.getfield 31, 3) := by decide +kernel
theorem dX5_mulesAstray_34 : decode cX5_mulesAstray 34 = .ok (.iload_n 2, 1) := by decide +kernel
theorem dX5_mulesAstray_35 : decode cX5_mulesAstray 35 = .ok (.iload_n 1, 1) := by decide +kernel
theorem dX5_mulesAstray_36 : decode cX5_mulesAstray 36 = .ok (.iadd, 1) := by decide +kernel
theorem dX5_mulesAstray_37 : decode cX5_mulesAstray 37 = .ok (.isub, 1) := by decide +kernel
theorem dX5_mulesAstray_38 : decode cX5_mulesAstray 38 = .ok (.invokestatic 57, 3) := by decide +kernel
theorem dX5_mulesAstray_41 : decode cX5_mulesAstray 41 = .ok (.ireturn, 1) := by decide +kernel
theorem dX6_init_0 : decode cX6_init 0 = .ok (.aload_n 0, 1) := by decide +kernel
theorem dX6_init_1 : decode cX6_init 1 = .ok (.invokespecial 3, 3) := by decide +kernel
theorem dX6_init_4 : decode cX6_init 4 = .ok (.aload_n 0, 1) := by decide +kernel
theorem dX6_init_5 : decode cX6_init 5 = .ok (.new 9, 3) := by decide +kernel
theorem dX6_init_8 : decode cX6_init 8 = .ok (.dup, 1) := by decide +kernel
theorem dX6_init_9 : decode cX6_init 9 = .ok (.invokespecial 11, 3) := by decide +kernel
theorem dX6_init_12 : decode cX6_init 12 = .ok (.putfield 12, 3) := by decide +kernel
theorem dX6_init_15 : decode cX6_init 15 = .ok (.aload_n 0, 1) := by decide +kernel
theorem dX6_init_16 : decode cX6_init 16 = .ok (.bipush 84, 2) := by decide +kernel
theorem dX6_init_18 : decode cX6_init 18 = .ok (.newarray .int, 2) := by decide +kernel
theorem dX6_init_20 : decode cX6_init 20 = .ok (.putfield 18, 3) := by decide +kernel
theorem dX6_init_23 : decode cX6_init 23 = .ok (.aload_n 0, 1) := by decide +kernel
theorem dX6_init_24 : decode cX6_init 24 = .ok (.bipush 84, 2) := by decide +kernel
theorem dX6_init_26 : decode cX6_init 26 = .ok (.newarray .int, 2) := by decide +kernel
theorem dX6_init_28 : decode cX6_init 28 = .ok (.putfield 22, 3) := by decide +kernel
theorem dX6_init_31 : decode cX6_init 31 = .ok (.aload_n 0, 1) := by decide +kernel
theorem dX6_init_32 : decode cX6_init 32 = .ok (.bipush 84, 2) := by decide +kernel
theorem dX6_init_34 : decode cX6_init 34 = .ok (.newarray .int, 2) := by decide +kernel
theorem dX6_init_36 : decode cX6_init 36 = .ok (.putfield 25, 3) := by decide +kernel
theorem dX6_init_39 : decode cX6_init 39 = .ok (.aload_n 0, 1) := by decide +kernel
theorem dX6_init_40 : decode cX6_init 40 = .ok (.bipush 84, 2) := by decide +kernel
theorem dX6_init_42 : decode cX6_init 42 = .ok (.newarray .int, 2) := by decide +kernel
theorem dX6_init_44 : decode cX6_init 44 = .ok (.putfield 28, 3) := by decide +kernel
theorem dX6_init_47 : decode cX6_init 47 = .ok (.aload_n 0, 1) := by decide +kernel
theorem dX6_init_48 : decode cX6_init 48 = .ok (.bipush 84, 2) := by decide +kernel
theorem dX6_init_50 : decode cX6_init 50 = .ok (.newarray .int, 2) := by decide +kernel
theorem dX6_init_52 : decode cX6_init 52 = .ok (.putfield 31, 3) := by decide +kernel
theorem dX6_init_55 : decode cX6_init 55 = .ok (.aload_n 0, 1) := by decide +kernel
theorem dX6_init_56 : decode cX6_init 56 = .ok (.bipush 84, 2) := by decide +kernel
theorem dX6_init_58 : decode cX6_init 58 = .ok (.newarray .int, 2) := by decide +kernel
theorem dX6_init_60 : decode cX6_init 60 = .ok (.putfield 34, 3) := by decide +kernel
theorem dX6_init_63 : decode cX6_init 63 = .ok (.aload_n 0, 1) := by decide +kernel
theorem dX6_init_64 : decode cX6_init 64 = .ok (.bipush 84, 2) := by decide +kernel
theorem dX6_init_66 : decode cX6_init 66 = .ok (.newarray .int, 2) := by decide +kernel
theorem dX6_init_68 : decode cX6_init 68 = .ok (.putfield 37, 3) := by decide +kernel
theorem dX6_init_71 : decode cX6_init 71 = .ok (.aload_n 0, 1) := by decide +kernel
theorem dX6_init_72 : decode cX6_init 72 = .ok (.bipush 84, 2) := by decide +kernel
theorem dX6_init_74 : decode cX6_init 74 = .ok (.newarray .int, 2) := by decide +kernel
theorem dX6_init_76 : decode cX6_init 76 = .ok (.putfield 40, 3) := by decide +kernel
theorem dX6_init_79 : decode cX6_init 79 = .ok (.aload_n 0, 1) := by decide +kernel
theorem dX6_init_80 : decode cX6_init 80 = .ok (.bipush 84, 2) := by decide +kernel
theorem dX6_init_82 : decode cX6_init 82 = .ok (.newarray .int, 2) := by decide +kernel
theorem dX6_init_84 : decode cX6_init 84 = .ok (.putfield 43, 3) := by decide +kernel
theorem dX6_init_87 : decode cX6_init 87 = .ok (.aload_n 0, 1) := by decide +kernel
theorem dX6_init_88 : decode cX6_init 88 = .ok (.bipush 84, 2) := by decide +kernel
theorem dX6_init_90 : decode cX6_init 90 = .ok (.newarray .int, 2) := by decide +kernel
theorem dX6_init_92 : decode cX6_init 92 = .ok (.putfield 46, 3) := by decide +kernel
theorem dX6_init_95 : decode cX6_init 95 = .ok (.aload_n 0, 1) := by decide +kernel
theorem dX6_init_96 : decode cX6_init 96 = .ok (.bipush 84, 2) := by decide +kernel
theorem dX6_init_98 : decode cX6_init 98 = .ok (.newarray .int, 2) := by decide +kernel
theorem dX6_init_100 : decode cX6_init 100 = .ok (.putfield 49, 3) := by decide +kernel
theorem dX6_init_103 : decode cX6_init 103 = .ok (.aload_n 0, 1) := by decide +kernel
theorem dX6_init_104 : decode cX6_init 104 = .ok (.bipush 8, 2) := by decide +kernel
theorem dX6_init_106 : decode cX6_init 106 = .ok (.newarray .int, 2) := by decide +kernel
theorem dX6_init_108 : decode cX6_init 108 = .ok (.putfield 52, 3) := by decide +kernel
theorem dX6_init_111 : decode cX6_init 111 = .ok (.return_, 1) := by decide +kernel
theorem dX6_clear_0 : decode cX6_clear 0 = .ok (.aload_n 0, 1) := by decide +kernel
theorem dX6_clear_1 : decode cX6_clear 1 = .ok (.getfield 12, 3) := by decide +kernel
theorem dX6_clear_4 : decode cX6_clear 4 = .ok (.invokevirtual 55, 3) := by decide +kernel
theorem dX6_clear_7 : decode cX6_clear 7 = .ok (.aload_n 0, 1) := by decide +kernel
theorem dX6_clear_8 : decode cX6_clear 8 = .ok (.getfield 52, 3) := by decide +kernel
theorem dX6_clear_11 : decode cX6_clear 11 = .ok (.iconst 0, 1) := by decide +kernel
theorem dX6_clear_12 : decode cX6_clear 12 = .ok (.invokestatic 58, 3) := by decide +kernel
theorem dX6_clear_15 : decode cX6_clear 15 = .ok (.aload_n 0, 1) := by decide +kernel
theorem dX6_clear_16 : decode cX6_clear 16 = .ok (.iconst 0, 1) := by decide +kernel
theorem dX6_clear_17 : decode cX6_clear 17 = .ok (.putfield 64, 3) := by decide +kernel
theorem dX6_clear_20 : decode cX6_clear 20 = .ok (.aload_n 0, 1) := by decide +kernel
theorem dX6_clear_21 : decode cX6_clear 21 = .ok (.iconst 0, 1) := by decide +kernel
theorem dX6_clear_22 : decode cX6_clear 22 = .ok (.putfield 68, 3) := by decide +kernel
theorem dX6_clear_25 : decode cX6_clear 25 = .ok (.aload_n 0, 1) := by decide +kernel
theorem dX6_clear_26 : decode cX6_clear 26 = .ok (.iconst 0, 1) := by decide +kernel
theorem dX6_clear_27 : decode cX6_clear 27 = .ok (.putfield 71, 3) := by decide +kernel
theorem dX6_clear_30 : decode cX6_clear 30 = .ok (.aload_n 0, 1) := by decide +kernel
theorem dX6_clear_31 : decode cX6_clear 31 = .ok (.iconst 0, 1) := by decide +kernel
theorem dX6_clear_32 : decode cX6_clear 32 = .ok (.putfield 74, 3) := by decide +kernel
theorem dX6_clear_35 : decode cX6_clear 35 = .ok (.return_, 1) := by decide +kernel
theorem dX6_copyFrom_0 : decode cX6_copyFrom 0 = .ok (.aload_n 0, 1) := by decide +kernel
theorem dX6_copyFrom_1 : decode cX6_copyFrom 1 = .ok (.getfield 12, 3) := by decide +kernel
theorem dX6_copyFrom_4 : decode cX6_copyFrom 4 = .ok (.aload_n 1, 1) := by decide +kernel
theorem dX6_copyFrom_5 : decode cX6_copyFrom 5 = .ok (.getfield 12, 3) := by decide +kernel
theorem dX6_copyFrom_8 : decode cX6_copyFrom 8 = .ok (.invokevirtual 77, 3) := by decide +kernel
theorem dX6_copyFrom_11 : decode cX6_copyFrom 11 = .ok (.aload_n 1, 1) := by decide +kernel
theorem dX6_copyFrom_12 : decode cX6_copyFrom 12 = .ok (.getfield 18, 3) := by decide +kernel
theorem dX6_copyFrom_15 : decode cX6_copyFrom 15 = .ok (.aload_n 0, 1) := by decide +kernel
theorem dX6_copyFrom_16 : decode cX6_copyFrom 16 = .ok (.getfield 18, 3) := by decide +kernel
theorem dX6_copyFrom_19 : decode cX6_copyFrom 19 = .ok (.invokestatic 81, 3) := by decide +kernel
theorem dX6_copyFrom_22 : decode cX6_copyFrom 22 = .ok (.aload_n 1, 1) := by decide +kernel
theorem dX6_copyFrom_23 : decode cX6_copyFrom 23 = .ok (.getfield 22, 3) := by decide +kernel
theorem dX6_copyFrom_26 : decode cX6_copyFrom 26 = .ok (.aload_n 0, 1) := by decide +kernel
theorem dX6_copyFrom_27 : decode cX6_copyFrom 27 = .ok (.getfield 22, 3) := by decide +kernel
theorem dX6_copyFrom_30 : decode cX6_copyFrom 30 = .ok (.invokestatic 81, 3) := by decide +kernel
theorem dX6_copyFrom_33 : decode cX6_copyFrom 33 = .ok (.aload_n 1, 1) := by decide +kernel
theorem dX6_copyFrom_34 : decode cX6_copyFrom 34 = .ok (.getfield 25, 3) := by decide +kernel
theorem dX6_copyFrom_37 : decode cX6_copyFrom 37 = .ok (.aload_n 0, 1) := by decide +kernel
theorem dX6_copyFrom_38 : decode cX6_copyFrom 38 = .ok (.getfield 25, 3) := by decide +kernel
theorem dX6_copyFrom_41 : decode cX6_copyFrom 41 = .ok (.invokestatic 81, 3) := by decide +kernel
theorem dX6_copyFrom_44 : decode cX6_copyFrom 44 = .ok (.aload_n 1, 1) := by decide +kernel
theorem dX6_copyFrom_45 : decode cX6_copyFrom 45 = .ok (.getfield 28, 3) := by decide +kernel
theorem dX6_copyFrom_48 : decode cX6_copyFrom 48 = .ok (.aload_n 0, 1) := by decide +kernel
theorem dX6_copyFrom_49 : decode cX6_copyFrom 49 = .ok (.getfield 28, 3) := by decide +kernel
theorem dX6_copyFrom_52 : decode cX6_copyFrom 52 = .ok (.invokestatic 81, 3) := by decide +kernel
theorem dX6_copyFrom_55 : decode cX6_copyFrom 55 = .ok (.aload_n 1, 1) := by decide +kernel
theorem dX6_copyFrom_56 : decode cX6_copyFrom 56 = .ok (.getfield 31, 3) := by decide +kernel
theorem dX6_copyFrom_59 : decode cX6_copyFrom 59 = .ok (.aload_n 0, 1) := by decide +kernel
theorem dX6_copyFrom_60 : decode cX6_copyFrom 60 = .ok (.getfield 31, 3) := by decide +kernel
theorem dX6_copyFrom_63 : decode cX6_copyFrom 63 = .ok (.invokestatic 81, 3) := by decide +kernel
theorem dX6_copyFrom_66 : decode cX6_copyFrom 66 = .ok (.aload_n 1, 1) := by decide +kernel
theorem dX6_copyFrom_67 : decode cX6_copyFrom 67 = .ok (.getfield 34, 3) := by decide +kernel
theorem dX6_copyFrom_70 : decode cX6_copyFrom 70 = .ok (.aload_n 0, 1) := by decide +kernel
theorem dX6_copyFrom_71 : decode cX6_copyFrom 71 = .ok (.getfield 34, 3) := by decide +kernel
theorem dX6_copyFrom_74 : decode cX6_copyFrom 74 = .ok (.invokestatic 81, 3) := by decide +kernel
theorem dX6_copyFrom_77 : decode cX6_copyFrom 77 = .ok (.aload_n 1, 1) := by decide +kernel
theorem dX6_copyFrom_78 : decode cX6_copyFrom 78 = .ok (.getfield 37, 3) := by decide +kernel
theorem dX6_copyFrom_81 : decode cX6_copyFrom 81 = .ok (.aload_n 0, 1) := by decide +kernel
theorem dX6_copyFrom_82 : decode cX6_copyFrom 82 = .ok (.getfield 37, 3) := by decide +kernel
theorem dX6_copyFrom_85 : decode cX6_copyFrom 85 = .ok (.invokestatic 81, 3) := by decide +kernel
theorem dX6_copyFrom_88 : decode cX6_copyFrom 88 = .ok (.aload_n 1, 1) := by decide +kernel
theorem dX6_copyFrom_89 : decode cX6_copyFrom 89 = .ok (.getfield 40, 3) := by decide +kernel
theorem dX6_copyFrom_92 : decode cX6_copyFrom 92 = .ok (.aload_n 0, 1) := by decide +kernel
theorem dX6_copyFrom_93 : decode cX6_copyFrom 93 = .ok (.getfield 40, 3) := by decide +kernel
theorem dX6_copyFrom_96 : decode cX6_copyFrom 96 = .ok (.invokestatic 81, 3) := by decide +kernel
theorem dX6_copyFrom_99 : decode cX6_copyFrom 99 = .ok (.aload_n 1, 1) := by decide +kernel
theorem dX6_copyFrom_100 : decode cX6_copyFrom 100 = .ok (.getfield 43, 3) := by decide +kernel
theorem dX6_copyFrom_103 : decode cX6_copyFrom 103 = .ok (.aload_n 0, 1) := by decide +kernel
theorem dX6_copyFrom_104 : decode cX6_copyFrom 104 = .ok (.getfield 43, 3) := by decide +kernel
theorem dX6_copyFrom_107 : decode cX6_copyFrom 107 = .ok (.invokestatic 81, 3) := by decide +kernel
theorem dX6_copyFrom_110 : decode cX6_copyFrom 110 = .ok (.aload_n 1, 1) := by decide +kernel
theorem dX6_copyFrom_111 : decode cX6_copyFrom 111 = .ok (.getfield 46, 3) := by decide +kernel
theorem dX6_copyFrom_114 : decode cX6_copyFrom 114 = .ok (.aload_n 0, 1) := by decide +kernel
theorem dX6_copyFrom_115 : decode cX6_copyFrom 115 = .ok (.getfield 46, 3) := by decide +kernel
theorem dX6_copyFrom_118 : decode cX6_copyFrom 118 = .ok (.invokestatic 81, 3) := by decide +kernel
theorem dX6_copyFrom_121 : decode cX6_copyFrom 121 = .ok (.aload_n 1, 1) := by decide +kernel
theorem dX6_copyFrom_122 : decode cX6_copyFrom 122 = .ok (.getfield 52, 3) := by decide +kernel
theorem dX6_copyFrom_125 : decode cX6_copyFrom 125 = .ok (.aload_n 0, 1) := by decide +kernel
theorem dX6_copyFrom_126 : decode cX6_copyFrom 126 = .ok (.getfield 52, 3) := by decide +kernel
theorem dX6_copyFrom_129 : decode cX6_copyFrom 129 = .ok (.invokestatic 81, 3) := by decide +kernel
theorem dX6_copyFrom_132 : decode cX6_copyFrom 132 = .ok (.aload_n 0, 1) := by decide +kernel
theorem dX6_copyFrom_133 : decode cX6_copyFrom 133 = .ok (.aload_n 1, 1) := by decide +kernel
theorem dX6_copyFrom_134 : decode cX6_copyFrom 134 = .ok (.getfield 64, 3) := by decide +kernel
theorem dX6_copyFrom_137 : decode cX6_copyFrom 137 = .ok (.putfield 64, 3) := by decide +kernel
theorem dX6_copyFrom_140 : decode cX6_copyFrom 140 = .ok (.aload_n 0, 1) := by decide +kernel
theorem dX6_copyFrom_141 : decode cX6_copyFrom 141 = .ok (.aload_n 1, 1) := by decide +kernel
theorem dX6_copyFrom_142 : decode cX6_copyFrom 142 = .ok (.getfield 68, 3) := by decide +kernel
theorem dX6_copyFrom_145 : decode cX6_copyFrom 145 = .ok (.putfield 68, 3) := by decide +kernel
theorem dX6_copyFrom_148 : decode cX6_copyFrom 148 = .ok (.aload_n 0, 1) := by decide +kernel
theorem dX6_copyFrom_149 : decode cX6_copyFrom 149 = .ok (.aload_n 1, 1) := by decide +kernel
theorem dX6_copyFrom_150 : decode cX6_copyFrom 150 = .ok (.getfield 71, 3) := by decide +kernel
theorem dX6_copyFrom_153 : decode cX6_copyFrom 153 = .ok (.putfield 71, 3) := by decide +kernel
theorem dX6_copyFrom_156 : decode cX6_copyFrom 156 = .ok (.aload_n 0, 1) := by decide +kernel
theorem dX6_copyFrom_157 : decode cX6_copyFrom 157 = .ok (.aload_n 1, 1) := by decide +kernel
theorem dX6_copyFrom_158 : decode cX6_copyFrom 158 = .ok (.getfield 74, 3) := by decide +kernel
theorem dX6_copyFrom_161 : decode cX6_copyFrom 161 = .ok (.putfield 74, 3) := by decide +kernel
theorem dX6_copyFrom_164 : decode cX6_copyFrom 164 = .ok (.return_, 1) := by decide +kernel
theorem dX6_passes_0 : decode cX6_passes 0 = .ok (.aload_n 0, 1) := by decide +kernel
theorem dX6_passes_1 : decode cX6_passes 1 = .ok (.getfield 12, 3) := by decide +kernel
theorem dX6_passes_4 : decode cX6_passes 4 = .ok (.areturn, 1) := by decide +kernel
theorem dX6_count_0 : decode cX6_count 0 = .ok (.aload_n 0, 1) := by decide +kernel
theorem dX6_count_1 : decode cX6_count 1 = .ok (.getfield 64, 3) := by decide +kernel
theorem dX6_count_4 : decode cX6_count 4 = .ok (.ireturn, 1) := by decide +kernel
theorem dX6_exists_0 : decode cX6_exists 0 = .ok (.iload_n 1, 1) := by decide +kernel
theorem dX6_exists_1 : decode cX6_exists 1 = .ok (.ifCond .lt 15, 3) := by decide +kernel
theorem dX6_exists_4 : decode cX6_exists 4 = .ok (.iload_n 1, 1) := by decide +kernel
theorem dX6_exists_5 : decode cX6_exists 5 = .ok (.aload_n 0, 1) := by decide +kernel
theorem dX6_exists_6 : decode cX6_exists 6 = .ok (.getfield 64, 3) := by decide +kernel
theorem dX6_exists_9 : decode cX6_exists 9 = .ok (.if_icmp .ge 7, 3) := by decide +kernel
theorem dX6_exists_12 : decode cX6_exists 12 = .ok (.iconst 1, 1) := by decide +kernel
theorem dX6_exists_13 : decode cX6_exists 13 = .ok (.goto 4, 3) := by decide +kernel
theorem dX6_exists_16 : decode cX6_exists 16 = .ok (.iconst 0, 1) := by decide +kernel
theorem dX6_exists_17 : decode cX6_exists 17 = .ok (.ireturn, 1) := by decide +kernel
theorem dX6_isFull_0 : decode cX6_isFull 0 = .ok (.aload_n 0, 1) := by decide +kernel
theorem dX6_isFull_1 : decode cX6_isFull 1 = .ok (.getfield 64, 3) := by decide +kernel
theorem dX6_isFull_4 : decode cX6_isFull 4 = .ok (.bipush 80, 2) := by decide +kernel
theorem dX6_isFull_6 : decode cX6_isFull 6 = .ok (.if_icmp .lt 7, 3) := by decide +kernel
theorem dX6_isFull_9 : decode cX6_isFull 9 = .ok (.iconst 1, 1) := by decide +kernel
theorem dX6_isFull_10 : decode cX6_isFull 10 = .ok (.goto 4, 3) := by decide +kernel
theorem dX6_isFull_13 : decode cX6_isFull 13 = .ok (.iconst 0, 1) := by decide +kernel
theorem dX6_isFull_14 : decode cX6_isFull 14 = .ok (.ireturn, 1) := by decide +kernel
theorem dX6_isIdle_0 : decode cX6_isIdle 0 = .ok (.aload_n 0, 1) := by decide +kernel
theorem dX6_isIdle_1 : decode cX6_isIdle 1 = .ok (.getfield 71, 3) := by decide +kernel
theorem dX6_isIdle_4 : decode cX6_isIdle 4 = .ok (.aload_n 0, 1) := by decide +kernel
theorem dX6_isIdle_5 : decode cX6_isIdle 5 = .ok (.getfield 64, 3) := by decide +kernel
theorem dX6_isIdle_8 : decode cX6_isIdle 8 = .ok (.if_icmp .ne 7, 3) := by decide +kernel
theorem dX6_isIdle_11 : decode cX6_isIdle 11 = .ok (.iconst 1, 1) := by decide +kernel
theorem dX6_isIdle_12 : decode cX6_isIdle 12 = .ok (.goto 4, 3) := by decide +kernel
theorem dX6_isIdle_15 : decode cX6_isIdle 15 = .ok (.iconst 0, 1) := by decide +kernel
theorem dX6_isIdle_16 : decode cX6_isIdle 16 = .ok (.ireturn, 1) := by decide +kernel
theorem dX6_writerOf_0 : decode cX6_writerOf 0 = .ok (.aload_n 0, 1) := by decide +kernel
theorem dX6_writerOf_1 : decode cX6_writerOf 1 = .ok (.getfield 18, 3) := by decide +kernel
theorem dX6_writerOf_4 : decode cX6_writerOf 4 = .ok (.iload_n 1, 1) := by decide +kernel
theorem dX6_writerOf_5 : decode cX6_writerOf 5 = .ok (.invokestatic 85, 3) := by decide +kernel
theorem dX6_writerOf_8 : decode cX6_writerOf 8 = .ok (.ireturn, 1) := by decide +kernel
theorem dX6_numberOf_0 : decode cX6_numberOf 0 = .ok (.aload_n 0, 1) := by decide +kernel
theorem dX6_numberOf_1 : decode cX6_numberOf 1 = .ok (.getfield 22, 3) := by decide +kernel
theorem dX6_numberOf_4 : decode cX6_numberOf 4 = .ok (.iload_n 1, 1) := by decide +kernel
theorem dX6_numberOf_5 : decode cX6_numberOf 5 = .ok (.invokestatic 85, 3) := by decide +kernel
theorem dX6_numberOf_8 : decode cX6_numberOf 8 = .ok (.ireturn, 1) := by decide +kernel
theorem dX6_moveIn_0 : decode cX6_moveIn 0 = .ok (.aload_n 0, 1) := by decide +kernel
theorem dX6_moveIn_1 : decode cX6_moveIn 1 = .ok (.getfield 25, 3) := by decide +kernel
theorem dX6_moveIn_4 : decode cX6_moveIn 4 = .ok (.iload_n 1, 1) := by decide +kernel
theorem dX6_moveIn_5 : decode cX6_moveIn 5 = .ok (.invokestatic 85, 3) := by decide +kernel
theorem dX6_moveIn_8 : decode cX6_moveIn 8 = .ok (.ireturn, 1) := by decide +kernel
theorem dX6_expectedOf_0 : decode cX6_expectedOf 0 = .ok (.aload_n 0, 1) := by decide +kernel
theorem dX6_expectedOf_1 : decode cX6_expectedOf 1 = .ok (.getfield 28, 3) := by decide +kernel
theorem dX6_expectedOf_4 : decode cX6_expectedOf 4 = .ok (.iload_n 1, 1) := by decide +kernel
theorem dX6_expectedOf_5 : decode cX6_expectedOf 5 = .ok (.invokestatic 85, 3) := by decide +kernel
theorem dX6_expectedOf_8 : decode cX6_expectedOf 8 = .ok (.ireturn, 1) := by decide +kernel
theorem dX6_stateOf_0 : decode cX6_stateOf 0 = .ok (.aload_n 0, 1) := by decide +kernel
theorem dX6_stateOf_1 : decode cX6_stateOf 1 = .ok (.getfield 34, 3) := by decide +kernel
theorem dX6_stateOf_4 : decode cX6_stateOf 4 = .ok (.iload_n 1, 1) := by decide +kernel
theorem dX6_stateOf_5 : decode cX6_stateOf 5 = .ok (.invokestatic 85, 3) := by decide +kernel
theorem dX6_stateOf_8 : decode cX6_stateOf 8 = .ok (.ireturn, 1) := by decide +kernel
theorem dX6_arrivalOf_0 : decode cX6_arrivalOf 0 = .ok (.aload_n 0, 1) := by decide +kernel
theorem dX6_arrivalOf_1 : decode cX6_arrivalOf 1 = .ok (.getfield 43, 3) := by decide +kernel
theorem dX6_arrivalOf_4 : decode cX6_arrivalOf 4 = .ok (.iload_n 1, 1) := by decide +kernel
theorem dX6_arrivalOf_5 : decode cX6_arrivalOf 5 = .ok (.invokestatic 85, 3) := by decide +kernel
theorem dX6_arrivalOf_8 : decode cX6_arrivalOf 8 = .ok (.ireturn, 1) := by decide +kernel
theorem dX6_waitingAt_0 : decode cX6_waitingAt 0 = .ok (.aload_n 0, 1) := by decide +kernel
theorem dX6_waitingAt_1 : decode cX6_waitingAt 1 = .ok (.getfield 52, 3) := by decide +kernel
theorem dX6_waitingAt_4 : decode cX6_waitingAt 4 = .ok (.iload_n 1, 1) := by decide +kernel
theorem dX6_waitingAt_5 : decode cX6_waitingAt 5 = .ok (.iconst 2, 1) := by decide +kernel
theorem dX6_waitingAt_6 : decode cX6_waitingAt 6 = .ok (.imul, 1) := by decide +kernel
theorem dX6_waitingAt_7 : decode cX6_waitingAt 7 = .ok (.iload_n 2, 1) := by decide +kernel
theorem dX6_waitingAt_8 : decode cX6_waitingAt 8 = .ok (.iadd, 1) := by decide +kernel
theorem dX6_waitingAt_9 : decode cX6_waitingAt 9 = .ok (.invokestatic 85, 3) := by decide +kernel
theorem dX6_waitingAt_12 : decode cX6_waitingAt 12 = .ok (.ireturn, 1) := by decide +kernel
theorem dX6_onRoad_0 : decode cX6_onRoad 0 = .ok (.aload_n 0, 1) := by decide +kernel
theorem dX6_onRoad_1 : decode cX6_onRoad 1 = .ok (.getfield 68, 3) := by decide +kernel
theorem dX6_onRoad_4 : decode cX6_onRoad 4 = .ok (.ireturn, 1) := by decide +kernel
theorem dX6_arrivedCount_0 : decode cX6_arrivedCount 0 = .ok (.aload_n 0, 1) := by decide +kernel
theorem dX6_arrivedCount_1 : decode cX6_arrivedCount 1 = .ok (.getfield 71, 3) := by decide +kernel
theorem dX6_arrivedCount_4 : decode cX6_arrivedCount 4 = .ok (.ireturn, 1) := by decide +kernel
theorem dX6_travelSum_0 : decode cX6_travelSum 0 = .ok (.aload_n 0, 1) := by decide +kernel
theorem dX6_travelSum_1 : decode cX6_travelSum 1 = .ok (.getfield 74, 3) := by decide +kernel
theorem dX6_travelSum_4 : decode cX6_travelSum 4 = .ok (.ireturn, 1) := by decide +kernel
theorem dX6_arrival_0 : decode cX6_arrival 0 = .ok (.aload_n 0, 1) := by decide +kernel
theorem dX6_arrival_1 : decode cX6_arrival 1 = .ok (.getfield 49, 3) := by decide +kernel
theorem dX6_arrival_4 : decode cX6_arrival 4 = .ok (.iload_n 1, 1) := by decide +kernel
theorem dX6_arrival_5 : decode cX6_arrival 5 = .ok (.invokestatic 85, 3) := by decide +kernel
theorem dX6_arrival_8 : decode cX6_arrival 8 = .ok (.ireturn, 1) := by decide +kernel
theorem dX6_add_0 : decode cX6_add 0 = .ok (.aload_n 0, 1) := by decide +kernel
theorem dX6_add_1 : decode cX6_add 1 = .ok (.getfield 64, 3) := by decide +kernel
theorem dX6_add_4 : decode cX6_add 4 = .ok (.istore 7, 2) := by decide +kernel
theorem dX6_add_6 : decode cX6_add 6 = .ok (.aload_n 0, 1) := by decide +kernel
theorem dX6_add_7 : decode cX6_add 7 = .ok (.getfield 18, 3) := by decide +kernel
theorem dX6_add_10 : decode cX6_add 10 = .ok (.iload 7, 2) := by decide +kernel
theorem dX6_add_12 : decode cX6_add 12 = .ok (.iload_n 1, 1) := by decide +kernel
theorem dX6_add_13 : decode cX6_add 13 = .ok (.invokestatic 89, 3) := by decide +kernel
theorem dX6_add_16 : decode cX6_add 16 = .ok (.aload_n 0, 1) := by decide +kernel
theorem dX6_add_17 : decode cX6_add 17 = .ok (.getfield 22, 3) := by decide +kernel
theorem dX6_add_20 : decode cX6_add 20 = .ok (.iload 7, 2) := by decide +kernel
theorem dX6_add_22 : decode cX6_add 22 = .ok (.iload_n 2, 1) := by decide +kernel
theorem dX6_add_23 : decode cX6_add 23 = .ok (.invokestatic 89, 3) := by decide +kernel
theorem dX6_add_26 : decode cX6_add 26 = .ok (.aload_n 0, 1) := by decide +kernel
theorem dX6_add_27 : decode cX6_add 27 = .ok (.getfield 25, 3) := by decide +kernel
theorem dX6_add_30 : decode cX6_add 30 = .ok (.iload 7, 2) := by decide +kernel
theorem dX6_add_32 : decode cX6_add 32 = .ok (.iload_n 3, 1) := by decide +kernel
theorem dX6_add_33 : decode cX6_add 33 = .ok (.invokestatic 89, 3) := by decide +kernel
theorem dX6_add_36 : decode cX6_add 36 = .ok (.aload_n 0, 1) := by decide +kernel
theorem dX6_add_37 : decode cX6_add 37 = .ok (.getfield 28, 3) := by decide +kernel
theorem dX6_add_40 : decode cX6_add 40 = .ok (.iload 7, 2) := by decide +kernel
theorem dX6_add_42 : decode cX6_add 42 = .ok (.iload 4, 2) := by decide +kernel
theorem dX6_add_44 : decode cX6_add 44 = .ok (.invokestatic 89, 3) := by decide +kernel
theorem dX6_add_47 : decode cX6_add 47 = .ok (.aload_n 0, 1) := by decide +kernel
theorem dX6_add_48 : decode cX6_add 48 = .ok (.getfield 31, 3) := by decide +kernel
theorem dX6_add_51 : decode cX6_add 51 = .ok (.iload 7, 2) := by decide +kernel
theorem dX6_add_53 : decode cX6_add 53 = .ok (.iload 5, 2) := by decide +kernel
theorem dX6_add_55 : decode cX6_add 55 = .ok (.invokestatic 89, 3) := by decide +kernel
theorem dX6_add_58 : decode cX6_add 58 = .ok (.aload_n 0, 1) := by decide +kernel
theorem dX6_add_59 : decode cX6_add 59 = .ok (.getfield 34, 3) := by decide +kernel
theorem dX6_add_62 : decode cX6_add 62 = .ok (.iload 7, 2) := by decide +kernel
theorem dX6_add_64 : decode cX6_add 64 = .ok (.iconst 0, 1) := by decide +kernel
theorem dX6_add_65 : decode cX6_add 65 = .ok (.invokestatic 89, 3) := by decide +kernel
theorem dX6_add_68 : decode cX6_add 68 = .ok (.aload_n 0, 1) := by decide +kernel
theorem dX6_add_69 : decode cX6_add 69 = .ok (.getfield 40, 3) := by decide +kernel
theorem dX6_add_72 : decode cX6_add 72 = .ok (.iload 7, 2) := by decide +kernel
theorem dX6_add_74 : decode cX6_add 74 = .ok (.iload 6, 2) := by decide +kernel
theorem dX6_add_76 : decode cX6_add 76 = .ok (.invokestatic 89, 3) := by decide +kernel
theorem dX6_add_79 : decode cX6_add 79 = .ok (.aload_n 0, 1) := by decide +kernel
theorem dX6_add_80 : decode cX6_add 80 = .ok (.iload 5, 2) := by decide +kernel
theorem dX6_add_82 : decode cX6_add 82 = .ok (.iload_n 1, 1) := by decide +kernel
theorem dX6_add_83 : decode cX6_add 83 = .ok (.iconst 1, 1) := by decide +kernel
theorem dX6_add_84 : decode cX6_add 84 = .ok (.invokevirtual 93, 3) := by decide +kernel
theorem dX6_add_87 : decode cX6_add 87 = .ok (.aload_n 0, 1) := by decide +kernel
theorem dX6_add_88 : decode cX6_add 88 = .ok (.dup, 1) := by decide +kernel
theorem dX6_add_89 : decode cX6_add 89 = .ok (.getfield 64, 3) := by decide +kernel
theorem dX6_add_92 : decode cX6_add 92 = .ok (.iconst 1, 1) := by decide +kernel
theorem dX6_add_93 : decode cX6_add 93 = .ok (.iadd, 1) := by decide +kernel
theorem dX6_add_94 : decode cX6_add 94 = .ok (.putfield 64, 3) := by decide +kernel
theorem dX6_add_97 : decode cX6_add 97 = .ok (.iload 7, 2) := by decide +kernel
theorem dX6_add_99 : decode cX6_add 99 = .ok (.ireturn, 1) := by decide +kernel
theorem dX6_changeWaiting_0 : decode cX6_changeWaiting 0 = .ok (.iload_n 1, 1) := by decide +kernel
theorem dX6_changeWaiting_1 : decode cX6_changeWaiting 1 = .ok (.iconst 2, 1) := by decide +kernel
theorem dX6_changeWaiting_2 : decode cX6_changeWaiting 2 = .ok (.imul, 1) := by decide +kernel
theorem dX6_changeWaiting_3 : decode cX6_changeWaiting 3 = .ok (.iload_n 2, 1) := by decide +kernel
theorem dX6_changeWaiting_4 : decode cX6_changeWaiting 4 = .ok (.iadd, 1) := by decide +kernel
theorem dX6_changeWaiting_5 : decode cX6_changeWaiting 5 = .ok (.istore 4, 2) := by decide +kernel
theorem dX6_changeWaiting_7 : decode cX6_changeWaiting 7 = .ok (.aload_n 0, 1) := by decide +kernel
theorem dX6_changeWaiting_8 : decode cX6_changeWaiting 8 = .ok (.getfield 52, 3) := by decide +kernel
theorem dX6_changeWaiting_11 : decode cX6_changeWaiting 11 = .ok (.iload 4, 2) := by decide +kernel
theorem dX6_changeWaiting_13 : decode cX6_changeWaiting 13 = .ok (.aload_n 0, 1) := by decide +kernel
theorem dX6_changeWaiting_14 : decode cX6_changeWaiting 14 = .ok (.getfield 52, 3) := by decide +kernel
theorem dX6_changeWaiting_17 : decode cX6_changeWaiting 17 = .ok (.iload 4, 2) := by decide +kernel
theorem dX6_changeWaiting_19 : decode cX6_changeWaiting 19 = .ok (.invokestatic 85, 3) := by decide +kernel
theorem dX6_changeWaiting_22 : decode cX6_changeWaiting 22 = .ok (.iload_n 3, 1) := by decide +kernel
theorem dX6_changeWaiting_23 : decode cX6_changeWaiting 23 = .ok (.iadd, 1) := by decide +kernel
theorem dX6_changeWaiting_24 : decode cX6_changeWaiting 24 = .ok (.invokestatic 89, 3) := by decide +kernel
theorem dX6_changeWaiting_27 : decode cX6_changeWaiting 27 = .ok (.return_, 1) := by decide +kernel
theorem dX6_passDay_0 : decode cX6_passDay 0 = .ok (.iload_n 1, 1) := by decide +kernel
theorem dX6_passDay_1 : decode cX6_passDay 1 = .ok (.invokestatic 97, 3) := by decide +kernel
theorem dX6_passDay_4 : decode cX6_passDay 4 = .ok (.istore_n 2, 1) := by decide +kernel
theorem dX6_passDay_5 : decode cX6_passDay 5 = .ok (.iconst 0, 1) := by decide +kernel
theorem dX6_passDay_6 : decode cX6_passDay 6 = .ok (.istore_n 3, 1) := by decide +kernel
theorem dX6_passDay_7 : decode cX6_passDay 7 = .ok (.aload_n 0, 1) := by decide +kernel
theorem dX6_passDay_8 : decode cX6_passDay 8 = .ok (.iconst 0, 1) := by decide +kernel
theorem dX6_passDay_9 : decode cX6_passDay 9 = .ok (.putfield 101, 3) := by decide +kernel
theorem dX6_passDay_12 : decode cX6_passDay 12 = .ok (.iconst 0, 1) := by decide +kernel
theorem dX6_passDay_13 : decode cX6_passDay 13 = .ok (.istore 4, 2) := by decide +kernel
theorem dX6_passDay_15 : decode cX6_passDay 15 = .ok (.iload 4, 2) := by decide +kernel
theorem dX6_passDay_17 : decode cX6_passDay 17 = .ok (.aload_n 0, 1) := by decide +kernel
theorem dX6_passDay_18 : decode cX6_passDay 18 = .ok (.getfield 68, 3) := by decide +kernel
theorem dX6_passDay_21 : decode cX6_passDay 21 = .ok (.if_icmp .ge 93, 3) := by decide +kernel
theorem dX6_passDay_24 : decode cX6_passDay 24 = .ok (.aload_n 0, 1) := by decide +kernel
theorem dX6_passDay_25 : decode cX6_passDay 25 = .ok (.getfield 46, 3) := by decide +kernel
theorem dX6_passDay_28 : decode cX6_passDay 28 = .ok (.iload 4, 2) := by decide +kernel
theorem dX6_passDay_30 : decode cX6_passDay 30 = .ok (.invokestatic 85, 3) := by decide +kernel
theorem dX6_passDay_33 : decode cX6_passDay 33 = .ok (.istore 5, 2) := by decide +kernel
theorem dX6_passDay_35 : decode cX6_passDay 35 = .ok (.aload_n 0, 1) := by decide +kernel
theorem dX6_passDay_36 : decode cX6_passDay 36 = .ok (.getfield 37, 3) := by decide +kernel
theorem dX6_passDay_39 : decode cX6_passDay 39 = .ok (.iload 5, 2) := by decide +kernel
theorem dX6_passDay_41 : decode cX6_passDay 41 = .ok (.invokestatic 85, 3) := by decide +kernel
theorem dX6_passDay_44 : decode cX6_passDay 44 = .ok (.istore 6, 2) := by decide +kernel
theorem dX6_passDay_46 : decode cX6_passDay 46 = .ok (.aload_n 0, 1) := by decide +kernel
theorem dX6_passDay_47 : decode cX6_passDay 47 = .ok (.getfield 12, 3) := by decide +kernel
theorem dX6_passDay_50 : decode cX6_passDay 50 = .ok (.aload_n 0, 1) := by decide +kernel
theorem dX6_passDay_51 : decode cX6_passDay 51 = .ok (.getfield 31, 3) := by decide +kernel
theorem dX6_passDay_54 : decode cX6_passDay 54 = .ok (.iload 5, 2) := by decide +kernel
theorem dX6_passDay_56 : decode cX6_passDay 56 = .ok (.invokestatic 85, 3) := by decide +kernel
theorem dX6_passDay_59 : decode cX6_passDay 59 = .ok (.iload_n 2, 1) := by decide +kernel
theorem dX6_passDay_60 : decode cX6_passDay 60 = .ok (.invokevirtual 104, 3) := by decide +kernel
theorem dX6_passDay_63 : decode cX6_passDay 63 = .ok (.ifCond .ne 17, 3) := by decide +kernel
theorem dX6_passDay_66 : decode cX6_passDay 66 = .ok (.iinc 6 (-1), 3) := by decide +kernel
