theorem dX8_isWord_33 : decode cX8_isWord 33 = .ok (.iconst 0, 1) := by decide +kernel
theorem dX8_isWord_34 : decode cX8_isWord 34 = .ok (.istore_n 2, 1) := by decide +kernel
theorem dX8_isWord_35 : decode cX8_isWord 35 = .ok (.iload_n 2, 1) := by decide +kernel
theorem dX8_isWord_36 : decode cX8_isWord 36 = .ok (.aload_n 1, 1) := by decide +kernel
theorem dX8_isWord_37 : decode cX8_isWord 37 = .ok (.invokevirtual 73, 3) := by decide +kernel
theorem dX8_isWord_40 : decode cX8_isWord 40 = .ok (.if_icmp .ge 32, 3) := by decide +kernel
theorem dX8_isWord_43 : decode cX8_isWord 43 = .ok (.aload_n 0, 1) := by decide +kernel
theorem dX8_isWord_44 : decode cX8_isWord 44 = .ok (.getfield 9, 3) := by decide +kernel
theorem dX8_isWord_47 : decode cX8_isWord 47 = .ok (.aload_n 0, 1) := by decide +kernel
theorem dX8_isWord_48 : decode cX8_isWord 48 = .ok (.getfield 35, 3) := by decide +kernel
theorem dX8_isWord_51 : decode cX8_isWord 51 = .ok (.iload_n 2, 1) := by decide +kernel
theorem dX8_isWord_52 : decode cX8_isWord 52 = .ok (.iadd, 1) := by decide +kernel
theorem dX8_isWord_53 : decode cX8_isWord 53 = .ok (.invokestatic 41, 3) := by decide +kernel
theorem dX8_isWord_56 : decode cX8_isWord 56 = .ok (.aload_n 1, 1) := by decide +kernel
theorem dX8_isWord_57 : decode cX8_isWord 57 = .ok (.iload_n 2, 1) := by decide +kernel
theorem dX8_isWord_58 : decode cX8_isWord 58 = .ok (.invokevirtual 78, 3) := by decide +kernel
theorem dX8_isWord_61 : decode cX8_isWord 61 = .ok (.if_icmp .eq 5, 3) := by decide +kernel
theorem dX8_isWord_64 : decode cX8_isWord 64 = .ok (.iconst 0, 1) := by decide +kernel
theorem dX8_isWord_65 : decode cX8_isWord 65 = .ok (.ireturn, 1) := by decide +kernel
theorem dX8_isWord_66 : decode cX8_isWord 66 = .ok (.iinc 2 1, 3) := by decide +kernel
theorem dX8_isWord_69 : decode cX8_isWord 69 = .ok (.goto (-34), 3) := by decide +kernel
theorem dX8_isWord_72 : decode cX8_isWord 72 = .ok (.iconst 1, 1) := by decide +kernel
theorem dX8_isWord_73 : decode cX8_isWord 73 = .ok (.ireturn, 1) := by decide +kernel
theorem dX8_skipWord_0 : decode cX8_skipWord 0 = .ok (.aload_n 0, 1) := by decide +kernel
theorem dX8_skipWord_1 : decode cX8_skipWord 1 = .ok (.aload_n 1, 1) := by decide +kernel
theorem dX8_skipWord_2 : decode cX8_skipWord 2 = .ok (.invokevirtual 82, 3) := by decide +kernel
theorem dX8_skipWord_5 : decode cX8_skipWord 5 = .ok (.ifCond .ne 5, 3) := by decide +kernel
theorem dX8_skipWord_8 : decode cX8_skipWord 8 = .ok (.iconst 0, 1) := by decide +kernel
theorem dX8_skipWord_9 : decode cX8_skipWord 9 = .ok (.ireturn, 1) := by decide +kernel
theorem dX8_skipWord_10 : decode cX8_skipWord 10 = .ok (.aload_n 0, 1) := by decide +kernel
theorem dX8_skipWord_11 : decode cX8_skipWord 11 = .ok (.invokevirtual 32, 3) := by decide +kernel
theorem dX8_skipWord_14 : decode cX8_skipWord 14 = .ok (.iconst 1, 1) := by decide +kernel
theorem dX8_skipWord_15 : decode cX8_skipWord 15 = .ok (.ireturn, 1) := by decide +kernel
theorem dX8_isSign_0 : decode cX8_isSign 0 = .ok (.aload_n 0, 1) := by decide +kernel
theorem dX8_isSign_1 : decode cX8_isSign 1 = .ok (.getfield 26, 3) := by decide +kernel
theorem dX8_isSign_4 : decode cX8_isSign 4 = .ok (.ifCond .ne 23, 3) := by decide +kernel
theorem dX8_isSign_7 : decode cX8_isSign 7 = .ok (.aload_n 0, 1) := by decide +kernel
theorem dX8_isSign_8 : decode cX8_isSign 8 = .ok (.getfield 52, 3) := by decide +kernel
theorem dX8_isSign_11 : decode cX8_isSign 11 = .ok (.iconst 3, 1) := by decide +kernel
theorem dX8_isSign_12 : decode cX8_isSign 12 = .ok (.if_icmp .ne 15, 3) := by decide +kernel
theorem dX8_isSign_15 : decode cX8_isSign 15 = .ok (.aload_n 0, 1) := by decide +kernel
theorem dX8_isSign_16 : decode cX8_isSign 16 = .ok (.getfield 49, 3) := by decide +kernel
theorem dX8_isSign_19 : decode cX8_isSign 19 = .ok (.iload_n 1, 1) := by decide +kernel
theorem dX8_isSign_20 : decode cX8_isSign 20 = .ok (.if_icmp .ne 7, 3) := by decide +kernel
theorem dX8_isSign_23 : decode cX8_isSign 23 = .ok (.iconst 1, 1) := by decide +kernel
theorem dX8_isSign_24 : decode cX8_isSign 24 = .ok (.goto 4, 3) := by decide +kernel
theorem dX8_isSign_27 : decode cX8_isSign 27 = .ok (.iconst 0, 1) := by decide +kernel
theorem dX8_isSign_28 : decode cX8_isSign 28 = .ok (.ireturn, 1) := by decide +kernel
theorem dX8_skipSign_0 : decode cX8_skipSign 0 = .ok (.aload_n 0, 1) := by decide +kernel
theorem dX8_skipSign_1 : decode cX8_skipSign 1 = .ok (.iload_n 1, 1) := by decide +kernel
theorem dX8_skipSign_2 : decode cX8_skipSign 2 = .ok (.invokevirtual 86, 3) := by decide +kernel
theorem dX8_skipSign_5 : decode cX8_skipSign 5 = .ok (.ifCond .ne 5, 3) := by decide +kernel
theorem dX8_skipSign_8 : decode cX8_skipSign 8 = .ok (.iconst 0, 1) := by decide +kernel
theorem dX8_skipSign_9 : decode cX8_skipSign 9 = .ok (.ireturn, 1) := by decide +kernel
theorem dX8_skipSign_10 : decode cX8_skipSign 10 = .ok (.aload_n 0, 1) := by decide +kernel
theorem dX8_skipSign_11 : decode cX8_skipSign 11 = .ok (.invokevirtual 32, 3) := by decide +kernel
theorem dX8_skipSign_14 : decode cX8_skipSign 14 = .ok (.iconst 1, 1) := by decide +kernel
theorem dX8_skipSign_15 : decode cX8_skipSign 15 = .ok (.ireturn, 1) := by decide +kernel
theorem dX8_expectWord_0 : decode cX8_expectWord 0 = .ok (.aload_n 0, 1) := by decide +kernel
theorem dX8_expectWord_1 : decode cX8_expectWord 1 = .ok (.aload_n 1, 1) := by decide +kernel
theorem dX8_expectWord_2 : decode cX8_expectWord 2 = .ok (.invokevirtual 82, 3) := by decide +kernel
theorem dX8_expectWord_5 : decode cX8_expectWord 5 = .ok (.ifCond .eq 10, 3) := by decide +kernel
theorem dX8_expectWord_8 : decode cX8_expectWord 8 = .ok (.aload_n 0, 1) := by decide +kernel
theorem dX8_expectWord_9 : decode cX8_expectWord 9 = .ok (.invokevirtual 32, 3) := by decide +kernel
theorem dX8_expectWord_12 : decode cX8_expectWord 12 = .ok (.goto 8, 3) := by decide +kernel
theorem dX8_expectWord_15 : decode cX8_expectWord 15 = .ok (.aload_n 0, 1) := by decide +kernel
theorem dX8_expectWord_16 : decode cX8_expectWord 16 = .ok (.iconst 1, 1) := by decide +kernel
theorem dX8_expectWord_17 : decode cX8_expectWord 17 = .ok (.invokevirtual 90, 3) := by decide +kernel
theorem dX8_expectWord_20 : decode cX8_expectWord 20 = .ok (.return_, 1) := by decide +kernel
theorem dX8_expectSign_0 : decode cX8_expectSign 0 = .ok (.aload_n 0, 1) := by decide +kernel
theorem dX8_expectSign_1 : decode cX8_expectSign 1 = .ok (.iload_n 1, 1) := by decide +kernel
theorem dX8_expectSign_2 : decode cX8_expectSign 2 = .ok (.invokevirtual 86, 3) := by decide +kernel
theorem dX8_expectSign_5 : decode cX8_expectSign 5 = .ok (.ifCond .eq 10, 3) := by decide +kernel
theorem dX8_expectSign_8 : decode cX8_expectSign 8 = .ok (.aload_n 0, 1) := by decide +kernel
theorem dX8_expectSign_9 : decode cX8_expectSign 9 = .ok (.invokevirtual 32, 3) := by decide +kernel
theorem dX8_expectSign_12 : decode cX8_expectSign 12 = .ok (.goto 8, 3) := by decide +kernel
theorem dX8_expectSign_15 : decode cX8_expectSign 15 = .ok (.aload_n 0, 1) := by decide +kernel
theorem dX8_expectSign_16 : decode cX8_expectSign 16 = .ok (.iconst 1, 1) := by decide +kernel
theorem dX8_expectSign_17 : decode cX8_expectSign 17 = .ok (.invokevirtual 90, 3) := by decide +kernel
theorem dX8_expectSign_20 : decode cX8_expectSign 20 = .ok (.return_, 1) := by decide +kernel
theorem dX8_expectEnd_0 : decode cX8_expectEnd 0 = .ok (.aload_n 0, 1) := by decide +kernel
theorem dX8_expectEnd_1 : decode cX8_expectEnd 1 = .ok (.getfield 52, 3) := by decide +kernel
theorem dX8_expectEnd_4 : decode cX8_expectEnd 4 = .ok (.ifCond .eq 8, 3) := by decide +kernel
theorem dX8_expectEnd_7 : decode cX8_expectEnd 7 = .ok (.aload_n 0, 1) := by decide +kernel
theorem dX8_expectEnd_8 : decode cX8_expectEnd 8 = .ok (.iconst 1, 1) := by decide +kernel
theorem dX8_expectEnd_9 : decode cX8_expectEnd 9 = .ok (.invokevirtual 90, 3) := by decide +kernel
theorem dX8_expectEnd_12 : decode cX8_expectEnd 12 = .ok (.return_, 1) := by decide +kernel
theorem dX8_number_0 : decode cX8_number 0 = .ok (.aload_n 0, 1) := by decide +kernel
theorem dX8_number_1 : decode cX8_number 1 = .ok (.getfield 52, 3) := by decide +kernel
theorem dX8_number_4 : decode cX8_number 4 = .ok (.iconst 2, 1) := by decide +kernel
theorem dX8_number_5 : decode cX8_number 5 = .ok (.if_icmp .eq 11, 3) := by decide +kernel
theorem dX8_number_8 : decode cX8_number 8 = .ok (.aload_n 0, 1) := by decide +kernel
theorem dX8_number_9 : decode cX8_number 9 = .ok (.iconst 1, 1) := by decide +kernel
theorem dX8_number_10 : decode cX8_number 10 = .ok (.invokevirtual 90, 3) := by decide +kernel
theorem dX8_number_13 : decode cX8_number 13 = .ok (.goto 24, 3) := by decide +kernel
theorem dX8_number_16 : decode cX8_number 16 = .ok (.aload_n 0, 1) := by decide +kernel
theorem dX8_number_17 : decode cX8_number 17 = .ok (.getfield 49, 3) := by decide +kernel
theorem dX8_number_20 : decode cX8_number 20 = .ok (.iload_n 1, 1) := by decide +kernel
theorem dX8_number_21 : decode cX8_number 21 = .ok (.if_icmp .lt 11, 3) := by decide +kernel
theorem dX8_number_24 : decode cX8_number 24 = .ok (.aload_n 0, 1) := by decide +kernel
theorem dX8_number_25 : decode cX8_number 25 = .ok (.getfield 49, 3) := by decide +kernel
theorem dX8_number_28 : decode cX8_number 28 = .ok (.iload_n 2, 1) := by decide +kernel
theorem dX8_number_29 : decode cX8_number 29 = .ok (.if_icmp .le 8, 3) := by decide +kernel
theorem dX8_number_32 : decode cX8_number 32 = .ok (.aload_n 0, 1) := by decide +kernel
theorem dX8_number_33 : decode cX8_number 33 = .ok (.iconst 2, 1) := by decide +kernel
theorem dX8_number_34 : decode cX8_number 34 = .ok (.invokevirtual 90, 3) := by decide +kernel
theorem dX8_number_37 : decode cX8_number 37 = .ok (.aload_n 0, 1) := by decide +kernel
theorem dX8_number_38 : decode cX8_number 38 = .ok (.getfield 26, 3) := by decide +kernel
theorem dX8_number_41 : decode cX8_number 41 = .ok (.ifCond .eq 5, 3) := by decide +kernel
theorem dX8_number_44 : decode cX8_number 44 = .ok (.iload_n 1, 1) := by decide +kernel
theorem dX8_number_45 : decode cX8_number 45 = .ok (.ireturn, 1) := by decide +kernel
theorem dX8_number_46 : decode cX8_number 46 = .ok (.aload_n 0, 1) := by decide +kernel
theorem dX8_number_47 : decode cX8_number 47 = .ok (.getfield 49, 3) := by decide +kernel
theorem dX8_number_50 : decode cX8_number 50 = .ok (.istore_n 3, 1) := by decide +kernel
theorem dX8_number_51 : decode cX8_number 51 = .ok (.aload_n 0, 1) := by decide +kernel
theorem dX8_number_52 : decode cX8_number 52 = .ok (.invokevirtual 32, 3) := by decide +kernel
theorem dX8_number_55 : decode cX8_number 55 = .ok (.iload_n 3, 1) := by decide +kernel
theorem dX8_number_56 : decode cX8_number 56 = .ok (.ireturn, 1) := by decide +kernel
theorem dX9_init_0 : decode cX9_init 0 = .ok (.aload_n 0, 1) := by decide +kernel
theorem dX9_init_1 : decode cX9_init 1 = .ok (.invokespecial 3, 3) := by decide +kernel
theorem dX9_init_4 : decode cX9_init 4 = .ok (.aload_n 0, 1) := by decide +kernel
theorem dX9_init_5 : decode cX9_init 5 = .ok (.new 9, 3) := by decide +kernel
theorem dX9_init_8 : decode cX9_init 8 = .ok (.dup, 1) := by decide +kernel
theorem dX9_init_9 : decode cX9_init 9 = .ok (.invokespecial 11, 3) := by decide +kernel
theorem dX9_init_12 : decode cX9_init 12 = .ok (.putfield 12, 3) := by decide +kernel
theorem dX9_init_15 : decode cX9_init 15 = .ok (.aload_n 0, 1) := by decide +kernel
theorem dX9_init_16 : decode cX9_init 16 = .ok (.new 16, 3) := by decide +kernel
theorem dX9_init_19 : decode cX9_init 19 = .ok (.dup, 1) := by decide +kernel
theorem dX9_init_20 : decode cX9_init 20 = .ok (.invokespecial 18, 3) := by decide +kernel
theorem dX9_init_23 : decode cX9_init 23 = .ok (.putfield 19, 3) := by decide +kernel
theorem dX9_init_26 : decode cX9_init 26 = .ok (.aload_n 0, 1) := by decide +kernel
theorem dX9_init_27 : decode cX9_init 27 = .ok (.new 23, 3) := by decide +kernel
theorem dX9_init_30 : decode cX9_init 30 = .ok (.dup, 1) := by decide +kernel
theorem dX9_init_31 : decode cX9_init 31 = .ok (.invokespecial 25, 3) := by decide +kernel
theorem dX9_init_34 : decode cX9_init 34 = .ok (.putfield 26, 3) := by decide +kernel
theorem dX9_init_37 : decode cX9_init 37 = .ok (.aload_n 0, 1) := by decide +kernel
theorem dX9_init_38 : decode cX9_init 38 = .ok (.new 30, 3) := by decide +kernel
theorem dX9_init_41 : decode cX9_init 41 = .ok (.dup, 1) := by decide +kernel
theorem dX9_init_42 : decode cX9_init 42 = .ok (.invokespecial 32, 3) := by decide +kernel
theorem dX9_init_45 : decode cX9_init 45 = .ok (.putfield 33, 3) := by decide +kernel
theorem dX9_init_48 : decode cX9_init 48 = .ok (.aload_n 0, 1) := by decide +kernel
theorem dX9_init_49 : decode cX9_init 49 = .ok (.new 30, 3) := by decide +kernel
theorem dX9_init_52 : decode cX9_init 52 = .ok (.dup, 1) := by decide +kernel
theorem dX9_init_53 : decode cX9_init 53 = .ok (.invokespecial 32, 3) := by decide +kernel
theorem dX9_init_56 : decode cX9_init 56 = .ok (.putfield 37, 3) := by decide +kernel
theorem dX9_init_59 : decode cX9_init 59 = .ok (.aload_n 0, 1) := by decide +kernel
theorem dX9_init_60 : decode cX9_init 60 = .ok (.new 40, 3) := by decide +kernel
theorem dX9_init_63 : decode cX9_init 63 = .ok (.dup, 1) := by decide +kernel
theorem dX9_init_64 : decode cX9_init 64 = .ok (.invokespecial 42, 3) := by decide +kernel
theorem dX9_init_67 : decode cX9_init 67 = .ok (.putfield 43, 3) := by decide +kernel
theorem dX9_init_70 : decode cX9_init 70 = .ok (.aload_n 0, 1) := by decide +kernel
theorem dX9_init_71 : decode cX9_init 71 = .ok (.new 30, 3) := by decide +kernel
theorem dX9_init_74 : decode cX9_init 74 = .ok (.dup, 1) := by decide +kernel
theorem dX9_init_75 : decode cX9_init 75 = .ok (.invokespecial 32, 3) := by decide +kernel
theorem dX9_init_78 : decode cX9_init 78 = .ok (.putfield 47, 3) := by decide +kernel
theorem dX9_init_81 : decode cX9_init 81 = .ok (.aload_n 0, 1) := by decide +kernel
theorem dX9_init_82 : decode cX9_init 82 = .ok (.new 30, 3) := by decide +kernel
theorem dX9_init_85 : decode cX9_init 85 = .ok (.dup, 1) := by decide +kernel
theorem dX9_init_86 : decode cX9_init 86 = .ok (.invokespecial 32, 3) := by decide +kernel
theorem dX9_init_89 : decode cX9_init 89 = .ok (.putfield 50, 3) := by decide +kernel
theorem dX9_init_92 : decode cX9_init 92 = .ok (.aload_n 0, 1) := by decide +kernel
theorem dX9_init_93 : decode cX9_init 93 = .ok (.iconst (-1), 1) := by decide +kernel
theorem dX9_init_94 : decode cX9_init 94 = .ok (.putfield 53, 3) := by decide +kernel
theorem dX9_init_97 : decode cX9_init 97 = .ok (.iconst 0, 1) := by decide +kernel
theorem dX9_init_98 : decode cX9_init 98 = .ok (.istore_n 1, 1) := by decide +kernel
theorem dX9_init_99 : decode cX9_init 99 = .ok (.iload_n 1, 1) := by decide +kernel
theorem dX9_init_100 : decode cX9_init 100 = .ok (.ldc 57, 2) := by decide +kernel
theorem dX9_init_102 : decode cX9_init 102 = .ok (.invokevirtual 59, 3) := by decide +kernel
theorem dX9_init_105 : decode cX9_init 105 = .ok (.if_icmp .ge 22, 3) := by decide +kernel
theorem dX9_init_108 : decode cX9_init 108 = .ok (.aload_n 0, 1) := by decide +kernel
theorem dX9_init_109 : decode cX9_init 109 = .ok (.getfield 12, 3) := by decide +kernel
theorem dX9_init_112 : decode cX9_init 112 = .ok (.ldc 57, 2) := by decide +kernel
theorem dX9_init_114 : decode cX9_init 114 = .ok (.iload_n 1, 1) := by decide +kernel
theorem dX9_init_115 : decode cX9_init 115 = .ok (.invokevirtual 65, 3) := by decide +kernel
theorem dX9_init_118 : decode cX9_init 118 = .ok (.invokevirtual 69, 3) := by decide +kernel
theorem dX9_init_121 : decode cX9_init 121 = .ok (.iinc 1 1, 3) := by decide +kernel
theorem dX9_init_124 : decode cX9_init 124 = .ok (.goto (-25), 3) := by decide +kernel
theorem dX9_init_127 : decode cX9_init 127 = .ok (.aload_n 0, 1) := by decide +kernel
theorem dX9_init_128 : decode cX9_init 128 = .ok (.invokevirtual 73, 3) := by decide +kernel
theorem dX9_init_131 : decode cX9_init 131 = .ok (.aload_n 0, 1) := by decide +kernel
theorem dX9_init_132 : decode cX9_init 132 = .ok (.getfield 33, 3) := by decide +kernel
theorem dX9_init_135 : decode cX9_init 135 = .ok (.aload_n 0, 1) := by decide +kernel
theorem dX9_init_136 : decode cX9_init 136 = .ok (.getfield 37, 3) := by decide +kernel
theorem dX9_init_139 : decode cX9_init 139 = .ok (.invokevirtual 76, 3) := by decide +kernel
theorem dX9_init_142 : decode cX9_init 142 = .ok (.aload_n 0, 1) := by decide +kernel
theorem dX9_init_143 : decode cX9_init 143 = .ok (.getfield 12, 3) := by decide +kernel
theorem dX9_init_146 : decode cX9_init 146 = .ok (.invokevirtual 80, 3) := by decide +kernel
theorem dX9_init_149 : decode cX9_init 149 = .ok (.return_, 1) := by decide +kernel
theorem dX9_append_0 : decode cX9_append 0 = .ok (.iload_n 1, 1) := by decide +kernel
theorem dX9_append_1 : decode cX9_append 1 = .ok (.invokestatic 83, 3) := by decide +kernel
theorem dX9_append_4 : decode cX9_append 4 = .ok (.iload_n 2, 1) := by decide +kernel
theorem dX9_append_5 : decode cX9_append 5 = .ok (.invokestatic 83, 3) := by decide +kernel
theorem dX9_append_8 : decode cX9_append 8 = .ok (.iadd, 1) := by decide +kernel
theorem dX9_append_9 : decode cX9_append 9 = .ok (.iload_n 3, 1) := by decide +kernel
theorem dX9_append_10 : decode cX9_append 10 = .ok (.invokestatic 83, 3) := by decide +kernel
theorem dX9_append_13 : decode cX9_append 13 = .ok (.iadd, 1) := by decide +kernel
theorem dX9_append_14 : decode cX9_append 14 = .ok (.iload 4, 2) := by decide +kernel
theorem dX9_append_16 : decode cX9_append 16 = .ok (.invokestatic 83, 3) := by decide +kernel
theorem dX9_append_19 : decode cX9_append 19 = .ok (.iadd, 1) := by decide +kernel
theorem dX9_append_20 : decode cX9_append 20 = .ok (.iload 5, 2) := by decide +kernel
theorem dX9_append_22 : decode cX9_append 22 = .ok (.invokestatic 83, 3) := by decide +kernel
theorem dX9_append_25 : decode cX9_append 25 = .ok (.iadd, 1) := by decide +kernel
theorem dX9_append_26 : decode cX9_append 26 = .ok (.istore 6, 2) := by decide +kernel
theorem dX9_append_28 : decode cX9_append 28 = .ok (.aload_n 0, 1) := by decide +kernel
theorem dX9_append_29 : decode cX9_append 29 = .ok (.getfield 12, 3) := by decide +kernel
theorem dX9_append_32 : decode cX9_append 32 = .ok (.invokevirtual 87, 3) := by decide +kernel
theorem dX9_append_35 : decode cX9_append 35 = .ok (.iload 6, 2) := by decide +kernel
theorem dX9_append_37 : decode cX9_append 37 = .ok (.iadd, 1) := by decide +kernel
theorem dX9_append_38 : decode cX9_append 38 = .ok (.sipush 800, 3) := by decide +kernel
theorem dX9_append_41 : decode cX9_append 41 = .ok (.if_icmp .le 13, 3) := by decide +kernel
theorem dX9_append_44 : decode cX9_append 44 = .ok (.new 88, 3) := by decide +kernel
theorem dX9_append_47 : decode cX9_append 47 = .ok (.dup, 1) := by decide +kernel
theorem dX9_append_48 : decode cX9_append 48 = .ok (.ldc 90, 2) := by decide +kernel
theorem dX9_append_50 : decode cX9_append 50 = .ok (.invokespecial 92, 3) := by decide +kernel
theorem dX9_append_53 : decode cX9_append 53 = .ok (.athrow, 1) := by decide +kernel
theorem dX9_append_54 : decode cX9_append 54 = .ok (.aload_n 0, 1) := by decide +kernel
theorem dX9_append_55 : decode cX9_append 55 = .ok (.iload_n 1, 1) := by decide +kernel
theorem dX9_append_56 : decode cX9_append 56 = .ok (.invokevirtual 95, 3) := by decide +kernel
theorem dX9_append_59 : decode cX9_append 59 = .ok (.aload_n 0, 1) := by decide +kernel
theorem dX9_append_60 : decode cX9_append 60 = .ok (.iload_n 2, 1) := by decide +kernel
theorem dX9_append_61 : decode cX9_append 61 = .ok (.invokevirtual 95, 3) := by decide +kernel
theorem dX9_append_64 : decode cX9_append 64 = .ok (.aload_n 0, 1) := by decide +kernel
theorem dX9_append_65 : decode cX9_append 65 = .ok (.iload_n 3, 1) := by decide +kernel
theorem dX9_append_66 : decode cX9_append 66 = .ok (.invokevirtual 95, 3) := by decide +kernel
theorem dX9_append_69 : decode cX9_append 69 = .ok (.aload_n 0, 1) := by decide +kernel
theorem dX9_append_70 : decode cX9_append 70 = .ok (.iload 4, 2) := by decide +kernel
theorem dX9_append_72 : decode cX9_append 72 = .ok (.invokevirtual 95, 3) := by decide +kernel
theorem dX9_append_75 : decode cX9_append 75 = .ok (.aload_n 0, 1) := by decide +kernel
theorem dX9_append_76 : decode cX9_append 76 = .ok (.iload 5, 2) := by decide +kernel
theorem dX9_append_78 : decode cX9_append 78 = .ok (.invokevirtual 95, 3) := by decide +kernel
theorem dX9_append_81 : decode cX9_append 81 = .ok (.aload_n 0, 1) := by decide +kernel
theorem dX9_append_82 : decode cX9_append 82 = .ok (.getfield 12, 3) := by decide +kernel
theorem dX9_append_85 : decode cX9_append 85 = .ok (.invokevirtual 87, 3) := by decide +kernel
theorem dX9_append_88 : decode cX9_append 88 = .ok (.ireturn, 1) := by decide +kernel
theorem dX9_truncate_0 : decode cX9_truncate 0 = .ok (.iload_n 1, 1) := by decide +kernel
theorem dX9_truncate_1 : decode cX9_truncate 1 = .ok (.ifCond .lt 14, 3) := by decide +kernel
theorem dX9_truncate_4 : decode cX9_truncate 4 = .ok (.iload_n 1, 1) := by decide +kernel
theorem dX9_truncate_5 : decode cX9_truncate 5 = .ok (.aload_n 0, 1) := by decide +kernel
theorem dX9_truncate_6 : decode cX9_truncate 6 = .ok (.getfield 12, 3) := by decide +kernel
theorem dX9_truncate_9 : decode cX9_truncate 9 = .ok (.invokevirtual 87, 3) := by decide +kernel
theorem dX9_truncate_12 : decode cX9_truncate 12 = .ok (.if_icmp .le 13, 3) := by decide +kernel
theorem dX9_truncate_15 : decode cX9_truncate 15 = .ok (.new 98, 3) := by decide +kernel
theorem dX9_truncate_18 : decode cX9_truncate 18 = .ok (.dup, 1) := by decide +kernel
theorem dX9_truncate_19 : decode cX9_truncate 19 = .ok (.ldc 100, 2) := by decide +kernel
theorem dX9_truncate_21 : decode cX9_truncate 21 = .ok (.invokespecial 102, 3) := by decide +kernel
theorem dX9_truncate_24 : decode cX9_truncate 24 = .ok (.athrow, 1) := by decide +kernel
theorem dX9_truncate_25 : decode cX9_truncate 25 = .ok (.aload_n 0, 1) := by decide +kernel
theorem dX9_truncate_26 : decode cX9_truncate 26 = .ok (.getfield 12, 3) := by decide +kernel
theorem dX9_truncate_29 : decode cX9_truncate 29 = .ok (.iload_n 1, 1) := by decide +kernel
theorem dX9_truncate_30 : decode cX9_truncate 30 = .ok (.invokevirtual 103, 3) := by decide +kernel
theorem dX9_truncate_33 : decode cX9_truncate 33 = .ok (.ireturn, 1) := by decide +kernel
theorem dX9_load_0 : decode cX9_load 0 = .ok (.aload_n 0, 1) := by decide +kernel
theorem dX9_load_1 : decode cX9_load 1 = .ok (.invokevirtual 73, 3) := by decide +kernel
theorem dX9_load_4 : decode cX9_load 4 = .ok (.aload_n 0, 1) := by decide +kernel
theorem dX9_load_5 : decode cX9_load 5 = .ok (.getfield 12, 3) := by decide +kernel
theorem dX9_load_8 : decode cX9_load 8 = .ok (.invokevirtual 80, 3) := by decide +kernel
theorem dX9_load_11 : decode cX9_load 11 = .ok (.aload_n 0, 1) := by decide +kernel
theorem dX9_load_12 : decode cX9_load 12 = .ok (.invokevirtual 106, 3) := by decide +kernel
theorem dX9_load_15 : decode cX9_load 15 = .ok (.aload_n 0, 1) := by decide +kernel
theorem dX9_load_16 : decode cX9_load 16 = .ok (.getfield 109, 3) := by decide +kernel
theorem dX9_load_19 : decode cX9_load 19 = .ok (.ifCond .ne 31, 3) := by decide +kernel
theorem dX9_load_22 : decode cX9_load 22 = .ok (.aload_n 0, 1) := by decide +kernel
theorem dX9_load_23 : decode cX9_load 23 = .ok (.getfield 33, 3) := by decide +kernel
theorem dX9_load_26 : decode cX9_load 26 = .ok (.aload_n 0, 1) := by decide +kernel
theorem dX9_load_27 : decode cX9_load 27 = .ok (.getfield 37, 3) := by decide +kernel
theorem dX9_load_30 : decode cX9_load 30 = .ok (.invokevirtual 76, 3) := by decide +kernel
theorem dX9_load_33 : decode cX9_load 33 = .ok (.aload_n 0, 1) := by decide +kernel
theorem dX9_load_34 : decode cX9_load 34 = .ok (.getfield 43, 3) := by decide +kernel
theorem dX9_load_37 : decode cX9_load 37 = .ok (.invokevirtual 112, 3) := by decide +kernel
theorem dX9_load_40 : decode cX9_load 40 = .ok (.aload_n 0, 1) := by decide +kernel
theorem dX9_load_41 : decode cX9_load 41 = .ok (.iconst 0, 1) := by decide +kernel
theorem dX9_load_42 : decode cX9_load 42 = .ok (.putfield 115, 3) := by decide +kernel
theorem dX9_load_45 : decode cX9_load 45 = .ok (.aload_n 0, 1) := by decide +kernel
theorem dX9_load_46 : decode cX9_load 46 = .ok (.iconst 0, 1) := by decide +kernel
theorem dX9_load_47 : decode cX9_load 47 = .ok (.putfield 119, 3) := by decide +kernel
theorem dX9_load_50 : decode cX9_load 50 = .ok (.aload_n 0, 1) := by decide +kernel
theorem dX9_load_51 : decode cX9_load 51 = .ok (.getfield 109, 3) := by decide +kernel
theorem dX9_load_54 : decode cX9_load 54 = .ok (.ireturn, 1) := by decide +kernel
theorem dX9_runScript_0 : decode cX9_runScript 0 = .ok (.aload_n 0, 1) := by decide +kernel
theorem dX9_runScript_1 : decode cX9_runScript 1 = .ok (.getfield 19, 3) := by decide +kernel
theorem dX9_runScript_4 : decode cX9_runScript 4 = .ok (.aload_n 0, 1) := by decide +kernel
theorem dX9_runScript_5 : decode cX9_runScript 5 = .ok (.getfield 12, 3) := by decide +kernel
theorem dX9_runScript_8 : decode cX9_runScript 8 = .ok (.invokevirtual 122, 3) := by decide +kernel
theorem dX9_runScript_11 : decode cX9_runScript 11 = .ok (.aload_n 0, 1) := by decide +kernel
theorem dX9_runScript_12 : decode cX9_runScript 12 = .ok (.getfield 12, 3) := by decide +kernel
theorem dX9_runScript_15 : decode cX9_runScript 15 = .ok (.invokevirtual 80, 3) := by decide +kernel
theorem dX9_runScript_18 : decode cX9_runScript 18 = .ok (.aload_n 0, 1) := by decide +kernel
theorem dX9_runScript_19 : decode cX9_runScript 19 = .ok (.invokevirtual 106, 3) := by decide +kernel
theorem dX9_runScript_22 : decode cX9_runScript 22 = .ok (.aload_n 0, 1) := by decide +kernel
theorem dX9_runScript_23 : decode cX9_runScript 23 = .ok (.getfield 109, 3) := by decide +kernel
theorem dX9_runScript_26 : decode cX9_runScript 26 = .ok (.ifCond .eq 5, 3) := by decide +kernel
theorem dX9_runScript_29 : decode cX9_runScript 29 = .ok (.iconst (-1), 1) := by decide +kernel
theorem dX9_runScript_30 : decode cX9_runScript 30 = .ok (.ireturn, 1) := by decide +kernel
theorem dX9_runScript_31 : decode cX9_runScript 31 = .ok (.aload_n 0, 1) := by decide +kernel
theorem dX9_runScript_32 : decode cX9_runScript 32 = .ok (.getfield 43, 3) := by decide +kernel
theorem dX9_runScript_35 : decode cX9_runScript 35 = .ok (.aload_n 0, 1) := by decide +kernel
theorem dX9_runScript_36 : decode cX9_runScript 36 = .ok (.getfield 33, 3) := by decide +kernel
theorem dX9_runScript_39 : decode cX9_runScript 39 = .ok (.invokevirtual 126, 3) := by decide +kernel
theorem dX9_runScript_42 : decode cX9_runScript 42 = .ok (.iconst 0, 1) := by decide +kernel
theorem dX9_runScript_43 : decode cX9_runScript 43 = .ok (.istore_n 1, 1) := by decide +kernel
theorem dX9_runScript_44 : decode cX9_runScript 44 = .ok (.iconst 0, 1) := by decide +kernel
theorem dX9_runScript_45 : decode cX9_runScript 45 = .ok (.istore_n 2, 1) := by decide +kernel
theorem dX9_runScript_46 : decode cX9_runScript 46 = .ok (.iconst 0, 1) := by decide +kernel
theorem dX9_runScript_47 : decode cX9_runScript 47 = .ok (.istore_n 3, 1) := by decide +kernel
theorem dX9_runScript_48 : decode cX9_runScript 48 = .ok (.iload_n 3, 1) := by decide +kernel
theorem dX9_runScript_49 : decode cX9_runScript 49 = .ok (.sipush 24060, 3) := by decide +kernel
theorem dX9_runScript_52 : decode cX9_runScript 52 = .ok (.if_icmp .ge 68, 3) := by decide +kernel
theorem dX9_runScript_55 : decode cX9_runScript 55 = .ok (.iload_n 2, 1) := by decide +kernel
theorem dX9_runScript_56 : decode cX9_runScript 56 = .ok (.aload_n 0, 1) := by decide +kernel
theorem dX9_runScript_57 : decode cX9_runScript 57 = .ok (.getfield 19, 3) := by decide +kernel
theorem dX9_runScript_60 : decode cX9_runScript 60 = .ok (.invokevirtual 129, 3) := by decide +kernel
theorem dX9_runScript_63 : decode cX9_runScript 63 = .ok (.if_icmp .ge 57, 3) := by decide +kernel
theorem dX9_runScript_66 : decode cX9_runScript 66 = .ok (.iload_n 1, 1) := by decide +kernel
theorem dX9_runScript_67 : decode cX9_runScript 67 = .ok (.bipush 40, 2) := by decide +kernel
theorem dX9_runScript_69 : decode cX9_runScript 69 = .ok (.if_icmp .ge 51, 3) := by decide +kernel
theorem dX9_runScript_72 : decode cX9_runScript 72 = .ok (.aload_n 0, 1) := by decide +kernel
theorem dX9_runScript_73 : decode cX9_runScript 73 = .ok (.getfield 19, 3) := by decide +kernel
theorem dX9_runScript_76 : decode cX9_runScript 76 = .ok (.iload_n 2, 1) := by decide +kernel
theorem dX9_runScript_77 : decode cX9_runScript 77 = .ok (.invokevirtual 130, 3) := by decide +kernel
theorem dX9_runScript_80 : decode cX9_runScript 80 = .ok (.ifCond .eq 15, 3) := by decide +kernel
theorem dX9_runScript_83 : decode cX9_runScript 83 = .ok (.aload_n 0, 1) := by decide +kernel
theorem dX9_runScript_84 : decode cX9_runScript 84 = .ok (.getfield 19, 3) := by decide +kernel
theorem dX9_runScript_87 : decode cX9_runScript 87 = .ok (.iload_n 2, 1) := by decide +kernel
theorem dX9_runScript_88 : decode cX9_runScript 88 = .ok (.invokevirtual 134, 3) := by decide +kernel
theorem dX9_runScript_91 : decode cX9_runScript 91 = .ok (.istore_n 2, 1) := by decide +kernel
theorem dX9_runScript_92 : decode cX9_runScript 92 = .ok (.goto 22, 3) := by decide +kernel
theorem dX9_runScript_95 : decode cX9_runScript 95 = .ok (.aload_n 0, 1) := by decide +kernel
theorem dX9_runScript_96 : decode cX9_runScript 96 = .ok (.iload_n 2, 1) := by decide +kernel
theorem dX9_runScript_97 : decode cX9_runScript 97 = .ok (.invokevirtual 137, 3) := by decide +kernel
theorem dX9_runScript_100 : decode cX9_runScript 100 = .ok (.ifCond .eq 12, 3) := by decide +kernel
theorem dX9_runScript_103 : decode cX9_runScript 103 = .ok (.iinc 1 1, 3) := by decide +kernel
theorem dX9_runScript_106 : decode cX9_runScript 106 = .ok (.iinc 2 1, 3) := by decide +kernel
theorem dX9_runScript_109 : decode cX9_runScript 109 = .ok (.goto 5, 3) := by decide +kernel
theorem dX9_runScript_112 : decode cX9_runScript 112 = .ok (.iload_n 1, 1) := by decide +kernel
theorem dX9_runScript_113 : decode cX9_runScript 113 = .ok (.ireturn, 1) := by decide +kernel
theorem dX9_runScript_114 : decode cX9_runScript 114 = .ok (.iinc 3 1, 3) := by decide +kernel
theorem dX9_runScript_117 : decode cX9_runScript 117 = .ok (.goto (-69), 3) := by decide +kernel
theorem dX9_runScript_120 : decode cX9_runScript 120 = .ok (.iload_n 1, 1) := by decide +kernel
theorem dX9_runScript_121 : decode cX9_runScript 121 = .ok (.ireturn, 1) := by decide +kernel
theorem dX9_errorCode_0 : decode cX9_errorCode 0 = .ok (.aload_n 0, 1) := by decide +kernel
theorem dX9_errorCode_1 : decode cX9_errorCode 1 = .ok (.getfield 109, 3) := by decide +kernel
theorem dX9_errorCode_4 : decode cX9_errorCode 4 = .ok (.ireturn, 1) := by decide +kernel
theorem dX9_errorPosition_0 : decode cX9_errorPosition 0 = .ok (.aload_n 0, 1) := by decide +kernel
theorem dX9_errorPosition_1 : decode cX9_errorPosition 1 = .ok (.getfield 53, 3) := by decide +kernel
theorem dX9_errorPosition_4 : decode cX9_errorPosition 4 = .ok (.ireturn, 1) := by decide +kernel
theorem dX9_boardSize_0 : decode cX9_boardSize 0 = .ok (.aload_n 0, 1) := by decide +kernel
theorem dX9_boardSize_1 : decode cX9_boardSize 1 = .ok (.getfield 33, 3) := by decide +kernel
theorem dX9_boardSize_4 : decode cX9_boardSize 4 = .ok (.iconst 0, 1) := by decide +kernel
theorem dX9_boardSize_5 : decode cX9_boardSize 5 = .ok (.invokevirtual 140, 3) := by decide +kernel
theorem dX9_boardSize_8 : decode cX9_boardSize 8 = .ok (.invokevirtual 144, 3) := by decide +kernel
theorem dX9_boardSize_11 : decode cX9_boardSize 11 = .ok (.ireturn, 1) := by decide +kernel
theorem dX9_moveLimit_0 : decode cX9_moveLimit 0 = .ok (.aload_n 0, 1) := by decide +kernel
theorem dX9_moveLimit_1 : decode cX9_moveLimit 1 = .ok (.getfield 33, 3) := by decide +kernel
theorem dX9_moveLimit_4 : decode cX9_moveLimit 4 = .ok (.iconst 0, 1) := by decide +kernel
theorem dX9_moveLimit_5 : decode cX9_moveLimit 5 = .ok (.invokevirtual 140, 3) := by decide +kernel
theorem dX9_moveLimit_8 : decode cX9_moveLimit 8 = .ok (.invokevirtual 149, 3) := by decide +kernel
theorem dX9_moveLimit_11 : decode cX9_moveLimit 11 = .ok (.ireturn, 1) := by decide +kernel
theorem dX9_day_0 : decode cX9_day 0 = .ok (.aload_n 0, 1) := by decide +kernel
theorem dX9_day_1 : decode cX9_day 1 = .ok (.getfield 33, 3) := by decide +kernel
theorem dX9_day_4 : decode cX9_day 4 = .ok (.invokevirtual 152, 3) := by decide +kernel
theorem dX9_day_7 : decode cX9_day 7 = .ok (.ireturn, 1) := by decide +kernel
theorem dX9_month_0 : decode cX9_month 0 = .ok (.aload_n 0, 1) := by decide +kernel
theorem dX9_month_1 : decode cX9_month 1 = .ok (.getfield 33, 3) := by decide +kernel
theorem dX9_month_4 : decode cX9_month 4 = .ok (.invokevirtual 152, 3) := by decide +kernel
theorem dX9_month_7 : decode cX9_month 7 = .ok (.invokestatic 155, 3) := by decide +kernel
theorem dX9_month_10 : decode cX9_month 10 = .ok (.ireturn, 1) := by decide +kernel
theorem dX9_bishopOwner_0 : decode cX9_bishopOwner 0 = .ok (.iload_n 1, 1) := by decide +kernel
theorem dX9_bishopOwner_1 : decode cX9_bishopOwner 1 = .ok (.invokestatic 158, 3) := by decide +kernel
theorem dX9_bishopOwner_4 : decode cX9_bishopOwner 4 = .ok (.ifCond .eq 18, 3) := by decide +kernel
theorem dX9_bishopOwner_7 : decode cX9_bishopOwner 7 = .ok (.aload_n 0, 1) := by decide +kernel
theorem dX9_bishopOwner_8 : decode cX9_bishopOwner 8 = .ok (.getfield 33, 3) := by decide +kernel
theorem dX9_bishopOwner_11 : decode cX9_bishopOwner 11 = .ok (.iload_n 2, 1) := by decide +kernel
theorem dX9_bishopOwner_12 : decode cX9_bishopOwner 12 = .ok (.invokevirtual 161, 3) := by decide +kernel
theorem dX9_bishopOwner_15 : decode cX9_bishopOwner 15 = .ok (.ifCond .eq 7, 3) := by decide +kernel
theorem dX9_bishopOwner_18 : decode cX9_bishopOwner 18 = .ok (.iconst 1, 1) := by decide +kernel
theorem dX9_bishopOwner_19 : decode cX9_bishopOwner 19 = .ok (.goto 4, 3) := by decide +kernel
theorem dX9_bishopOwner_22 : decode cX9_bishopOwner 22 = .ok (.iconst 0, 1) := by decide +kernel
theorem dX9_bishopOwner_23 : decode cX9_bishopOwner 23 = .ok (.invokestatic 164, 3) := by decide +kernel
theorem dX9_bishopOwner_26 : decode cX9_bishopOwner 26 = .ok (.aload_n 0, 1) := by decide +kernel
theorem dX9_bishopOwner_27 : decode cX9_bishopOwner 27 = .ok (.getfield 33, 3) := by decide +kernel
theorem dX9_bishopOwner_30 : decode cX9_bishopOwner 30 = .ok (.iload_n 1, 1) := by decide +kernel
theorem dX9_bishopOwner_31 : decode cX9_bishopOwner 31 = .ok (.invokevirtual 140, 3) := by decide +kernel
theorem dX9_bishopOwner_34 : decode cX9_bishopOwner 34 = .ok (.iload_n 2, 1) := by decide +kernel
theorem dX9_bishopOwner_35 : decode cX9_bishopOwner 35 = .ok (.invokevirtual 168, 3) := by decide +kernel
theorem dX9_bishopOwner_38 : decode cX9_bishopOwner 38 = .ok (.ireturn, 1) := by decide +kernel
theorem dX9_bishopCount_0 : decode cX9_bishopCount 0 = .ok (.iload_n 1, 1) := by decide +kernel
theorem dX9_bishopCount_1 : decode cX9_bishopCount 1 = .ok (.invokestatic 158, 3) := by decide +kernel
theorem dX9_bishopCount_4 : decode cX9_bishopCount 4 = .ok (.ifCond .eq 14, 3) := by decide +kernel
theorem dX9_bishopCount_7 : decode cX9_bishopCount 7 = .ok (.iload_n 2, 1) := by decide +kernel
theorem dX9_bishopCount_8 : decode cX9_bishopCount 8 = .ok (.invokestatic 158, 3) := by decide +kernel
theorem dX9_bishopCount_11 : decode cX9_bishopCount 11 = .ok (.ifCond .eq 7, 3) := by decide +kernel
theorem dX9_bishopCount_14 : decode cX9_bishopCount 14 = .ok (.iconst 1, 1) := by decide +kernel
theorem dX9_bishopCount_15 : decode cX9_bishopCount 15 = .ok (.goto 4, 3) := by decide +kernel
theorem dX9_bishopCount_18 : decode cX9_bishopCount 18 = .ok (.iconst 0, 1) := by decide +kernel
theorem dX9_bishopCount_19 : decode cX9_bishopCount 19 = .ok (.invokestatic 164, 3) := by decide +kernel
theorem dX9_bishopCount_22 : decode cX9_bishopCount 22 = .ok (.aload_n 0, 1) := by decide +kernel
theorem dX9_bishopCount_23 : decode cX9_bishopCount 23 = .ok (.getfield 33, 3) := by decide +kernel
theorem dX9_bishopCount_26 : decode cX9_bishopCount 26 = .ok (.iload_n 1, 1) := by decide +kernel
theorem dX9_bishopCount_27 : decode cX9_bishopCount 27 = .ok (.invokevirtual 140, 3) := by decide +kernel
theorem dX9_bishopCount_30 : decode cX9_bishopCount 30 = .ok (.iload_n 2, 1) := by decide +kernel
theorem dX9_bishopCount_31 : decode cX9_bishopCount 31 = .ok (.invokevirtual 171, 3) := by decide +kernel
theorem dX9_bishopCount_34 : decode cX9_bishopCount 34 = .ok (.ireturn, 1) := by decide +kernel
theorem dX9_moveCount_0 : decode cX9_moveCount 0 = .ok (.iload_n 1, 1) := by decide +kernel
theorem dX9_moveCount_1 : decode cX9_moveCount 1 = .ok (.invokestatic 158, 3) := by decide +kernel
theorem dX9_moveCount_4 : decode cX9_moveCount 4 = .ok (.invokestatic 164, 3) := by decide +kernel
theorem dX9_moveCount_7 : decode cX9_moveCount 7 = .ok (.aload_n 0, 1) := by decide +kernel
theorem dX9_moveCount_8 : decode cX9_moveCount 8 = .ok (.getfield 33, 3) := by decide +kernel
theorem dX9_moveCount_11 : decode cX9_moveCount 11 = .ok (.iload_n 1, 1) := by decide +kernel
theorem dX9_moveCount_12 : decode cX9_moveCount 12 = .ok (.invokevirtual 140, 3) := by decide +kernel
theorem dX9_moveCount_15 : decode cX9_moveCount 15 = .ok (.invokevirtual 174, 3) := by decide +kernel
theorem dX9_moveCount_18 : decode cX9_moveCount 18 = .ok (.ireturn, 1) := by decide +kernel
theorem dX9_isTurn_0 : decode cX9_isTurn 0 = .ok (.iload_n 1, 1) := by decide +kernel
theorem dX9_isTurn_1 : decode cX9_isTurn 1 = .ok (.invokestatic 158, 3) := by decide +kernel
theorem dX9_isTurn_4 : decode cX9_isTurn 4 = .ok (.invokestatic 164, 3) := by decide +kernel
theorem dX9_isTurn_7 : decode cX9_isTurn 7 = .ok (.aload_n 0, 1) := by decide +kernel
theorem dX9_isTurn_8 : decode cX9_isTurn 8 = .ok (.getfield 33, 3) := by decide +kernel
theorem dX9_isTurn_11 : decode cX9_isTurn 11 = .ok (.iload_n 1, 1) := by decide +kernel
theorem dX9_isTurn_12 : decode cX9_isTurn 12 = .ok (.invokevirtual 177, 3) := by decide +kernel
theorem dX9_isTurn_15 : decode cX9_isTurn 15 = .ok (.invokevirtual 181, 3) := by decide +kernel
theorem dX9_isTurn_18 : decode cX9_isTurn 18 = .ok (.ireturn, 1) := by decide +kernel
theorem dX9_isOver_0 : decode cX9_isOver 0 = .ok (.iload_n 1, 1) := by decide +kernel
theorem dX9_isOver_1 : decode cX9_isOver 1 = .ok (.invokestatic 158, 3) := by decide +kernel
theorem dX9_isOver_4 : decode cX9_isOver 4 = .ok (.invokestatic 164, 3) := by decide +kernel
theorem dX9_isOver_7 : decode cX9_isOver 7 = .ok (.aload_n 0, 1) := by decide +kernel
theorem dX9_isOver_8 : decode cX9_isOver 8 = .ok (.getfield 33, 3) := by decide +kernel
theorem dX9_isOver_11 : decode cX9_isOver 11 = .ok (.iload_n 1, 1) := by decide +kernel
theorem dX9_isOver_12 : decode cX9_isOver 12 = .ok (.invokevirtual 140, 3) := by decide +kernel
theorem dX9_isOver_15 : decode cX9_isOver 15 = .ok (.invokevirtual 187, 3) := by decide +kernel
theorem dX9_isOver_18 : decode cX9_isOver 18 = .ok (.ireturn, 1) := by decide +kernel
theorem dX9_winner_0 : decode cX9_winner 0 = .ok (.iload_n 1, 1) := by decide +kernel
theorem dX9_winner_1 : decode cX9_winner 1 = .ok (.invokestatic 158, 3) := by decide +kernel
theorem dX9_winner_4 : decode cX9_winner 4 = .ok (.invokestatic 164, 3) := by decide +kernel
theorem dX9_winner_7 : decode cX9_winner 7 = .ok (.aload_n 0, 1) := by decide +kernel
theorem dX9_winner_8 : decode cX9_winner 8 = .ok (.getfield 33, 3) := by decide +kernel
theorem dX9_winner_11 : decode cX9_winner 11 = .ok (.iload_n 1, 1) := by decide +kernel
theorem dX9_winner_12 : decode cX9_winner 12 = .ok (.invokevirtual 140, 3) := by decide +kernel
theorem dX9_winner_15 : decode cX9_winner 15 = .ok (.astore_n 2, 1) := by decide +kernel
theorem dX9_winner_16 : decode cX9_winner 16 = .ok (.aload_n 2, 1) := by decide +kernel
theorem dX9_winner_17 : decode cX9_winner 17 = .ok (.iconst 0, 1) := by decide +kernel
theorem dX9_winner_18 : decode cX9_winner 18 = .ok (.invokevirtual 171, 3) := by decide +kernel
theorem dX9_winner_21 : decode cX9_winner 21 = .ok (.aload_n 2, 1) := by decide +kernel
theorem dX9_winner_22 : decode cX9_winner 22 = .ok (.iconst 1, 1) := by decide +kernel
theorem dX9_winner_23 : decode cX9_winner 23 = .ok (.invokevirtual 171, 3) := by decide +kernel
theorem dX9_winner_26 : decode cX9_winner 26 = .ok (.isub, 1) := by decide +kernel
theorem dX9_winner_27 : decode cX9_winner 27 = .ok (.istore_n 3, 1) := by decide +kernel
theorem dX9_winner_28 : decode cX9_winner 28 = .ok (.aload_n 2, 1) := by decide +kernel
theorem dX9_winner_29 : decode cX9_winner 29 = .ok (.invokevirtual 187, 3) := by decide +kernel
theorem dX9_winner_32 : decode cX9_winner 32 = .ok (.ifCond .eq 7, 3) := by decide +kernel
theorem dX9_winner_35 : decode cX9_winner 35 = .ok (.iload_n 3, 1) := by decide +kernel
theorem dX9_winner_36 : decode cX9_winner 36 = .ok (.ifCond .ne 5, 3) := by decide +kernel
theorem dX9_winner_39 : decode cX9_winner 39 = .ok (.iconst (-1), 1) := by decide +kernel
theorem dX9_winner_40 : decode cX9_winner 40 = .ok (.ireturn, 1) := by decide +kernel
theorem dX9_winner_41 : decode cX9_winner 41 = .ok (.iload_n 3, 1) := by decide +kernel
theorem dX9_winner_42 : decode cX9_winner 42 = .ok (.ifCond .le 7, 3) := by decide +kernel
theorem dX9_winner_45 : decode cX9_winner 45 = .ok (.iconst 0, 1) := by decide +kernel
theorem dX9_winner_46 : decode cX9_winner 46 = .ok (.goto 4, 3) := by decide +kernel
theorem dX9_winner_49 : decode cX9_winner 49 = .ok (.iconst 1, 1) := by decide +kernel
theorem dX9_winner_50 : decode cX9_winner 50 = .ok (.ireturn, 1) := by decide +kernel
theorem dX9_canMove_0 : decode cX9_canMove 0 = .ok (.iload_n 1, 1) := by decide +kernel
theorem dX9_canMove_1 : decode cX9_canMove 1 = .ok (.invokestatic 158, 3) := by decide +kernel
theorem dX9_canMove_4 : decode cX9_canMove 4 = .ok (.ifCond .eq 29, 3) := by decide +kernel
theorem dX9_canMove_7 : decode cX9_canMove 7 = .ok (.aload_n 0, 1) := by decide +kernel
theorem dX9_canMove_8 : decode cX9_canMove 8 = .ok (.getfield 33, 3) := by decide +kernel
theorem dX9_canMove_11 : decode cX9_canMove 11 = .ok (.iload_n 2, 1) := by decide +kernel
theorem dX9_canMove_12 : decode cX9_canMove 12 = .ok (.invokevirtual 161, 3) := by decide +kernel
theorem dX9_canMove_15 : decode cX9_canMove 15 = .ok (.ifCond .eq 18, 3) := by decide +kernel
theorem dX9_canMove_18 : decode cX9_canMove 18 = .ok (.aload_n 0, 1) := by decide +kernel
theorem dX9_canMove_19 : decode cX9_canMove 19 = .ok (.getfield 33, 3) := by decide +kernel
theorem dX9_canMove_22 : decode cX9_canMove 22 = .ok (.iload_n 3, 1) := by decide +kernel
theorem dX9_canMove_23 : decode cX9_canMove 23 = .ok (.invokevirtual 161, 3) := by decide +kernel
theorem dX9_canMove_26 : decode cX9_canMove 26 = .ok (.ifCond .eq 7, 3) := by decide +kernel
theorem dX9_canMove_29 : decode cX9_canMove 29 = .ok (.iconst 1, 1) := by decide +kernel
theorem dX9_canMove_30 : decode cX9_canMove 30 = .ok (.goto 4, 3) := by decide +kernel
theorem dX9_canMove_33 : decode cX9_canMove 33 = .ok (.iconst 0, 1) := by decide +kernel
theorem dX9_canMove_34 : decode cX9_canMove 34 = .ok (.invokestatic 164, 3) := by decide +kernel
theorem dX9_canMove_37 : decode cX9_canMove 37 = .ok (.aload_n 0, 1) := by decide +kernel
theorem dX9_canMove_38 : decode cX9_canMove 38 = .ok (.getfield 33, 3) := by decide +kernel
theorem dX9_canMove_41 : decode cX9_canMove 41 = .ok (.iload_n 1, 1) := by decide +kernel
theorem dX9_canMove_42 : decode cX9_canMove 42 = .ok (.invokevirtual 140, 3) := by decide +kernel
theorem dX9_canMove_45 : decode cX9_canMove 45 = .ok (.iload_n 2, 1) := by decide +kernel
theorem dX9_canMove_46 : decode cX9_canMove 46 = .ok (.iload_n 3, 1) := by decide +kernel
theorem dX9_canMove_47 : decode cX9_canMove 47 = .ok (.invokevirtual 190, 3) := by decide +kernel
theorem dX9_canMove_50 : decode cX9_canMove 50 = .ok (.ireturn, 1) := by decide +kernel
theorem dX9_mobility_0 : decode cX9_mobility 0 = .ok (.iload_n 1, 1) := by decide +kernel
theorem dX9_mobility_1 : decode cX9_mobility 1 = .ok (.invokestatic 158, 3) := by decide +kernel
theorem dX9_mobility_4 : decode cX9_mobility 4 = .ok (.ifCond .eq 14, 3) := by decide +kernel
theorem dX9_mobility_7 : decode cX9_mobility 7 = .ok (.iload_n 2, 1) := by decide +kernel
theorem dX9_mobility_8 : decode cX9_mobility 8 = .ok (.invokestatic 158, 3) := by decide +kernel
theorem dX9_mobility_11 : decode cX9_mobility 11 = .ok (.ifCond .eq 7, 3) := by decide +kernel
theorem dX9_mobility_14 : decode cX9_mobility 14 = .ok (.iconst 1, 1) := by decide +kernel
theorem dX9_mobility_15 : decode cX9_mobility 15 = .ok (.goto 4, 3) := by decide +kernel
theorem dX9_mobility_18 : decode cX9_mobility 18 = .ok (.iconst 0, 1) := by decide +kernel
theorem dX9_mobility_19 : decode cX9_mobility 19 = .ok (.invokestatic 164, 3) := by decide +kernel
theorem dX9_mobility_22 : decode cX9_mobility 22 = .ok (.aload_n 0, 1) := by decide +kernel
theorem dX9_mobility_23 : decode cX9_mobility 23 = .ok (.getfield 33, 3) := by decide +kernel
theorem dX9_mobility_26 : decode cX9_mobility 26 = .ok (.iload_n 1, 1) := by decide +kernel
theorem dX9_mobility_27 : decode cX9_mobility 27 = .ok (.invokevirtual 140, 3) := by decide +kernel
theorem dX9_mobility_30 : decode cX9_mobility 30 = .ok (.iload_n 2, 1) := by decide +kernel
theorem dX9_mobility_31 : decode cX9_mobility 31 = .ok (.invokevirtual 194, 3) := by decide +kernel
theorem dX9_mobility_34 : decode cX9_mobility 34 = .ok (.ireturn, 1) := by decide +kernel
theorem dX9_movedFrom_0 : decode cX9_movedFrom 0 = .ok (.aload_n 0, 1) := by decide +kernel
theorem dX9_movedFrom_1 : decode cX9_movedFrom 1 = .ok (.iload_n 1, 1) := by decide +kernel
theorem dX9_movedFrom_2 : decode cX9_movedFrom 2 = .ok (.iload_n 2, 1) := by decide +kernel
theorem dX9_movedFrom_3 : decode cX9_movedFrom 3 = .ok (.invokevirtual 197, 3) := by decide +kernel
theorem dX9_movedFrom_6 : decode cX9_movedFrom 6 = .ok (.invokestatic 201, 3) := by decide +kernel
theorem dX9_movedFrom_9 : decode cX9_movedFrom 9 = .ok (.ireturn, 1) := by decide +kernel
theorem dX9_movedTo_0 : decode cX9_movedTo 0 = .ok (.aload_n 0, 1) := by decide +kernel
theorem dX9_movedTo_1 : decode cX9_movedTo 1 = .ok (.iload_n 1, 1) := by decide +kernel
theorem dX9_movedTo_2 : decode cX9_movedTo 2 = .ok (.iload_n 2, 1) := by decide +kernel
theorem dX9_movedTo_3 : decode cX9_movedTo 3 = .ok (.invokevirtual 197, 3) := by decide +kernel
theorem dX9_movedTo_6 : decode cX9_movedTo 6 = .ok (.invokestatic 204, 3) := by decide +kernel
theorem dX9_movedTo_9 : decode cX9_movedTo 9 = .ok (.ireturn, 1) := by decide +kernel
theorem dX9_storedMoves_0 : decode cX9_storedMoves 0 = .ok (.iload_n 1, 1) := by decide +kernel
theorem dX9_storedMoves_1 : decode cX9_storedMoves 1 = .ok (.invokestatic 158, 3) := by decide +kernel
theorem dX9_storedMoves_4 : decode cX9_storedMoves 4 = .ok (.invokestatic 164, 3) := by decide +kernel
theorem dX9_storedMoves_7 : decode cX9_storedMoves 7 = .ok (.aload_n 0, 1) := by decide +kernel
theorem dX9_storedMoves_8 : decode cX9_storedMoves 8 = .ok (.getfield 33, 3) := by decide +kernel
theorem dX9_storedMoves_11 : decode cX9_storedMoves 11 = .ok (.iload_n 1, 1) := by decide +kernel
theorem dX9_storedMoves_12 : decode cX9_storedMoves 12 = .ok (.invokevirtual 177, 3) := by decide +kernel
theorem dX9_storedMoves_15 : decode cX9_storedMoves 15 = .ok (.invokevirtual 207, 3) := by decide +kernel
theorem dX9_storedMoves_18 : decode cX9_storedMoves 18 = .ok (.ireturn, 1) := by decide +kernel
theorem dX9_areBoardsEqual_0 : decode cX9_areBoardsEqual 0 = .ok (.aload_n 0, 1) := by decide +kernel
theorem dX9_areBoardsEqual_1 : decode cX9_areBoardsEqual 1 = .ok (.getfield 33, 3) := by decide +kernel
theorem dX9_areBoardsEqual_4 : decode cX9_areBoardsEqual 4 = .ok (.invokevirtual 210, 3) := by decide +kernel
theorem dX9_areBoardsEqual_7 : decode cX9_areBoardsEqual 7 = .ok (.ireturn, 1) := by decide +kernel
theorem dX9_passCount_0 : decode cX9_passCount 0 = .ok (.aload_n 0, 1) := by decide +kernel
theorem dX9_passCount_1 : decode cX9_passCount 1 = .ok (.getfield 33, 3) := by decide +kernel
theorem dX9_passCount_4 : decode cX9_passCount 4 = .ok (.invokevirtual 213, 3) := by decide +kernel
theorem dX9_passCount_7 : decode cX9_passCount 7 = .ok (.invokevirtual 217, 3) := by decide +kernel
theorem dX9_passCount_10 : decode cX9_passCount 10 = .ok (.ireturn, 1) := by decide +kernel
theorem dX9_snowDepth_0 : decode cX9_snowDepth 0 = .ok (.aload_n 0, 1) := by decide +kernel
theorem dX9_snowDepth_1 : decode cX9_snowDepth 1 = .ok (.getfield 33, 3) := by decide +kernel
theorem dX9_snowDepth_4 : decode cX9_snowDepth 4 = .ok (.invokevirtual 213, 3) := by decide +kernel
theorem dX9_snowDepth_7 : decode cX9_snowDepth 7 = .ok (.iload_n 1, 1) := by decide +kernel
theorem dX9_snowDepth_8 : decode cX9_snowDepth 8 = .ok (.invokevirtual 222, 3) := by decide +kernel
theorem dX9_snowDepth_11 : decode cX9_snowDepth 11 = .ok (.ifCond .eq 14, 3) := by decide +kernel
theorem dX9_snowDepth_14 : decode cX9_snowDepth 14 = .ok (.iload_n 2, 1) := by decide +kernel
theorem dX9_snowDepth_15 : decode cX9_snowDepth 15 = .ok (.invokestatic 225, 3) := by decide +kernel
theorem dX9_snowDepth_18 : decode cX9_snowDepth 18 = .ok (.ifCond .eq 7, 3) := by decide +kernel
theorem dX9_snowDepth_21 : decode cX9_snowDepth 21 = .ok (.iconst 1, 1) := by decide +kernel
theorem dX9_snowDepth_22 : decode cX9_snowDepth 22 = .ok (.goto 4, 3) := by decide +kernel
theorem dX9_snowDepth_25 : decode cX9_snowDepth 25 = .ok (.iconst 0, 1) := by decide +kernel
theorem dX9_snowDepth_26 : decode cX9_snowDepth 26 = .ok (.invokestatic 164, 3) := by decide +kernel
theorem dX9_snowDepth_29 : decode cX9_snowDepth 29 = .ok (.aload_n 0, 1) := by decide +kernel
theorem dX9_snowDepth_30 : decode cX9_snowDepth 30 = .ok (.getfield 33, 3) := by decide +kernel
theorem dX9_snowDepth_33 : decode cX9_snowDepth 33 = .ok (.invokevirtual 213, 3) := by decide +kernel
theorem dX9_snowDepth_36 : decode cX9_snowDepth 36 = .ok (.iload_n 1, 1) := by decide +kernel
theorem dX9_snowDepth_37 : decode cX9_snowDepth 37 = .ok (.iload_n 2, 1) := by decide +kernel
theorem dX9_snowDepth_38 : decode cX9_snowDepth 38 = .ok (.invokevirtual 228, 3) := by decide +kernel
theorem dX9_snowDepth_41 : decode cX9_snowDepth 41 = .ok (.ireturn, 1) := by decide +kernel
theorem dX9_travelDays_0 : decode cX9_travelDays 0 = .ok (.aload_n 0, 1) := by decide +kernel
theorem dX9_travelDays_1 : decode cX9_travelDays 1 = .ok (.getfield 33, 3) := by decide +kernel
theorem dX9_travelDays_4 : decode cX9_travelDays 4 = .ok (.invokevirtual 213, 3) := by decide +kernel
theorem dX9_travelDays_7 : decode cX9_travelDays 7 = .ok (.iload_n 1, 1) := by decide +kernel
theorem dX9_travelDays_8 : decode cX9_travelDays 8 = .ok (.invokevirtual 222, 3) := by decide +kernel
theorem dX9_travelDays_11 : decode cX9_travelDays 11 = .ok (.invokestatic 164, 3) := by decide +kernel
theorem dX9_travelDays_14 : decode cX9_travelDays 14 = .ok (.aload_n 0, 1) := by decide +kernel
theorem dX9_travelDays_15 : decode cX9_travelDays 15 = .ok (.getfield 33, 3) := by decide +kernel
theorem dX9_travelDays_18 : decode cX9_travelDays 18 = .ok (.invokevirtual 213, 3) := by decide +kernel
theorem dX9_travelDays_21 : decode cX9_travelDays 21 = .ok (.iload_n 1, 1) := by decide +kernel
theorem dX9_travelDays_22 : decode cX9_travelDays 22 = .ok (.aload_n 0, 1) := by decide +kernel
theorem dX9_travelDays_23 : decode cX9_travelDays 23 = .ok (.getfield 33, 3) := by decide +kernel
theorem dX9_travelDays_26 : decode cX9_travelDays 26 = .ok (.invokevirtual 152, 3) := by decide +kernel
theorem dX9_travelDays_29 : decode cX9_travelDays 29 = .ok (.invokestatic 155, 3) := by decide +kernel
theorem dX9_travelDays_32 : decode cX9_travelDays 32 = .ok (.invokevirtual 231, 3) := by decide +kernel
theorem dX9_travelDays_35 : decode cX9_travelDays 35 = .ok (.ireturn, 1) := by decide +kernel
theorem dX9_mules_0 : decode cX9_mules 0 = .ok (.aload_n 0, 1) := by decide +kernel
theorem dX9_mules_1 : decode cX9_mules 1 = .ok (.getfield 33, 3) := by decide +kernel
theorem dX9_mules_4 : decode cX9_mules 4 = .ok (.invokevirtual 213, 3) := by decide +kernel
theorem dX9_mules_7 : decode cX9_mules 7 = .ok (.iload_n 1, 1) := by decide +kernel
theorem dX9_mules_8 : decode cX9_mules 8 = .ok (.invokevirtual 222, 3) := by decide +kernel
theorem dX9_mules_11 : decode cX9_mules 11 = .ok (.ifCond .eq 14, 3) := by decide +kernel
theorem dX9_mules_14 : decode cX9_mules 14 = .ok (.iload_n 2, 1) := by decide +kernel
theorem dX9_mules_15 : decode cX9_mules 15 = .ok (.invokestatic 158, 3) := by decide +kernel
theorem dX9_mules_18 : decode cX9_mules 18 = .ok (.ifCond .eq 7, 3) := by decide +kernel
theorem dX9_mules_21 : decode cX9_mules 21 = .ok (.iconst 1, 1) := by decide +kernel
theorem dX9_mules_22 : decode cX9_mules 22 = .ok (.goto 4, 3) := by decide +kernel
theorem dX9_mules_25 : decode cX9_mules 25 = .ok (.iconst 0, 1) := by decide +kernel
theorem dX9_mules_26 : decode cX9_mules 26 = .ok (.invokestatic 164, 3) := by decide +kernel
theorem dX9_mules_29 : decode cX9_mules 29 = .ok (.aload_n 0, 1) := by decide +kernel
theorem dX9_mules_30 : decode cX9_mules 30 = .ok (.getfield 33, 3) := by decide +kernel
theorem dX9_mules_33 : decode cX9_mules 33 = .ok (.invokevirtual 213, 3) := by decide +kernel
theorem dX9_mules_36 : decode cX9_mules 36 = .ok (.iload_n 1, 1) := by decide +kernel
theorem dX9_mules_37 : decode cX9_mules 37 = .ok (.iload_n 2, 1) := by decide +kernel
theorem dX9_mules_38 : decode cX9_mules 38 = .ok (.invokevirtual 234, 3) := by decide +kernel
theorem dX9_mules_41 : decode cX9_mules 41 = .ok (.ireturn, 1) := by decide +kernel
theorem dX9_queueLength_0 : decode cX9_queueLength 0 = .ok (.aload_n 0, 1) := by decide +kernel
theorem dX9_queueLength_1 : decode cX9_queueLength 1 = .ok (.getfield 33, 3) := by decide +kernel
theorem dX9_queueLength_4 : decode cX9_queueLength 4 = .ok (.invokevirtual 213, 3) := by decide +kernel
theorem dX9_queueLength_7 : decode cX9_queueLength 7 = .ok (.iload_n 1, 1) := by decide +kernel
theorem dX9_queueLength_8 : decode cX9_queueLength 8 = .ok (.invokevirtual 222, 3) := by decide +kernel
theorem dX9_queueLength_11 : decode cX9_queueLength 11 = .ok (.ifCond .eq 14, 3) := by decide +kernel
theorem dX9_queueLength_14 : decode cX9_queueLength 14 = .ok (.iload_n 2, 1) := by decide +kernel
theorem dX9_queueLength_15 : decode cX9_queueLength 15 = .ok (.invokestatic 158, 3) := by decide +kernel
theorem dX9_queueLength_18 : decode cX9_queueLength 18 = .ok (.ifCond .eq 7, 3) := by decide +kernel
theorem dX9_queueLength_21 : decode cX9_queueLength 21 = .ok (.iconst 1, 1) := by decide +kernel
theorem dX9_queueLength_22 : decode cX9_queueLength 22 = .ok (.goto 4, 3) := by decide +kernel
theorem dX9_queueLength_25 : decode cX9_queueLength 25 = .ok (.iconst 0, 1) := by decide +kernel
theorem dX9_queueLength_26 : decode cX9_queueLength 26 = .ok (.invokestatic 164, 3) := by decide +kernel
theorem dX9_queueLength_29 : decode cX9_queueLength 29 = .ok (.aload_n 0, 1) := by decide +kernel
theorem dX9_queueLength_30 : decode cX9_queueLength 30 = .ok (.getfield 33, 3) := by decide +kernel
theorem dX9_queueLength_33 : decode cX9_queueLength 33 = .ok (.invokevirtual 237, 3) := by decide +kernel
theorem dX9_queueLength_36 : decode cX9_queueLength 36 = .ok (.iload_n 1, 1) := by decide +kernel
theorem dX9_queueLength_37 : decode cX9_queueLength 37 = .ok (.iload_n 2, 1) := by decide +kernel
theorem dX9_queueLength_38 : decode cX9_queueLength 38 = .ok (.invokevirtual 241, 3) := by decide +kernel
theorem dX9_queueLength_41 : decode cX9_queueLength 41 = .ok (.ireturn, 1) := by decide +kernel
theorem dX9_letterCount_0 : decode cX9_letterCount 0 = .ok (.aload_n 0, 1) := by decide +kernel
theorem dX9_letterCount_1 : decode cX9_letterCount 1 = .ok (.getfield 33, 3) := by decide +kernel
theorem dX9_letterCount_4 : decode cX9_letterCount 4 = .ok (.invokevirtual 237, 3) := by decide +kernel
theorem dX9_letterCount_7 : decode cX9_letterCount 7 = .ok (.invokevirtual 246, 3) := by decide +kernel
theorem dX9_letterCount_10 : decode cX9_letterCount 10 = .ok (.ireturn, 1) := by decide +kernel
theorem dX9_writer_0 : decode cX9_writer 0 = .ok (.aload_n 0, 1) := by decide +kernel
theorem dX9_writer_1 : decode cX9_writer 1 = .ok (.getfield 33, 3) := by decide +kernel
theorem dX9_writer_4 : decode cX9_writer 4 = .ok (.invokevirtual 237, 3) := by decide +kernel
theorem dX9_writer_7 : decode cX9_writer 7 = .ok (.iload_n 1, 1) := by decide +kernel
theorem dX9_writer_8 : decode cX9_writer 8 = .ok (.invokevirtual 247, 3) := by decide +kernel
theorem dX9_writer_11 : decode cX9_writer 11 = .ok (.invokestatic 164, 3) := by decide +kernel
theorem dX9_writer_14 : decode cX9_writer 14 = .ok (.aload_n 0, 1) := by decide +kernel
theorem dX9_writer_15 : decode cX9_writer 15 = .ok (.getfield 33, 3) := by decide +kernel
theorem dX9_writer_18 : decode cX9_writer 18 = .ok (.invokevirtual 237, 3) := by decide +kernel
theorem dX9_writer_21 : decode cX9_writer 21 = .ok (.iload_n 1, 1) := by decide +kernel
theorem dX9_writer_22 : decode cX9_writer 22 = .ok (.invokevirtual 248, 3) := by decide +kernel
theorem dX9_writer_25 : decode cX9_writer 25 = .ok (.ireturn, 1) := by decide +kernel
theorem dX9_letterNumber_0 : decode cX9_letterNumber 0 = .ok (.aload_n 0, 1) := by decide +kernel
theorem dX9_letterNumber_1 : decode cX9_letterNumber 1 = .ok (.getfield 33, 3) := by decide +kernel
theorem dX9_letterNumber_4 : decode cX9_letterNumber 4 = .ok (.invokevirtual 237, 3) := by decide +kernel
theorem dX9_letterNumber_7 : decode cX9_letterNumber 7 = .ok (.iload_n 1, 1) := by decide +kernel
theorem dX9_letterNumber_8 : decode cX9_letterNumber 8 = .ok (.invokevirtual 247, 3) := by decide +kernel
theorem dX9_letterNumber_11 : decode cX9_letterNumber 11 = .ok (.invokestatic 164, 3) := by decide +kernel
theorem dX9_letterNumber_14 : decode cX9_letterNumber 14 = .ok (.aload_n 0, 1) := by decide +kernel
theorem dX9_letterNumber_15 : decode cX9_letterNumber 15 = .ok (.getfield 33, 3) := by decide +kernel
theorem dX9_letterNumber_18 : decode cX9_letterNumber 18 = .ok (.invokevirtual 237, 3) := by decide +kernel
theorem dX9_letterNumber_21 : decode cX9_letterNumber 21 = .ok (.iload_n 1, 1) := by decide +kernel
theorem dX9_letterNumber_22 : decode cX9_letterNumber 22 = .ok (.invokevirtual 251, 3) := by decide +kernel
theorem dX9_letterNumber_25 : decode cX9_letterNumber 25 = .ok (.ireturn, 1) := by decide +kernel
theorem dX9_isPromise_0 : decode cX9_isPromise 0 = .ok (.aload_n 0, 1) := by decide +kernel
theorem dX9_isPromise_1 : decode cX9_isPromise 1 = .ok (.getfield 33, 3) := by decide +kernel
theorem dX9_isPromise_4 : decode cX9_isPromise 4 = .ok (.invokevirtual 237, 3) := by decide +kernel
theorem dX9_isPromise_7 : decode cX9_isPromise 7 = .ok (.iload_n 1, 1) := by decide +kernel
theorem dX9_isPromise_8 : decode cX9_isPromise 8 = .ok (.invokevirtual 247, 3) := by decide +kernel
theorem dX9_isPromise_11 : decode cX9_isPromise 11 = .ok (.invokestatic 164, 3) := by decide +kernel
theorem dX9_isPromise_14 : decode cX9_isPromise 14 = .ok (.aload_n 0, 1) := by decide +kernel
theorem dX9_isPromise_15 : decode cX9_isPromise 15 = .ok (.getfield 33, 3) := by decide +kernel
theorem dX9_isPromise_18 : decode cX9_isPromise 18 = .ok (.invokevirtual 237, 3) := by decide +kernel
theorem dX9_isPromise_21 : decode cX9_isPromise 21 = .ok (.iload_n 1, 1) := by decide +kernel
theorem dX9_isPromise_22 : decode cX9_isPromise 22 = .ok (.invokevirtual 254, 3) := by decide +kernel
theorem dX9_isPromise_25 : decode cX9_isPromise 25 = .ok (.iconst (-1), 1) := by decide +kernel
theorem dX9_isPromise_26 : decode cX9_isPromise 26 = .ok (.if_icmp .eq 7, 3) := by decide +kernel
theorem dX9_isPromise_29 : decode cX9_isPromise 29 = .ok (.iconst 1, 1) := by decide +kernel
theorem dX9_isPromise_30 : decode cX9_isPromise 30 = .ok (.goto 4, 3) := by decide +kernel
theorem dX9_isPromise_33 : decode cX9_isPromise 33 = .ok (.iconst 0, 1) := by decide +kernel
theorem dX9_isPromise_34 : decode cX9_isPromise 34 = .ok (.ireturn, 1) := by decide +kernel
theorem dX9_letterState_0 : decode cX9_letterState 0 = .ok (.aload_n 0, 1) := by decide +kernel
theorem dX9_letterState_1 : decode cX9_letterState 1 = .ok (.getfield 33, 3) := by decide +kernel
theorem dX9_letterState_4 : decode cX9_letterState 4 = .ok (.invokevirtual 237, 3) := by decide +kernel
theorem dX9_letterState_7 : decode cX9_letterState 7 = .ok (.iload_n 1, 1) := by decide +kernel
theorem dX9_letterState_8 : decode cX9_letterState 8 = .ok (.invokevirtual 247, 3) := by decide +kernel
theorem dX9_letterState_11 : decode cX9_letterState 11 = .ok (.invokestatic 164, 3) := by decide +kernel
theorem dX9_letterState_14 : decode cX9_letterState 14 = .ok (.aload_n 0, 1) := by decide +kernel
theorem dX9_letterState_15 : decode cX9_letterState 15 = .ok (.getfield 33, 3) := by decide +kernel
theorem dX9_letterState_18 : decode cX9_letterState 18 = .ok (.invokevirtual 237, 3) := by decide +kernel
theorem dX9_letterState_21 : decode cX9_letterState 21 = .ok (.iload_n 1, 1) := by decide +kernel
theorem dX9_letterState_22 : decode cX9_letterState 22 = .ok (.invokevirtual 257, 3) := by decide +kernel
theorem dX9_letterState_25 : decode cX9_letterState 25 = .ok (.ireturn, 1) := by decide +kernel
theorem dX9_awaitedLetter_0 : decode cX9_awaitedLetter 0 = .ok (.iload_n 1, 1) := by decide +kernel
theorem dX9_awaitedLetter_1 : decode cX9_awaitedLetter 1 = .ok (.invokestatic 158, 3) := by decide +kernel
theorem dX9_awaitedLetter_4 : decode cX9_awaitedLetter 4 = .ok (.invokestatic 164, 3) := by decide +kernel
theorem dX9_awaitedLetter_7 : decode cX9_awaitedLetter 7 = .ok (.aload_n 0, 1) := by decide +kernel
theorem dX9_awaitedLetter_8 : decode cX9_awaitedLetter 8 = .ok (.getfield 33, 3) := by decide +kernel
theorem dX9_awaitedLetter_11 : decode cX9_awaitedLetter 11 = .ok (.iload_n 1, 1) := by decide +kernel
theorem dX9_awaitedLetter_12 : decode cX9_awaitedLetter 12 = .ok (.invokevirtual 260, 3) := by decide +kernel
theorem dX9_awaitedLetter_15 : decode cX9_awaitedLetter 15 = .ok (.ireturn, 1) := by decide +kernel
theorem dX9_reasonToWait_0 : decode cX9_reasonToWait 0 = .ok (.iload_n 1, 1) := by decide +kernel
theorem dX9_reasonToWait_1 : decode cX9_reasonToWait 1 = .ok (.invokestatic 158, 3) := by decide +kernel
theorem dX9_reasonToWait_4 : decode cX9_reasonToWait 4 = .ok (.invokestatic 164, 3) := by decide +kernel
theorem dX9_reasonToWait_7 : decode cX9_reasonToWait 7 = .ok (.aload_n 0, 1) := by decide +kernel
theorem dX9_reasonToWait_8 : decode cX9_reasonToWait 8 = .ok (.getfield 33, 3) := by decide +kernel
theorem dX9_reasonToWait_11 : decode cX9_reasonToWait 11 = .ok (.iload_n 1, 1) := by decide +kernel
theorem dX9_reasonToWait_12 : decode cX9_reasonToWait 12 = .ok (.invokevirtual 177, 3) := by decide +kernel
theorem dX9_reasonToWait_15 : decode cX9_reasonToWait 15 = .ok (.invokevirtual 181, 3) := by decide +kernel
theorem dX9_reasonToWait_18 : decode cX9_reasonToWait 18 = .ok (.ifCond .eq 5, 3) := by decide +kernel
theorem dX9_reasonToWait_21 : decode cX9_reasonToWait 21 = .ok (.iconst 0, 1) := by decide +kernel
theorem dX9_reasonToWait_22 : decode cX9_reasonToWait 22 = .ok (.ireturn, 1) := by decide +kernel
theorem dX9_reasonToWait_23 : decode cX9_reasonToWait 23 = .ok (.aload_n 0, 1) := by decide +kernel
theorem dX9_reasonToWait_24 : decode cX9_reasonToWait 24 = .ok (.getfield 33, 3) := by decide +kernel
theorem dX9_reasonToWait_27 : decode cX9_reasonToWait 27 = .ok (.iload_n 1, 1) := by decide +kernel
theorem dX9_reasonToWait_28 : decode cX9_reasonToWait 28 = .ok (.invokevirtual 140, 3) := by decide +kernel
theorem dX9_reasonToWait_31 : decode cX9_reasonToWait 31 = .ok (.invokevirtual 187, 3) := by decide +kernel
theorem dX9_reasonToWait_34 : decode cX9_reasonToWait 34 = .ok (.ifCond .eq 5, 3) := by decide +kernel
theorem dX9_reasonToWait_37 : decode cX9_reasonToWait 37 = .ok (.iconst 1, 1) := by decide +kernel
theorem dX9_reasonToWait_38 : decode cX9_reasonToWait 38 = .ok (.ireturn, 1) := by decide +kernel
theorem dX9_reasonToWait_39 : decode cX9_reasonToWait 39 = .ok (.aload_n 0, 1) := by decide +kernel
theorem dX9_reasonToWait_40 : decode cX9_reasonToWait 40 = .ok (.getfield 33, 3) := by decide +kernel
theorem dX9_reasonToWait_43 : decode cX9_reasonToWait 43 = .ok (.iload_n 1, 1) := by decide +kernel
theorem dX9_reasonToWait_44 : decode cX9_reasonToWait 44 = .ok (.invokevirtual 260, 3) := by decide +kernel
theorem dX9_reasonToWait_47 : decode cX9_reasonToWait 47 = .ok (.istore_n 2, 1) := by decide +kernel
theorem dX9_reasonToWait_48 : decode cX9_reasonToWait 48 = .ok (.iload_n 2, 1) := by decide +kernel
theorem dX9_reasonToWait_49 : decode cX9_reasonToWait 49 = .ok (.iconst (-1), 1) := by decide +kernel
theorem dX9_reasonToWait_50 : decode cX9_reasonToWait 50 = .ok (.if_icmp .ne 5, 3) := by decide +kernel
theorem dX9_reasonToWait_53 : decode cX9_reasonToWait 53 = .ok (.iconst 2, 1) := by decide +kernel
theorem dX9_reasonToWait_54 : decode cX9_reasonToWait 54 = .ok (.ireturn, 1) := by decide +kernel
theorem dX9_reasonToWait_55 : decode cX9_reasonToWait 55 = .ok (.aload_n 0, 1) := by decide +kernel
theorem dX9_reasonToWait_56 : decode cX9_reasonToWait 56 = .ok (.getfield 33, 3) := by decide +kernel
theorem dX9_reasonToWait_59 : decode cX9_reasonToWait 59 = .ok (.invokevirtual 237, 3) := by decide +kernel
theorem dX9_reasonToWait_62 : decode cX9_reasonToWait 62 = .ok (.iload_n 2, 1) := by decide +kernel
theorem dX9_reasonToWait_63 : decode cX9_reasonToWait 63 = .ok (.invokevirtual 257, 3) := by decide +kernel
theorem dX9_reasonToWait_66 : decode cX9_reasonToWait 66 = .ok (.ifCond .ne 7, 3) := by decide +kernel
theorem dX9_reasonToWait_69 : decode cX9_reasonToWait 69 = .ok (.iconst 3, 1) := by decide +kernel
theorem dX9_reasonToWait_70 : decode cX9_reasonToWait 70 = .ok (.goto 4, 3) := by decide +kernel
theorem dX9_reasonToWait_73 : decode cX9_reasonToWait 73 = .ok (.iconst 4, 1) := by decide +kernel
theorem dX9_reasonToWait_74 : decode cX9_reasonToWait 74 = .ok (.ireturn, 1) := by decide +kernel
theorem dX9_duplicateCount_0 : decode cX9_duplicateCount 0 = .ok (.aload_n 0, 1) := by decide +kernel
theorem dX9_duplicateCount_1 : decode cX9_duplicateCount 1 = .ok (.getfield 33, 3) := by decide +kernel
theorem dX9_duplicateCount_4 : decode cX9_duplicateCount 4 = .ok (.invokevirtual 263, 3) := by decide +kernel
theorem dX9_duplicateCount_7 : decode cX9_duplicateCount 7 = .ok (.ireturn, 1) := by decide +kernel
theorem dX9_keptPromises_0 : decode cX9_keptPromises 0 = .ok (.iload_n 1, 1) := by decide +kernel
theorem dX9_keptPromises_1 : decode cX9_keptPromises 1 = .ok (.invokestatic 158, 3) := by decide +kernel
theorem dX9_keptPromises_4 : decode cX9_keptPromises 4 = .ok (.invokestatic 164, 3) := by decide +kernel
theorem dX9_keptPromises_7 : decode cX9_keptPromises 7 = .ok (.aload_n 0, 1) := by decide +kernel
theorem dX9_keptPromises_8 : decode cX9_keptPromises 8 = .ok (.getfield 33, 3) := by decide +kernel
theorem dX9_keptPromises_11 : decode cX9_keptPromises 11 = .ok (.iload_n 1, 1) := by decide +kernel
theorem dX9_keptPromises_12 : decode cX9_keptPromises 12 = .ok (.invokevirtual 177, 3) := by decide +kernel
theorem dX9_keptPromises_15 : decode cX9_keptPromises 15 = .ok (.invokevirtual 266, 3) := by decide +kernel
theorem dX9_keptPromises_18 : decode cX9_keptPromises 18 = .ok (.ireturn, 1) := by decide +kernel
theorem dX9_longestWait_0 : decode cX9_longestWait 0 = .ok (.iload_n 1, 1) := by decide +kernel
theorem dX9_longestWait_1 : decode cX9_longestWait 1 = .ok (.invokestatic 158, 3) := by decide +kernel
theorem dX9_longestWait_4 : decode cX9_longestWait 4 = .ok (.invokestatic 164, 3) := by decide +kernel
theorem dX9_longestWait_7 : decode cX9_longestWait 7 = .ok (.aload_n 0, 1) := by decide +kernel
theorem dX9_longestWait_8 : decode cX9_longestWait 8 = .ok (.getfield 33, 3) := by decide +kernel
theorem dX9_longestWait_11 : decode cX9_longestWait 11 = .ok (.iload_n 1, 1) := by decide +kernel
theorem dX9_longestWait_12 : decode cX9_longestWait 12 = .ok (.invokevirtual 177, 3) := by decide +kernel
theorem dX9_longestWait_15 : decode cX9_longestWait 15 = .ok (.invokevirtual 269, 3) := by decide +kernel
theorem dX9_longestWait_18 : decode cX9_longestWait 18 = .ok (.ireturn, 1) := by decide +kernel
theorem dX9_meanWait_0 : decode cX9_meanWait 0 = .ok (.iload_n 1, 1) := by decide +kernel
theorem dX9_meanWait_1 : decode cX9_meanWait 1 = .ok (.invokestatic 158, 3) := by decide +kernel
theorem dX9_meanWait_4 : decode cX9_meanWait 4 = .ok (.invokestatic 164, 3) := by decide +kernel
theorem dX9_meanWait_7 : decode cX9_meanWait 7 = .ok (.aload_n 0, 1) := by decide +kernel
theorem dX9_meanWait_8 : decode cX9_meanWait 8 = .ok (.getfield 33, 3) := by decide +kernel
theorem dX9_meanWait_11 : decode cX9_meanWait 11 = .ok (.iload_n 1, 1) := by decide +kernel
theorem dX9_meanWait_12 : decode cX9_meanWait 12 = .ok (.invokevirtual 177, 3) := by decide +kernel
theorem dX9_meanWait_15 : decode cX9_meanWait 15 = .ok (.astore_n 2, 1) := by decide +kernel
theorem dX9_meanWait_16 : decode cX9_meanWait 16 = .ok (.aload_n 2, 1) := by decide +kernel
theorem dX9_meanWait_17 : decode cX9_meanWait 17 = .ok (.invokevirtual 272, 3) := by decide +kernel
theorem dX9_meanWait_20 : decode cX9_meanWait 20 = .ok (.istore_n 3, 1) := by decide +kernel
theorem dX9_meanWait_21 : decode cX9_meanWait 21 = .ok (.iload_n 3, 1) := by decide +kernel
theorem dX9_meanWait_22 : decode cX9_meanWait 22 = .ok (.ifCond .ne 7, 3) := by decide +kernel
theorem dX9_meanWait_25 : decode cX9_meanWait 25 = .ok (.dconst 0, 1) := by decide +kernel
theorem dX9_meanWait_26 : decode cX9_meanWait 26 = .ok (.goto 11, 3) := by decide +kernel
theorem dX9_meanWait_29 : decode cX9_meanWait 29 = .ok (.aload_n 2, 1) := by decide +kernel
theorem dX9_meanWait_30 : decode cX9_meanWait 30 = .ok (.invokevirtual 275, 3) := by decide +kernel
theorem dX9_meanWait_33 : decode cX9_meanWait 33 = .ok (.i2d, 1) := by decide +kernel
theorem dX9_meanWait_34 : decode cX9_meanWait 34 = .ok (.iload_n 3, 1) := by decide +kernel
theorem dX9_meanWait_35 : decode cX9_meanWait 35 = .ok (.i2d, 1) := by decide +kernel
theorem dX9_meanWait_36 : decode cX9_meanWait 36 = .ok (.ddiv, 1) := by decide +kernel
theorem dX9_meanWait_37 : decode cX9_meanWait 37 = .ok (.dreturn, 1) := by decide +kernel
theorem dX9_meanTravel_0 : decode cX9_meanTravel 0 = .ok (.aload_n 0, 1) := by decide +kernel
theorem dX9_meanTravel_1 : decode cX9_meanTravel 1 = .ok (.getfield 33, 3) := by decide +kernel
theorem dX9_meanTravel_4 : decode cX9_meanTravel 4 = .ok (.invokevirtual 237, 3) := by decide +kernel
theorem dX9_meanTravel_7 : decode cX9_meanTravel 7 = .ok (.invokevirtual 278, 3) := by decide +kernel
theorem dX9_meanTravel_10 : decode cX9_meanTravel 10 = .ok (.istore_n 1, 1) := by decide +kernel
theorem dX9_meanTravel_11 : decode cX9_meanTravel 11 = .ok (.iload_n 1, 1) := by decide +kernel
theorem dX9_meanTravel_12 : decode cX9_meanTravel 12 = .ok (.ifCond .ne 7, 3) := by decide +kernel
theorem dX9_meanTravel_15 : decode cX9_meanTravel 15 = .ok (.fconst 0, 1) := by decide +kernel
theorem dX9_meanTravel_16 : decode cX9_meanTravel 16 = .ok (.goto 17, 3) := by decide +kernel
theorem dX9_meanTravel_19 : decode cX9_meanTravel 19 = .ok (.aload_n 0, 1) := by decide +kernel
theorem dX9_meanTravel_20 : decode cX9_meanTravel 20 = .ok (.getfield 33, 3) := by decide +kernel
theorem dX9_meanTravel_23 : decode cX9_meanTravel 23 = .ok (.invokevirtual 237, 3) := by decide +kernel
theorem dX9_meanTravel_26 : decode cX9_meanTravel 26 = .ok (.invokevirtual 281, 3) := by decide +kernel
theorem dX9_meanTravel_29 : decode cX9_meanTravel 29 = .ok (.i2f, 1) := by decide +kernel
theorem dX9_meanTravel_30 : decode cX9_meanTravel 30 = .ok (.iload_n 1, 1) := by decide +kernel
theorem dX9_meanTravel_31 : decode cX9_meanTravel 31 = .ok (.i2f, 1) := by decide +kernel
theorem dX9_meanTravel_32 : decode cX9_meanTravel 32 = .ok (.fdiv, 1) := by decide +kernel
theorem dX9_meanTravel_33 : decode cX9_meanTravel 33 = .ok (.freturn, 1) := by decide +kernel
theorem dX9_contradictions_0 : decode cX9_contradictions 0 = .ok (.aload_n 0, 1) := by decide +kernel
theorem dX9_contradictions_1 : decode cX9_contradictions 1 = .ok (.getfield 33, 3) := by decide +kernel
theorem dX9_contradictions_4 : decode cX9_contradictions 4 = .ok (.invokevirtual 284, 3) := by decide +kernel
theorem dX9_contradictions_7 : decode cX9_contradictions 7 = .ok (.ireturn, 1) := by decide +kernel
theorem dX9_arrivalDay_0 : decode cX9_arrivalDay 0 = .ok (.aload_n 0, 1) := by decide +kernel
theorem dX9_arrivalDay_1 : decode cX9_arrivalDay 1 = .ok (.getfield 33, 3) := by decide +kernel
theorem dX9_arrivalDay_4 : decode cX9_arrivalDay 4 = .ok (.invokevirtual 237, 3) := by decide +kernel
theorem dX9_arrivalDay_7 : decode cX9_arrivalDay 7 = .ok (.iload_n 1, 1) := by decide +kernel
theorem dX9_arrivalDay_8 : decode cX9_arrivalDay 8 = .ok (.invokevirtual 247, 3) := by decide +kernel
theorem dX9_arrivalDay_11 : decode cX9_arrivalDay 11 = .ok (.invokestatic 164, 3) := by decide +kernel
theorem dX9_arrivalDay_14 : decode cX9_arrivalDay 14 = .ok (.aload_n 0, 1) := by decide +kernel
theorem dX9_arrivalDay_15 : decode cX9_arrivalDay 15 = .ok (.getfield 33, 3) := by decide +kernel
theorem dX9_arrivalDay_18 : decode cX9_arrivalDay 18 = .ok (.invokevirtual 237, 3) := by decide +kernel
theorem dX9_arrivalDay_21 : decode cX9_arrivalDay 21 = .ok (.iload_n 1, 1) := by decide +kernel
theorem dX9_arrivalDay_22 : decode cX9_arrivalDay 22 = .ok (.invokevirtual 257, 3) := by decide +kernel
theorem dX9_arrivalDay_25 : decode cX9_arrivalDay 25 = .ok (.iconst 2, 1) := by decide +kernel
theorem dX9_arrivalDay_26 : decode cX9_arrivalDay 26 = .ok (.if_icmp .ne 15, 3) := by decide +kernel
theorem dX9_arrivalDay_29 : decode cX9_arrivalDay 29 = .ok (.aload_n 0, 1) := by decide +kernel
theorem dX9_arrivalDay_30 : decode cX9_arrivalDay 30 = .ok (.getfield 33, 3) := by decide +kernel
theorem dX9_arrivalDay_33 : decode cX9_arrivalDay 33 = .ok (.invokevirtual 237, 3) := by decide +kernel
theorem dX9_arrivalDay_36 : decode cX9_arrivalDay 36 = .ok (.iload_n 1, 1) := by decide +kernel
theorem dX9_arrivalDay_37 : decode cX9_arrivalDay 37 = .ok (.invokevirtual 287, 3) := by decide +kernel
theorem dX9_arrivalDay_40 : decode cX9_arrivalDay 40 = .ok (.ireturn, 1) := by decide +kernel
theorem dX9_arrivalDay_41 : decode cX9_arrivalDay 41 = .ok (.aload_n 0, 1) := by decide +kernel
theorem dX9_arrivalDay_42 : decode cX9_arrivalDay 42 = .ok (.getfield 37, 3) := by decide +kernel
theorem dX9_arrivalDay_45 : decode cX9_arrivalDay 45 = .ok (.invokevirtual 237, 3) := by decide +kernel
theorem dX9_arrivalDay_48 : decode cX9_arrivalDay 48 = .ok (.astore_n 2, 1) := by decide +kernel
theorem dX9_arrivalDay_49 : decode cX9_arrivalDay 49 = .ok (.aload_n 2, 1) := by decide +kernel
theorem dX9_arrivalDay_50 : decode cX9_arrivalDay 50 = .ok (.aload_n 0, 1) := by decide +kernel
theorem dX9_arrivalDay_51 : decode cX9_arrivalDay 51 = .ok (.getfield 33, 3) := by decide +kernel
theorem dX9_arrivalDay_54 : decode cX9_arrivalDay 54 = .ok (.invokevirtual 237, 3) := by decide +kernel
theorem dX9_arrivalDay_57 : decode cX9_arrivalDay 57 = .ok (.invokevirtual 290, 3) := by decide +kernel
theorem dX9_arrivalDay_60 : decode cX9_arrivalDay 60 = .ok (.iconst 1, 1) := by decide +kernel
theorem dX9_arrivalDay_61 : decode cX9_arrivalDay 61 = .ok (.istore_n 3, 1) := by decide +kernel
theorem dX9_arrivalDay_62 : decode cX9_arrivalDay 62 = .ok (.iload_n 3, 1) := by decide +kernel
theorem dX9_arrivalDay_63 : decode cX9_arrivalDay 63 = .ok (.sipush 400, 3) := by decide +kernel
theorem dX9_arrivalDay_66 : decode cX9_arrivalDay 66 = .ok (.if_icmp .gt 42, 3) := by decide +kernel
theorem dX9_arrivalDay_69 : decode cX9_arrivalDay 69 = .ok (.aload_n 2, 1) := by decide +kernel
theorem dX9_arrivalDay_70 : decode cX9_arrivalDay 70 = .ok (.aload_n 0, 1) := by decide +kernel
theorem dX9_arrivalDay_71 : decode cX9_arrivalDay 71 = .ok (.getfield 33, 3) := by decide +kernel
theorem dX9_arrivalDay_74 : decode cX9_arrivalDay 74 = .ok (.invokevirtual 152, 3) := by decide +kernel
theorem dX9_arrivalDay_77 : decode cX9_arrivalDay 77 = .ok (.iload_n 3, 1) := by decide +kernel
theorem dX9_arrivalDay_78 : decode cX9_arrivalDay 78 = .ok (.iadd, 1) := by decide +kernel
theorem dX9_arrivalDay_79 : decode cX9_arrivalDay 79 = .ok (.invokevirtual 293, 3) := by decide +kernel
theorem dX9_arrivalDay_82 : decode cX9_arrivalDay 82 = .ok (.pop, 1) := by decide +kernel
theorem dX9_arrivalDay_83 : decode cX9_arrivalDay 83 = .ok (.aload_n 2, 1) := by decide +kernel
theorem dX9_arrivalDay_84 : decode cX9_arrivalDay 84 = .ok (.iload_n 1, 1) := by decide +kernel
theorem dX9_arrivalDay_85 : decode cX9_arrivalDay 85 = .ok (.invokevirtual 257, 3) := by decide +kernel
theorem dX9_arrivalDay_88 : decode cX9_arrivalDay 88 = .ok (.iconst 2, 1) := by decide +kernel
theorem dX9_arrivalDay_89 : decode cX9_arrivalDay 89 = .ok (.if_icmp .ne 13, 3) := by decide +kernel
theorem dX9_arrivalDay_92 : decode cX9_arrivalDay 92 = .ok (.aload_n 0, 1) := by decide +kernel
theorem dX9_arrivalDay_93 : decode cX9_arrivalDay 93 = .ok (.getfield 33, 3) := by decide +kernel
theorem dX9_arrivalDay_96 : decode cX9_arrivalDay 96 = .ok (.invokevirtual 152, 3) := by decide +kernel
theorem dX9_arrivalDay_99 : decode cX9_arrivalDay 99 = .ok (.iload_n 3, 1) := by decide +kernel
theorem dX9_arrivalDay_100 : decode cX9_arrivalDay 100 = .ok (.iadd, 1) := by decide +kernel
theorem dX9_arrivalDay_101 : decode cX9_arrivalDay 101 = .ok (.ireturn, 1) := by decide +kernel
theorem dX9_arrivalDay_102 : decode cX9_arrivalDay 102 = .ok (.iinc 3 1, 3) := by decide +kernel
theorem dX9_arrivalDay_105 : decode cX9_arrivalDay 105 = .ok (.goto (-43), 3) := by decide +kernel
theorem dX9_arrivalDay_108 : decode cX9_arrivalDay 108 = .ok (.iconst (-1), 1) := by decide +kernel
theorem dX9_arrivalDay_109 : decode cX9_arrivalDay 109 = .ok (.ireturn, 1) := by decide +kernel
theorem dX9_daysUntilTurn_0 : decode cX9_daysUntilTurn 0 = .ok (.iload_n 1, 1) := by decide +kernel
theorem dX9_daysUntilTurn_1 : decode cX9_daysUntilTurn 1 = .ok (.invokestatic 158, 3) := by decide +kernel
theorem dX9_daysUntilTurn_4 : decode cX9_daysUntilTurn 4 = .ok (.invokestatic 164, 3) := by decide +kernel
theorem dX9_daysUntilTurn_7 : decode cX9_daysUntilTurn 7 = .ok (.aload_n 0, 1) := by decide +kernel
theorem dX9_daysUntilTurn_8 : decode cX9_daysUntilTurn 8 = .ok (.getfield 33, 3) := by decide +kernel
theorem dX9_daysUntilTurn_11 : decode cX9_daysUntilTurn 11 = .ok (.iload_n 1, 1) := by decide +kernel
theorem dX9_daysUntilTurn_12 : decode cX9_daysUntilTurn 12 = .ok (.invokevirtual 177, 3) := by decide +kernel
theorem dX9_daysUntilTurn_15 : decode cX9_daysUntilTurn 15 = .ok (.invokevirtual 181, 3) := by decide +kernel
theorem dX9_daysUntilTurn_18 : decode cX9_daysUntilTurn 18 = .ok (.ifCond .eq 5, 3) := by decide +kernel
theorem dX9_daysUntilTurn_21 : decode cX9_daysUntilTurn 21 = .ok (.iconst 0, 1) := by decide +kernel
theorem dX9_daysUntilTurn_22 : decode cX9_daysUntilTurn 22 = .ok (.ireturn, 1) := by decide +kernel
theorem dX9_daysUntilTurn_23 : decode cX9_daysUntilTurn 23 = .ok (.aload_n 0, 1) := by decide +kernel
theorem dX9_daysUntilTurn_24 : decode cX9_daysUntilTurn 24 = .ok (.getfield 37, 3) := by decide +kernel
theorem dX9_daysUntilTurn_27 : decode cX9_daysUntilTurn 27 = .ok (.aload_n 0, 1) := by decide +kernel
theorem dX9_daysUntilTurn_28 : decode cX9_daysUntilTurn 28 = .ok (.getfield 33, 3) := by decide +kernel
theorem dX9_daysUntilTurn_31 : decode cX9_daysUntilTurn 31 = .ok (.invokevirtual 76, 3) := by decide +kernel
theorem dX9_daysUntilTurn_34 : decode cX9_daysUntilTurn 34 = .ok (.iconst 1, 1) := by decide +kernel
theorem dX9_daysUntilTurn_35 : decode cX9_daysUntilTurn 35 = .ok (.istore_n 2, 1) := by decide +kernel
theorem dX9_daysUntilTurn_36 : decode cX9_daysUntilTurn 36 = .ok (.iload_n 2, 1) := by decide +kernel
theorem dX9_daysUntilTurn_37 : decode cX9_daysUntilTurn 37 = .ok (.sipush 400, 3) := by decide +kernel
theorem dX9_daysUntilTurn_40 : decode cX9_daysUntilTurn 40 = .ok (.if_icmp .gt 46, 3) := by decide +kernel
theorem dX9_daysUntilTurn_43 : decode cX9_daysUntilTurn 43 = .ok (.aload_n 0, 1) := by decide +kernel
theorem dX9_daysUntilTurn_44 : decode cX9_daysUntilTurn 44 = .ok (.getfield 37, 3) := by decide +kernel
theorem dX9_daysUntilTurn_47 : decode cX9_daysUntilTurn 47 = .ok (.invokevirtual 237, 3) := by decide +kernel
theorem dX9_daysUntilTurn_50 : decode cX9_daysUntilTurn 50 = .ok (.invokevirtual 296, 3) := by decide +kernel
theorem dX9_daysUntilTurn_53 : decode cX9_daysUntilTurn 53 = .ok (.ifCond .ne 33, 3) := by decide +kernel
theorem dX9_daysUntilTurn_56 : decode cX9_daysUntilTurn 56 = .ok (.aload_n 0, 1) := by decide +kernel
theorem dX9_daysUntilTurn_57 : decode cX9_daysUntilTurn 57 = .ok (.getfield 37, 3) := by decide +kernel
theorem dX9_daysUntilTurn_60 : decode cX9_daysUntilTurn 60 = .ok (.invokevirtual 299, 3) := by decide +kernel
theorem dX9_daysUntilTurn_63 : decode cX9_daysUntilTurn 63 = .ok (.pop, 1) := by decide +kernel
theorem dX9_daysUntilTurn_64 : decode cX9_daysUntilTurn 64 = .ok (.aload_n 0, 1) := by decide +kernel
theorem dX9_daysUntilTurn_65 : decode cX9_daysUntilTurn 65 = .ok (.getfield 37, 3) := by decide +kernel
theorem dX9_daysUntilTurn_68 : decode cX9_daysUntilTurn 68 = .ok (.iload_n 1, 1) := by decide +kernel
theorem dX9_daysUntilTurn_69 : decode cX9_daysUntilTurn 69 = .ok (.invokevirtual 177, 3) := by decide +kernel
theorem dX9_daysUntilTurn_72 : decode cX9_daysUntilTurn 72 = .ok (.invokevirtual 181, 3) := by decide +kernel
theorem dX9_daysUntilTurn_75 : decode cX9_daysUntilTurn 75 = .ok (.ifCond .eq 5, 3) := by decide +kernel
theorem dX9_daysUntilTurn_78 : decode cX9_daysUntilTurn 78 = .ok (.iload_n 2, 1) := by decide +kernel
theorem dX9_daysUntilTurn_79 : decode cX9_daysUntilTurn 79 = .ok (.ireturn, 1) := by decide +kernel
theorem dX9_daysUntilTurn_80 : decode cX9_daysUntilTurn 80 = .ok (.iinc 2 1, 3) := by decide +kernel
theorem dX9_daysUntilTurn_83 : decode cX9_daysUntilTurn 83 = .ok (.goto (-47), 3) := by decide +kernel
theorem dX9_daysUntilTurn_86 : decode cX9_daysUntilTurn 86 = .ok (.iconst (-1), 1) := by decide +kernel
theorem dX9_daysUntilTurn_87 : decode cX9_daysUntilTurn 87 = .ok (.ireturn, 1) := by decide +kernel
theorem dX9_daysUntilEqual_0 : decode cX9_daysUntilEqual 0 = .ok (.aload_n 0, 1) := by decide +kernel
theorem dX9_daysUntilEqual_1 : decode cX9_daysUntilEqual 1 = .ok (.getfield 33, 3) := by decide +kernel
theorem dX9_daysUntilEqual_4 : decode cX9_daysUntilEqual 4 = .ok (.invokevirtual 210, 3) := by decide +kernel
theorem dX9_daysUntilEqual_7 : decode cX9_daysUntilEqual 7 = .ok (.ifCond .eq 5, 3) := by decide +kernel
theorem dX9_daysUntilEqual_10 : decode cX9_daysUntilEqual 10 = .ok (.iconst 0, 1) := by decide +kernel
theorem dX9_daysUntilEqual_11 : decode cX9_daysUntilEqual 11 = .ok (.ireturn, 1) := by decide +kernel
theorem dX9_daysUntilEqual_12 : decode cX9_daysUntilEqual 12 = .ok (.aload_n 0, 1) := by decide +kernel
theorem dX9_daysUntilEqual_13 : decode cX9_daysUntilEqual 13 = .ok (.getfield 37, 3) := by decide +kernel
theorem dX9_daysUntilEqual_16 : decode cX9_daysUntilEqual 16 = .ok (.aload_n 0, 1) := by decide +kernel
theorem dX9_daysUntilEqual_17 : decode cX9_daysUntilEqual 17 = .ok (.getfield 33, 3) := by decide +kernel
theorem dX9_daysUntilEqual_20 : decode cX9_daysUntilEqual 20 = .ok (.invokevirtual 76, 3) := by decide +kernel
theorem dX9_daysUntilEqual_23 : decode cX9_daysUntilEqual 23 = .ok (.iconst 1, 1) := by decide +kernel
theorem dX9_daysUntilEqual_24 : decode cX9_daysUntilEqual 24 = .ok (.istore_n 1, 1) := by decide +kernel
theorem dX9_daysUntilEqual_25 : decode cX9_daysUntilEqual 25 = .ok (.iload_n 1, 1) := by decide +kernel
theorem dX9_daysUntilEqual_26 : decode cX9_daysUntilEqual 26 = .ok (.sipush 400, 3) := by decide +kernel
theorem dX9_daysUntilEqual_29 : decode cX9_daysUntilEqual 29 = .ok (.if_icmp .gt 42, 3) := by decide +kernel
theorem dX9_daysUntilEqual_32 : decode cX9_daysUntilEqual 32 = .ok (.aload_n 0, 1) := by decide +kernel
theorem dX9_daysUntilEqual_33 : decode cX9_daysUntilEqual 33 = .ok (.getfield 37, 3) := by decide +kernel
theorem dX9_daysUntilEqual_36 : decode cX9_daysUntilEqual 36 = .ok (.invokevirtual 237, 3) := by decide +kernel
theorem dX9_daysUntilEqual_39 : decode cX9_daysUntilEqual 39 = .ok (.invokevirtual 296, 3) := by decide +kernel
theorem dX9_daysUntilEqual_42 : decode cX9_daysUntilEqual 42 = .ok (.ifCond .ne 29, 3) := by decide +kernel
theorem dX9_daysUntilEqual_45 : decode cX9_daysUntilEqual 45 = .ok (.aload_n 0, 1) := by decide +kernel
theorem dX9_daysUntilEqual_46 : decode cX9_daysUntilEqual 46 = .ok (.getfield 37, 3) := by decide +kernel
theorem dX9_daysUntilEqual_49 : decode cX9_daysUntilEqual 49 = .ok (.invokevirtual 299, 3) := by decide +kernel
theorem dX9_daysUntilEqual_52 : decode cX9_daysUntilEqual 52 = .ok (.pop, 1) := by decide +kernel
theorem dX9_daysUntilEqual_53 : decode cX9_daysUntilEqual 53 = .ok (.aload_n 0, 1) := by decide +kernel
theorem dX9_daysUntilEqual_54 : decode cX9_daysUntilEqual 54 = .ok (.getfield 37, 3) := by decide +kernel
theorem dX9_daysUntilEqual_57 : decode cX9_daysUntilEqual 57 = .ok (.invokevirtual 210, 3) := by decide +kernel
theorem dX9_daysUntilEqual_60 : decode cX9_daysUntilEqual 60 = .ok (.ifCond .eq 5, 3) := by decide +kernel
theorem dX9_daysUntilEqual_63 : decode cX9_daysUntilEqual 63 = .ok (.iload_n 1, 1) := by decide +kernel
theorem dX9_daysUntilEqual_64 : decode cX9_daysUntilEqual 64 = .ok (.ireturn, 1) := by decide +kernel
theorem dX9_daysUntilEqual_65 : decode cX9_daysUntilEqual 65 = .ok (.iinc 1 1, 3) := by decide +kernel
theorem dX9_daysUntilEqual_68 : decode cX9_daysUntilEqual 68 = .ok (.goto (-43), 3) := by decide +kernel
theorem dX9_daysUntilEqual_71 : decode cX9_daysUntilEqual 71 = .ok (.iconst (-1), 1) := by decide +kernel
theorem dX9_daysUntilEqual_72 : decode cX9_daysUntilEqual 72 = .ok (.ireturn, 1) := by decide +kernel
theorem dX9_fastestPass_0 : decode cX9_fastestPass 0 = .ok (.iload_n 1, 1) := by decide +kernel
theorem dX9_fastestPass_1 : decode cX9_fastestPass 1 = .ok (.invokestatic 158, 3) := by decide +kernel
theorem dX9_fastestPass_4 : decode cX9_fastestPass 4 = .ok (.invokestatic 164, 3) := by decide +kernel
theorem dX9_fastestPass_7 : decode cX9_fastestPass 7 = .ok (.aload_n 0, 1) := by decide +kernel
theorem dX9_fastestPass_8 : decode cX9_fastestPass 8 = .ok (.getfield 37, 3) := by decide +kernel
theorem dX9_fastestPass_11 : decode cX9_fastestPass 11 = .ok (.invokevirtual 237, 3) := by decide +kernel
theorem dX9_fastestPass_14 : decode cX9_fastestPass 14 = .ok (.astore_n 2, 1) := by decide +kernel
theorem dX9_fastestPass_15 : decode cX9_fastestPass 15 = .ok (.aload_n 2, 1) := by decide +kernel
theorem dX9_fastestPass_16 : decode cX9_fastestPass 16 = .ok (.aload_n 0, 1) := by decide +kernel
theorem dX9_fastestPass_17 : decode cX9_fastestPass 17 = .ok (.getfield 33, 3) := by decide +kernel
theorem dX9_fastestPass_20 : decode cX9_fastestPass 20 = .ok (.invokevirtual 237, 3) := by decide +kernel
theorem dX9_fastestPass_23 : decode cX9_fastestPass 23 = .ok (.invokevirtual 290, 3) := by decide +kernel
theorem dX9_fastestPass_26 : decode cX9_fastestPass 26 = .ok (.aload_n 2, 1) := by decide +kernel
theorem dX9_fastestPass_27 : decode cX9_fastestPass 27 = .ok (.invokevirtual 246, 3) := by decide +kernel
theorem dX9_fastestPass_30 : decode cX9_fastestPass 30 = .ok (.istore_n 3, 1) := by decide +kernel
theorem dX9_fastestPass_31 : decode cX9_fastestPass 31 = .ok (.aload_n 0, 1) := by decide +kernel
theorem dX9_fastestPass_32 : decode cX9_fastestPass 32 = .ok (.getfield 33, 3) := by decide +kernel
theorem dX9_fastestPass_35 : decode cX9_fastestPass 35 = .ok (.invokevirtual 213, 3) := by decide +kernel
theorem dX9_fastestPass_38 : decode cX9_fastestPass 38 = .ok (.invokevirtual 217, 3) := by decide +kernel
theorem dX9_fastestPass_41 : decode cX9_fastestPass 41 = .ok (.istore 4, 2) := by decide +kernel
theorem dX9_fastestPass_43 : decode cX9_fastestPass 43 = .ok (.iconst 0, 1) := by decide +kernel
theorem dX9_fastestPass_44 : decode cX9_fastestPass 44 = .ok (.istore 5, 2) := by decide +kernel
theorem dX9_fastestPass_46 : decode cX9_fastestPass 46 = .ok (.iload 5, 2) := by decide +kernel
theorem dX9_fastestPass_48 : decode cX9_fastestPass 48 = .ok (.iload 4, 2) := by decide +kernel
theorem dX9_fastestPass_50 : decode cX9_fastestPass 50 = .ok (.if_icmp .ge 27, 3) := by decide +kernel
theorem dX9_fastestPass_53 : decode cX9_fastestPass 53 = .ok (.aload_n 2, 1) := by decide +kernel
theorem dX9_fastestPass_54 : decode cX9_fastestPass 54 = .ok (.iload_n 1, 1) := by decide +kernel
theorem dX9_fastestPass_55 : decode cX9_fastestPass 55 = .ok (.iconst 0, 1) := by decide +kernel
theorem dX9_fastestPass_56 : decode cX9_fastestPass 56 = .ok (.iconst (-1), 1) := by decide +kernel
theorem dX9_fastestPass_57 : decode cX9_fastestPass 57 = .ok (.iconst (-1), 1) := by decide +kernel
theorem dX9_fastestPass_58 : decode cX9_fastestPass 58 = .ok (.iload 5, 2) := by decide +kernel
theorem dX9_fastestPass_60 : decode cX9_fastestPass 60 = .ok (.aload_n 0, 1) := by decide +kernel
theorem dX9_fastestPass_61 : decode cX9_fastestPass 61 = .ok (.getfield 33, 3) := by decide +kernel
theorem dX9_fastestPass_64 : decode cX9_fastestPass 64 = .ok (.invokevirtual 152, 3) := by decide +kernel
theorem dX9_fastestPass_67 : decode cX9_fastestPass 67 = .ok (.invokevirtual 301, 3) := by decide +kernel
theorem dX9_fastestPass_70 : decode cX9_fastestPass 70 = .ok (.pop, 1) := by decide +kernel
theorem dX9_fastestPass_71 : decode cX9_fastestPass 71 = .ok (.iinc 5 1, 3) := by decide +kernel
theorem dX9_fastestPass_74 : decode cX9_fastestPass 74 = .ok (.goto (-28), 3) := by decide +kernel
theorem dX9_fastestPass_77 : decode cX9_fastestPass 77 = .ok (.iconst 1, 1) := by decide +kernel
theorem dX9_fastestPass_78 : decode cX9_fastestPass 78 = .ok (.istore 5, 2) := by decide +kernel
theorem dX9_fastestPass_80 : decode cX9_fastestPass 80 = .ok (.iload 5, 2) := by decide +kernel
theorem dX9_fastestPass_82 : decode cX9_fastestPass 82 = .ok (.sipush 400, 3) := by decide +kernel
theorem dX9_fastestPass_85 : decode cX9_fastestPass 85 = .ok (.if_icmp .gt 55, 3) := by decide +kernel
theorem dX9_fastestPass_88 : decode cX9_fastestPass 88 = .ok (.aload_n 2, 1) := by decide +kernel
theorem dX9_fastestPass_89 : decode cX9_fastestPass 89 = .ok (.aload_n 0, 1) := by decide +kernel
theorem dX9_fastestPass_90 : decode cX9_fastestPass 90 = .ok (.getfield 33, 3) := by decide +kernel
theorem dX9_fastestPass_93 : decode cX9_fastestPass 93 = .ok (.invokevirtual 152, 3) := by decide +kernel
theorem dX9_fastestPass_96 : decode cX9_fastestPass 96 = .ok (.iload 5, 2) := by decide +kernel
theorem dX9_fastestPass_98 : decode cX9_fastestPass 98 = .ok (.iadd, 1) := by decide +kernel
theorem dX9_fastestPass_99 : decode cX9_fastestPass 99 = .ok (.invokevirtual 293, 3) := by decide +kernel
theorem dX9_fastestPass_102 : decode cX9_fastestPass 102 = .ok (.pop, 1) := by decide +kernel
theorem dX9_fastestPass_103 : decode cX9_fastestPass 103 = .ok (.iconst 0, 1) := by decide +kernel
theorem dX9_fastestPass_104 : decode cX9_fastestPass 104 = .ok (.istore 6, 2) := by decide +kernel
theorem dX9_fastestPass_106 : decode cX9_fastestPass 106 = .ok (.iload 6, 2) := by decide +kernel
theorem dX9_fastestPass_108 : decode cX9_fastestPass 108 = .ok (.iload 4, 2) := by decide +kernel
theorem dX9_fastestPass_110 : decode cX9_fastestPass 110 = .ok (.if_icmp .ge 24, 3) := by decide +kernel
theorem dX9_fastestPass_113 : decode cX9_fastestPass 113 = .ok (.aload_n 2, 1) := by decide +kernel
theorem dX9_fastestPass_114 : decode cX9_fastestPass 114 = .ok (.iload_n 3, 1) := by decide +kernel
theorem dX9_fastestPass_115 : decode cX9_fastestPass 115 = .ok (.iload 6, 2) := by decide +kernel
theorem dX9_fastestPass_117 : decode cX9_fastestPass 117 = .ok (.iadd, 1) := by decide +kernel
theorem dX9_fastestPass_118 : decode cX9_fastestPass 118 = .ok (.invokevirtual 257, 3) := by decide +kernel
theorem dX9_fastestPass_121 : decode cX9_fastestPass 121 = .ok (.iconst 2, 1) := by decide +kernel
theorem dX9_fastestPass_122 : decode cX9_fastestPass 122 = .ok (.if_icmp .ne 6, 3) := by decide +kernel
theorem dX9_fastestPass_125 : decode cX9_fastestPass 125 = .ok (.iload 6, 2) := by decide +kernel
theorem dX9_fastestPass_127 : decode cX9_fastestPass 127 = .ok (.ireturn, 1) := by decide +kernel
theorem dX9_fastestPass_128 : decode cX9_fastestPass 128 = .ok (.iinc 6 1, 3) := by decide +kernel
theorem dX9_fastestPass_131 : decode cX9_fastestPass 131 = .ok (.goto (-25), 3) := by decide +kernel
theorem dX9_fastestPass_134 : decode cX9_fastestPass 134 = .ok (.iinc 5 1, 3) := by decide +kernel
theorem dX9_fastestPass_137 : decode cX9_fastestPass 137 = .ok (.goto (-57), 3) := by decide +kernel
theorem dX9_fastestPass_140 : decode cX9_fastestPass 140 = .ok (.iconst (-1), 1) := by decide +kernel
theorem dX9_fastestPass_141 : decode cX9_fastestPass 141 = .ok (.ireturn, 1) := by decide +kernel
theorem dX9_move_0 : decode cX9_move 0 = .ok (.aload_n 0, 1) := by decide +kernel
theorem dX9_move_1 : decode cX9_move 1 = .ok (.getfield 33, 3) := by decide +kernel
theorem dX9_move_4 : decode cX9_move 4 = .ok (.iload_n 1, 1) := by decide +kernel
theorem dX9_move_5 : decode cX9_move 5 = .ok (.iload_n 2, 1) := by decide +kernel
theorem dX9_move_6 : decode cX9_move 6 = .ok (.iload_n 3, 1) := by decide +kernel
theorem dX9_move_7 : decode cX9_move 7 = .ok (.iload 4, 2) := by decide +kernel
theorem dX9_move_9 : decode cX9_move 9 = .ok (.invokevirtual 304, 3) := by decide +kernel
theorem dX9_move_12 : decode cX9_move 12 = .ok (.invokestatic 308, 3) := by decide +kernel
theorem dX9_move_15 : decode cX9_move 15 = .ok (.aload_n 0, 1) := by decide +kernel
theorem dX9_move_16 : decode cX9_move 16 = .ok (.getfield 43, 3) := by decide +kernel
theorem dX9_move_19 : decode cX9_move 19 = .ok (.aload_n 0, 1) := by decide +kernel
theorem dX9_move_20 : decode cX9_move 20 = .ok (.getfield 33, 3) := by decide +kernel
theorem dX9_move_23 : decode cX9_move 23 = .ok (.invokevirtual 126, 3) := by decide +kernel
theorem dX9_move_26 : decode cX9_move 26 = .ok (.aload_n 0, 1) := by decide +kernel
theorem dX9_move_27 : decode cX9_move 27 = .ok (.getfield 33, 3) := by decide +kernel
theorem dX9_move_30 : decode cX9_move 30 = .ok (.iload_n 1, 1) := by decide +kernel
theorem dX9_move_31 : decode cX9_move 31 = .ok (.iload_n 2, 1) := by decide +kernel
theorem dX9_move_32 : decode cX9_move 32 = .ok (.iload_n 3, 1) := by decide +kernel
theorem dX9_move_33 : decode cX9_move 33 = .ok (.iload 4, 2) := by decide +kernel
