theorem dX10_commandHere_1 : decode cX10_commandHere 1 = .ok (.ldc_w 277, 3) := by decide +kernel
theorem dX10_commandHere_4 : decode cX10_commandHere 4 = .ok (.invokevirtual 251, 3) := by decide +kernel
theorem dX10_commandHere_7 : decode cX10_commandHere 7 = .ok (.ifCond .eq 5, 3) := by decide +kernel
theorem dX10_commandHere_10 : decode cX10_commandHere 10 = .ok (.iconst 0, 1) := by decide +kernel
theorem dX10_commandHere_11 : decode cX10_commandHere 11 = .ok (.ireturn, 1) := by decide +kernel
theorem dX10_commandHere_12 : decode cX10_commandHere 12 = .ok (.aload_n 0, 1) := by decide +kernel
theorem dX10_commandHere_13 : decode cX10_commandHere 13 = .ok (.ldc_w 279, 3) := by decide +kernel
theorem dX10_commandHere_16 : decode cX10_commandHere 16 = .ok (.invokevirtual 251, 3) := by decide +kernel
theorem dX10_commandHere_19 : decode cX10_commandHere 19 = .ok (.ifCond .eq 5, 3) := by decide +kernel
theorem dX10_commandHere_22 : decode cX10_commandHere 22 = .ok (.iconst 1, 1) := by decide +kernel
theorem dX10_commandHere_23 : decode cX10_commandHere 23 = .ok (.ireturn, 1) := by decide +kernel
theorem dX10_commandHere_24 : decode cX10_commandHere 24 = .ok (.aload_n 0, 1) := by decide +kernel
theorem dX10_commandHere_25 : decode cX10_commandHere 25 = .ok (.ldc_w 281, 3) := by decide +kernel
theorem dX10_commandHere_28 : decode cX10_commandHere 28 = .ok (.invokevirtual 251, 3) := by decide +kernel
theorem dX10_commandHere_31 : decode cX10_commandHere 31 = .ok (.ifCond .eq 5, 3) := by decide +kernel
theorem dX10_commandHere_34 : decode cX10_commandHere 34 = .ok (.iconst 2, 1) := by decide +kernel
theorem dX10_commandHere_35 : decode cX10_commandHere 35 = .ok (.ireturn, 1) := by decide +kernel
theorem dX10_commandHere_36 : decode cX10_commandHere 36 = .ok (.aload_n 0, 1) := by decide +kernel
theorem dX10_commandHere_37 : decode cX10_commandHere 37 = .ok (.ldc_w 283, 3) := by decide +kernel
theorem dX10_commandHere_40 : decode cX10_commandHere 40 = .ok (.invokevirtual 251, 3) := by decide +kernel
theorem dX10_commandHere_43 : decode cX10_commandHere 43 = .ok (.ifCond .eq 5, 3) := by decide +kernel
theorem dX10_commandHere_46 : decode cX10_commandHere 46 = .ok (.iconst 3, 1) := by decide +kernel
theorem dX10_commandHere_47 : decode cX10_commandHere 47 = .ok (.ireturn, 1) := by decide +kernel
theorem dX10_commandHere_48 : decode cX10_commandHere 48 = .ok (.aload_n 0, 1) := by decide +kernel
theorem dX10_commandHere_49 : decode cX10_commandHere 49 = .ok (.ldc_w 285, 3) := by decide +kernel
theorem dX10_commandHere_52 : decode cX10_commandHere 52 = .ok (.invokevirtual 251, 3) := by decide +kernel
theorem dX10_commandHere_55 : decode cX10_commandHere 55 = .ok (.ifCond .eq 5, 3) := by decide +kernel
theorem dX10_commandHere_58 : decode cX10_commandHere 58 = .ok (.iconst 4, 1) := by decide +kernel
theorem dX10_commandHere_59 : decode cX10_commandHere 59 = .ok (.ireturn, 1) := by decide +kernel
theorem dX10_commandHere_60 : decode cX10_commandHere 60 = .ok (.aload_n 0, 1) := by decide +kernel
theorem dX10_commandHere_61 : decode cX10_commandHere 61 = .ok (.ldc 255, 2) := by decide +kernel
theorem dX10_commandHere_63 : decode cX10_commandHere 63 = .ok (.invokevirtual 251, 3) := by decide +kernel
theorem dX10_commandHere_66 : decode cX10_commandHere 66 = .ok (.ifCond .eq 5, 3) := by decide +kernel
theorem dX10_commandHere_69 : decode cX10_commandHere 69 = .ok (.iconst 5, 1) := by decide +kernel
theorem dX10_commandHere_70 : decode cX10_commandHere 70 = .ok (.ireturn, 1) := by decide +kernel
theorem dX10_commandHere_71 : decode cX10_commandHere 71 = .ok (.aload_n 0, 1) := by decide +kernel
theorem dX10_commandHere_72 : decode cX10_commandHere 72 = .ok (.ldc_w 287, 3) := by decide +kernel
theorem dX10_commandHere_75 : decode cX10_commandHere 75 = .ok (.invokevirtual 251, 3) := by decide +kernel
theorem dX10_commandHere_78 : decode cX10_commandHere 78 = .ok (.ifCond .eq 8, 3) := by decide +kernel
theorem dX10_commandHere_81 : decode cX10_commandHere 81 = .ok (.bipush 6, 2) := by decide +kernel
theorem dX10_commandHere_83 : decode cX10_commandHere 83 = .ok (.goto 4, 3) := by decide +kernel
theorem dX10_commandHere_86 : decode cX10_commandHere 86 = .ok (.iconst (-1), 1) := by decide +kernel
theorem dX10_commandHere_87 : decode cX10_commandHere 87 = .ok (.ireturn, 1) := by decide +kernel
theorem dX10_keepsNumber_0 : decode cX10_keepsNumber 0 = .ok (.aload_n 0, 1) := by decide +kernel
theorem dX10_keepsNumber_1 : decode cX10_keepsNumber 1 = .ok (.getfield 42, 3) := by decide +kernel
theorem dX10_keepsNumber_4 : decode cX10_keepsNumber 4 = .ok (.bipush 6, 2) := by decide +kernel
theorem dX10_keepsNumber_6 : decode cX10_keepsNumber 6 = .ok (.iload_n 1, 1) := by decide +kernel
theorem dX10_keepsNumber_7 : decode cX10_keepsNumber 7 = .ok (.imul, 1) := by decide +kernel
theorem dX10_keepsNumber_8 : decode cX10_keepsNumber 8 = .ok (.iload_n 2, 1) := by decide +kernel
theorem dX10_keepsNumber_9 : decode cX10_keepsNumber 9 = .ok (.iadd, 1) := by decide +kernel
theorem dX10_keepsNumber_10 : decode cX10_keepsNumber 10 = .ok (.aload_n 0, 1) := by decide +kernel
theorem dX10_keepsNumber_11 : decode cX10_keepsNumber 11 = .ok (.iload_n 3, 1) := by decide +kernel
theorem dX10_keepsNumber_12 : decode cX10_keepsNumber 12 = .ok (.iload 4, 2) := by decide +kernel
theorem dX10_keepsNumber_14 : decode cX10_keepsNumber 14 = .ok (.invokevirtual 243, 3) := by decide +kernel
theorem dX10_keepsNumber_17 : decode cX10_keepsNumber 17 = .ok (.iastore, 1) := by decide +kernel
theorem dX10_keepsNumber_18 : decode cX10_keepsNumber 18 = .ok (.return_, 1) := by decide +kernel
theorem dX10_at_0 : decode cX10_at 0 = .ok (.aload_n 0, 1) := by decide +kernel
theorem dX10_at_1 : decode cX10_at 1 = .ok (.getfield 42, 3) := by decide +kernel
theorem dX10_at_4 : decode cX10_at 4 = .ok (.bipush 6, 2) := by decide +kernel
theorem dX10_at_6 : decode cX10_at 6 = .ok (.iload_n 1, 1) := by decide +kernel
theorem dX10_at_7 : decode cX10_at 7 = .ok (.imul, 1) := by decide +kernel
theorem dX10_at_8 : decode cX10_at 8 = .ok (.iload_n 2, 1) := by decide +kernel
theorem dX10_at_9 : decode cX10_at 9 = .ok (.iadd, 1) := by decide +kernel
theorem dX10_at_10 : decode cX10_at 10 = .ok (.iaload, 1) := by decide +kernel
theorem dX10_at_11 : decode cX10_at 11 = .ok (.ireturn, 1) := by decide +kernel
theorem dX10_readsRepeat_0 : decode cX10_readsRepeat 0 = .ok (.aload_n 0, 1) := by decide +kernel
theorem dX10_readsRepeat_1 : decode cX10_readsRepeat 1 = .ok (.iload_n 1, 1) := by decide +kernel
theorem dX10_readsRepeat_2 : decode cX10_readsRepeat 2 = .ok (.iconst 0, 1) := by decide +kernel
theorem dX10_readsRepeat_3 : decode cX10_readsRepeat 3 = .ok (.iconst 0, 1) := by decide +kernel
theorem dX10_readsRepeat_4 : decode cX10_readsRepeat 4 = .ok (.bipush 20, 2) := by decide +kernel
theorem dX10_readsRepeat_6 : decode cX10_readsRepeat 6 = .ok (.invokevirtual 289, 3) := by decide +kernel
theorem dX10_readsRepeat_9 : decode cX10_readsRepeat 9 = .ok (.aload_n 0, 1) := by decide +kernel
theorem dX10_readsRepeat_10 : decode cX10_readsRepeat 10 = .ok (.aload_n 0, 1) := by decide +kernel
theorem dX10_readsRepeat_11 : decode cX10_readsRepeat 11 = .ok (.bipush 40, 2) := by decide +kernel
theorem dX10_readsRepeat_13 : decode cX10_readsRepeat 13 = .ok (.invokevirtual 231, 3) := by decide +kernel
theorem dX10_readsRepeat_16 : decode cX10_readsRepeat 16 = .ok (.iconst 1, 1) := by decide +kernel
theorem dX10_readsRepeat_17 : decode cX10_readsRepeat 17 = .ok (.invokevirtual 234, 3) := by decide +kernel
theorem dX10_readsRepeat_20 : decode cX10_readsRepeat 20 = .ok (.ifCond .eq 19, 3) := by decide +kernel
theorem dX10_readsRepeat_23 : decode cX10_readsRepeat 23 = .ok (.aload_n 0, 1) := by decide +kernel
theorem dX10_readsRepeat_24 : decode cX10_readsRepeat 24 = .ok (.iload_n 2, 1) := by decide +kernel
theorem dX10_readsRepeat_25 : decode cX10_readsRepeat 25 = .ok (.iconst 2, 1) := by decide +kernel
theorem dX10_readsRepeat_26 : decode cX10_readsRepeat 26 = .ok (.if_icmp .ge 7, 3) := by decide +kernel
theorem dX10_readsRepeat_29 : decode cX10_readsRepeat 29 = .ok (.iconst 1, 1) := by decide +kernel
theorem dX10_readsRepeat_30 : decode cX10_readsRepeat 30 = .ok (.goto 4, 3) := by decide +kernel
theorem dX10_readsRepeat_33 : decode cX10_readsRepeat 33 = .ok (.iconst 0, 1) := by decide +kernel
theorem dX10_readsRepeat_34 : decode cX10_readsRepeat 34 = .ok (.iconst 4, 1) := by decide +kernel
theorem dX10_readsRepeat_35 : decode cX10_readsRepeat 35 = .ok (.invokevirtual 234, 3) := by decide +kernel
theorem dX10_readsRepeat_38 : decode cX10_readsRepeat 38 = .ok (.pop, 1) := by decide +kernel
theorem dX10_readsRepeat_39 : decode cX10_readsRepeat 39 = .ok (.aload_n 0, 1) := by decide +kernel
theorem dX10_readsRepeat_40 : decode cX10_readsRepeat 40 = .ok (.invokevirtual 237, 3) := by decide +kernel
theorem dX10_readsRepeat_43 : decode cX10_readsRepeat 43 = .ok (.aload_n 0, 1) := by decide +kernel
theorem dX10_readsRepeat_44 : decode cX10_readsRepeat 44 = .ok (.iload_n 2, 1) := by decide +kernel
theorem dX10_readsRepeat_45 : decode cX10_readsRepeat 45 = .ok (.iconst 1, 1) := by decide +kernel
theorem dX10_readsRepeat_46 : decode cX10_readsRepeat 46 = .ok (.iadd, 1) := by decide +kernel
theorem dX10_readsRepeat_47 : decode cX10_readsRepeat 47 = .ok (.invokevirtual 292, 3) := by decide +kernel
theorem dX10_readsRepeat_50 : decode cX10_readsRepeat 50 = .ok (.aload_n 0, 1) := by decide +kernel
theorem dX10_readsRepeat_51 : decode cX10_readsRepeat 51 = .ok (.bipush 41, 2) := by decide +kernel
theorem dX10_readsRepeat_53 : decode cX10_readsRepeat 53 = .ok (.invokevirtual 246, 3) := by decide +kernel
theorem dX10_readsRepeat_56 : decode cX10_readsRepeat 56 = .ok (.aload_n 0, 1) := by decide +kernel
theorem dX10_readsRepeat_57 : decode cX10_readsRepeat 57 = .ok (.getfield 42, 3) := by decide +kernel
theorem dX10_readsRepeat_60 : decode cX10_readsRepeat 60 = .ok (.bipush 6, 2) := by decide +kernel
theorem dX10_readsRepeat_62 : decode cX10_readsRepeat 62 = .ok (.iload_n 1, 1) := by decide +kernel
theorem dX10_readsRepeat_63 : decode cX10_readsRepeat 63 = .ok (.imul, 1) := by decide +kernel
theorem dX10_readsRepeat_64 : decode cX10_readsRepeat 64 = .ok (.iconst 1, 1) := by decide +kernel
theorem dX10_readsRepeat_65 : decode cX10_readsRepeat 65 = .ok (.iadd, 1) := by decide +kernel
theorem dX10_readsRepeat_66 : decode cX10_readsRepeat 66 = .ok (.aload_n 0, 1) := by decide +kernel
theorem dX10_readsRepeat_67 : decode cX10_readsRepeat 67 = .ok (.getfield 295, 3) := by decide +kernel
theorem dX10_readsRepeat_70 : decode cX10_readsRepeat 70 = .ok (.iastore, 1) := by decide +kernel
theorem dX10_readsRepeat_71 : decode cX10_readsRepeat 71 = .ok (.return_, 1) := by decide +kernel
theorem dX10_readsSingle_0 : decode cX10_readsSingle 0 = .ok (.aload_n 0, 1) := by decide +kernel
theorem dX10_readsSingle_1 : decode cX10_readsSingle 1 = .ok (.getfield 39, 3) := by decide +kernel
theorem dX10_readsSingle_4 : decode cX10_readsSingle 4 = .ok (.iload_n 1, 1) := by decide +kernel
theorem dX10_readsSingle_5 : decode cX10_readsSingle 5 = .ok (.iaload, 1) := by decide +kernel
theorem dX10_readsSingle_6 : decode cX10_readsSingle 6 = .ok (.tableswitch 164 0 4 #[34, 71, 113, 133, 145], 34) := by decide +kernel
theorem dX10_readsSingle_40 : decode cX10_readsSingle 40 = .ok (.aload_n 0, 1) := by decide +kernel
theorem dX10_readsSingle_41 : decode cX10_readsSingle 41 = .ok (.iload_n 1, 1) := by decide +kernel
theorem dX10_readsSingle_42 : decode cX10_readsSingle 42 = .ok (.iconst 0, 1) := by decide +kernel
theorem dX10_readsSingle_43 : decode cX10_readsSingle 43 = .ok (.iconst 0, 1) := by decide +kernel
theorem dX10_readsSingle_44 : decode cX10_readsSingle 44 = .ok (.iconst 1, 1) := by decide +kernel
theorem dX10_readsSingle_45 : decode cX10_readsSingle 45 = .ok (.invokevirtual 289, 3) := by decide +kernel
theorem dX10_readsSingle_48 : decode cX10_readsSingle 48 = .ok (.aload_n 0, 1) := by decide +kernel
theorem dX10_readsSingle_49 : decode cX10_readsSingle 49 = .ok (.iload_n 1, 1) := by decide +kernel
theorem dX10_readsSingle_50 : decode cX10_readsSingle 50 = .ok (.iconst 1, 1) := by decide +kernel
theorem dX10_readsSingle_51 : decode cX10_readsSingle 51 = .ok (.iconst 0, 1) := by decide +kernel
theorem dX10_readsSingle_52 : decode cX10_readsSingle 52 = .ok (.bipush 63, 2) := by decide +kernel
theorem dX10_readsSingle_54 : decode cX10_readsSingle 54 = .ok (.invokevirtual 289, 3) := by decide +kernel
theorem dX10_readsSingle_57 : decode cX10_readsSingle 57 = .ok (.aload_n 0, 1) := by decide +kernel
theorem dX10_readsSingle_58 : decode cX10_readsSingle 58 = .ok (.iload_n 1, 1) := by decide +kernel
theorem dX10_readsSingle_59 : decode cX10_readsSingle 59 = .ok (.iconst 2, 1) := by decide +kernel
theorem dX10_readsSingle_60 : decode cX10_readsSingle 60 = .ok (.iconst 0, 1) := by decide +kernel
theorem dX10_readsSingle_61 : decode cX10_readsSingle 61 = .ok (.bipush 63, 2) := by decide +kernel
theorem dX10_readsSingle_63 : decode cX10_readsSingle 63 = .ok (.invokevirtual 289, 3) := by decide +kernel
theorem dX10_readsSingle_66 : decode cX10_readsSingle 66 = .ok (.aload_n 0, 1) := by decide +kernel
theorem dX10_readsSingle_67 : decode cX10_readsSingle 67 = .ok (.iload_n 1, 1) := by decide +kernel
theorem dX10_readsSingle_68 : decode cX10_readsSingle 68 = .ok (.iconst 3, 1) := by decide +kernel
theorem dX10_readsSingle_69 : decode cX10_readsSingle 69 = .ok (.iconst 0, 1) := by decide +kernel
theorem dX10_readsSingle_70 : decode cX10_readsSingle 70 = .ok (.iconst 3, 1) := by decide +kernel
theorem dX10_readsSingle_71 : decode cX10_readsSingle 71 = .ok (.invokevirtual 289, 3) := by decide +kernel
theorem dX10_readsSingle_74 : decode cX10_readsSingle 74 = .ok (.goto 122, 3) := by decide +kernel
theorem dX10_readsSingle_77 : decode cX10_readsSingle 77 = .ok (.aload_n 0, 1) := by decide +kernel
theorem dX10_readsSingle_78 : decode cX10_readsSingle 78 = .ok (.iload_n 1, 1) := by decide +kernel
theorem dX10_readsSingle_79 : decode cX10_readsSingle 79 = .ok (.iconst 0, 1) := by decide +kernel
theorem dX10_readsSingle_80 : decode cX10_readsSingle 80 = .ok (.iconst 0, 1) := by decide +kernel
theorem dX10_readsSingle_81 : decode cX10_readsSingle 81 = .ok (.iconst 1, 1) := by decide +kernel
theorem dX10_readsSingle_82 : decode cX10_readsSingle 82 = .ok (.invokevirtual 289, 3) := by decide +kernel
theorem dX10_readsSingle_85 : decode cX10_readsSingle 85 = .ok (.aload_n 0, 1) := by decide +kernel
theorem dX10_readsSingle_86 : decode cX10_readsSingle 86 = .ok (.iload_n 1, 1) := by decide +kernel
theorem dX10_readsSingle_87 : decode cX10_readsSingle 87 = .ok (.iconst 1, 1) := by decide +kernel
theorem dX10_readsSingle_88 : decode cX10_readsSingle 88 = .ok (.iconst 0, 1) := by decide +kernel
theorem dX10_readsSingle_89 : decode cX10_readsSingle 89 = .ok (.iconst 3, 1) := by decide +kernel
theorem dX10_readsSingle_90 : decode cX10_readsSingle 90 = .ok (.invokevirtual 289, 3) := by decide +kernel
theorem dX10_readsSingle_93 : decode cX10_readsSingle 93 = .ok (.iconst 2, 1) := by decide +kernel
theorem dX10_readsSingle_94 : decode cX10_readsSingle 94 = .ok (.istore_n 2, 1) := by decide +kernel
theorem dX10_readsSingle_95 : decode cX10_readsSingle 95 = .ok (.iload_n 2, 1) := by decide +kernel
theorem dX10_readsSingle_96 : decode cX10_readsSingle 96 = .ok (.bipush 6, 2) := by decide +kernel
theorem dX10_readsSingle_98 : decode cX10_readsSingle 98 = .ok (.if_icmp .ge 18, 3) := by decide +kernel
theorem dX10_readsSingle_101 : decode cX10_readsSingle 101 = .ok (.aload_n 0, 1) := by decide +kernel
theorem dX10_readsSingle_102 : decode cX10_readsSingle 102 = .ok (.iload_n 1, 1) := by decide +kernel
theorem dX10_readsSingle_103 : decode cX10_readsSingle 103 = .ok (.iload_n 2, 1) := by decide +kernel
theorem dX10_readsSingle_104 : decode cX10_readsSingle 104 = .ok (.iconst 0, 1) := by decide +kernel
theorem dX10_readsSingle_105 : decode cX10_readsSingle 105 = .ok (.bipush 63, 2) := by decide +kernel
theorem dX10_readsSingle_107 : decode cX10_readsSingle 107 = .ok (.invokevirtual 289, 3) := by decide +kernel
theorem dX10_readsSingle_110 : decode cX10_readsSingle 110 = .ok (.iinc 2 1, 3) := by decide +kernel
theorem dX10_readsSingle_113 : decode cX10_readsSingle 113 = .ok (.goto (-18), 3) := by decide +kernel
theorem dX10_readsSingle_116 : decode cX10_readsSingle 116 = .ok (.goto 80, 3) := by decide +kernel
theorem dX10_readsSingle_119 : decode cX10_readsSingle 119 = .ok (.aload_n 0, 1) := by decide +kernel
theorem dX10_readsSingle_120 : decode cX10_readsSingle 120 = .ok (.iload_n 1, 1) := by decide +kernel
theorem dX10_readsSingle_121 : decode cX10_readsSingle 121 = .ok (.iconst 0, 1) := by decide +kernel
theorem dX10_readsSingle_122 : decode cX10_readsSingle 122 = .ok (.iconst 0, 1) := by decide +kernel
theorem dX10_readsSingle_123 : decode cX10_readsSingle 123 = .ok (.bipush 79, 2) := by decide +kernel
theorem dX10_readsSingle_125 : decode cX10_readsSingle 125 = .ok (.invokevirtual 289, 3) := by decide +kernel
theorem dX10_readsSingle_128 : decode cX10_readsSingle 128 = .ok (.aload_n 0, 1) := by decide +kernel
theorem dX10_readsSingle_129 : decode cX10_readsSingle 129 = .ok (.iload_n 1, 1) := by decide +kernel
theorem dX10_readsSingle_130 : decode cX10_readsSingle 130 = .ok (.iconst 1, 1) := by decide +kernel
theorem dX10_readsSingle_131 : decode cX10_readsSingle 131 = .ok (.iconst 0, 1) := by decide +kernel
theorem dX10_readsSingle_132 : decode cX10_readsSingle 132 = .ok (.iconst 3, 1) := by decide +kernel
theorem dX10_readsSingle_133 : decode cX10_readsSingle 133 = .ok (.invokevirtual 289, 3) := by decide +kernel
theorem dX10_readsSingle_136 : decode cX10_readsSingle 136 = .ok (.goto 60, 3) := by decide +kernel
theorem dX10_readsSingle_139 : decode cX10_readsSingle 139 = .ok (.aload_n 0, 1) := by decide +kernel
theorem dX10_readsSingle_140 : decode cX10_readsSingle 140 = .ok (.iload_n 1, 1) := by decide +kernel
theorem dX10_readsSingle_141 : decode cX10_readsSingle 141 = .ok (.iconst 0, 1) := by decide +kernel
theorem dX10_readsSingle_142 : decode cX10_readsSingle 142 = .ok (.iconst 1, 1) := by decide +kernel
theorem dX10_readsSingle_143 : decode cX10_readsSingle 143 = .ok (.bipush 60, 2) := by decide +kernel
theorem dX10_readsSingle_145 : decode cX10_readsSingle 145 = .ok (.invokevirtual 289, 3) := by decide +kernel
theorem dX10_readsSingle_148 : decode cX10_readsSingle 148 = .ok (.goto 48, 3) := by decide +kernel
theorem dX10_readsSingle_151 : decode cX10_readsSingle 151 = .ok (.aload_n 0, 1) := by decide +kernel
theorem dX10_readsSingle_152 : decode cX10_readsSingle 152 = .ok (.iload_n 1, 1) := by decide +kernel
theorem dX10_readsSingle_153 : decode cX10_readsSingle 153 = .ok (.iconst 0, 1) := by decide +kernel
theorem dX10_readsSingle_154 : decode cX10_readsSingle 154 = .ok (.iconst 0, 1) := by decide +kernel
theorem dX10_readsSingle_155 : decode cX10_readsSingle 155 = .ok (.iconst 3, 1) := by decide +kernel
theorem dX10_readsSingle_156 : decode cX10_readsSingle 156 = .ok (.invokevirtual 289, 3) := by decide +kernel
theorem dX10_readsSingle_159 : decode cX10_readsSingle 159 = .ok (.aload_n 0, 1) := by decide +kernel
theorem dX10_readsSingle_160 : decode cX10_readsSingle 160 = .ok (.iload_n 1, 1) := by decide +kernel
theorem dX10_readsSingle_161 : decode cX10_readsSingle 161 = .ok (.iconst 1, 1) := by decide +kernel
theorem dX10_readsSingle_162 : decode cX10_readsSingle 162 = .ok (.iconst 0, 1) := by decide +kernel
theorem dX10_readsSingle_163 : decode cX10_readsSingle 163 = .ok (.iconst 1, 1) := by decide +kernel
theorem dX10_readsSingle_164 : decode cX10_readsSingle 164 = .ok (.invokevirtual 289, 3) := by decide +kernel
theorem dX10_readsSingle_167 : decode cX10_readsSingle 167 = .ok (.goto 29, 3) := by decide +kernel
theorem dX10_readsSingle_170 : decode cX10_readsSingle 170 = .ok (.aload_n 0, 1) := by decide +kernel
theorem dX10_readsSingle_171 : decode cX10_readsSingle 171 = .ok (.iload_n 1, 1) := by decide +kernel
theorem dX10_readsSingle_172 : decode cX10_readsSingle 172 = .ok (.iconst 0, 1) := by decide +kernel
theorem dX10_readsSingle_173 : decode cX10_readsSingle 173 = .ok (.iconst 0, 1) := by decide +kernel
theorem dX10_readsSingle_174 : decode cX10_readsSingle 174 = .ok (.iconst 3, 1) := by decide +kernel
theorem dX10_readsSingle_175 : decode cX10_readsSingle 175 = .ok (.invokevirtual 289, 3) := by decide +kernel
theorem dX10_readsSingle_178 : decode cX10_readsSingle 178 = .ok (.aload_n 0, 1) := by decide +kernel
theorem dX10_readsSingle_179 : decode cX10_readsSingle 179 = .ok (.iload_n 1, 1) := by decide +kernel
theorem dX10_readsSingle_180 : decode cX10_readsSingle 180 = .ok (.iconst 1, 1) := by decide +kernel
theorem dX10_readsSingle_181 : decode cX10_readsSingle 181 = .ok (.iconst 0, 1) := by decide +kernel
theorem dX10_readsSingle_182 : decode cX10_readsSingle 182 = .ok (.bipush 11, 2) := by decide +kernel
theorem dX10_readsSingle_184 : decode cX10_readsSingle 184 = .ok (.invokevirtual 289, 3) := by decide +kernel
theorem dX10_readsSingle_187 : decode cX10_readsSingle 187 = .ok (.aload_n 0, 1) := by decide +kernel
theorem dX10_readsSingle_188 : decode cX10_readsSingle 188 = .ok (.iload_n 1, 1) := by decide +kernel
theorem dX10_readsSingle_189 : decode cX10_readsSingle 189 = .ok (.iconst 2, 1) := by decide +kernel
theorem dX10_readsSingle_190 : decode cX10_readsSingle 190 = .ok (.iconst 0, 1) := by decide +kernel
theorem dX10_readsSingle_191 : decode cX10_readsSingle 191 = .ok (.bipush 9, 2) := by decide +kernel
theorem dX10_readsSingle_193 : decode cX10_readsSingle 193 = .ok (.invokevirtual 289, 3) := by decide +kernel
theorem dX10_readsSingle_196 : decode cX10_readsSingle 196 = .ok (.return_, 1) := by decide +kernel
theorem dX10_readsCommand_0 : decode cX10_readsCommand 0 = .ok (.aload_n 0, 1) := by decide +kernel
theorem dX10_readsCommand_1 : decode cX10_readsCommand 1 = .ok (.invokevirtual 298, 3) := by decide +kernel
theorem dX10_readsCommand_4 : decode cX10_readsCommand 4 = .ok (.istore_n 2, 1) := by decide +kernel
theorem dX10_readsCommand_5 : decode cX10_readsCommand 5 = .ok (.aload_n 0, 1) := by decide +kernel
theorem dX10_readsCommand_6 : decode cX10_readsCommand 6 = .ok (.iload_n 2, 1) := by decide +kernel
theorem dX10_readsCommand_7 : decode cX10_readsCommand 7 = .ok (.iconst (-1), 1) := by decide +kernel
theorem dX10_readsCommand_8 : decode cX10_readsCommand 8 = .ok (.if_icmp .eq 7, 3) := by decide +kernel
theorem dX10_readsCommand_11 : decode cX10_readsCommand 11 = .ok (.iconst 1, 1) := by decide +kernel
theorem dX10_readsCommand_12 : decode cX10_readsCommand 12 = .ok (.goto 4, 3) := by decide +kernel
theorem dX10_readsCommand_15 : decode cX10_readsCommand 15 = .ok (.iconst 0, 1) := by decide +kernel
theorem dX10_readsCommand_16 : decode cX10_readsCommand 16 = .ok (.iconst 1, 1) := by decide +kernel
theorem dX10_readsCommand_17 : decode cX10_readsCommand 17 = .ok (.invokevirtual 234, 3) := by decide +kernel
theorem dX10_readsCommand_20 : decode cX10_readsCommand 20 = .ok (.ifCond .eq 25, 3) := by decide +kernel
theorem dX10_readsCommand_23 : decode cX10_readsCommand 23 = .ok (.aload_n 0, 1) := by decide +kernel
theorem dX10_readsCommand_24 : decode cX10_readsCommand 24 = .ok (.aload_n 0, 1) := by decide +kernel
theorem dX10_readsCommand_25 : decode cX10_readsCommand 25 = .ok (.getfield 295, 3) := by decide +kernel
theorem dX10_readsCommand_28 : decode cX10_readsCommand 28 = .ok (.bipush 30, 2) := by decide +kernel
theorem dX10_readsCommand_30 : decode cX10_readsCommand 30 = .ok (.if_icmp .ge 7, 3) := by decide +kernel
theorem dX10_readsCommand_33 : decode cX10_readsCommand 33 = .ok (.iconst 1, 1) := by decide +kernel
theorem dX10_readsCommand_34 : decode cX10_readsCommand 34 = .ok (.goto 4, 3) := by decide +kernel
theorem dX10_readsCommand_37 : decode cX10_readsCommand 37 = .ok (.iconst 0, 1) := by decide +kernel
theorem dX10_readsCommand_38 : decode cX10_readsCommand 38 = .ok (.iconst 4, 1) := by decide +kernel
theorem dX10_readsCommand_39 : decode cX10_readsCommand 39 = .ok (.invokevirtual 234, 3) := by decide +kernel
theorem dX10_readsCommand_42 : decode cX10_readsCommand 42 = .ok (.ifCond .ne 4, 3) := by decide +kernel
theorem dX10_readsCommand_45 : decode cX10_readsCommand 45 = .ok (.return_, 1) := by decide +kernel
theorem dX10_readsCommand_46 : decode cX10_readsCommand 46 = .ok (.aload_n 0, 1) := by decide +kernel
theorem dX10_readsCommand_47 : decode cX10_readsCommand 47 = .ok (.getfield 295, 3) := by decide +kernel
theorem dX10_readsCommand_50 : decode cX10_readsCommand 50 = .ok (.istore_n 3, 1) := by decide +kernel
theorem dX10_readsCommand_51 : decode cX10_readsCommand 51 = .ok (.aload_n 0, 1) := by decide +kernel
theorem dX10_readsCommand_52 : decode cX10_readsCommand 52 = .ok (.getfield 39, 3) := by decide +kernel
theorem dX10_readsCommand_55 : decode cX10_readsCommand 55 = .ok (.iload_n 3, 1) := by decide +kernel
theorem dX10_readsCommand_56 : decode cX10_readsCommand 56 = .ok (.iload_n 2, 1) := by decide +kernel
theorem dX10_readsCommand_57 : decode cX10_readsCommand 57 = .ok (.iastore, 1) := by decide +kernel
theorem dX10_readsCommand_58 : decode cX10_readsCommand 58 = .ok (.aload_n 0, 1) := by decide +kernel
theorem dX10_readsCommand_59 : decode cX10_readsCommand 59 = .ok (.dup, 1) := by decide +kernel
theorem dX10_readsCommand_60 : decode cX10_readsCommand 60 = .ok (.getfield 295, 3) := by decide +kernel
theorem dX10_readsCommand_63 : decode cX10_readsCommand 63 = .ok (.iconst 1, 1) := by decide +kernel
theorem dX10_readsCommand_64 : decode cX10_readsCommand 64 = .ok (.iadd, 1) := by decide +kernel
theorem dX10_readsCommand_65 : decode cX10_readsCommand 65 = .ok (.putfield 295, 3) := by decide +kernel
theorem dX10_readsCommand_68 : decode cX10_readsCommand 68 = .ok (.aload_n 0, 1) := by decide +kernel
theorem dX10_readsCommand_69 : decode cX10_readsCommand 69 = .ok (.invokevirtual 228, 3) := by decide +kernel
theorem dX10_readsCommand_72 : decode cX10_readsCommand 72 = .ok (.iload_n 2, 1) := by decide +kernel
theorem dX10_readsCommand_73 : decode cX10_readsCommand 73 = .ok (.bipush 6, 2) := by decide +kernel
theorem dX10_readsCommand_75 : decode cX10_readsCommand 75 = .ok (.if_icmp .ne 12, 3) := by decide +kernel
theorem dX10_readsCommand_78 : decode cX10_readsCommand 78 = .ok (.aload_n 0, 1) := by decide +kernel
theorem dX10_readsCommand_79 : decode cX10_readsCommand 79 = .ok (.iload_n 3, 1) := by decide +kernel
theorem dX10_readsCommand_80 : decode cX10_readsCommand 80 = .ok (.iload_n 1, 1) := by decide +kernel
theorem dX10_readsCommand_81 : decode cX10_readsCommand 81 = .ok (.invokevirtual 301, 3) := by decide +kernel
theorem dX10_readsCommand_84 : decode cX10_readsCommand 84 = .ok (.goto 8, 3) := by decide +kernel
theorem dX10_readsCommand_87 : decode cX10_readsCommand 87 = .ok (.aload_n 0, 1) := by decide +kernel
theorem dX10_readsCommand_88 : decode cX10_readsCommand 88 = .ok (.iload_n 3, 1) := by decide +kernel
theorem dX10_readsCommand_89 : decode cX10_readsCommand 89 = .ok (.invokevirtual 304, 3) := by decide +kernel
theorem dX10_readsCommand_92 : decode cX10_readsCommand 92 = .ok (.aload_n 0, 1) := by decide +kernel
theorem dX10_readsCommand_93 : decode cX10_readsCommand 93 = .ok (.bipush 59, 2) := by decide +kernel
theorem dX10_readsCommand_95 : decode cX10_readsCommand 95 = .ok (.invokevirtual 246, 3) := by decide +kernel
theorem dX10_readsCommand_98 : decode cX10_readsCommand 98 = .ok (.return_, 1) := by decide +kernel
theorem dX10_readsCommands_0 : decode cX10_readsCommands 0 = .ok (.aload_n 0, 1) := by decide +kernel
theorem dX10_readsCommands_1 : decode cX10_readsCommands 1 = .ok (.getfield 222, 3) := by decide +kernel
theorem dX10_readsCommands_4 : decode cX10_readsCommands 4 = .ok (.ifCond .ne 27, 3) := by decide +kernel
theorem dX10_readsCommands_7 : decode cX10_readsCommands 7 = .ok (.aload_n 0, 1) := by decide +kernel
theorem dX10_readsCommands_8 : decode cX10_readsCommands 8 = .ok (.getfield 213, 3) := by decide +kernel
theorem dX10_readsCommands_11 : decode cX10_readsCommands 11 = .ok (.ifCond .eq 20, 3) := by decide +kernel
theorem dX10_readsCommands_14 : decode cX10_readsCommands 14 = .ok (.aload_n 0, 1) := by decide +kernel
theorem dX10_readsCommands_15 : decode cX10_readsCommands 15 = .ok (.bipush 41, 2) := by decide +kernel
theorem dX10_readsCommands_17 : decode cX10_readsCommands 17 = .ok (.invokevirtual 231, 3) := by decide +kernel
theorem dX10_readsCommands_20 : decode cX10_readsCommands 20 = .ok (.ifCond .ne 11, 3) := by decide +kernel
theorem dX10_readsCommands_23 : decode cX10_readsCommands 23 = .ok (.aload_n 0, 1) := by decide +kernel
theorem dX10_readsCommands_24 : decode cX10_readsCommands 24 = .ok (.iload_n 1, 1) := by decide +kernel
theorem dX10_readsCommands_25 : decode cX10_readsCommands 25 = .ok (.invokevirtual 307, 3) := by decide +kernel
theorem dX10_readsCommands_28 : decode cX10_readsCommands 28 = .ok (.goto (-28), 3) := by decide +kernel
theorem dX10_readsCommands_31 : decode cX10_readsCommands 31 = .ok (.return_, 1) := by decide +kernel
theorem dX10_does_0 : decode cX10_does 0 = .ok (.aload_n 0, 1) := by decide +kernel
theorem dX10_does_1 : decode cX10_does 1 = .ok (.iconst 0, 1) := by decide +kernel
theorem dX10_does_2 : decode cX10_does 2 = .ok (.putfield 80, 3) := by decide +kernel
theorem dX10_does_5 : decode cX10_does 5 = .ok (.aload_n 0, 1) := by decide +kernel
theorem dX10_does_6 : decode cX10_does 6 = .ok (.getfield 39, 3) := by decide +kernel
theorem dX10_does_9 : decode cX10_does 9 = .ok (.iload_n 1, 1) := by decide +kernel
theorem dX10_does_10 : decode cX10_does 10 = .ok (.iaload, 1) := by decide +kernel
theorem dX10_does_11 : decode cX10_does 11 = .ok (.tableswitch 148 0 4 #[33, 62, 103, 120, 131], 33) := by decide +kernel
theorem dX10_does_44 : decode cX10_does 44 = .ok (.aload_n 0, 1) := by decide +kernel
theorem dX10_does_45 : decode cX10_does 45 = .ok (.aload_n 0, 1) := by decide +kernel
theorem dX10_does_46 : decode cX10_does 46 = .ok (.iload_n 1, 1) := by decide +kernel
theorem dX10_does_47 : decode cX10_does 47 = .ok (.iconst 0, 1) := by decide +kernel
theorem dX10_does_48 : decode cX10_does 48 = .ok (.invokevirtual 310, 3) := by decide +kernel
theorem dX10_does_51 : decode cX10_does 51 = .ok (.aload_n 0, 1) := by decide +kernel
theorem dX10_does_52 : decode cX10_does 52 = .ok (.iload_n 1, 1) := by decide +kernel
theorem dX10_does_53 : decode cX10_does 53 = .ok (.iconst 1, 1) := by decide +kernel
theorem dX10_does_54 : decode cX10_does 54 = .ok (.invokevirtual 310, 3) := by decide +kernel
theorem dX10_does_57 : decode cX10_does 57 = .ok (.aload_n 0, 1) := by decide +kernel
theorem dX10_does_58 : decode cX10_does 58 = .ok (.iload_n 1, 1) := by decide +kernel
theorem dX10_does_59 : decode cX10_does 59 = .ok (.iconst 2, 1) := by decide +kernel
theorem dX10_does_60 : decode cX10_does 60 = .ok (.invokevirtual 310, 3) := by decide +kernel
theorem dX10_does_63 : decode cX10_does 63 = .ok (.aload_n 0, 1) := by decide +kernel
theorem dX10_does_64 : decode cX10_does 64 = .ok (.iload_n 1, 1) := by decide +kernel
theorem dX10_does_65 : decode cX10_does 65 = .ok (.iconst 3, 1) := by decide +kernel
theorem dX10_does_66 : decode cX10_does 66 = .ok (.invokevirtual 310, 3) := by decide +kernel
theorem dX10_does_69 : decode cX10_does 69 = .ok (.invokevirtual 313, 3) := by decide +kernel
theorem dX10_does_72 : decode cX10_does 72 = .ok (.ireturn, 1) := by decide +kernel
theorem dX10_does_73 : decode cX10_does 73 = .ok (.aload_n 0, 1) := by decide +kernel
theorem dX10_does_74 : decode cX10_does 74 = .ok (.aload_n 0, 1) := by decide +kernel
theorem dX10_does_75 : decode cX10_does 75 = .ok (.iload_n 1, 1) := by decide +kernel
theorem dX10_does_76 : decode cX10_does 76 = .ok (.iconst 0, 1) := by decide +kernel
theorem dX10_does_77 : decode cX10_does 77 = .ok (.invokevirtual 310, 3) := by decide +kernel
theorem dX10_does_80 : decode cX10_does 80 = .ok (.aload_n 0, 1) := by decide +kernel
theorem dX10_does_81 : decode cX10_does 81 = .ok (.iload_n 1, 1) := by decide +kernel
theorem dX10_does_82 : decode cX10_does 82 = .ok (.iconst 1, 1) := by decide +kernel
theorem dX10_does_83 : decode cX10_does 83 = .ok (.invokevirtual 310, 3) := by decide +kernel
theorem dX10_does_86 : decode cX10_does 86 = .ok (.aload_n 0, 1) := by decide +kernel
theorem dX10_does_87 : decode cX10_does 87 = .ok (.iload_n 1, 1) := by decide +kernel
theorem dX10_does_88 : decode cX10_does 88 = .ok (.iconst 2, 1) := by decide +kernel
theorem dX10_does_89 : decode cX10_does 89 = .ok (.invokevirtual 310, 3) := by decide +kernel
theorem dX10_does_92 : decode cX10_does 92 = .ok (.aload_n 0, 1) := by decide +kernel
theorem dX10_does_93 : decode cX10_does 93 = .ok (.iload_n 1, 1) := by decide +kernel
theorem dX10_does_94 : decode cX10_does 94 = .ok (.iconst 3, 1) := by decide +kernel
theorem dX10_does_95 : decode cX10_does 95 = .ok (.invokevirtual 310, 3) := by decide +kernel
theorem dX10_does_98 : decode cX10_does 98 = .ok (.aload_n 0, 1) := by decide +kernel
theorem dX10_does_99 : decode cX10_does 99 = .ok (.iload_n 1, 1) := by decide +kernel
theorem dX10_does_100 : decode cX10_does 100 = .ok (.iconst 4, 1) := by decide +kernel
theorem dX10_does_101 : decode cX10_does 101 = .ok (.invokevirtual 310, 3) := by decide +kernel
theorem dX10_does_104 : decode cX10_does 104 = .ok (.aload_n 0, 1) := by decide +kernel
theorem dX10_does_105 : decode cX10_does 105 = .ok (.iload_n 1, 1) := by decide +kernel
theorem dX10_does_106 : decode cX10_does 106 = .ok (.iconst 5, 1) := by decide +kernel
theorem dX10_does_107 : decode cX10_does 107 = .ok (.invokevirtual 310, 3) := by decide +kernel
theorem dX10_does_110 : decode cX10_does 110 = .ok (.invokevirtual 317, 3) := by decide +kernel
theorem dX10_does_113 : decode cX10_does 113 = .ok (.ireturn, 1) := by decide +kernel
theorem dX10_does_114 : decode cX10_does 114 = .ok (.aload_n 0, 1) := by decide +kernel
theorem dX10_does_115 : decode cX10_does 115 = .ok (.aload_n 0, 1) := by decide +kernel
theorem dX10_does_116 : decode cX10_does 116 = .ok (.iload_n 1, 1) := by decide +kernel
theorem dX10_does_117 : decode cX10_does 117 = .ok (.iconst 0, 1) := by decide +kernel
theorem dX10_does_118 : decode cX10_does 118 = .ok (.invokevirtual 310, 3) := by decide +kernel
theorem dX10_does_121 : decode cX10_does 121 = .ok (.aload_n 0, 1) := by decide +kernel
theorem dX10_does_122 : decode cX10_does 122 = .ok (.iload_n 1, 1) := by decide +kernel
theorem dX10_does_123 : decode cX10_does 123 = .ok (.iconst 1, 1) := by decide +kernel
theorem dX10_does_124 : decode cX10_does 124 = .ok (.invokevirtual 310, 3) := by decide +kernel
theorem dX10_does_127 : decode cX10_does 127 = .ok (.invokevirtual 321, 3) := by decide +kernel
theorem dX10_does_130 : decode cX10_does 130 = .ok (.ireturn, 1) := by decide +kernel
theorem dX10_does_131 : decode cX10_does 131 = .ok (.aload_n 0, 1) := by decide +kernel
theorem dX10_does_132 : decode cX10_does 132 = .ok (.aload_n 0, 1) := by decide +kernel
theorem dX10_does_133 : decode cX10_does 133 = .ok (.iload_n 1, 1) := by decide +kernel
theorem dX10_does_134 : decode cX10_does 134 = .ok (.iconst 0, 1) := by decide +kernel
theorem dX10_does_135 : decode cX10_does 135 = .ok (.invokevirtual 310, 3) := by decide +kernel
theorem dX10_does_138 : decode cX10_does 138 = .ok (.invokevirtual 324, 3) := by decide +kernel
theorem dX10_does_141 : decode cX10_does 141 = .ok (.ireturn, 1) := by decide +kernel
theorem dX10_does_142 : decode cX10_does 142 = .ok (.aload_n 0, 1) := by decide +kernel
theorem dX10_does_143 : decode cX10_does 143 = .ok (.aload_n 0, 1) := by decide +kernel
theorem dX10_does_144 : decode cX10_does 144 = .ok (.iload_n 1, 1) := by decide +kernel
theorem dX10_does_145 : decode cX10_does 145 = .ok (.iconst 0, 1) := by decide +kernel
theorem dX10_does_146 : decode cX10_does 146 = .ok (.invokevirtual 310, 3) := by decide +kernel
theorem dX10_does_149 : decode cX10_does 149 = .ok (.aload_n 0, 1) := by decide +kernel
theorem dX10_does_150 : decode cX10_does 150 = .ok (.iload_n 1, 1) := by decide +kernel
theorem dX10_does_151 : decode cX10_does 151 = .ok (.iconst 1, 1) := by decide +kernel
theorem dX10_does_152 : decode cX10_does 152 = .ok (.invokevirtual 310, 3) := by decide +kernel
theorem dX10_does_155 : decode cX10_does 155 = .ok (.invokevirtual 327, 3) := by decide +kernel
theorem dX10_does_158 : decode cX10_does 158 = .ok (.ireturn, 1) := by decide +kernel
theorem dX10_does_159 : decode cX10_does 159 = .ok (.aload_n 0, 1) := by decide +kernel
theorem dX10_does_160 : decode cX10_does 160 = .ok (.aload_n 0, 1) := by decide +kernel
theorem dX10_does_161 : decode cX10_does 161 = .ok (.iload_n 1, 1) := by decide +kernel
theorem dX10_does_162 : decode cX10_does 162 = .ok (.iconst 0, 1) := by decide +kernel
theorem dX10_does_163 : decode cX10_does 163 = .ok (.invokevirtual 310, 3) := by decide +kernel
theorem dX10_does_166 : decode cX10_does 166 = .ok (.aload_n 0, 1) := by decide +kernel
theorem dX10_does_167 : decode cX10_does 167 = .ok (.iload_n 1, 1) := by decide +kernel
theorem dX10_does_168 : decode cX10_does 168 = .ok (.iconst 1, 1) := by decide +kernel
theorem dX10_does_169 : decode cX10_does 169 = .ok (.invokevirtual 310, 3) := by decide +kernel
theorem dX10_does_172 : decode cX10_does 172 = .ok (.aload_n 0, 1) := by decide +kernel
theorem dX10_does_173 : decode cX10_does 173 = .ok (.iload_n 1, 1) := by decide +kernel
theorem dX10_does_174 : decode cX10_does 174 = .ok (.iconst 2, 1) := by decide +kernel
theorem dX10_does_175 : decode cX10_does 175 = .ok (.invokevirtual 310, 3) := by decide +kernel
theorem dX10_does_178 : decode cX10_does 178 = .ok (.invokevirtual 330, 3) := by decide +kernel
theorem dX10_does_181 : decode cX10_does 181 = .ok (.ireturn, 1) := by decide +kernel
theorem dX10_doesAll_0 : decode cX10_doesAll 0 = .ok (.iload_n 1, 1) := by decide +kernel
theorem dX10_doesAll_1 : decode cX10_doesAll 1 = .ok (.istore_n 3, 1) := by decide +kernel
theorem dX10_doesAll_2 : decode cX10_doesAll 2 = .ok (.iload_n 3, 1) := by decide +kernel
theorem dX10_doesAll_3 : decode cX10_doesAll 3 = .ok (.iload_n 2, 1) := by decide +kernel
theorem dX10_doesAll_4 : decode cX10_doesAll 4 = .ok (.if_icmp .ge 105, 3) := by decide +kernel
theorem dX10_doesAll_7 : decode cX10_doesAll 7 = .ok (.aload_n 0, 1) := by decide +kernel
theorem dX10_doesAll_8 : decode cX10_doesAll 8 = .ok (.getfield 39, 3) := by decide +kernel
theorem dX10_doesAll_11 : decode cX10_doesAll 11 = .ok (.iload_n 3, 1) := by decide +kernel
theorem dX10_doesAll_12 : decode cX10_doesAll 12 = .ok (.iaload, 1) := by decide +kernel
theorem dX10_doesAll_13 : decode cX10_doesAll 13 = .ok (.bipush 6, 2) := by decide +kernel
theorem dX10_doesAll_15 : decode cX10_doesAll 15 = .ok (.if_icmp .ne 51, 3) := by decide +kernel
theorem dX10_doesAll_18 : decode cX10_doesAll 18 = .ok (.iconst 0, 1) := by decide +kernel
theorem dX10_doesAll_19 : decode cX10_doesAll 19 = .ok (.istore 4, 2) := by decide +kernel
theorem dX10_doesAll_21 : decode cX10_doesAll 21 = .ok (.iload 4, 2) := by decide +kernel
theorem dX10_doesAll_23 : decode cX10_doesAll 23 = .ok (.aload_n 0, 1) := by decide +kernel
theorem dX10_doesAll_24 : decode cX10_doesAll 24 = .ok (.iload_n 3, 1) := by decide +kernel
theorem dX10_doesAll_25 : decode cX10_doesAll 25 = .ok (.iconst 0, 1) := by decide +kernel
theorem dX10_doesAll_26 : decode cX10_doesAll 26 = .ok (.invokevirtual 310, 3) := by decide +kernel
theorem dX10_doesAll_29 : decode cX10_doesAll 29 = .ok (.if_icmp .ge 27, 3) := by decide +kernel
theorem dX10_doesAll_32 : decode cX10_doesAll 32 = .ok (.aload_n 0, 1) := by decide +kernel
theorem dX10_doesAll_33 : decode cX10_doesAll 33 = .ok (.iload_n 3, 1) := by decide +kernel
theorem dX10_doesAll_34 : decode cX10_doesAll 34 = .ok (.iconst 1, 1) := by decide +kernel
theorem dX10_doesAll_35 : decode cX10_doesAll 35 = .ok (.iadd, 1) := by decide +kernel
theorem dX10_doesAll_36 : decode cX10_doesAll 36 = .ok (.aload_n 0, 1) := by decide +kernel
theorem dX10_doesAll_37 : decode cX10_doesAll 37 = .ok (.iload_n 3, 1) := by decide +kernel
theorem dX10_doesAll_38 : decode cX10_doesAll 38 = .ok (.iconst 1, 1) := by decide +kernel
theorem dX10_doesAll_39 : decode cX10_doesAll 39 = .ok (.invokevirtual 310, 3) := by decide +kernel
theorem dX10_doesAll_42 : decode cX10_doesAll 42 = .ok (.invokevirtual 333, 3) := by decide +kernel
theorem dX10_doesAll_45 : decode cX10_doesAll 45 = .ok (.ifCond .ne 5, 3) := by decide +kernel
theorem dX10_doesAll_48 : decode cX10_doesAll 48 = .ok (.iconst 0, 1) := by decide +kernel
theorem dX10_doesAll_49 : decode cX10_doesAll 49 = .ok (.ireturn, 1) := by decide +kernel
theorem dX10_doesAll_50 : decode cX10_doesAll 50 = .ok (.iinc 4 1, 3) := by decide +kernel
theorem dX10_doesAll_53 : decode cX10_doesAll 53 = .ok (.goto (-32), 3) := by decide +kernel
theorem dX10_doesAll_56 : decode cX10_doesAll 56 = .ok (.aload_n 0, 1) := by decide +kernel
theorem dX10_doesAll_57 : decode cX10_doesAll 57 = .ok (.iload_n 3, 1) := by decide +kernel
theorem dX10_doesAll_58 : decode cX10_doesAll 58 = .ok (.iconst 1, 1) := by decide +kernel
theorem dX10_doesAll_59 : decode cX10_doesAll 59 = .ok (.invokevirtual 310, 3) := by decide +kernel
theorem dX10_doesAll_62 : decode cX10_doesAll 62 = .ok (.istore_n 3, 1) := by decide +kernel
theorem dX10_doesAll_63 : decode cX10_doesAll 63 = .ok (.goto (-61), 3) := by decide +kernel
theorem dX10_doesAll_66 : decode cX10_doesAll 66 = .ok (.aload_n 0, 1) := by decide +kernel
theorem dX10_doesAll_67 : decode cX10_doesAll 67 = .ok (.getfield 336, 3) := by decide +kernel
theorem dX10_doesAll_70 : decode cX10_doesAll 70 = .ok (.bipush 40, 2) := by decide +kernel
theorem dX10_doesAll_72 : decode cX10_doesAll 72 = .ok (.if_icmp .ne 5, 3) := by decide +kernel
theorem dX10_doesAll_75 : decode cX10_doesAll 75 = .ok (.iconst 0, 1) := by decide +kernel
theorem dX10_doesAll_76 : decode cX10_doesAll 76 = .ok (.ireturn, 1) := by decide +kernel
theorem dX10_doesAll_77 : decode cX10_doesAll 77 = .ok (.aload_n 0, 1) := by decide +kernel
theorem dX10_doesAll_78 : decode cX10_doesAll 78 = .ok (.iload_n 3, 1) := by decide +kernel
theorem dX10_doesAll_79 : decode cX10_doesAll 79 = .ok (.invokevirtual 339, 3) := by decide +kernel
theorem dX10_doesAll_82 : decode cX10_doesAll 82 = .ok (.istore 4, 2) := by decide +kernel
theorem dX10_doesAll_84 : decode cX10_doesAll 84 = .ok (.aload_n 0, 1) := by decide +kernel
theorem dX10_doesAll_85 : decode cX10_doesAll 85 = .ok (.getfield 80, 3) := by decide +kernel
theorem dX10_doesAll_88 : decode cX10_doesAll 88 = .ok (.ifCond .eq 5, 3) := by decide +kernel
theorem dX10_doesAll_91 : decode cX10_doesAll 91 = .ok (.iconst 0, 1) := by decide +kernel
theorem dX10_doesAll_92 : decode cX10_doesAll 92 = .ok (.ireturn, 1) := by decide +kernel
theorem dX10_doesAll_93 : decode cX10_doesAll 93 = .ok (.aload_n 0, 1) := by decide +kernel
theorem dX10_doesAll_94 : decode cX10_doesAll 94 = .ok (.dup, 1) := by decide +kernel
theorem dX10_doesAll_95 : decode cX10_doesAll 95 = .ok (.getfield 336, 3) := by decide +kernel
theorem dX10_doesAll_98 : decode cX10_doesAll 98 = .ok (.iconst 1, 1) := by decide +kernel
theorem dX10_doesAll_99 : decode cX10_doesAll 99 = .ok (.iadd, 1) := by decide +kernel
theorem dX10_doesAll_100 : decode cX10_doesAll 100 = .ok (.putfield 336, 3) := by decide +kernel
theorem dX10_doesAll_103 : decode cX10_doesAll 103 = .ok (.iinc 3 1, 3) := by decide +kernel
theorem dX10_doesAll_106 : decode cX10_doesAll 106 = .ok (.goto (-104), 3) := by decide +kernel
theorem dX10_doesAll_109 : decode cX10_doesAll 109 = .ok (.iconst 1, 1) := by decide +kernel
theorem dX10_doesAll_110 : decode cX10_doesAll 110 = .ok (.ireturn, 1) := by decide +kernel
theorem dX10_runScript_0 : decode cX10_runScript 0 = .ok (.aload_n 0, 1) := by decide +kernel
theorem dX10_runScript_1 : decode cX10_runScript 1 = .ok (.iconst 0, 1) := by decide +kernel
theorem dX10_runScript_2 : decode cX10_runScript 2 = .ok (.putfield 80, 3) := by decide +kernel
theorem dX10_runScript_5 : decode cX10_runScript 5 = .ok (.aload_n 0, 1) := by decide +kernel
theorem dX10_runScript_6 : decode cX10_runScript 6 = .ok (.invokevirtual 70, 3) := by decide +kernel
theorem dX10_runScript_9 : decode cX10_runScript 9 = .ok (.aload_n 0, 1) := by decide +kernel
theorem dX10_runScript_10 : decode cX10_runScript 10 = .ok (.iconst 0, 1) := by decide +kernel
theorem dX10_runScript_11 : decode cX10_runScript 11 = .ok (.putfield 295, 3) := by decide +kernel
theorem dX10_runScript_14 : decode cX10_runScript 14 = .ok (.aload_n 0, 1) := by decide +kernel
theorem dX10_runScript_15 : decode cX10_runScript 15 = .ok (.iconst 0, 1) := by decide +kernel
theorem dX10_runScript_16 : decode cX10_runScript 16 = .ok (.invokevirtual 292, 3) := by decide +kernel
theorem dX10_runScript_19 : decode cX10_runScript 19 = .ok (.aload_n 0, 1) := by decide +kernel
theorem dX10_runScript_20 : decode cX10_runScript 20 = .ok (.aload_n 0, 1) := by decide +kernel
theorem dX10_runScript_21 : decode cX10_runScript 21 = .ok (.getfield 213, 3) := by decide +kernel
theorem dX10_runScript_24 : decode cX10_runScript 24 = .ok (.ifCond .ne 7, 3) := by decide +kernel
theorem dX10_runScript_27 : decode cX10_runScript 27 = .ok (.iconst 1, 1) := by decide +kernel
theorem dX10_runScript_28 : decode cX10_runScript 28 = .ok (.goto 4, 3) := by decide +kernel
theorem dX10_runScript_31 : decode cX10_runScript 31 = .ok (.iconst 0, 1) := by decide +kernel
theorem dX10_runScript_32 : decode cX10_runScript 32 = .ok (.iconst 1, 1) := by decide +kernel
theorem dX10_runScript_33 : decode cX10_runScript 33 = .ok (.invokevirtual 234, 3) := by decide +kernel
theorem dX10_runScript_36 : decode cX10_runScript 36 = .ok (.pop, 1) := by decide +kernel
theorem dX10_runScript_37 : decode cX10_runScript 37 = .ok (.aload_n 0, 1) := by decide +kernel
theorem dX10_runScript_38 : decode cX10_runScript 38 = .ok (.invokevirtual 270, 3) := by decide +kernel
theorem dX10_runScript_41 : decode cX10_runScript 41 = .ok (.ifCond .ne 5, 3) := by decide +kernel
theorem dX10_runScript_44 : decode cX10_runScript 44 = .ok (.iconst (-1), 1) := by decide +kernel
theorem dX10_runScript_45 : decode cX10_runScript 45 = .ok (.ireturn, 1) := by decide +kernel
theorem dX10_runScript_46 : decode cX10_runScript 46 = .ok (.aload_n 0, 1) := by decide +kernel
theorem dX10_runScript_47 : decode cX10_runScript 47 = .ok (.invokevirtual 342, 3) := by decide +kernel
theorem dX10_runScript_50 : decode cX10_runScript 50 = .ok (.aload_n 0, 1) := by decide +kernel
theorem dX10_runScript_51 : decode cX10_runScript 51 = .ok (.iconst 1, 1) := by decide +kernel
theorem dX10_runScript_52 : decode cX10_runScript 52 = .ok (.putfield 345, 3) := by decide +kernel
theorem dX10_runScript_55 : decode cX10_runScript 55 = .ok (.aload_n 0, 1) := by decide +kernel
theorem dX10_runScript_56 : decode cX10_runScript 56 = .ok (.iconst 0, 1) := by decide +kernel
theorem dX10_runScript_57 : decode cX10_runScript 57 = .ok (.putfield 336, 3) := by decide +kernel
theorem dX10_runScript_60 : decode cX10_runScript 60 = .ok (.aload_n 0, 1) := by decide +kernel
theorem dX10_runScript_61 : decode cX10_runScript 61 = .ok (.iconst 0, 1) := by decide +kernel
theorem dX10_runScript_62 : decode cX10_runScript 62 = .ok (.aload_n 0, 1) := by decide +kernel
theorem dX10_runScript_63 : decode cX10_runScript 63 = .ok (.getfield 295, 3) := by decide +kernel
theorem dX10_runScript_66 : decode cX10_runScript 66 = .ok (.invokevirtual 333, 3) := by decide +kernel
theorem dX10_runScript_69 : decode cX10_runScript 69 = .ok (.istore_n 1, 1) := by decide +kernel
theorem dX10_runScript_70 : decode cX10_runScript 70 = .ok (.aload_n 0, 1) := by decide +kernel
theorem dX10_runScript_71 : decode cX10_runScript 71 = .ok (.iconst 0, 1) := by decide +kernel
theorem dX10_runScript_72 : decode cX10_runScript 72 = .ok (.putfield 345, 3) := by decide +kernel
theorem dX10_runScript_75 : decode cX10_runScript 75 = .ok (.aload_n 0, 1) := by decide +kernel
theorem dX10_runScript_76 : decode cX10_runScript 76 = .ok (.iconst 0, 1) := by decide +kernel
theorem dX10_runScript_77 : decode cX10_runScript 77 = .ok (.putfield 80, 3) := by decide +kernel
theorem dX10_runScript_80 : decode cX10_runScript 80 = .ok (.aload_n 0, 1) := by decide +kernel
theorem dX10_runScript_81 : decode cX10_runScript 81 = .ok (.getfield 336, 3) := by decide +kernel
theorem dX10_runScript_84 : decode cX10_runScript 84 = .ok (.ireturn, 1) := by decide +kernel
theorem dX10_boardSize_0 : decode cX10_boardSize 0 = .ok (.aload_n 0, 1) := by decide +kernel
theorem dX10_boardSize_1 : decode cX10_boardSize 1 = .ok (.iconst 0, 1) := by decide +kernel
theorem dX10_boardSize_2 : decode cX10_boardSize 2 = .ok (.putfield 80, 3) := by decide +kernel
theorem dX10_boardSize_5 : decode cX10_boardSize 5 = .ok (.aload_n 0, 1) := by decide +kernel
theorem dX10_boardSize_6 : decode cX10_boardSize 6 = .ok (.getfield 7, 3) := by decide +kernel
theorem dX10_boardSize_9 : decode cX10_boardSize 9 = .ok (.iconst 0, 1) := by decide +kernel
theorem dX10_boardSize_10 : decode cX10_boardSize 10 = .ok (.iaload, 1) := by decide +kernel
theorem dX10_boardSize_11 : decode cX10_boardSize 11 = .ok (.ireturn, 1) := by decide +kernel
theorem dX10_moveLimit_0 : decode cX10_moveLimit 0 = .ok (.aload_n 0, 1) := by decide +kernel
theorem dX10_moveLimit_1 : decode cX10_moveLimit 1 = .ok (.iconst 0, 1) := by decide +kernel
theorem dX10_moveLimit_2 : decode cX10_moveLimit 2 = .ok (.putfield 80, 3) := by decide +kernel
theorem dX10_moveLimit_5 : decode cX10_moveLimit 5 = .ok (.aload_n 0, 1) := by decide +kernel
theorem dX10_moveLimit_6 : decode cX10_moveLimit 6 = .ok (.getfield 7, 3) := by decide +kernel
theorem dX10_moveLimit_9 : decode cX10_moveLimit 9 = .ok (.iconst 1, 1) := by decide +kernel
theorem dX10_moveLimit_10 : decode cX10_moveLimit 10 = .ok (.iaload, 1) := by decide +kernel
theorem dX10_moveLimit_11 : decode cX10_moveLimit 11 = .ok (.ireturn, 1) := by decide +kernel
theorem dX10_day_0 : decode cX10_day 0 = .ok (.aload_n 0, 1) := by decide +kernel
theorem dX10_day_1 : decode cX10_day 1 = .ok (.iconst 0, 1) := by decide +kernel
theorem dX10_day_2 : decode cX10_day 2 = .ok (.putfield 80, 3) := by decide +kernel
theorem dX10_day_5 : decode cX10_day 5 = .ok (.aload_n 0, 1) := by decide +kernel
theorem dX10_day_6 : decode cX10_day 6 = .ok (.getfield 7, 3) := by decide +kernel
theorem dX10_day_9 : decode cX10_day 9 = .ok (.iconst 2, 1) := by decide +kernel
theorem dX10_day_10 : decode cX10_day 10 = .ok (.iaload, 1) := by decide +kernel
theorem dX10_day_11 : decode cX10_day 11 = .ok (.ireturn, 1) := by decide +kernel
theorem dX10_month_0 : decode cX10_month 0 = .ok (.aload_n 0, 1) := by decide +kernel
theorem dX10_month_1 : decode cX10_month 1 = .ok (.iconst 0, 1) := by decide +kernel
theorem dX10_month_2 : decode cX10_month 2 = .ok (.putfield 80, 3) := by decide +kernel
theorem dX10_month_5 : decode cX10_month 5 = .ok (.aload_n 0, 1) := by decide +kernel
theorem dX10_month_6 : decode cX10_month 6 = .ok (.invokevirtual 151, 3) := by decide +kernel
theorem dX10_month_9 : decode cX10_month 9 = .ok (.ireturn, 1) := by decide +kernel
theorem dX10_bishopOwner_0 : decode cX10_bishopOwner 0 = .ok (.aload_n 0, 1) := by decide +kernel
theorem dX10_bishopOwner_1 : decode cX10_bishopOwner 1 = .ok (.iconst 0, 1) := by decide +kernel
theorem dX10_bishopOwner_2 : decode cX10_bishopOwner 2 = .ok (.putfield 80, 3) := by decide +kernel
theorem dX10_bishopOwner_5 : decode cX10_bishopOwner 5 = .ok (.aload_n 0, 1) := by decide +kernel
theorem dX10_bishopOwner_6 : decode cX10_bishopOwner 6 = .ok (.iload_n 1, 1) := by decide +kernel
theorem dX10_bishopOwner_7 : decode cX10_bishopOwner 7 = .ok (.invokestatic 349, 3) := by decide +kernel
theorem dX10_bishopOwner_10 : decode cX10_bishopOwner 10 = .ok (.ifCond .eq 15, 3) := by decide +kernel
theorem dX10_bishopOwner_13 : decode cX10_bishopOwner 13 = .ok (.aload_n 0, 1) := by decide +kernel
theorem dX10_bishopOwner_14 : decode cX10_bishopOwner 14 = .ok (.iload_n 2, 1) := by decide +kernel
theorem dX10_bishopOwner_15 : decode cX10_bishopOwner 15 = .ok (.invokevirtual 352, 3) := by decide +kernel
theorem dX10_bishopOwner_18 : decode cX10_bishopOwner 18 = .ok (.ifCond .eq 7, 3) := by decide +kernel
theorem dX10_bishopOwner_21 : decode cX10_bishopOwner 21 = .ok (.iconst 1, 1) := by decide +kernel
theorem dX10_bishopOwner_22 : decode cX10_bishopOwner 22 = .ok (.goto 4, 3) := by decide +kernel
theorem dX10_bishopOwner_25 : decode cX10_bishopOwner 25 = .ok (.iconst 0, 1) := by decide +kernel
theorem dX10_bishopOwner_26 : decode cX10_bishopOwner 26 = .ok (.iconst 1, 1) := by decide +kernel
theorem dX10_bishopOwner_27 : decode cX10_bishopOwner 27 = .ok (.invokevirtual 197, 3) := by decide +kernel
theorem dX10_bishopOwner_30 : decode cX10_bishopOwner 30 = .ok (.ifCond .eq 12, 3) := by decide +kernel
theorem dX10_bishopOwner_33 : decode cX10_bishopOwner 33 = .ok (.aload_n 0, 1) := by decide +kernel
theorem dX10_bishopOwner_34 : decode cX10_bishopOwner 34 = .ok (.iload_n 1, 1) := by decide +kernel
theorem dX10_bishopOwner_35 : decode cX10_bishopOwner 35 = .ok (.iload_n 2, 1) := by decide +kernel
theorem dX10_bishopOwner_36 : decode cX10_bishopOwner 36 = .ok (.invokevirtual 90, 3) := by decide +kernel
theorem dX10_bishopOwner_39 : decode cX10_bishopOwner 39 = .ok (.goto 4, 3) := by decide +kernel
theorem dX10_bishopOwner_42 : decode cX10_bishopOwner 42 = .ok (.iconst 0, 1) := by decide +kernel
theorem dX10_bishopOwner_43 : decode cX10_bishopOwner 43 = .ok (.ireturn, 1) := by decide +kernel
theorem dX10_bishopCount_0 : decode cX10_bishopCount 0 = .ok (.aload_n 0, 1) := by decide +kernel
theorem dX10_bishopCount_1 : decode cX10_bishopCount 1 = .ok (.iconst 0, 1) := by decide +kernel
theorem dX10_bishopCount_2 : decode cX10_bishopCount 2 = .ok (.putfield 80, 3) := by decide +kernel
theorem dX10_bishopCount_5 : decode cX10_bishopCount 5 = .ok (.aload_n 0, 1) := by decide +kernel
theorem dX10_bishopCount_6 : decode cX10_bishopCount 6 = .ok (.iload_n 1, 1) := by decide +kernel
theorem dX10_bishopCount_7 : decode cX10_bishopCount 7 = .ok (.invokestatic 349, 3) := by decide +kernel
theorem dX10_bishopCount_10 : decode cX10_bishopCount 10 = .ok (.ifCond .eq 14, 3) := by decide +kernel
theorem dX10_bishopCount_13 : decode cX10_bishopCount 13 = .ok (.iload_n 2, 1) := by decide +kernel
theorem dX10_bishopCount_14 : decode cX10_bishopCount 14 = .ok (.invokestatic 349, 3) := by decide +kernel
theorem dX10_bishopCount_17 : decode cX10_bishopCount 17 = .ok (.ifCond .eq 7, 3) := by decide +kernel
theorem dX10_bishopCount_20 : decode cX10_bishopCount 20 = .ok (.iconst 1, 1) := by decide +kernel
theorem dX10_bishopCount_21 : decode cX10_bishopCount 21 = .ok (.goto 4, 3) := by decide +kernel
theorem dX10_bishopCount_24 : decode cX10_bishopCount 24 = .ok (.iconst 0, 1) := by decide +kernel
theorem dX10_bishopCount_25 : decode cX10_bishopCount 25 = .ok (.iconst 1, 1) := by decide +kernel
theorem dX10_bishopCount_26 : decode cX10_bishopCount 26 = .ok (.invokevirtual 197, 3) := by decide +kernel
theorem dX10_bishopCount_29 : decode cX10_bishopCount 29 = .ok (.ifCond .eq 12, 3) := by decide +kernel
theorem dX10_bishopCount_32 : decode cX10_bishopCount 32 = .ok (.aload_n 0, 1) := by decide +kernel
theorem dX10_bishopCount_33 : decode cX10_bishopCount 33 = .ok (.iload_n 1, 1) := by decide +kernel
theorem dX10_bishopCount_34 : decode cX10_bishopCount 34 = .ok (.iload_n 2, 1) := by decide +kernel
theorem dX10_bishopCount_35 : decode cX10_bishopCount 35 = .ok (.invokevirtual 94, 3) := by decide +kernel
theorem dX10_bishopCount_38 : decode cX10_bishopCount 38 = .ok (.goto 4, 3) := by decide +kernel
theorem dX10_bishopCount_41 : decode cX10_bishopCount 41 = .ok (.iconst 0, 1) := by decide +kernel
theorem dX10_bishopCount_42 : decode cX10_bishopCount 42 = .ok (.ireturn, 1) := by decide +kernel
theorem dX10_moveCount_0 : decode cX10_moveCount 0 = .ok (.aload_n 0, 1) := by decide +kernel
theorem dX10_moveCount_1 : decode cX10_moveCount 1 = .ok (.iconst 0, 1) := by decide +kernel
theorem dX10_moveCount_2 : decode cX10_moveCount 2 = .ok (.putfield 80, 3) := by decide +kernel
theorem dX10_moveCount_5 : decode cX10_moveCount 5 = .ok (.aload_n 0, 1) := by decide +kernel
theorem dX10_moveCount_6 : decode cX10_moveCount 6 = .ok (.iload_n 1, 1) := by decide +kernel
theorem dX10_moveCount_7 : decode cX10_moveCount 7 = .ok (.invokestatic 349, 3) := by decide +kernel
theorem dX10_moveCount_10 : decode cX10_moveCount 10 = .ok (.iconst 1, 1) := by decide +kernel
theorem dX10_moveCount_11 : decode cX10_moveCount 11 = .ok (.invokevirtual 197, 3) := by decide +kernel
theorem dX10_moveCount_14 : decode cX10_moveCount 14 = .ok (.ifCond .eq 12, 3) := by decide +kernel
theorem dX10_moveCount_17 : decode cX10_moveCount 17 = .ok (.aload_n 0, 1) := by decide +kernel
theorem dX10_moveCount_18 : decode cX10_moveCount 18 = .ok (.iload_n 1, 1) := by decide +kernel
theorem dX10_moveCount_19 : decode cX10_moveCount 19 = .ok (.iconst 0, 1) := by decide +kernel
theorem dX10_moveCount_20 : decode cX10_moveCount 20 = .ok (.invokevirtual 97, 3) := by decide +kernel
theorem dX10_moveCount_23 : decode cX10_moveCount 23 = .ok (.goto 4, 3) := by decide +kernel
theorem dX10_moveCount_26 : decode cX10_moveCount 26 = .ok (.iconst 0, 1) := by decide +kernel
theorem dX10_moveCount_27 : decode cX10_moveCount 27 = .ok (.ireturn, 1) := by decide +kernel
theorem dX10_isTurn_0 : decode cX10_isTurn 0 = .ok (.aload_n 0, 1) := by decide +kernel
theorem dX10_isTurn_1 : decode cX10_isTurn 1 = .ok (.iconst 0, 1) := by decide +kernel
theorem dX10_isTurn_2 : decode cX10_isTurn 2 = .ok (.putfield 80, 3) := by decide +kernel
theorem dX10_isTurn_5 : decode cX10_isTurn 5 = .ok (.aload_n 0, 1) := by decide +kernel
theorem dX10_isTurn_6 : decode cX10_isTurn 6 = .ok (.iload_n 1, 1) := by decide +kernel
theorem dX10_isTurn_7 : decode cX10_isTurn 7 = .ok (.invokestatic 349, 3) := by decide +kernel
theorem dX10_isTurn_10 : decode cX10_isTurn 10 = .ok (.iconst 1, 1) := by decide +kernel
theorem dX10_isTurn_11 : decode cX10_isTurn 11 = .ok (.invokevirtual 197, 3) := by decide +kernel
theorem dX10_isTurn_14 : decode cX10_isTurn 14 = .ok (.ifCond .eq 15, 3) := by decide +kernel
theorem dX10_isTurn_17 : decode cX10_isTurn 17 = .ok (.aload_n 0, 1) := by decide +kernel
theorem dX10_isTurn_18 : decode cX10_isTurn 18 = .ok (.iload_n 1, 1) := by decide +kernel
theorem dX10_isTurn_19 : decode cX10_isTurn 19 = .ok (.invokevirtual 355, 3) := by decide +kernel
theorem dX10_isTurn_22 : decode cX10_isTurn 22 = .ok (.ifCond .eq 7, 3) := by decide +kernel
theorem dX10_isTurn_25 : decode cX10_isTurn 25 = .ok (.iconst 1, 1) := by decide +kernel
theorem dX10_isTurn_26 : decode cX10_isTurn 26 = .ok (.goto 4, 3) := by decide +kernel
theorem dX10_isTurn_29 : decode cX10_isTurn 29 = .ok (.iconst 0, 1) := by decide +kernel
theorem dX10_isTurn_30 : decode cX10_isTurn 30 = .ok (.ireturn, 1) := by decide +kernel
theorem dX10_isOver_0 : decode cX10_isOver 0 = .ok (.aload_n 0, 1) := by decide +kernel
theorem dX10_isOver_1 : decode cX10_isOver 1 = .ok (.iconst 0, 1) := by decide +kernel
theorem dX10_isOver_2 : decode cX10_isOver 2 = .ok (.putfield 80, 3) := by decide +kernel
theorem dX10_isOver_5 : decode cX10_isOver 5 = .ok (.aload_n 0, 1) := by decide +kernel
theorem dX10_isOver_6 : decode cX10_isOver 6 = .ok (.iload_n 1, 1) := by decide +kernel
theorem dX10_isOver_7 : decode cX10_isOver 7 = .ok (.invokestatic 349, 3) := by decide +kernel
theorem dX10_isOver_10 : decode cX10_isOver 10 = .ok (.iconst 1, 1) := by decide +kernel
theorem dX10_isOver_11 : decode cX10_isOver 11 = .ok (.invokevirtual 197, 3) := by decide +kernel
theorem dX10_isOver_14 : decode cX10_isOver 14 = .ok (.ifCond .eq 15, 3) := by decide +kernel
theorem dX10_isOver_17 : decode cX10_isOver 17 = .ok (.aload_n 0, 1) := by decide +kernel
theorem dX10_isOver_18 : decode cX10_isOver 18 = .ok (.iload_n 1, 1) := by decide +kernel
theorem dX10_isOver_19 : decode cX10_isOver 19 = .ok (.invokevirtual 100, 3) := by decide +kernel
theorem dX10_isOver_22 : decode cX10_isOver 22 = .ok (.ifCond .eq 7, 3) := by decide +kernel
theorem dX10_isOver_25 : decode cX10_isOver 25 = .ok (.iconst 1, 1) := by decide +kernel
theorem dX10_isOver_26 : decode cX10_isOver 26 = .ok (.goto 4, 3) := by decide +kernel
theorem dX10_isOver_29 : decode cX10_isOver 29 = .ok (.iconst 0, 1) := by decide +kernel
theorem dX10_isOver_30 : decode cX10_isOver 30 = .ok (.ireturn, 1) := by decide +kernel
theorem dX10_winner_0 : decode cX10_winner 0 = .ok (.aload_n 0, 1) := by decide +kernel
theorem dX10_winner_1 : decode cX10_winner 1 = .ok (.iconst 0, 1) := by decide +kernel
theorem dX10_winner_2 : decode cX10_winner 2 = .ok (.putfield 80, 3) := by decide +kernel
theorem dX10_winner_5 : decode cX10_winner 5 = .ok (.aload_n 0, 1) := by decide +kernel
theorem dX10_winner_6 : decode cX10_winner 6 = .ok (.iload_n 1, 1) := by decide +kernel
theorem dX10_winner_7 : decode cX10_winner 7 = .ok (.invokestatic 349, 3) := by decide +kernel
theorem dX10_winner_10 : decode cX10_winner 10 = .ok (.iconst 1, 1) := by decide +kernel
theorem dX10_winner_11 : decode cX10_winner 11 = .ok (.invokevirtual 197, 3) := by decide +kernel
theorem dX10_winner_14 : decode cX10_winner 14 = .ok (.ifCond .ne 5, 3) := by decide +kernel
theorem dX10_winner_17 : decode cX10_winner 17 = .ok (.iconst 0, 1) := by decide +kernel
theorem dX10_winner_18 : decode cX10_winner 18 = .ok (.ireturn, 1) := by decide +kernel
theorem dX10_winner_19 : decode cX10_winner 19 = .ok (.aload_n 0, 1) := by decide +kernel
theorem dX10_winner_20 : decode cX10_winner 20 = .ok (.iload_n 1, 1) := by decide +kernel
theorem dX10_winner_21 : decode cX10_winner 21 = .ok (.iconst 0, 1) := by decide +kernel
theorem dX10_winner_22 : decode cX10_winner 22 = .ok (.invokevirtual 94, 3) := by decide +kernel
theorem dX10_winner_25 : decode cX10_winner 25 = .ok (.aload_n 0, 1) := by decide +kernel
theorem dX10_winner_26 : decode cX10_winner 26 = .ok (.iload_n 1, 1) := by decide +kernel
theorem dX10_winner_27 : decode cX10_winner 27 = .ok (.iconst 1, 1) := by decide +kernel
theorem dX10_winner_28 : decode cX10_winner 28 = .ok (.invokevirtual 94, 3) := by decide +kernel
theorem dX10_winner_31 : decode cX10_winner 31 = .ok (.isub, 1) := by decide +kernel
theorem dX10_winner_32 : decode cX10_winner 32 = .ok (.istore_n 2, 1) := by decide +kernel
theorem dX10_winner_33 : decode cX10_winner 33 = .ok (.aload_n 0, 1) := by decide +kernel
theorem dX10_winner_34 : decode cX10_winner 34 = .ok (.iload_n 1, 1) := by decide +kernel
theorem dX10_winner_35 : decode cX10_winner 35 = .ok (.invokevirtual 100, 3) := by decide +kernel
theorem dX10_winner_38 : decode cX10_winner 38 = .ok (.ifCond .eq 7, 3) := by decide +kernel
theorem dX10_winner_41 : decode cX10_winner 41 = .ok (.iload_n 2, 1) := by decide +kernel
theorem dX10_winner_42 : decode cX10_winner 42 = .ok (.ifCond .ne 7, 3) := by decide +kernel
theorem dX10_winner_45 : decode cX10_winner 45 = .ok (.iconst (-1), 1) := by decide +kernel
theorem dX10_winner_46 : decode cX10_winner 46 = .ok (.goto 12, 3) := by decide +kernel
theorem dX10_winner_49 : decode cX10_winner 49 = .ok (.iload_n 2, 1) := by decide +kernel
theorem dX10_winner_50 : decode cX10_winner 50 = .ok (.ifCond .le 7, 3) := by decide +kernel
theorem dX10_winner_53 : decode cX10_winner 53 = .ok (.iconst 0, 1) := by decide +kernel
theorem dX10_winner_54 : decode cX10_winner 54 = .ok (.goto 4, 3) := by decide +kernel
theorem dX10_winner_57 : decode cX10_winner 57 = .ok (.iconst 1, 1) := by decide +kernel
theorem dX10_winner_58 : decode cX10_winner 58 = .ok (.ireturn, 1) := by decide +kernel
theorem dX10_canMove_0 : decode cX10_canMove 0 = .ok (.aload_n 0, 1) := by decide +kernel
theorem dX10_canMove_1 : decode cX10_canMove 1 = .ok (.iconst 0, 1) := by decide +kernel
theorem dX10_canMove_2 : decode cX10_canMove 2 = .ok (.putfield 80, 3) := by decide +kernel
theorem dX10_canMove_5 : decode cX10_canMove 5 = .ok (.aload_n 0, 1) := by decide +kernel
theorem dX10_canMove_6 : decode cX10_canMove 6 = .ok (.iload_n 1, 1) := by decide +kernel
theorem dX10_canMove_7 : decode cX10_canMove 7 = .ok (.invokestatic 349, 3) := by decide +kernel
theorem dX10_canMove_10 : decode cX10_canMove 10 = .ok (.ifCond .eq 23, 3) := by decide +kernel
theorem dX10_canMove_13 : decode cX10_canMove 13 = .ok (.aload_n 0, 1) := by decide +kernel
theorem dX10_canMove_14 : decode cX10_canMove 14 = .ok (.iload_n 2, 1) := by decide +kernel
theorem dX10_canMove_15 : decode cX10_canMove 15 = .ok (.invokevirtual 352, 3) := by decide +kernel
theorem dX10_canMove_18 : decode cX10_canMove 18 = .ok (.ifCond .eq 15, 3) := by decide +kernel
theorem dX10_canMove_21 : decode cX10_canMove 21 = .ok (.aload_n 0, 1) := by decide +kernel
theorem dX10_canMove_22 : decode cX10_canMove 22 = .ok (.iload_n 3, 1) := by decide +kernel
theorem dX10_canMove_23 : decode cX10_canMove 23 = .ok (.invokevirtual 352, 3) := by decide +kernel
theorem dX10_canMove_26 : decode cX10_canMove 26 = .ok (.ifCond .eq 7, 3) := by decide +kernel
theorem dX10_canMove_29 : decode cX10_canMove 29 = .ok (.iconst 1, 1) := by decide +kernel
theorem dX10_canMove_30 : decode cX10_canMove 30 = .ok (.goto 4, 3) := by decide +kernel
theorem dX10_canMove_33 : decode cX10_canMove 33 = .ok (.iconst 0, 1) := by decide +kernel
theorem dX10_canMove_34 : decode cX10_canMove 34 = .ok (.iconst 1, 1) := by decide +kernel
theorem dX10_canMove_35 : decode cX10_canMove 35 = .ok (.invokevirtual 197, 3) := by decide +kernel
theorem dX10_canMove_38 : decode cX10_canMove 38 = .ok (.ifCond .eq 23, 3) := by decide +kernel
theorem dX10_canMove_41 : decode cX10_canMove 41 = .ok (.aload_n 0, 1) := by decide +kernel
theorem dX10_canMove_42 : decode cX10_canMove 42 = .ok (.iload_n 1, 1) := by decide +kernel
theorem dX10_canMove_43 : decode cX10_canMove 43 = .ok (.aload_n 0, 1) := by decide +kernel
theorem dX10_canMove_44 : decode cX10_canMove 44 = .ok (.iload_n 1, 1) := by decide +kernel
theorem dX10_canMove_45 : decode cX10_canMove 45 = .ok (.iload_n 2, 1) := by decide +kernel
theorem dX10_canMove_46 : decode cX10_canMove 46 = .ok (.invokevirtual 90, 3) := by decide +kernel
theorem dX10_canMove_49 : decode cX10_canMove 49 = .ok (.iload_n 2, 1) := by decide +kernel
theorem dX10_canMove_50 : decode cX10_canMove 50 = .ok (.iload_n 3, 1) := by decide +kernel
theorem dX10_canMove_51 : decode cX10_canMove 51 = .ok (.invokevirtual 358, 3) := by decide +kernel
theorem dX10_canMove_54 : decode cX10_canMove 54 = .ok (.ifCond .eq 7, 3) := by decide +kernel
theorem dX10_canMove_57 : decode cX10_canMove 57 = .ok (.iconst 1, 1) := by decide +kernel
theorem dX10_canMove_58 : decode cX10_canMove 58 = .ok (.goto 4, 3) := by decide +kernel
theorem dX10_canMove_61 : decode cX10_canMove 61 = .ok (.iconst 0, 1) := by decide +kernel
theorem dX10_canMove_62 : decode cX10_canMove 62 = .ok (.ireturn, 1) := by decide +kernel
theorem dX10_mobility_0 : decode cX10_mobility 0 = .ok (.aload_n 0, 1) := by decide +kernel
theorem dX10_mobility_1 : decode cX10_mobility 1 = .ok (.iconst 0, 1) := by decide +kernel
theorem dX10_mobility_2 : decode cX10_mobility 2 = .ok (.putfield 80, 3) := by decide +kernel
theorem dX10_mobility_5 : decode cX10_mobility 5 = .ok (.aload_n 0, 1) := by decide +kernel
theorem dX10_mobility_6 : decode cX10_mobility 6 = .ok (.iload_n 1, 1) := by decide +kernel
theorem dX10_mobility_7 : decode cX10_mobility 7 = .ok (.invokestatic 349, 3) := by decide +kernel
theorem dX10_mobility_10 : decode cX10_mobility 10 = .ok (.ifCond .eq 14, 3) := by decide +kernel
theorem dX10_mobility_13 : decode cX10_mobility 13 = .ok (.iload_n 2, 1) := by decide +kernel
theorem dX10_mobility_14 : decode cX10_mobility 14 = .ok (.invokestatic 349, 3) := by decide +kernel
theorem dX10_mobility_17 : decode cX10_mobility 17 = .ok (.ifCond .eq 7, 3) := by decide +kernel
theorem dX10_mobility_20 : decode cX10_mobility 20 = .ok (.iconst 1, 1) := by decide +kernel
theorem dX10_mobility_21 : decode cX10_mobility 21 = .ok (.goto 4, 3) := by decide +kernel
theorem dX10_mobility_24 : decode cX10_mobility 24 = .ok (.iconst 0, 1) := by decide +kernel
theorem dX10_mobility_25 : decode cX10_mobility 25 = .ok (.iconst 1, 1) := by decide +kernel
theorem dX10_mobility_26 : decode cX10_mobility 26 = .ok (.invokevirtual 197, 3) := by decide +kernel
theorem dX10_mobility_29 : decode cX10_mobility 29 = .ok (.ifCond .ne 5, 3) := by decide +kernel
theorem dX10_mobility_32 : decode cX10_mobility 32 = .ok (.iconst 0, 1) := by decide +kernel
theorem dX10_mobility_33 : decode cX10_mobility 33 = .ok (.ireturn, 1) := by decide +kernel
theorem dX10_mobility_34 : decode cX10_mobility 34 = .ok (.iconst 0, 1) := by decide +kernel
theorem dX10_mobility_35 : decode cX10_mobility 35 = .ok (.istore_n 3, 1) := by decide +kernel
theorem dX10_mobility_36 : decode cX10_mobility 36 = .ok (.iconst 0, 1) := by decide +kernel
theorem dX10_mobility_37 : decode cX10_mobility 37 = .ok (.istore 4, 2) := by decide +kernel
theorem dX10_mobility_39 : decode cX10_mobility 39 = .ok (.iload 4, 2) := by decide +kernel
theorem dX10_mobility_41 : decode cX10_mobility 41 = .ok (.aload_n 0, 1) := by decide +kernel
theorem dX10_mobility_42 : decode cX10_mobility 42 = .ok (.invokevirtual 87, 3) := by decide +kernel
theorem dX10_mobility_45 : decode cX10_mobility 45 = .ok (.if_icmp .ge 54, 3) := by decide +kernel
theorem dX10_mobility_48 : decode cX10_mobility 48 = .ok (.iconst 0, 1) := by decide +kernel
theorem dX10_mobility_49 : decode cX10_mobility 49 = .ok (.istore 5, 2) := by decide +kernel
theorem dX10_mobility_51 : decode cX10_mobility 51 = .ok (.iload 5, 2) := by decide +kernel
theorem dX10_mobility_53 : decode cX10_mobility 53 = .ok (.aload_n 0, 1) := by decide +kernel
theorem dX10_mobility_54 : decode cX10_mobility 54 = .ok (.invokevirtual 87, 3) := by decide +kernel
theorem dX10_mobility_57 : decode cX10_mobility 57 = .ok (.if_icmp .ge 36, 3) := by decide +kernel
theorem dX10_mobility_60 : decode cX10_mobility 60 = .ok (.aload_n 0, 1) := by decide +kernel
theorem dX10_mobility_61 : decode cX10_mobility 61 = .ok (.iload_n 1, 1) := by decide +kernel
theorem dX10_mobility_62 : decode cX10_mobility 62 = .ok (.iload 4, 2) := by decide +kernel
theorem dX10_mobility_64 : decode cX10_mobility 64 = .ok (.invokevirtual 90, 3) := by decide +kernel
theorem dX10_mobility_67 : decode cX10_mobility 67 = .ok (.iload_n 2, 1) := by decide +kernel
theorem dX10_mobility_68 : decode cX10_mobility 68 = .ok (.if_icmp .ne 25, 3) := by decide +kernel
theorem dX10_mobility_71 : decode cX10_mobility 71 = .ok (.aload_n 0, 1) := by decide +kernel
theorem dX10_mobility_72 : decode cX10_mobility 72 = .ok (.iload_n 1, 1) := by decide +kernel
theorem dX10_mobility_73 : decode cX10_mobility 73 = .ok (.iload_n 2, 1) := by decide +kernel
theorem dX10_mobility_74 : decode cX10_mobility 74 = .ok (.iload 4, 2) := by decide +kernel
theorem dX10_mobility_76 : decode cX10_mobility 76 = .ok (.iload 5, 2) := by decide +kernel
theorem dX10_mobility_78 : decode cX10_mobility 78 = .ok (.invokevirtual 358, 3) := by decide +kernel
theorem dX10_mobility_81 : decode cX10_mobility 81 = .ok (.ifCond .eq 6, 3) := by decide +kernel
theorem dX10_mobility_84 : decode cX10_mobility 84 = .ok (.iinc 3 1, 3) := by decide +kernel
theorem dX10_mobility_87 : decode cX10_mobility 87 = .ok (.iinc 5 1, 3) := by decide +kernel
theorem dX10_mobility_90 : decode cX10_mobility 90 = .ok (.goto (-39), 3) := by decide +kernel
theorem dX10_mobility_93 : decode cX10_mobility 93 = .ok (.iinc 4 1, 3) := by decide +kernel
theorem dX10_mobility_96 : decode cX10_mobility 96 = .ok (.goto (-57), 3) := by decide +kernel
theorem dX10_mobility_99 : decode cX10_mobility 99 = .ok (.iload_n 3, 1) := by decide +kernel
theorem dX10_mobility_100 : decode cX10_mobility 100 = .ok (.ireturn, 1) := by decide +kernel
theorem dX10_movedAt_0 : decode cX10_movedAt 0 = .ok (.aload_n 0, 1) := by decide +kernel
theorem dX10_movedAt_1 : decode cX10_movedAt 1 = .ok (.iload_n 1, 1) := by decide +kernel
theorem dX10_movedAt_2 : decode cX10_movedAt 2 = .ok (.invokestatic 349, 3) := by decide +kernel
theorem dX10_movedAt_5 : decode cX10_movedAt 5 = .ok (.iconst 1, 1) := by decide +kernel
theorem dX10_movedAt_6 : decode cX10_movedAt 6 = .ok (.invokevirtual 197, 3) := by decide +kernel
theorem dX10_movedAt_9 : decode cX10_movedAt 9 = .ok (.ifCond .eq 22, 3) := by decide +kernel
theorem dX10_movedAt_12 : decode cX10_movedAt 12 = .ok (.aload_n 0, 1) := by decide +kernel
theorem dX10_movedAt_13 : decode cX10_movedAt 13 = .ok (.iload_n 2, 1) := by decide +kernel
theorem dX10_movedAt_14 : decode cX10_movedAt 14 = .ok (.iconst 1, 1) := by decide +kernel
theorem dX10_movedAt_15 : decode cX10_movedAt 15 = .ok (.aload_n 0, 1) := by decide +kernel
theorem dX10_movedAt_16 : decode cX10_movedAt 16 = .ok (.iload_n 1, 1) := by decide +kernel
theorem dX10_movedAt_17 : decode cX10_movedAt 17 = .ok (.iconst 0, 1) := by decide +kernel
theorem dX10_movedAt_18 : decode cX10_movedAt 18 = .ok (.invokevirtual 97, 3) := by decide +kernel
theorem dX10_movedAt_21 : decode cX10_movedAt 21 = .ok (.invokestatic 83, 3) := by decide +kernel
theorem dX10_movedAt_24 : decode cX10_movedAt 24 = .ok (.iconst 2, 1) := by decide +kernel
theorem dX10_movedAt_25 : decode cX10_movedAt 25 = .ok (.invokevirtual 197, 3) := by decide +kernel
theorem dX10_movedAt_28 : decode cX10_movedAt 28 = .ok (.ifCond .ne 5, 3) := by decide +kernel
theorem dX10_movedAt_31 : decode cX10_movedAt 31 = .ok (.iconst 0, 1) := by decide +kernel
theorem dX10_movedAt_32 : decode cX10_movedAt 32 = .ok (.ireturn, 1) := by decide +kernel
theorem dX10_movedAt_33 : decode cX10_movedAt 33 = .ok (.aload_n 0, 1) := by decide +kernel
theorem dX10_movedAt_34 : decode cX10_movedAt 34 = .ok (.iload_n 1, 1) := by decide +kernel
theorem dX10_movedAt_35 : decode cX10_movedAt 35 = .ok (.iload_n 2, 1) := by decide +kernel
theorem dX10_movedAt_36 : decode cX10_movedAt 36 = .ok (.iload_n 3, 1) := by decide +kernel
theorem dX10_movedAt_37 : decode cX10_movedAt 37 = .ok (.invokevirtual 133, 3) := by decide +kernel
theorem dX10_movedAt_40 : decode cX10_movedAt 40 = .ok (.ireturn, 1) := by decide +kernel
theorem dX10_movedFrom_0 : decode cX10_movedFrom 0 = .ok (.aload_n 0, 1) := by decide +kernel
theorem dX10_movedFrom_1 : decode cX10_movedFrom 1 = .ok (.iconst 0, 1) := by decide +kernel
theorem dX10_movedFrom_2 : decode cX10_movedFrom 2 = .ok (.putfield 80, 3) := by decide +kernel
theorem dX10_movedFrom_5 : decode cX10_movedFrom 5 = .ok (.aload_n 0, 1) := by decide +kernel
theorem dX10_movedFrom_6 : decode cX10_movedFrom 6 = .ok (.iload_n 1, 1) := by decide +kernel
theorem dX10_movedFrom_7 : decode cX10_movedFrom 7 = .ok (.iload_n 2, 1) := by decide +kernel
theorem dX10_movedFrom_8 : decode cX10_movedFrom 8 = .ok (.iconst 0, 1) := by decide +kernel
theorem dX10_movedFrom_9 : decode cX10_movedFrom 9 = .ok (.invokevirtual 361, 3) := by decide +kernel
theorem dX10_movedFrom_12 : decode cX10_movedFrom 12 = .ok (.ireturn, 1) := by decide +kernel
theorem dX10_movedTo_0 : decode cX10_movedTo 0 = .ok (.aload_n 0, 1) := by decide +kernel
theorem dX10_movedTo_1 : decode cX10_movedTo 1 = .ok (.iconst 0, 1) := by decide +kernel
theorem dX10_movedTo_2 : decode cX10_movedTo 2 = .ok (.putfield 80, 3) := by decide +kernel
theorem dX10_movedTo_5 : decode cX10_movedTo 5 = .ok (.aload_n 0, 1) := by decide +kernel
theorem dX10_movedTo_6 : decode cX10_movedTo 6 = .ok (.iload_n 1, 1) := by decide +kernel
theorem dX10_movedTo_7 : decode cX10_movedTo 7 = .ok (.iload_n 2, 1) := by decide +kernel
theorem dX10_movedTo_8 : decode cX10_movedTo 8 = .ok (.iconst 1, 1) := by decide +kernel
theorem dX10_movedTo_9 : decode cX10_movedTo 9 = .ok (.invokevirtual 361, 3) := by decide +kernel
theorem dX10_movedTo_12 : decode cX10_movedTo 12 = .ok (.ireturn, 1) := by decide +kernel
theorem dX10_storedMoves_0 : decode cX10_storedMoves 0 = .ok (.aload_n 0, 1) := by decide +kernel
theorem dX10_storedMoves_1 : decode cX10_storedMoves 1 = .ok (.iconst 0, 1) := by decide +kernel
theorem dX10_storedMoves_2 : decode cX10_storedMoves 2 = .ok (.putfield 80, 3) := by decide +kernel
theorem dX10_storedMoves_5 : decode cX10_storedMoves 5 = .ok (.aload_n 0, 1) := by decide +kernel
theorem dX10_storedMoves_6 : decode cX10_storedMoves 6 = .ok (.iload_n 1, 1) := by decide +kernel
theorem dX10_storedMoves_7 : decode cX10_storedMoves 7 = .ok (.invokestatic 349, 3) := by decide +kernel
theorem dX10_storedMoves_10 : decode cX10_storedMoves 10 = .ok (.iconst 1, 1) := by decide +kernel
theorem dX10_storedMoves_11 : decode cX10_storedMoves 11 = .ok (.invokevirtual 197, 3) := by decide +kernel
theorem dX10_storedMoves_14 : decode cX10_storedMoves 14 = .ok (.ifCond .eq 11, 3) := by decide +kernel
theorem dX10_storedMoves_17 : decode cX10_storedMoves 17 = .ok (.aload_n 0, 1) := by decide +kernel
theorem dX10_storedMoves_18 : decode cX10_storedMoves 18 = .ok (.iload_n 1, 1) := by decide +kernel
theorem dX10_storedMoves_19 : decode cX10_storedMoves 19 = .ok (.invokevirtual 364, 3) := by decide +kernel
theorem dX10_storedMoves_22 : decode cX10_storedMoves 22 = .ok (.goto 4, 3) := by decide +kernel
theorem dX10_storedMoves_25 : decode cX10_storedMoves 25 = .ok (.iconst 0, 1) := by decide +kernel
theorem dX10_storedMoves_26 : decode cX10_storedMoves 26 = .ok (.ireturn, 1) := by decide +kernel
theorem dX10_areBoardsEqual_0 : decode cX10_areBoardsEqual 0 = .ok (.aload_n 0, 1) := by decide +kernel
theorem dX10_areBoardsEqual_1 : decode cX10_areBoardsEqual 1 = .ok (.iconst 0, 1) := by decide +kernel
theorem dX10_areBoardsEqual_2 : decode cX10_areBoardsEqual 2 = .ok (.putfield 80, 3) := by decide +kernel
theorem dX10_areBoardsEqual_5 : decode cX10_areBoardsEqual 5 = .ok (.aload_n 0, 1) := by decide +kernel
theorem dX10_areBoardsEqual_6 : decode cX10_areBoardsEqual 6 = .ok (.invokevirtual 367, 3) := by decide +kernel
theorem dX10_areBoardsEqual_9 : decode cX10_areBoardsEqual 9 = .ok (.ireturn, 1) := by decide +kernel
theorem dX10_passCount_0 : decode cX10_passCount 0 = .ok (.aload_n 0, 1) := by decide +kernel
theorem dX10_passCount_1 : decode cX10_passCount 1 = .ok (.iconst 0, 1) := by decide +kernel
theorem dX10_passCount_2 : decode cX10_passCount 2 = .ok (.putfield 80, 3) := by decide +kernel
theorem dX10_passCount_5 : decode cX10_passCount 5 = .ok (.aload_n 0, 1) := by decide +kernel
theorem dX10_passCount_6 : decode cX10_passCount 6 = .ok (.getfield 7, 3) := by decide +kernel
theorem dX10_passCount_9 : decode cX10_passCount 9 = .ok (.iconst 3, 1) := by decide +kernel
theorem dX10_passCount_10 : decode cX10_passCount 10 = .ok (.iaload, 1) := by decide +kernel
theorem dX10_passCount_11 : decode cX10_passCount 11 = .ok (.ireturn, 1) := by decide +kernel
theorem dX10_snowDepth_0 : decode cX10_snowDepth 0 = .ok (.aload_n 0, 1) := by decide +kernel
theorem dX10_snowDepth_1 : decode cX10_snowDepth 1 = .ok (.iconst 0, 1) := by decide +kernel
theorem dX10_snowDepth_2 : decode cX10_snowDepth 2 = .ok (.putfield 80, 3) := by decide +kernel
theorem dX10_snowDepth_5 : decode cX10_snowDepth 5 = .ok (.aload_n 0, 1) := by decide +kernel
theorem dX10_snowDepth_6 : decode cX10_snowDepth 6 = .ok (.aload_n 0, 1) := by decide +kernel
theorem dX10_snowDepth_7 : decode cX10_snowDepth 7 = .ok (.iload_n 1, 1) := by decide +kernel
theorem dX10_snowDepth_8 : decode cX10_snowDepth 8 = .ok (.invokevirtual 370, 3) := by decide +kernel
theorem dX10_snowDepth_11 : decode cX10_snowDepth 11 = .ok (.ifCond .eq 17, 3) := by decide +kernel
theorem dX10_snowDepth_14 : decode cX10_snowDepth 14 = .ok (.iload_n 2, 1) := by decide +kernel
theorem dX10_snowDepth_15 : decode cX10_snowDepth 15 = .ok (.iconst 0, 1) := by decide +kernel
theorem dX10_snowDepth_16 : decode cX10_snowDepth 16 = .ok (.bipush 11, 2) := by decide +kernel
theorem dX10_snowDepth_18 : decode cX10_snowDepth 18 = .ok (.invokestatic 83, 3) := by decide +kernel
theorem dX10_snowDepth_21 : decode cX10_snowDepth 21 = .ok (.ifCond .eq 7, 3) := by decide +kernel
theorem dX10_snowDepth_24 : decode cX10_snowDepth 24 = .ok (.iconst 1, 1) := by decide +kernel
theorem dX10_snowDepth_25 : decode cX10_snowDepth 25 = .ok (.goto 4, 3) := by decide +kernel
theorem dX10_snowDepth_28 : decode cX10_snowDepth 28 = .ok (.iconst 0, 1) := by decide +kernel
theorem dX10_snowDepth_29 : decode cX10_snowDepth 29 = .ok (.iconst 1, 1) := by decide +kernel
theorem dX10_snowDepth_30 : decode cX10_snowDepth 30 = .ok (.invokevirtual 197, 3) := by decide +kernel
theorem dX10_snowDepth_33 : decode cX10_snowDepth 33 = .ok (.ifCond .eq 14, 3) := by decide +kernel
theorem dX10_snowDepth_36 : decode cX10_snowDepth 36 = .ok (.aload_n 0, 1) := by decide +kernel
theorem dX10_snowDepth_37 : decode cX10_snowDepth 37 = .ok (.iload_n 1, 1) := by decide +kernel
theorem dX10_snowDepth_38 : decode cX10_snowDepth 38 = .ok (.iconst 3, 1) := by decide +kernel
theorem dX10_snowDepth_39 : decode cX10_snowDepth 39 = .ok (.iload_n 2, 1) := by decide +kernel
theorem dX10_snowDepth_40 : decode cX10_snowDepth 40 = .ok (.iadd, 1) := by decide +kernel
theorem dX10_snowDepth_41 : decode cX10_snowDepth 41 = .ok (.invokevirtual 154, 3) := by decide +kernel
theorem dX10_snowDepth_44 : decode cX10_snowDepth 44 = .ok (.goto 4, 3) := by decide +kernel
theorem dX10_snowDepth_47 : decode cX10_snowDepth 47 = .ok (.iconst 0, 1) := by decide +kernel
theorem dX10_snowDepth_48 : decode cX10_snowDepth 48 = .ok (.ireturn, 1) := by decide +kernel
theorem dX10_travelDays_0 : decode cX10_travelDays 0 = .ok (.aload_n 0, 1) := by decide +kernel
theorem dX10_travelDays_1 : decode cX10_travelDays 1 = .ok (.iconst 0, 1) := by decide +kernel
theorem dX10_travelDays_2 : decode cX10_travelDays 2 = .ok (.putfield 80, 3) := by decide +kernel
theorem dX10_travelDays_5 : decode cX10_travelDays 5 = .ok (.aload_n 0, 1) := by decide +kernel
theorem dX10_travelDays_6 : decode cX10_travelDays 6 = .ok (.aload_n 0, 1) := by decide +kernel
theorem dX10_travelDays_7 : decode cX10_travelDays 7 = .ok (.iload_n 1, 1) := by decide +kernel
theorem dX10_travelDays_8 : decode cX10_travelDays 8 = .ok (.invokevirtual 370, 3) := by decide +kernel
theorem dX10_travelDays_11 : decode cX10_travelDays 11 = .ok (.iconst 1, 1) := by decide +kernel
theorem dX10_travelDays_12 : decode cX10_travelDays 12 = .ok (.invokevirtual 197, 3) := by decide +kernel
theorem dX10_travelDays_15 : decode cX10_travelDays 15 = .ok (.ifCond .ne 5, 3) := by decide +kernel
theorem dX10_travelDays_18 : decode cX10_travelDays 18 = .ok (.iconst 0, 1) := by decide +kernel
theorem dX10_travelDays_19 : decode cX10_travelDays 19 = .ok (.ireturn, 1) := by decide +kernel
theorem dX10_travelDays_20 : decode cX10_travelDays 20 = .ok (.aload_n 0, 1) := by decide +kernel
theorem dX10_travelDays_21 : decode cX10_travelDays 21 = .ok (.iload_n 1, 1) := by decide +kernel
theorem dX10_travelDays_22 : decode cX10_travelDays 22 = .ok (.invokevirtual 176, 3) := by decide +kernel
theorem dX10_travelDays_25 : decode cX10_travelDays 25 = .ok (.ifCond .eq 7, 3) := by decide +kernel
theorem dX10_travelDays_28 : decode cX10_travelDays 28 = .ok (.iconst (-1), 1) := by decide +kernel
theorem dX10_travelDays_29 : decode cX10_travelDays 29 = .ok (.goto 15, 3) := by decide +kernel
theorem dX10_travelDays_32 : decode cX10_travelDays 32 = .ok (.aload_n 0, 1) := by decide +kernel
theorem dX10_travelDays_33 : decode cX10_travelDays 33 = .ok (.iload_n 1, 1) := by decide +kernel
theorem dX10_travelDays_34 : decode cX10_travelDays 34 = .ok (.iconst 0, 1) := by decide +kernel
theorem dX10_travelDays_35 : decode cX10_travelDays 35 = .ok (.invokevirtual 154, 3) := by decide +kernel
theorem dX10_travelDays_38 : decode cX10_travelDays 38 = .ok (.aload_n 0, 1) := by decide +kernel
theorem dX10_travelDays_39 : decode cX10_travelDays 39 = .ok (.iload_n 1, 1) := by decide +kernel
theorem dX10_travelDays_40 : decode cX10_travelDays 40 = .ok (.invokevirtual 157, 3) := by decide +kernel
theorem dX10_travelDays_43 : decode cX10_travelDays 43 = .ok (.iadd, 1) := by decide +kernel
theorem dX10_travelDays_44 : decode cX10_travelDays 44 = .ok (.ireturn, 1) := by decide +kernel
theorem dX10_mules_0 : decode cX10_mules 0 = .ok (.aload_n 0, 1) := by decide +kernel
theorem dX10_mules_1 : decode cX10_mules 1 = .ok (.iconst 0, 1) := by decide +kernel
theorem dX10_mules_2 : decode cX10_mules 2 = .ok (.putfield 80, 3) := by decide +kernel
theorem dX10_mules_5 : decode cX10_mules 5 = .ok (.aload_n 0, 1) := by decide +kernel
theorem dX10_mules_6 : decode cX10_mules 6 = .ok (.aload_n 0, 1) := by decide +kernel
theorem dX10_mules_7 : decode cX10_mules 7 = .ok (.iload_n 1, 1) := by decide +kernel
theorem dX10_mules_8 : decode cX10_mules 8 = .ok (.invokevirtual 370, 3) := by decide +kernel
theorem dX10_mules_11 : decode cX10_mules 11 = .ok (.ifCond .eq 14, 3) := by decide +kernel
theorem dX10_mules_14 : decode cX10_mules 14 = .ok (.iload_n 2, 1) := by decide +kernel
theorem dX10_mules_15 : decode cX10_mules 15 = .ok (.invokestatic 349, 3) := by decide +kernel
theorem dX10_mules_18 : decode cX10_mules 18 = .ok (.ifCond .eq 7, 3) := by decide +kernel
theorem dX10_mules_21 : decode cX10_mules 21 = .ok (.iconst 1, 1) := by decide +kernel
theorem dX10_mules_22 : decode cX10_mules 22 = .ok (.goto 4, 3) := by decide +kernel
theorem dX10_mules_25 : decode cX10_mules 25 = .ok (.iconst 0, 1) := by decide +kernel
theorem dX10_mules_26 : decode cX10_mules 26 = .ok (.iconst 1, 1) := by decide +kernel
theorem dX10_mules_27 : decode cX10_mules 27 = .ok (.invokevirtual 197, 3) := by decide +kernel
theorem dX10_mules_30 : decode cX10_mules 30 = .ok (.ifCond .eq 14, 3) := by decide +kernel
theorem dX10_mules_33 : decode cX10_mules 33 = .ok (.aload_n 0, 1) := by decide +kernel
theorem dX10_mules_34 : decode cX10_mules 34 = .ok (.iload_n 1, 1) := by decide +kernel
theorem dX10_mules_35 : decode cX10_mules 35 = .ok (.iconst 1, 1) := by decide +kernel
theorem dX10_mules_36 : decode cX10_mules 36 = .ok (.iload_n 2, 1) := by decide +kernel
theorem dX10_mules_37 : decode cX10_mules 37 = .ok (.iadd, 1) := by decide +kernel
theorem dX10_mules_38 : decode cX10_mules 38 = .ok (.invokevirtual 154, 3) := by decide +kernel
theorem dX10_mules_41 : decode cX10_mules 41 = .ok (.goto 4, 3) := by decide +kernel
theorem dX10_mules_44 : decode cX10_mules 44 = .ok (.iconst 0, 1) := by decide +kernel
theorem dX10_mules_45 : decode cX10_mules 45 = .ok (.ireturn, 1) := by decide +kernel
theorem dX10_queueLength_0 : decode cX10_queueLength 0 = .ok (.aload_n 0, 1) := by decide +kernel
theorem dX10_queueLength_1 : decode cX10_queueLength 1 = .ok (.iconst 0, 1) := by decide +kernel
theorem dX10_queueLength_2 : decode cX10_queueLength 2 = .ok (.putfield 80, 3) := by decide +kernel
theorem dX10_queueLength_5 : decode cX10_queueLength 5 = .ok (.aload_n 0, 1) := by decide +kernel
theorem dX10_queueLength_6 : decode cX10_queueLength 6 = .ok (.aload_n 0, 1) := by decide +kernel
theorem dX10_queueLength_7 : decode cX10_queueLength 7 = .ok (.iload_n 1, 1) := by decide +kernel
theorem dX10_queueLength_8 : decode cX10_queueLength 8 = .ok (.invokevirtual 370, 3) := by decide +kernel
theorem dX10_queueLength_11 : decode cX10_queueLength 11 = .ok (.ifCond .eq 14, 3) := by decide +kernel
theorem dX10_queueLength_14 : decode cX10_queueLength 14 = .ok (.iload_n 2, 1) := by decide +kernel
theorem dX10_queueLength_15 : decode cX10_queueLength 15 = .ok (.invokestatic 349, 3) := by decide +kernel
theorem dX10_queueLength_18 : decode cX10_queueLength 18 = .ok (.ifCond .eq 7, 3) := by decide +kernel
theorem dX10_queueLength_21 : decode cX10_queueLength 21 = .ok (.iconst 1, 1) := by decide +kernel
theorem dX10_queueLength_22 : decode cX10_queueLength 22 = .ok (.goto 4, 3) := by decide +kernel
theorem dX10_queueLength_25 : decode cX10_queueLength 25 = .ok (.iconst 0, 1) := by decide +kernel
theorem dX10_queueLength_26 : decode cX10_queueLength 26 = .ok (.iconst 1, 1) := by decide +kernel
theorem dX10_queueLength_27 : decode cX10_queueLength 27 = .ok (.invokevirtual 197, 3) := by decide +kernel
theorem dX10_queueLength_30 : decode cX10_queueLength 30 = .ok (.ifCond .eq 12, 3) := by decide +kernel
theorem dX10_queueLength_33 : decode cX10_queueLength 33 = .ok (.aload_n 0, 1) := by decide +kernel
theorem dX10_queueLength_34 : decode cX10_queueLength 34 = .ok (.iload_n 1, 1) := by decide +kernel
theorem dX10_queueLength_35 : decode cX10_queueLength 35 = .ok (.iload_n 2, 1) := by decide +kernel
theorem dX10_queueLength_36 : decode cX10_queueLength 36 = .ok (.invokevirtual 373, 3) := by decide +kernel
theorem dX10_queueLength_39 : decode cX10_queueLength 39 = .ok (.goto 4, 3) := by decide +kernel
theorem dX10_queueLength_42 : decode cX10_queueLength 42 = .ok (.iconst 0, 1) := by decide +kernel
theorem dX10_queueLength_43 : decode cX10_queueLength 43 = .ok (.ireturn, 1) := by decide +kernel
theorem dX10_letterCount_0 : decode cX10_letterCount 0 = .ok (.aload_n 0, 1) := by decide +kernel
theorem dX10_letterCount_1 : decode cX10_letterCount 1 = .ok (.iconst 0, 1) := by decide +kernel
theorem dX10_letterCount_2 : decode cX10_letterCount 2 = .ok (.putfield 80, 3) := by decide +kernel
theorem dX10_letterCount_5 : decode cX10_letterCount 5 = .ok (.aload_n 0, 1) := by decide +kernel
theorem dX10_letterCount_6 : decode cX10_letterCount 6 = .ok (.getfield 7, 3) := by decide +kernel
theorem dX10_letterCount_9 : decode cX10_letterCount 9 = .ok (.iconst 4, 1) := by decide +kernel
theorem dX10_letterCount_10 : decode cX10_letterCount 10 = .ok (.iaload, 1) := by decide +kernel
theorem dX10_letterCount_11 : decode cX10_letterCount 11 = .ok (.ireturn, 1) := by decide +kernel
theorem dX10_writer_0 : decode cX10_writer 0 = .ok (.aload_n 0, 1) := by decide +kernel
theorem dX10_writer_1 : decode cX10_writer 1 = .ok (.iconst 0, 1) := by decide +kernel
theorem dX10_writer_2 : decode cX10_writer 2 = .ok (.putfield 80, 3) := by decide +kernel
theorem dX10_writer_5 : decode cX10_writer 5 = .ok (.aload_n 0, 1) := by decide +kernel
theorem dX10_writer_6 : decode cX10_writer 6 = .ok (.aload_n 0, 1) := by decide +kernel
theorem dX10_writer_7 : decode cX10_writer 7 = .ok (.iload_n 1, 1) := by decide +kernel
theorem dX10_writer_8 : decode cX10_writer 8 = .ok (.invokevirtual 376, 3) := by decide +kernel
theorem dX10_writer_11 : decode cX10_writer 11 = .ok (.iconst 1, 1) := by decide +kernel
theorem dX10_writer_12 : decode cX10_writer 12 = .ok (.invokevirtual 197, 3) := by decide +kernel
theorem dX10_writer_15 : decode cX10_writer 15 = .ok (.ifCond .eq 12, 3) := by decide +kernel
theorem dX10_writer_18 : decode cX10_writer 18 = .ok (.aload_n 0, 1) := by decide +kernel
theorem dX10_writer_19 : decode cX10_writer 19 = .ok (.iload_n 1, 1) := by decide +kernel
theorem dX10_writer_20 : decode cX10_writer 20 = .ok (.iconst 0, 1) := by decide +kernel
theorem dX10_writer_21 : decode cX10_writer 21 = .ok (.invokevirtual 163, 3) := by decide +kernel
theorem dX10_writer_24 : decode cX10_writer 24 = .ok (.goto 4, 3) := by decide +kernel
theorem dX10_writer_27 : decode cX10_writer 27 = .ok (.iconst 0, 1) := by decide +kernel
theorem dX10_writer_28 : decode cX10_writer 28 = .ok (.ireturn, 1) := by decide +kernel
theorem dX10_letterNumber_0 : decode cX10_letterNumber 0 = .ok (.aload_n 0, 1) := by decide +kernel
theorem dX10_letterNumber_1 : decode cX10_letterNumber 1 = .ok (.iconst 0, 1) := by decide +kernel
theorem dX10_letterNumber_2 : decode cX10_letterNumber 2 = .ok (.putfield 80, 3) := by decide +kernel
theorem dX10_letterNumber_5 : decode cX10_letterNumber 5 = .ok (.aload_n 0, 1) := by decide +kernel
theorem dX10_letterNumber_6 : decode cX10_letterNumber 6 = .ok (.aload_n 0, 1) := by decide +kernel
theorem dX10_letterNumber_7 : decode cX10_letterNumber 7 = .ok (.iload_n 1, 1) := by decide +kernel
theorem dX10_letterNumber_8 : decode cX10_letterNumber 8 = .ok (.invokevirtual 376, 3) := by decide +kernel
theorem dX10_letterNumber_11 : decode cX10_letterNumber 11 = .ok (.iconst 1, 1) := by decide +kernel
theorem dX10_letterNumber_12 : decode cX10_letterNumber 12 = .ok (.invokevirtual 197, 3) := by decide +kernel
theorem dX10_letterNumber_15 : decode cX10_letterNumber 15 = .ok (.ifCond .eq 12, 3) := by decide +kernel
theorem dX10_letterNumber_18 : decode cX10_letterNumber 18 = .ok (.aload_n 0, 1) := by decide +kernel
theorem dX10_letterNumber_19 : decode cX10_letterNumber 19 = .ok (.iload_n 1, 1) := by decide +kernel
theorem dX10_letterNumber_20 : decode cX10_letterNumber 20 = .ok (.iconst 3, 1) := by decide +kernel
theorem dX10_letterNumber_21 : decode cX10_letterNumber 21 = .ok (.invokevirtual 163, 3) := by decide +kernel
theorem dX10_letterNumber_24 : decode cX10_letterNumber 24 = .ok (.goto 4, 3) := by decide +kernel
theorem dX10_letterNumber_27 : decode cX10_letterNumber 27 = .ok (.iconst 0, 1) := by decide +kernel
theorem dX10_letterNumber_28 : decode cX10_letterNumber 28 = .ok (.ireturn, 1) := by decide +kernel
theorem dX10_isPromise_0 : decode cX10_isPromise 0 = .ok (.aload_n 0, 1) := by decide +kernel
theorem dX10_isPromise_1 : decode cX10_isPromise 1 = .ok (.iconst 0, 1) := by decide +kernel
theorem dX10_isPromise_2 : decode cX10_isPromise 2 = .ok (.putfield 80, 3) := by decide +kernel
theorem dX10_isPromise_5 : decode cX10_isPromise 5 = .ok (.aload_n 0, 1) := by decide +kernel
theorem dX10_isPromise_6 : decode cX10_isPromise 6 = .ok (.aload_n 0, 1) := by decide +kernel
theorem dX10_isPromise_7 : decode cX10_isPromise 7 = .ok (.iload_n 1, 1) := by decide +kernel
theorem dX10_isPromise_8 : decode cX10_isPromise 8 = .ok (.invokevirtual 376, 3) := by decide +kernel
theorem dX10_isPromise_11 : decode cX10_isPromise 11 = .ok (.iconst 1, 1) := by decide +kernel
theorem dX10_isPromise_12 : decode cX10_isPromise 12 = .ok (.invokevirtual 197, 3) := by decide +kernel
theorem dX10_isPromise_15 : decode cX10_isPromise 15 = .ok (.ifCond .eq 17, 3) := by decide +kernel
theorem dX10_isPromise_18 : decode cX10_isPromise 18 = .ok (.aload_n 0, 1) := by decide +kernel
theorem dX10_isPromise_19 : decode cX10_isPromise 19 = .ok (.iload_n 1, 1) := by decide +kernel
theorem dX10_isPromise_20 : decode cX10_isPromise 20 = .ok (.iconst 2, 1) := by decide +kernel
theorem dX10_isPromise_21 : decode cX10_isPromise 21 = .ok (.invokevirtual 163, 3) := by decide +kernel
theorem dX10_isPromise_24 : decode cX10_isPromise 24 = .ok (.iconst 1, 1) := by decide +kernel
theorem dX10_isPromise_25 : decode cX10_isPromise 25 = .ok (.if_icmp .ne 7, 3) := by decide +kernel
theorem dX10_isPromise_28 : decode cX10_isPromise 28 = .ok (.iconst 1, 1) := by decide +kernel
theorem dX10_isPromise_29 : decode cX10_isPromise 29 = .ok (.goto 4, 3) := by decide +kernel
theorem dX10_isPromise_32 : decode cX10_isPromise 32 = .ok (.iconst 0, 1) := by decide +kernel
theorem dX10_isPromise_33 : decode cX10_isPromise 33 = .ok (.ireturn, 1) := by decide +kernel
theorem dX10_letterState_0 : decode cX10_letterState 0 = .ok (.aload_n 0, 1) := by decide +kernel
theorem dX10_letterState_1 : decode cX10_letterState 1 = .ok (.iconst 0, 1) := by decide +kernel
theorem dX10_letterState_2 : decode cX10_letterState 2 = .ok (.putfield 80, 3) := by decide +kernel
theorem dX10_letterState_5 : decode cX10_letterState 5 = .ok (.aload_n 0, 1) := by decide +kernel
theorem dX10_letterState_6 : decode cX10_letterState 6 = .ok (.aload_n 0, 1) := by decide +kernel
theorem dX10_letterState_7 : decode cX10_letterState 7 = .ok (.iload_n 1, 1) := by decide +kernel
theorem dX10_letterState_8 : decode cX10_letterState 8 = .ok (.invokevirtual 376, 3) := by decide +kernel
theorem dX10_letterState_11 : decode cX10_letterState 11 = .ok (.iconst 1, 1) := by decide +kernel
theorem dX10_letterState_12 : decode cX10_letterState 12 = .ok (.invokevirtual 197, 3) := by decide +kernel
theorem dX10_letterState_15 : decode cX10_letterState 15 = .ok (.ifCond .eq 13, 3) := by decide +kernel
theorem dX10_letterState_18 : decode cX10_letterState 18 = .ok (.aload_n 0, 1) := by decide +kernel
theorem dX10_letterState_19 : decode cX10_letterState 19 = .ok (.iload_n 1, 1) := by decide +kernel
theorem dX10_letterState_20 : decode cX10_letterState 20 = .ok (.bipush 6, 2) := by decide +kernel
