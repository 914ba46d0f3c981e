theorem dX10_muling_56 : decode cX10_muling 56 = .ok (.aload_n 0, 1) := by decide +kernel
theorem dX10_muling_57 : decode cX10_muling 57 = .ok (.invokevirtual 401, 3) := by decide +kernel
theorem dX10_muling_60 : decode cX10_muling 60 = .ok (.aload_n 0, 1) := by decide +kernel
theorem dX10_muling_61 : decode cX10_muling 61 = .ok (.iload_n 1, 1) := by decide +kernel
theorem dX10_muling_62 : decode cX10_muling 62 = .ok (.iconst 1, 1) := by decide +kernel
theorem dX10_muling_63 : decode cX10_muling 63 = .ok (.iload_n 2, 1) := by decide +kernel
theorem dX10_muling_64 : decode cX10_muling 64 = .ok (.iadd, 1) := by decide +kernel
theorem dX10_muling_65 : decode cX10_muling 65 = .ok (.aload_n 0, 1) := by decide +kernel
theorem dX10_muling_66 : decode cX10_muling 66 = .ok (.iload_n 1, 1) := by decide +kernel
theorem dX10_muling_67 : decode cX10_muling 67 = .ok (.iconst 1, 1) := by decide +kernel
theorem dX10_muling_68 : decode cX10_muling 68 = .ok (.iload_n 2, 1) := by decide +kernel
theorem dX10_muling_69 : decode cX10_muling 69 = .ok (.iadd, 1) := by decide +kernel
theorem dX10_muling_70 : decode cX10_muling 70 = .ok (.invokevirtual 154, 3) := by decide +kernel
theorem dX10_muling_73 : decode cX10_muling 73 = .ok (.iconst 1, 1) := by decide +kernel
theorem dX10_muling_74 : decode cX10_muling 74 = .ok (.iadd, 1) := by decide +kernel
theorem dX10_muling_75 : decode cX10_muling 75 = .ok (.invokevirtual 170, 3) := by decide +kernel
theorem dX10_muling_78 : decode cX10_muling 78 = .ok (.aload_n 0, 1) := by decide +kernel
theorem dX10_muling_79 : decode cX10_muling 79 = .ok (.getfield 7, 3) := by decide +kernel
theorem dX10_muling_82 : decode cX10_muling 82 = .ok (.bipush 11, 2) := by decide +kernel
theorem dX10_muling_84 : decode cX10_muling 84 = .ok (.dup2, 1) := by decide +kernel
theorem dX10_muling_85 : decode cX10_muling 85 = .ok (.iaload, 1) := by decide +kernel
theorem dX10_muling_86 : decode cX10_muling 86 = .ok (.iconst 1, 1) := by decide +kernel
theorem dX10_muling_87 : decode cX10_muling 87 = .ok (.iadd, 1) := by decide +kernel
theorem dX10_muling_88 : decode cX10_muling 88 = .ok (.iastore, 1) := by decide +kernel
theorem dX10_muling_89 : decode cX10_muling 89 = .ok (.aload_n 0, 1) := by decide +kernel
theorem dX10_muling_90 : decode cX10_muling 90 = .ok (.iload_n 1, 1) := by decide +kernel
theorem dX10_muling_91 : decode cX10_muling 91 = .ok (.iconst 1, 1) := by decide +kernel
theorem dX10_muling_92 : decode cX10_muling 92 = .ok (.iload_n 2, 1) := by decide +kernel
theorem dX10_muling_93 : decode cX10_muling 93 = .ok (.iadd, 1) := by decide +kernel
theorem dX10_muling_94 : decode cX10_muling 94 = .ok (.invokevirtual 154, 3) := by decide +kernel
theorem dX10_muling_97 : decode cX10_muling 97 = .ok (.ireturn, 1) := by decide +kernel
theorem dX10_addMule_0 : decode cX10_addMule 0 = .ok (.aload_n 0, 1) := by decide +kernel
theorem dX10_addMule_1 : decode cX10_addMule 1 = .ok (.iconst 0, 1) := by decide +kernel
theorem dX10_addMule_2 : decode cX10_addMule 2 = .ok (.putfield 80, 3) := by decide +kernel
theorem dX10_addMule_5 : decode cX10_addMule 5 = .ok (.aload_n 0, 1) := by decide +kernel
theorem dX10_addMule_6 : decode cX10_addMule 6 = .ok (.iload_n 1, 1) := by decide +kernel
theorem dX10_addMule_7 : decode cX10_addMule 7 = .ok (.iload_n 2, 1) := by decide +kernel
theorem dX10_addMule_8 : decode cX10_addMule 8 = .ok (.invokevirtual 327, 3) := by decide +kernel
theorem dX10_addMule_11 : decode cX10_addMule 11 = .ok (.ireturn, 1) := by decide +kernel
theorem dX10_snowing_0 : decode cX10_snowing 0 = .ok (.aload_n 0, 1) := by decide +kernel
theorem dX10_snowing_1 : decode cX10_snowing 1 = .ok (.aload_n 0, 1) := by decide +kernel
theorem dX10_snowing_2 : decode cX10_snowing 2 = .ok (.iload_n 1, 1) := by decide +kernel
theorem dX10_snowing_3 : decode cX10_snowing 3 = .ok (.invokevirtual 370, 3) := by decide +kernel
theorem dX10_snowing_6 : decode cX10_snowing 6 = .ok (.ifCond .eq 17, 3) := by decide +kernel
theorem dX10_snowing_9 : decode cX10_snowing 9 = .ok (.iload_n 2, 1) := by decide +kernel
theorem dX10_snowing_10 : decode cX10_snowing 10 = .ok (.iconst 0, 1) := by decide +kernel
theorem dX10_snowing_11 : decode cX10_snowing 11 = .ok (.bipush 11, 2) := by decide +kernel
theorem dX10_snowing_13 : decode cX10_snowing 13 = .ok (.invokestatic 83, 3) := by decide +kernel
theorem dX10_snowing_16 : decode cX10_snowing 16 = .ok (.ifCond .eq 7, 3) := by decide +kernel
theorem dX10_snowing_19 : decode cX10_snowing 19 = .ok (.iconst 1, 1) := by decide +kernel
theorem dX10_snowing_20 : decode cX10_snowing 20 = .ok (.goto 4, 3) := by decide +kernel
theorem dX10_snowing_23 : decode cX10_snowing 23 = .ok (.iconst 0, 1) := by decide +kernel
theorem dX10_snowing_24 : decode cX10_snowing 24 = .ok (.iconst 1, 1) := by decide +kernel
theorem dX10_snowing_25 : decode cX10_snowing 25 = .ok (.invokevirtual 197, 3) := by decide +kernel
theorem dX10_snowing_28 : decode cX10_snowing 28 = .ok (.ifCond .eq 18, 3) := by decide +kernel
theorem dX10_snowing_31 : decode cX10_snowing 31 = .ok (.aload_n 0, 1) := by decide +kernel
theorem dX10_snowing_32 : decode cX10_snowing 32 = .ok (.iload_n 3, 1) := by decide +kernel
theorem dX10_snowing_33 : decode cX10_snowing 33 = .ok (.iconst 0, 1) := by decide +kernel
theorem dX10_snowing_34 : decode cX10_snowing 34 = .ok (.bipush 9, 2) := by decide +kernel
theorem dX10_snowing_36 : decode cX10_snowing 36 = .ok (.invokestatic 83, 3) := by decide +kernel
theorem dX10_snowing_39 : decode cX10_snowing 39 = .ok (.iconst 2, 1) := by decide +kernel
theorem dX10_snowing_40 : decode cX10_snowing 40 = .ok (.invokevirtual 197, 3) := by decide +kernel
theorem dX10_snowing_43 : decode cX10_snowing 43 = .ok (.ifCond .ne 5, 3) := by decide +kernel
theorem dX10_snowing_46 : decode cX10_snowing 46 = .ok (.iconst 0, 1) := by decide +kernel
theorem dX10_snowing_47 : decode cX10_snowing 47 = .ok (.ireturn, 1) := by decide +kernel
theorem dX10_snowing_48 : decode cX10_snowing 48 = .ok (.aload_n 0, 1) := by decide +kernel
theorem dX10_snowing_49 : decode cX10_snowing 49 = .ok (.invokevirtual 401, 3) := by decide +kernel
theorem dX10_snowing_52 : decode cX10_snowing 52 = .ok (.aload_n 0, 1) := by decide +kernel
theorem dX10_snowing_53 : decode cX10_snowing 53 = .ok (.iload_n 1, 1) := by decide +kernel
theorem dX10_snowing_54 : decode cX10_snowing 54 = .ok (.iconst 3, 1) := by decide +kernel
theorem dX10_snowing_55 : decode cX10_snowing 55 = .ok (.iload_n 2, 1) := by decide +kernel
theorem dX10_snowing_56 : decode cX10_snowing 56 = .ok (.iadd, 1) := by decide +kernel
theorem dX10_snowing_57 : decode cX10_snowing 57 = .ok (.invokevirtual 154, 3) := by decide +kernel
theorem dX10_snowing_60 : decode cX10_snowing 60 = .ok (.istore 4, 2) := by decide +kernel
theorem dX10_snowing_62 : decode cX10_snowing 62 = .ok (.aload_n 0, 1) := by decide +kernel
theorem dX10_snowing_63 : decode cX10_snowing 63 = .ok (.iload_n 1, 1) := by decide +kernel
theorem dX10_snowing_64 : decode cX10_snowing 64 = .ok (.iconst 3, 1) := by decide +kernel
theorem dX10_snowing_65 : decode cX10_snowing 65 = .ok (.iload_n 2, 1) := by decide +kernel
theorem dX10_snowing_66 : decode cX10_snowing 66 = .ok (.iadd, 1) := by decide +kernel
theorem dX10_snowing_67 : decode cX10_snowing 67 = .ok (.iload_n 3, 1) := by decide +kernel
theorem dX10_snowing_68 : decode cX10_snowing 68 = .ok (.invokevirtual 170, 3) := by decide +kernel
theorem dX10_snowing_71 : decode cX10_snowing 71 = .ok (.iload 4, 2) := by decide +kernel
theorem dX10_snowing_73 : decode cX10_snowing 73 = .ok (.ireturn, 1) := by decide +kernel
theorem dX10_setSnow_0 : decode cX10_setSnow 0 = .ok (.aload_n 0, 1) := by decide +kernel
theorem dX10_setSnow_1 : decode cX10_setSnow 1 = .ok (.iconst 0, 1) := by decide +kernel
theorem dX10_setSnow_2 : decode cX10_setSnow 2 = .ok (.putfield 80, 3) := by decide +kernel
theorem dX10_setSnow_5 : decode cX10_setSnow 5 = .ok (.aload_n 0, 1) := by decide +kernel
theorem dX10_setSnow_6 : decode cX10_setSnow 6 = .ok (.iload_n 1, 1) := by decide +kernel
theorem dX10_setSnow_7 : decode cX10_setSnow 7 = .ok (.iload_n 2, 1) := by decide +kernel
theorem dX10_setSnow_8 : decode cX10_setSnow 8 = .ok (.iload_n 3, 1) := by decide +kernel
theorem dX10_setSnow_9 : decode cX10_setSnow 9 = .ok (.invokevirtual 330, 3) := by decide +kernel
theorem dX10_setSnow_12 : decode cX10_setSnow 12 = .ok (.ireturn, 1) := by decide +kernel
theorem dX10_writes_0 : decode cX10_writes 0 = .ok (.aload_n 0, 1) := by decide +kernel
theorem dX10_writes_1 : decode cX10_writes 1 = .ok (.getfield 45, 3) := by decide +kernel
theorem dX10_writes_4 : decode cX10_writes 4 = .ok (.aload_n 0, 1) := by decide +kernel
theorem dX10_writes_5 : decode cX10_writes 5 = .ok (.getfield 414, 3) := by decide +kernel
theorem dX10_writes_8 : decode cX10_writes 8 = .ok (.iload_n 1, 1) := by decide +kernel
theorem dX10_writes_9 : decode cX10_writes 9 = .ok (.iastore, 1) := by decide +kernel
theorem dX10_writes_10 : decode cX10_writes 10 = .ok (.aload_n 0, 1) := by decide +kernel
theorem dX10_writes_11 : decode cX10_writes 11 = .ok (.dup, 1) := by decide +kernel
theorem dX10_writes_12 : decode cX10_writes 12 = .ok (.getfield 414, 3) := by decide +kernel
theorem dX10_writes_15 : decode cX10_writes 15 = .ok (.iconst 1, 1) := by decide +kernel
theorem dX10_writes_16 : decode cX10_writes 16 = .ok (.iadd, 1) := by decide +kernel
theorem dX10_writes_17 : decode cX10_writes 17 = .ok (.putfield 414, 3) := by decide +kernel
theorem dX10_writes_20 : decode cX10_writes 20 = .ok (.return_, 1) := by decide +kernel
theorem dX10_writesNumber_0 : decode cX10_writesNumber 0 = .ok (.iload_n 1, 1) := by decide +kernel
theorem dX10_writesNumber_1 : decode cX10_writesNumber 1 = .ok (.bipush 9, 2) := by decide +kernel
theorem dX10_writesNumber_3 : decode cX10_writesNumber 3 = .ok (.if_icmp .le 14, 3) := by decide +kernel
theorem dX10_writesNumber_6 : decode cX10_writesNumber 6 = .ok (.aload_n 0, 1) := by decide +kernel
theorem dX10_writesNumber_7 : decode cX10_writesNumber 7 = .ok (.bipush 48, 2) := by decide +kernel
theorem dX10_writesNumber_9 : decode cX10_writesNumber 9 = .ok (.iload_n 1, 1) := by decide +kernel
theorem dX10_writesNumber_10 : decode cX10_writesNumber 10 = .ok (.bipush 10, 2) := by decide +kernel
theorem dX10_writesNumber_12 : decode cX10_writesNumber 12 = .ok (.idiv, 1) := by decide +kernel
theorem dX10_writesNumber_13 : decode cX10_writesNumber 13 = .ok (.iadd, 1) := by decide +kernel
theorem dX10_writesNumber_14 : decode cX10_writesNumber 14 = .ok (.invokevirtual 417, 3) := by decide +kernel
theorem dX10_writesNumber_17 : decode cX10_writesNumber 17 = .ok (.aload_n 0, 1) := by decide +kernel
theorem dX10_writesNumber_18 : decode cX10_writesNumber 18 = .ok (.bipush 48, 2) := by decide +kernel
theorem dX10_writesNumber_20 : decode cX10_writesNumber 20 = .ok (.iload_n 1, 1) := by decide +kernel
theorem dX10_writesNumber_21 : decode cX10_writesNumber 21 = .ok (.bipush 10, 2) := by decide +kernel
theorem dX10_writesNumber_23 : decode cX10_writesNumber 23 = .ok (.irem, 1) := by decide +kernel
theorem dX10_writesNumber_24 : decode cX10_writesNumber 24 = .ok (.iadd, 1) := by decide +kernel
theorem dX10_writesNumber_25 : decode cX10_writesNumber 25 = .ok (.invokevirtual 417, 3) := by decide +kernel
theorem dX10_writesNumber_28 : decode cX10_writesNumber 28 = .ok (.return_, 1) := by decide +kernel
theorem dX10_writeBoard_0 : decode cX10_writeBoard 0 = .ok (.aload_n 0, 1) := by decide +kernel
theorem dX10_writeBoard_1 : decode cX10_writeBoard 1 = .ok (.iconst 0, 1) := by decide +kernel
theorem dX10_writeBoard_2 : decode cX10_writeBoard 2 = .ok (.putfield 80, 3) := by decide +kernel
theorem dX10_writeBoard_5 : decode cX10_writeBoard 5 = .ok (.aload_n 0, 1) := by decide +kernel
theorem dX10_writeBoard_6 : decode cX10_writeBoard 6 = .ok (.iload_n 1, 1) := by decide +kernel
theorem dX10_writeBoard_7 : decode cX10_writeBoard 7 = .ok (.invokestatic 349, 3) := by decide +kernel
theorem dX10_writeBoard_10 : decode cX10_writeBoard 10 = .ok (.iconst 1, 1) := by decide +kernel
theorem dX10_writeBoard_11 : decode cX10_writeBoard 11 = .ok (.invokevirtual 197, 3) := by decide +kernel
theorem dX10_writeBoard_14 : decode cX10_writeBoard 14 = .ok (.ifCond .ne 5, 3) := by decide +kernel
theorem dX10_writeBoard_17 : decode cX10_writeBoard 17 = .ok (.iconst 0, 1) := by decide +kernel
theorem dX10_writeBoard_18 : decode cX10_writeBoard 18 = .ok (.ireturn, 1) := by decide +kernel
theorem dX10_writeBoard_19 : decode cX10_writeBoard 19 = .ok (.aload_n 0, 1) := by decide +kernel
theorem dX10_writeBoard_20 : decode cX10_writeBoard 20 = .ok (.iconst 0, 1) := by decide +kernel
theorem dX10_writeBoard_21 : decode cX10_writeBoard 21 = .ok (.putfield 414, 3) := by decide +kernel
theorem dX10_writeBoard_24 : decode cX10_writeBoard 24 = .ok (.aload_n 0, 1) := by decide +kernel
theorem dX10_writeBoard_25 : decode cX10_writeBoard 25 = .ok (.getfield 7, 3) := by decide +kernel
theorem dX10_writeBoard_28 : decode cX10_writeBoard 28 = .ok (.iconst 0, 1) := by decide +kernel
theorem dX10_writeBoard_29 : decode cX10_writeBoard 29 = .ok (.iaload, 1) := by decide +kernel
theorem dX10_writeBoard_30 : decode cX10_writeBoard 30 = .ok (.iconst 1, 1) := by decide +kernel
theorem dX10_writeBoard_31 : decode cX10_writeBoard 31 = .ok (.isub, 1) := by decide +kernel
theorem dX10_writeBoard_32 : decode cX10_writeBoard 32 = .ok (.istore_n 2, 1) := by decide +kernel
theorem dX10_writeBoard_33 : decode cX10_writeBoard 33 = .ok (.iload_n 2, 1) := by decide +kernel
theorem dX10_writeBoard_34 : decode cX10_writeBoard 34 = .ok (.ifCond .lt 81, 3) := by decide +kernel
theorem dX10_writeBoard_37 : decode cX10_writeBoard 37 = .ok (.iconst 0, 1) := by decide +kernel
theorem dX10_writeBoard_38 : decode cX10_writeBoard 38 = .ok (.istore_n 3, 1) := by decide +kernel
theorem dX10_writeBoard_39 : decode cX10_writeBoard 39 = .ok (.iload_n 3, 1) := by decide +kernel
theorem dX10_writeBoard_40 : decode cX10_writeBoard 40 = .ok (.aload_n 0, 1) := by decide +kernel
theorem dX10_writeBoard_41 : decode cX10_writeBoard 41 = .ok (.getfield 7, 3) := by decide +kernel
theorem dX10_writeBoard_44 : decode cX10_writeBoard 44 = .ok (.iconst 0, 1) := by decide +kernel
theorem dX10_writeBoard_45 : decode cX10_writeBoard 45 = .ok (.iaload, 1) := by decide +kernel
theorem dX10_writeBoard_46 : decode cX10_writeBoard 46 = .ok (.if_icmp .ge 53, 3) := by decide +kernel
theorem dX10_writeBoard_49 : decode cX10_writeBoard 49 = .ok (.aload_n 0, 1) := by decide +kernel
theorem dX10_writeBoard_50 : decode cX10_writeBoard 50 = .ok (.iload_n 1, 1) := by decide +kernel
theorem dX10_writeBoard_51 : decode cX10_writeBoard 51 = .ok (.aload_n 0, 1) := by decide +kernel
theorem dX10_writeBoard_52 : decode cX10_writeBoard 52 = .ok (.getfield 7, 3) := by decide +kernel
theorem dX10_writeBoard_55 : decode cX10_writeBoard 55 = .ok (.iconst 0, 1) := by decide +kernel
theorem dX10_writeBoard_56 : decode cX10_writeBoard 56 = .ok (.iaload, 1) := by decide +kernel
theorem dX10_writeBoard_57 : decode cX10_writeBoard 57 = .ok (.iload_n 2, 1) := by decide +kernel
theorem dX10_writeBoard_58 : decode cX10_writeBoard 58 = .ok (.imul, 1) := by decide +kernel
theorem dX10_writeBoard_59 : decode cX10_writeBoard 59 = .ok (.iload_n 3, 1) := by decide +kernel
theorem dX10_writeBoard_60 : decode cX10_writeBoard 60 = .ok (.iadd, 1) := by decide +kernel
theorem dX10_writeBoard_61 : decode cX10_writeBoard 61 = .ok (.invokevirtual 90, 3) := by decide +kernel
theorem dX10_writeBoard_64 : decode cX10_writeBoard 64 = .ok (.istore 4, 2) := by decide +kernel
theorem dX10_writeBoard_66 : decode cX10_writeBoard 66 = .ok (.aload_n 0, 1) := by decide +kernel
theorem dX10_writeBoard_67 : decode cX10_writeBoard 67 = .ok (.iload 4, 2) := by decide +kernel
theorem dX10_writeBoard_69 : decode cX10_writeBoard 69 = .ok (.iconst (-1), 1) := by decide +kernel
theorem dX10_writeBoard_70 : decode cX10_writeBoard 70 = .ok (.if_icmp .ne 8, 3) := by decide +kernel
theorem dX10_writeBoard_73 : decode cX10_writeBoard 73 = .ok (.bipush 46, 2) := by decide +kernel
theorem dX10_writeBoard_75 : decode cX10_writeBoard 75 = .ok (.goto 15, 3) := by decide +kernel
theorem dX10_writeBoard_78 : decode cX10_writeBoard 78 = .ok (.iload 4, 2) := by decide +kernel
theorem dX10_writeBoard_80 : decode cX10_writeBoard 80 = .ok (.ifCond .ne 8, 3) := by decide +kernel
theorem dX10_writeBoard_83 : decode cX10_writeBoard 83 = .ok (.bipush 119, 2) := by decide +kernel
theorem dX10_writeBoard_85 : decode cX10_writeBoard 85 = .ok (.goto 5, 3) := by decide +kernel
theorem dX10_writeBoard_88 : decode cX10_writeBoard 88 = .ok (.bipush 98, 2) := by decide +kernel
theorem dX10_writeBoard_90 : decode cX10_writeBoard 90 = .ok (.invokevirtual 417, 3) := by decide +kernel
theorem dX10_writeBoard_93 : decode cX10_writeBoard 93 = .ok (.iinc 3 1, 3) := by decide +kernel
theorem dX10_writeBoard_96 : decode cX10_writeBoard 96 = .ok (.goto (-57), 3) := by decide +kernel
theorem dX10_writeBoard_99 : decode cX10_writeBoard 99 = .ok (.iload_n 2, 1) := by decide +kernel
theorem dX10_writeBoard_100 : decode cX10_writeBoard 100 = .ok (.ifCond .le 9, 3) := by decide +kernel
theorem dX10_writeBoard_103 : decode cX10_writeBoard 103 = .ok (.aload_n 0, 1) := by decide +kernel
theorem dX10_writeBoard_104 : decode cX10_writeBoard 104 = .ok (.bipush 47, 2) := by decide +kernel
theorem dX10_writeBoard_106 : decode cX10_writeBoard 106 = .ok (.invokevirtual 417, 3) := by decide +kernel
theorem dX10_writeBoard_109 : decode cX10_writeBoard 109 = .ok (.iinc 2 (-1), 3) := by decide +kernel
theorem dX10_writeBoard_112 : decode cX10_writeBoard 112 = .ok (.goto (-79), 3) := by decide +kernel
theorem dX10_writeBoard_115 : decode cX10_writeBoard 115 = .ok (.aload_n 0, 1) := by decide +kernel
theorem dX10_writeBoard_116 : decode cX10_writeBoard 116 = .ok (.getfield 414, 3) := by decide +kernel
theorem dX10_writeBoard_119 : decode cX10_writeBoard 119 = .ok (.ireturn, 1) := by decide +kernel
theorem dX10_writeMoves_0 : decode cX10_writeMoves 0 = .ok (.aload_n 0, 1) := by decide +kernel
theorem dX10_writeMoves_1 : decode cX10_writeMoves 1 = .ok (.iconst 0, 1) := by decide +kernel
theorem dX10_writeMoves_2 : decode cX10_writeMoves 2 = .ok (.putfield 80, 3) := by decide +kernel
theorem dX10_writeMoves_5 : decode cX10_writeMoves 5 = .ok (.aload_n 0, 1) := by decide +kernel
theorem dX10_writeMoves_6 : decode cX10_writeMoves 6 = .ok (.iload_n 1, 1) := by decide +kernel
theorem dX10_writeMoves_7 : decode cX10_writeMoves 7 = .ok (.invokestatic 349, 3) := by decide +kernel
theorem dX10_writeMoves_10 : decode cX10_writeMoves 10 = .ok (.iconst 1, 1) := by decide +kernel
theorem dX10_writeMoves_11 : decode cX10_writeMoves 11 = .ok (.invokevirtual 197, 3) := by decide +kernel
theorem dX10_writeMoves_14 : decode cX10_writeMoves 14 = .ok (.ifCond .ne 5, 3) := by decide +kernel
theorem dX10_writeMoves_17 : decode cX10_writeMoves 17 = .ok (.iconst 0, 1) := by decide +kernel
theorem dX10_writeMoves_18 : decode cX10_writeMoves 18 = .ok (.ireturn, 1) := by decide +kernel
theorem dX10_writeMoves_19 : decode cX10_writeMoves 19 = .ok (.aload_n 0, 1) := by decide +kernel
theorem dX10_writeMoves_20 : decode cX10_writeMoves 20 = .ok (.iconst 0, 1) := by decide +kernel
theorem dX10_writeMoves_21 : decode cX10_writeMoves 21 = .ok (.putfield 414, 3) := by decide +kernel
theorem dX10_writeMoves_24 : decode cX10_writeMoves 24 = .ok (.iconst 1, 1) := by decide +kernel
theorem dX10_writeMoves_25 : decode cX10_writeMoves 25 = .ok (.istore_n 2, 1) := by decide +kernel
theorem dX10_writeMoves_26 : decode cX10_writeMoves 26 = .ok (.iload_n 2, 1) := by decide +kernel
theorem dX10_writeMoves_27 : decode cX10_writeMoves 27 = .ok (.aload_n 0, 1) := by decide +kernel
theorem dX10_writeMoves_28 : decode cX10_writeMoves 28 = .ok (.iload_n 1, 1) := by decide +kernel
theorem dX10_writeMoves_29 : decode cX10_writeMoves 29 = .ok (.iconst 0, 1) := by decide +kernel
theorem dX10_writeMoves_30 : decode cX10_writeMoves 30 = .ok (.invokevirtual 97, 3) := by decide +kernel
theorem dX10_writeMoves_33 : decode cX10_writeMoves 33 = .ok (.if_icmp .gt 64, 3) := by decide +kernel
theorem dX10_writeMoves_36 : decode cX10_writeMoves 36 = .ok (.iload_n 2, 1) := by decide +kernel
theorem dX10_writeMoves_37 : decode cX10_writeMoves 37 = .ok (.iconst 1, 1) := by decide +kernel
theorem dX10_writeMoves_38 : decode cX10_writeMoves 38 = .ok (.if_icmp .le 9, 3) := by decide +kernel
theorem dX10_writeMoves_41 : decode cX10_writeMoves 41 = .ok (.aload_n 0, 1) := by decide +kernel
theorem dX10_writeMoves_42 : decode cX10_writeMoves 42 = .ok (.bipush 32, 2) := by decide +kernel
theorem dX10_writeMoves_44 : decode cX10_writeMoves 44 = .ok (.invokevirtual 417, 3) := by decide +kernel
theorem dX10_writeMoves_47 : decode cX10_writeMoves 47 = .ok (.aload_n 0, 1) := by decide +kernel
theorem dX10_writeMoves_48 : decode cX10_writeMoves 48 = .ok (.aload_n 0, 1) := by decide +kernel
theorem dX10_writeMoves_49 : decode cX10_writeMoves 49 = .ok (.iload_n 1, 1) := by decide +kernel
theorem dX10_writeMoves_50 : decode cX10_writeMoves 50 = .ok (.iload_n 2, 1) := by decide +kernel
theorem dX10_writeMoves_51 : decode cX10_writeMoves 51 = .ok (.iconst 0, 1) := by decide +kernel
theorem dX10_writeMoves_52 : decode cX10_writeMoves 52 = .ok (.invokevirtual 133, 3) := by decide +kernel
theorem dX10_writeMoves_55 : decode cX10_writeMoves 55 = .ok (.invokevirtual 420, 3) := by decide +kernel
theorem dX10_writeMoves_58 : decode cX10_writeMoves 58 = .ok (.aload_n 0, 1) := by decide +kernel
theorem dX10_writeMoves_59 : decode cX10_writeMoves 59 = .ok (.aload_n 0, 1) := by decide +kernel
theorem dX10_writeMoves_60 : decode cX10_writeMoves 60 = .ok (.iload_n 1, 1) := by decide +kernel
theorem dX10_writeMoves_61 : decode cX10_writeMoves 61 = .ok (.iload_n 2, 1) := by decide +kernel
theorem dX10_writeMoves_62 : decode cX10_writeMoves 62 = .ok (.iconst 2, 1) := by decide +kernel
theorem dX10_writeMoves_63 : decode cX10_writeMoves 63 = .ok (.invokevirtual 133, 3) := by decide +kernel
theorem dX10_writeMoves_66 : decode cX10_writeMoves 66 = .ok (.iconst 1, 1) := by decide +kernel
theorem dX10_writeMoves_67 : decode cX10_writeMoves 67 = .ok (.if_icmp .ne 8, 3) := by decide +kernel
theorem dX10_writeMoves_70 : decode cX10_writeMoves 70 = .ok (.bipush 120, 2) := by decide +kernel
theorem dX10_writeMoves_72 : decode cX10_writeMoves 72 = .ok (.goto 5, 3) := by decide +kernel
theorem dX10_writeMoves_75 : decode cX10_writeMoves 75 = .ok (.bipush 45, 2) := by decide +kernel
theorem dX10_writeMoves_77 : decode cX10_writeMoves 77 = .ok (.invokevirtual 417, 3) := by decide +kernel
theorem dX10_writeMoves_80 : decode cX10_writeMoves 80 = .ok (.aload_n 0, 1) := by decide +kernel
theorem dX10_writeMoves_81 : decode cX10_writeMoves 81 = .ok (.aload_n 0, 1) := by decide +kernel
theorem dX10_writeMoves_82 : decode cX10_writeMoves 82 = .ok (.iload_n 1, 1) := by decide +kernel
theorem dX10_writeMoves_83 : decode cX10_writeMoves 83 = .ok (.iload_n 2, 1) := by decide +kernel
theorem dX10_writeMoves_84 : decode cX10_writeMoves 84 = .ok (.iconst 1, 1) := by decide +kernel
theorem dX10_writeMoves_85 : decode cX10_writeMoves 85 = .ok (.invokevirtual 133, 3) := by decide +kernel
theorem dX10_writeMoves_88 : decode cX10_writeMoves 88 = .ok (.invokevirtual 420, 3) := by decide +kernel
theorem dX10_writeMoves_91 : decode cX10_writeMoves 91 = .ok (.iinc 2 1, 3) := by decide +kernel
theorem dX10_writeMoves_94 : decode cX10_writeMoves 94 = .ok (.goto (-68), 3) := by decide +kernel
theorem dX10_writeMoves_97 : decode cX10_writeMoves 97 = .ok (.aload_n 0, 1) := by decide +kernel
theorem dX10_writeMoves_98 : decode cX10_writeMoves 98 = .ok (.getfield 414, 3) := by decide +kernel
theorem dX10_writeMoves_101 : decode cX10_writeMoves 101 = .ok (.ireturn, 1) := by decide +kernel
theorem dX10_outputByte_0 : decode cX10_outputByte 0 = .ok (.aload_n 0, 1) := by decide +kernel
theorem dX10_outputByte_1 : decode cX10_outputByte 1 = .ok (.iconst 0, 1) := by decide +kernel
theorem dX10_outputByte_2 : decode cX10_outputByte 2 = .ok (.putfield 80, 3) := by decide +kernel
theorem dX10_outputByte_5 : decode cX10_outputByte 5 = .ok (.iload_n 1, 1) := by decide +kernel
theorem dX10_outputByte_6 : decode cX10_outputByte 6 = .ok (.iconst 0, 1) := by decide +kernel
theorem dX10_outputByte_7 : decode cX10_outputByte 7 = .ok (.aload_n 0, 1) := by decide +kernel
theorem dX10_outputByte_8 : decode cX10_outputByte 8 = .ok (.getfield 414, 3) := by decide +kernel
theorem dX10_outputByte_11 : decode cX10_outputByte 11 = .ok (.iconst 1, 1) := by decide +kernel
theorem dX10_outputByte_12 : decode cX10_outputByte 12 = .ok (.isub, 1) := by decide +kernel
theorem dX10_outputByte_13 : decode cX10_outputByte 13 = .ok (.invokestatic 83, 3) := by decide +kernel
theorem dX10_outputByte_16 : decode cX10_outputByte 16 = .ok (.ifCond .eq 12, 3) := by decide +kernel
theorem dX10_outputByte_19 : decode cX10_outputByte 19 = .ok (.aload_n 0, 1) := by decide +kernel
theorem dX10_outputByte_20 : decode cX10_outputByte 20 = .ok (.getfield 45, 3) := by decide +kernel
theorem dX10_outputByte_23 : decode cX10_outputByte 23 = .ok (.iload_n 1, 1) := by decide +kernel
theorem dX10_outputByte_24 : decode cX10_outputByte 24 = .ok (.iaload, 1) := by decide +kernel
theorem dX10_outputByte_25 : decode cX10_outputByte 25 = .ok (.goto 4, 3) := by decide +kernel
theorem dX10_outputByte_28 : decode cX10_outputByte 28 = .ok (.iconst (-1), 1) := by decide +kernel
theorem dX10_outputByte_29 : decode cX10_outputByte 29 = .ok (.ireturn, 1) := by decide +kernel
theorem dX10_undoCount_0 : decode cX10_undoCount 0 = .ok (.aload_n 0, 1) := by decide +kernel
theorem dX10_undoCount_1 : decode cX10_undoCount 1 = .ok (.iconst 0, 1) := by decide +kernel
theorem dX10_undoCount_2 : decode cX10_undoCount 2 = .ok (.putfield 80, 3) := by decide +kernel
theorem dX10_undoCount_5 : decode cX10_undoCount 5 = .ok (.aload_n 0, 1) := by decide +kernel
theorem dX10_undoCount_6 : decode cX10_undoCount 6 = .ok (.getfield 274, 3) := by decide +kernel
theorem dX10_undoCount_9 : decode cX10_undoCount 9 = .ok (.ireturn, 1) := by decide +kernel
theorem dX10_undo_0 : decode cX10_undo 0 = .ok (.aload_n 0, 1) := by decide +kernel
theorem dX10_undo_1 : decode cX10_undo 1 = .ok (.iconst 0, 1) := by decide +kernel
theorem dX10_undo_2 : decode cX10_undo 2 = .ok (.putfield 80, 3) := by decide +kernel
theorem dX10_undo_5 : decode cX10_undo 5 = .ok (.aload_n 0, 1) := by decide +kernel
theorem dX10_undo_6 : decode cX10_undo 6 = .ok (.aload_n 0, 1) := by decide +kernel
theorem dX10_undo_7 : decode cX10_undo 7 = .ok (.getfield 274, 3) := by decide +kernel
theorem dX10_undo_10 : decode cX10_undo 10 = .ok (.ifCond .le 7, 3) := by decide +kernel
theorem dX10_undo_13 : decode cX10_undo 13 = .ok (.iconst 1, 1) := by decide +kernel
theorem dX10_undo_14 : decode cX10_undo 14 = .ok (.goto 4, 3) := by decide +kernel
theorem dX10_undo_17 : decode cX10_undo 17 = .ok (.iconst 0, 1) := by decide +kernel
theorem dX10_undo_18 : decode cX10_undo 18 = .ok (.iconst 1, 1) := by decide +kernel
theorem dX10_undo_19 : decode cX10_undo 19 = .ok (.invokevirtual 197, 3) := by decide +kernel
theorem dX10_undo_22 : decode cX10_undo 22 = .ok (.ifCond .ne 5, 3) := by decide +kernel
theorem dX10_undo_25 : decode cX10_undo 25 = .ok (.iconst 0, 1) := by decide +kernel
theorem dX10_undo_26 : decode cX10_undo 26 = .ok (.ireturn, 1) := by decide +kernel
theorem dX10_undo_27 : decode cX10_undo 27 = .ok (.aload_n 0, 1) := by decide +kernel
theorem dX10_undo_28 : decode cX10_undo 28 = .ok (.dup, 1) := by decide +kernel
theorem dX10_undo_29 : decode cX10_undo 29 = .ok (.getfield 274, 3) := by decide +kernel
theorem dX10_undo_32 : decode cX10_undo 32 = .ok (.iconst 1, 1) := by decide +kernel
theorem dX10_undo_33 : decode cX10_undo 33 = .ok (.isub, 1) := by decide +kernel
theorem dX10_undo_34 : decode cX10_undo 34 = .ok (.putfield 274, 3) := by decide +kernel
theorem dX10_undo_37 : decode cX10_undo 37 = .ok (.iconst 0, 1) := by decide +kernel
theorem dX10_undo_38 : decode cX10_undo 38 = .ok (.istore_n 1, 1) := by decide +kernel
theorem dX10_undo_39 : decode cX10_undo 39 = .ok (.iload_n 1, 1) := by decide +kernel
theorem dX10_undo_40 : decode cX10_undo 40 = .ok (.sipush 2091, 3) := by decide +kernel
theorem dX10_undo_43 : decode cX10_undo 43 = .ok (.if_icmp .ge 30, 3) := by decide +kernel
theorem dX10_undo_46 : decode cX10_undo 46 = .ok (.aload_n 0, 1) := by decide +kernel
theorem dX10_undo_47 : decode cX10_undo 47 = .ok (.getfield 7, 3) := by decide +kernel
theorem dX10_undo_50 : decode cX10_undo 50 = .ok (.iload_n 1, 1) := by decide +kernel
theorem dX10_undo_51 : decode cX10_undo 51 = .ok (.aload_n 0, 1) := by decide +kernel
theorem dX10_undo_52 : decode cX10_undo 52 = .ok (.getfield 19, 3) := by decide +kernel
theorem dX10_undo_55 : decode cX10_undo 55 = .ok (.sipush 2091, 3) := by decide +kernel
theorem dX10_undo_58 : decode cX10_undo 58 = .ok (.aload_n 0, 1) := by decide +kernel
theorem dX10_undo_59 : decode cX10_undo 59 = .ok (.getfield 274, 3) := by decide +kernel
theorem dX10_undo_62 : decode cX10_undo 62 = .ok (.imul, 1) := by decide +kernel
theorem dX10_undo_63 : decode cX10_undo 63 = .ok (.iload_n 1, 1) := by decide +kernel
theorem dX10_undo_64 : decode cX10_undo 64 = .ok (.iadd, 1) := by decide +kernel
theorem dX10_undo_65 : decode cX10_undo 65 = .ok (.iaload, 1) := by decide +kernel
theorem dX10_undo_66 : decode cX10_undo 66 = .ok (.iastore, 1) := by decide +kernel
theorem dX10_undo_67 : decode cX10_undo 67 = .ok (.iinc 1 1, 3) := by decide +kernel
theorem dX10_undo_70 : decode cX10_undo 70 = .ok (.goto (-31), 3) := by decide +kernel
theorem dX10_undo_73 : decode cX10_undo 73 = .ok (.aload_n 0, 1) := by decide +kernel
theorem dX10_undo_74 : decode cX10_undo 74 = .ok (.getfield 274, 3) := by decide +kernel
theorem dX10_undo_77 : decode cX10_undo 77 = .ok (.ireturn, 1) := by decide +kernel
theorem dX10_save_0 : decode cX10_save 0 = .ok (.aload_n 0, 1) := by decide +kernel
theorem dX10_save_1 : decode cX10_save 1 = .ok (.iconst 0, 1) := by decide +kernel
theorem dX10_save_2 : decode cX10_save 2 = .ok (.putfield 80, 3) := by decide +kernel
theorem dX10_save_5 : decode cX10_save 5 = .ok (.aload_n 0, 1) := by decide +kernel
theorem dX10_save_6 : decode cX10_save 6 = .ok (.iload_n 1, 1) := by decide +kernel
theorem dX10_save_7 : decode cX10_save 7 = .ok (.iconst 0, 1) := by decide +kernel
theorem dX10_save_8 : decode cX10_save 8 = .ok (.iconst 1, 1) := by decide +kernel
theorem dX10_save_9 : decode cX10_save 9 = .ok (.invokestatic 83, 3) := by decide +kernel
theorem dX10_save_12 : decode cX10_save 12 = .ok (.iconst 1, 1) := by decide +kernel
theorem dX10_save_13 : decode cX10_save 13 = .ok (.invokevirtual 197, 3) := by decide +kernel
theorem dX10_save_16 : decode cX10_save 16 = .ok (.ifCond .ne 5, 3) := by decide +kernel
theorem dX10_save_19 : decode cX10_save 19 = .ok (.iconst 0, 1) := by decide +kernel
theorem dX10_save_20 : decode cX10_save 20 = .ok (.ireturn, 1) := by decide +kernel
theorem dX10_save_21 : decode cX10_save 21 = .ok (.iconst 0, 1) := by decide +kernel
theorem dX10_save_22 : decode cX10_save 22 = .ok (.istore_n 2, 1) := by decide +kernel
theorem dX10_save_23 : decode cX10_save 23 = .ok (.iload_n 2, 1) := by decide +kernel
theorem dX10_save_24 : decode cX10_save 24 = .ok (.sipush 2091, 3) := by decide +kernel
theorem dX10_save_27 : decode cX10_save 27 = .ok (.if_icmp .ge 27, 3) := by decide +kernel
theorem dX10_save_30 : decode cX10_save 30 = .ok (.aload_n 0, 1) := by decide +kernel
theorem dX10_save_31 : decode cX10_save 31 = .ok (.getfield 22, 3) := by decide +kernel
theorem dX10_save_34 : decode cX10_save 34 = .ok (.sipush 2091, 3) := by decide +kernel
theorem dX10_save_37 : decode cX10_save 37 = .ok (.iload_n 1, 1) := by decide +kernel
theorem dX10_save_38 : decode cX10_save 38 = .ok (.imul, 1) := by decide +kernel
theorem dX10_save_39 : decode cX10_save 39 = .ok (.iload_n 2, 1) := by decide +kernel
theorem dX10_save_40 : decode cX10_save 40 = .ok (.iadd, 1) := by decide +kernel
theorem dX10_save_41 : decode cX10_save 41 = .ok (.aload_n 0, 1) := by decide +kernel
theorem dX10_save_42 : decode cX10_save 42 = .ok (.getfield 7, 3) := by decide +kernel
theorem dX10_save_45 : decode cX10_save 45 = .ok (.iload_n 2, 1) := by decide +kernel
theorem dX10_save_46 : decode cX10_save 46 = .ok (.iaload, 1) := by decide +kernel
theorem dX10_save_47 : decode cX10_save 47 = .ok (.iastore, 1) := by decide +kernel
theorem dX10_save_48 : decode cX10_save 48 = .ok (.iinc 2 1, 3) := by decide +kernel
theorem dX10_save_51 : decode cX10_save 51 = .ok (.goto (-28), 3) := by decide +kernel
theorem dX10_save_54 : decode cX10_save 54 = .ok (.aload_n 0, 1) := by decide +kernel
theorem dX10_save_55 : decode cX10_save 55 = .ok (.getfield 25, 3) := by decide +kernel
theorem dX10_save_58 : decode cX10_save 58 = .ok (.iload_n 1, 1) := by decide +kernel
theorem dX10_save_59 : decode cX10_save 59 = .ok (.iconst 1, 1) := by decide +kernel
theorem dX10_save_60 : decode cX10_save 60 = .ok (.bastore, 1) := by decide +kernel
theorem dX10_save_61 : decode cX10_save 61 = .ok (.aload_n 0, 1) := by decide +kernel
theorem dX10_save_62 : decode cX10_save 62 = .ok (.getfield 7, 3) := by decide +kernel
theorem dX10_save_65 : decode cX10_save 65 = .ok (.iconst 2, 1) := by decide +kernel
theorem dX10_save_66 : decode cX10_save 66 = .ok (.iaload, 1) := by decide +kernel
theorem dX10_save_67 : decode cX10_save 67 = .ok (.ireturn, 1) := by decide +kernel
theorem dX10_restore_0 : decode cX10_restore 0 = .ok (.aload_n 0, 1) := by decide +kernel
theorem dX10_restore_1 : decode cX10_restore 1 = .ok (.iconst 0, 1) := by decide +kernel
theorem dX10_restore_2 : decode cX10_restore 2 = .ok (.putfield 80, 3) := by decide +kernel
theorem dX10_restore_5 : decode cX10_restore 5 = .ok (.aload_n 0, 1) := by decide +kernel
theorem dX10_restore_6 : decode cX10_restore 6 = .ok (.iload_n 1, 1) := by decide +kernel
theorem dX10_restore_7 : decode cX10_restore 7 = .ok (.iconst 0, 1) := by decide +kernel
theorem dX10_restore_8 : decode cX10_restore 8 = .ok (.iconst 1, 1) := by decide +kernel
theorem dX10_restore_9 : decode cX10_restore 9 = .ok (.invokestatic 83, 3) := by decide +kernel
theorem dX10_restore_12 : decode cX10_restore 12 = .ok (.iconst 1, 1) := by decide +kernel
theorem dX10_restore_13 : decode cX10_restore 13 = .ok (.invokevirtual 197, 3) := by decide +kernel
theorem dX10_restore_16 : decode cX10_restore 16 = .ok (.ifCond .eq 17, 3) := by decide +kernel
theorem dX10_restore_19 : decode cX10_restore 19 = .ok (.aload_n 0, 1) := by decide +kernel
theorem dX10_restore_20 : decode cX10_restore 20 = .ok (.aload_n 0, 1) := by decide +kernel
theorem dX10_restore_21 : decode cX10_restore 21 = .ok (.getfield 25, 3) := by decide +kernel
theorem dX10_restore_24 : decode cX10_restore 24 = .ok (.iload_n 1, 1) := by decide +kernel
theorem dX10_restore_25 : decode cX10_restore 25 = .ok (.baload, 1) := by decide +kernel
theorem dX10_restore_26 : decode cX10_restore 26 = .ok (.iconst 2, 1) := by decide +kernel
theorem dX10_restore_27 : decode cX10_restore 27 = .ok (.invokevirtual 197, 3) := by decide +kernel
theorem dX10_restore_30 : decode cX10_restore 30 = .ok (.ifCond .ne 5, 3) := by decide +kernel
theorem dX10_restore_33 : decode cX10_restore 33 = .ok (.iconst 0, 1) := by decide +kernel
theorem dX10_restore_34 : decode cX10_restore 34 = .ok (.ireturn, 1) := by decide +kernel
theorem dX10_restore_35 : decode cX10_restore 35 = .ok (.iconst 0, 1) := by decide +kernel
theorem dX10_restore_36 : decode cX10_restore 36 = .ok (.istore_n 2, 1) := by decide +kernel
theorem dX10_restore_37 : decode cX10_restore 37 = .ok (.iload_n 2, 1) := by decide +kernel
theorem dX10_restore_38 : decode cX10_restore 38 = .ok (.sipush 2091, 3) := by decide +kernel
theorem dX10_restore_41 : decode cX10_restore 41 = .ok (.if_icmp .ge 27, 3) := by decide +kernel
theorem dX10_restore_44 : decode cX10_restore 44 = .ok (.aload_n 0, 1) := by decide +kernel
theorem dX10_restore_45 : decode cX10_restore 45 = .ok (.getfield 7, 3) := by decide +kernel
theorem dX10_restore_48 : decode cX10_restore 48 = .ok (.iload_n 2, 1) := by decide +kernel
theorem dX10_restore_49 : decode cX10_restore 49 = .ok (.aload_n 0, 1) := by decide +kernel
theorem dX10_restore_50 : decode cX10_restore 50 = .ok (.getfield 22, 3) := by decide +kernel
theorem dX10_restore_53 : decode cX10_restore 53 = .ok (.sipush 2091, 3) := by decide +kernel
theorem dX10_restore_56 : decode cX10_restore 56 = .ok (.iload_n 1, 1) := by decide +kernel
theorem dX10_restore_57 : decode cX10_restore 57 = .ok (.imul, 1) := by decide +kernel
theorem dX10_restore_58 : decode cX10_restore 58 = .ok (.iload_n 2, 1) := by decide +kernel
theorem dX10_restore_59 : decode cX10_restore 59 = .ok (.iadd, 1) := by decide +kernel
theorem dX10_restore_60 : decode cX10_restore 60 = .ok (.iaload, 1) := by decide +kernel
theorem dX10_restore_61 : decode cX10_restore 61 = .ok (.iastore, 1) := by decide +kernel
theorem dX10_restore_62 : decode cX10_restore 62 = .ok (.iinc 2 1, 3) := by decide +kernel
theorem dX10_restore_65 : decode cX10_restore 65 = .ok (.goto (-28), 3) := by decide +kernel
theorem dX10_restore_68 : decode cX10_restore 68 = .ok (.aload_n 0, 1) := by decide +kernel
theorem dX10_restore_69 : decode cX10_restore 69 = .ok (.iconst 0, 1) := by decide +kernel
theorem dX10_restore_70 : decode cX10_restore 70 = .ok (.putfield 274, 3) := by decide +kernel
theorem dX10_restore_73 : decode cX10_restore 73 = .ok (.aload_n 0, 1) := by decide +kernel
theorem dX10_restore_74 : decode cX10_restore 74 = .ok (.getfield 7, 3) := by decide +kernel
theorem dX10_restore_77 : decode cX10_restore 77 = .ok (.iconst 2, 1) := by decide +kernel
theorem dX10_restore_78 : decode cX10_restore 78 = .ok (.iaload, 1) := by decide +kernel
theorem dX10_restore_79 : decode cX10_restore 79 = .ok (.ireturn, 1) := by decide +kernel
theorem dJ9_abs_0f7a4_0 : decode cJ9_abs_0f7a4 0 = .ok (.iload_n 0, 1) := by decide +kernel
theorem dJ9_abs_0f7a4_1 : decode cJ9_abs_0f7a4 1 = .ok (.ifCond .ge 8, 3) := by decide +kernel
theorem dJ9_abs_0f7a4_4 : decode cJ9_abs_0f7a4 4 = .ok (.iload_n 0, 1) := by decide +kernel
theorem dJ9_abs_0f7a4_5 : decode cJ9_abs_0f7a4 5 = .ok (.ineg, 1) := by decide +kernel
theorem dJ9_abs_0f7a4_6 : decode cJ9_abs_0f7a4 6 = .ok (.goto 4, 3) := by decide +kernel
theorem dJ9_abs_0f7a4_9 : decode cJ9_abs_0f7a4 9 = .ok (.iload_n 0, 1) := by decide +kernel
theorem dJ9_abs_0f7a4_10 : decode cJ9_abs_0f7a4 10 = .ok (.ireturn, 1) := by decide +kernel
theorem dJ9_max_7cf53_0 : decode cJ9_max_7cf53 0 = .ok (.iload_n 0, 1) := by decide +kernel
theorem dJ9_max_7cf53_1 : decode cJ9_max_7cf53 1 = .ok (.iload_n 1, 1) := by decide +kernel
theorem dJ9_max_7cf53_2 : decode cJ9_max_7cf53 2 = .ok (.if_icmp .lt 7, 3) := by decide +kernel
theorem dJ9_max_7cf53_5 : decode cJ9_max_7cf53 5 = .ok (.iload_n 0, 1) := by decide +kernel
theorem dJ9_max_7cf53_6 : decode cJ9_max_7cf53 6 = .ok (.goto 4, 3) := by decide +kernel
theorem dJ9_max_7cf53_9 : decode cJ9_max_7cf53 9 = .ok (.iload_n 1, 1) := by decide +kernel
theorem dJ9_max_7cf53_10 : decode cJ9_max_7cf53 10 = .ok (.ireturn, 1) := by decide +kernel
theorem dJ9_min_7cf53_0 : decode cJ9_min_7cf53 0 = .ok (.iload_n 0, 1) := by decide +kernel
theorem dJ9_min_7cf53_1 : decode cJ9_min_7cf53 1 = .ok (.iload_n 1, 1) := by decide +kernel
theorem dJ9_min_7cf53_2 : decode cJ9_min_7cf53 2 = .ok (.if_icmp .gt 7, 3) := by decide +kernel
theorem dJ9_min_7cf53_5 : decode cJ9_min_7cf53 5 = .ok (.iload_n 0, 1) := by decide +kernel
theorem dJ9_min_7cf53_6 : decode cJ9_min_7cf53 6 = .ok (.goto 4, 3) := by decide +kernel
theorem dJ9_min_7cf53_9 : decode cJ9_min_7cf53 9 = .ok (.iload_n 1, 1) := by decide +kernel
theorem dJ9_min_7cf53_10 : decode cJ9_min_7cf53 10 = .ok (.ireturn, 1) := by decide +kernel
theorem dJ0_length_8abf5_0 : decode cJ0_length_8abf5 0 = .ok (.aload_n 0, 1) := by decide +kernel
theorem dJ0_length_8abf5_1 : decode cJ0_length_8abf5 1 = .ok (.getfield 9, 3) := by decide +kernel
theorem dJ0_length_8abf5_4 : decode cJ0_length_8abf5 4 = .ok (.arraylength, 1) := by decide +kernel
theorem dJ0_length_8abf5_5 : decode cJ0_length_8abf5 5 = .ok (.aload_n 0, 1) := by decide +kernel
theorem dJ0_length_8abf5_6 : decode cJ0_length_8abf5 6 = .ok (.invokevirtual 335, 3) := by decide +kernel
theorem dJ0_length_8abf5_9 : decode cJ0_length_8abf5 9 = .ok (.ishr, 1) := by decide +kernel
theorem dJ0_length_8abf5_10 : decode cJ0_length_8abf5 10 = .ok (.ireturn, 1) := by decide +kernel
theorem dJ0_charAt_5068e_0 : decode cJ0_charAt_5068e 0 = .ok (.aload_n 0, 1) := by decide +kernel
theorem dJ0_charAt_5068e_1 : decode cJ0_charAt_5068e 1 = .ok (.invokevirtual 492, 3) := by decide +kernel
theorem dJ0_charAt_5068e_4 : decode cJ0_charAt_5068e 4 = .ok (.ifCond .eq 12, 3) := by decide +kernel
theorem dJ0_charAt_5068e_7 : decode cJ0_charAt_5068e 7 = .ok (.aload_n 0, 1) := by decide +kernel
theorem dJ0_charAt_5068e_8 : decode cJ0_charAt_5068e 8 = .ok (.getfield 9, 3) := by decide +kernel
theorem dJ0_charAt_5068e_11 : decode cJ0_charAt_5068e 11 = .ok (.iload_n 1, 1) := by decide +kernel
theorem dJ0_charAt_5068e_12 : decode cJ0_charAt_5068e 12 = .ok (.invokestatic 495, 3) := by decide +kernel
theorem dJ0_charAt_5068e_15 : decode cJ0_charAt_5068e 15 = .ok (.ireturn, 1) := by decide +kernel
theorem dJ0_charAt_5068e_16 : decode cJ0_charAt_5068e 16 = .ok (.aload_n 0, 1) := by decide +kernel
theorem dJ0_charAt_5068e_17 : decode cJ0_charAt_5068e 17 = .ok (.getfield 9, 3) := by decide +kernel
theorem dJ0_charAt_5068e_20 : decode cJ0_charAt_5068e 20 = .ok (.iload_n 1, 1) := by decide +kernel
theorem dJ0_charAt_5068e_21 : decode cJ0_charAt_5068e 21 = .ok (.invokestatic 498, 3) := by decide +kernel
theorem dJ0_charAt_5068e_24 : decode cJ0_charAt_5068e 24 = .ok (.ireturn, 1) := by decide +kernel
theorem dJ0_coder_7d493_0 : decode cJ0_coder_7d493 0 = .ok (.getstatic 38, 3) := by decide +kernel
theorem dJ0_coder_7d493_3 : decode cJ0_coder_7d493 3 = .ok (.ifCond .eq 10, 3) := by decide +kernel
theorem dJ0_coder_7d493_6 : decode cJ0_coder_7d493 6 = .ok (.aload_n 0, 1) := by decide +kernel
theorem dJ0_coder_7d493_7 : decode cJ0_coder_7d493 7 = .ok (.getfield 15, 3) := by decide +kernel
theorem dJ0_coder_7d493_10 : decode cJ0_coder_7d493 10 = .ok (.goto 4, 3) := by decide +kernel
theorem dJ0_coder_7d493_13 : decode cJ0_coder_7d493 13 = .ok (.iconst 1, 1) := by decide +kernel
theorem dJ0_coder_7d493_14 : decode cJ0_coder_7d493 14 = .ok (.ireturn, 1) := by decide +kernel
theorem dJ0_isLatin1_aae02_0 : decode cJ0_isLatin1_aae02 0 = .ok (.getstatic 38, 3) := by decide +kernel
theorem dJ0_isLatin1_aae02_3 : decode cJ0_isLatin1_aae02 3 = .ok (.ifCond .eq 14, 3) := by decide +kernel
theorem dJ0_isLatin1_aae02_6 : decode cJ0_isLatin1_aae02 6 = .ok (.aload_n 0, 1) := by decide +kernel
theorem dJ0_isLatin1_aae02_7 : decode cJ0_isLatin1_aae02 7 = .ok (.getfield 15, 3) := by decide +kernel
theorem dJ0_isLatin1_aae02_10 : decode cJ0_isLatin1_aae02 10 = .ok (.ifCond .ne 7, 3) := by decide +kernel
theorem dJ0_isLatin1_aae02_13 : decode cJ0_isLatin1_aae02 13 = .ok (.iconst 1, 1) := by decide +kernel
theorem dJ0_isLatin1_aae02_14 : decode cJ0_isLatin1_aae02 14 = .ok (.goto 4, 3) := by decide +kernel
theorem dJ0_isLatin1_aae02_17 : decode cJ0_isLatin1_aae02 17 = .ok (.iconst 0, 1) := by decide +kernel
theorem dJ0_isLatin1_aae02_18 : decode cJ0_isLatin1_aae02 18 = .ok (.ireturn, 1) := by decide +kernel
theorem dJ0_checkIndex_df160_0 : decode cJ0_checkIndex_df160 0 = .ok (.iload_n 0, 1) := by decide +kernel
theorem dJ0_checkIndex_df160_1 : decode cJ0_checkIndex_df160 1 = .ok (.iload_n 1, 1) := by decide +kernel
theorem dJ0_checkIndex_df160_2 : decode cJ0_checkIndex_df160 2 = .ok (.getstatic 1053, 3) := by decide +kernel
theorem dJ0_checkIndex_df160_5 : decode cJ0_checkIndex_df160 5 = .ok (.invokestatic 1059, 3) := by decide +kernel
theorem dJ0_checkIndex_df160_8 : decode cJ0_checkIndex_df160 8 = .ok (.pop, 1) := by decide +kernel
theorem dJ0_checkIndex_df160_9 : decode cJ0_checkIndex_df160 9 = .ok (.return_, 1) := by decide +kernel
theorem dJ1_charAt_3b067_0 : decode cJ1_charAt_3b067 0 = .ok (.iload_n 1, 1) := by decide +kernel
theorem dJ1_charAt_3b067_1 : decode cJ1_charAt_3b067 1 = .ok (.aload_n 0, 1) := by decide +kernel
theorem dJ1_charAt_3b067_2 : decode cJ1_charAt_3b067 2 = .ok (.arraylength, 1) := by decide +kernel
theorem dJ1_charAt_3b067_3 : decode cJ1_charAt_3b067 3 = .ok (.invokestatic 9, 3) := by decide +kernel
theorem dJ1_charAt_3b067_6 : decode cJ1_charAt_3b067 6 = .ok (.aload_n 0, 1) := by decide +kernel
theorem dJ1_charAt_3b067_7 : decode cJ1_charAt_3b067 7 = .ok (.iload_n 1, 1) := by decide +kernel
theorem dJ1_charAt_3b067_8 : decode cJ1_charAt_3b067 8 = .ok (.baload, 1) := by decide +kernel
theorem dJ1_charAt_3b067_9 : decode cJ1_charAt_3b067 9 = .ok (.sipush 255, 3) := by decide +kernel
theorem dJ1_charAt_3b067_12 : decode cJ1_charAt_3b067 12 = .ok (.iand, 1) := by decide +kernel
theorem dJ1_charAt_3b067_13 : decode cJ1_charAt_3b067 13 = .ok (.i2c, 1) := by decide +kernel
theorem dJ1_charAt_3b067_14 : decode cJ1_charAt_3b067 14 = .ok (.ireturn, 1) := by decide +kernel
theorem dJ2_getChar_3b067_0 : decode cJ2_getChar_3b067 0 = .ok (.getstatic 44, 3) := by decide +kernel
theorem dJ2_getChar_3b067_3 : decode cJ2_getChar_3b067 3 = .ok (.ifCond .ne 25, 3) := by decide +kernel
theorem dJ2_getChar_3b067_6 : decode cJ2_getChar_3b067 6 = .ok (.iload_n 1, 1) := by decide +kernel
theorem dJ2_getChar_3b067_7 : decode cJ2_getChar_3b067 7 = .ok (.ifCond .lt 11, 3) := by decide +kernel
theorem dJ2_getChar_3b067_10 : decode cJ2_getChar_3b067 10 = .ok (.iload_n 1, 1) := by decide +kernel
theorem dJ2_getChar_3b067_11 : decode cJ2_getChar_3b067 11 = .ok (.aload_n 0, 1) := by decide +kernel
theorem dJ2_getChar_3b067_12 : decode cJ2_getChar_3b067 12 = .ok (.invokestatic 48, 3) := by decide +kernel
theorem dJ2_getChar_3b067_15 : decode cJ2_getChar_3b067 15 = .ok (.if_icmp .lt 13, 3) := by decide +kernel
theorem dJ2_getChar_3b067_18 : decode cJ2_getChar_3b067 18 = .ok (.new 52, 3) := by decide +kernel
theorem dJ2_getChar_3b067_21 : decode cJ2_getChar_3b067 21 = .ok (.dup, 1) := by decide +kernel
theorem dJ2_getChar_3b067_22 : decode cJ2_getChar_3b067 22 = .ok (.ldc 54, 2) := by decide +kernel
theorem dJ2_getChar_3b067_24 : decode cJ2_getChar_3b067 24 = .ok (.invokespecial 56, 3) := by decide +kernel
theorem dJ2_getChar_3b067_27 : decode cJ2_getChar_3b067 27 = .ok (.athrow, 1) := by decide +kernel
theorem dJ2_getChar_3b067_28 : decode cJ2_getChar_3b067 28 = .ok (.iload_n 1, 1) := by decide +kernel
theorem dJ2_getChar_3b067_29 : decode cJ2_getChar_3b067 29 = .ok (.iconst 1, 1) := by decide +kernel
theorem dJ2_getChar_3b067_30 : decode cJ2_getChar_3b067 30 = .ok (.ishl, 1) := by decide +kernel
theorem dJ2_getChar_3b067_31 : decode cJ2_getChar_3b067 31 = .ok (.istore_n 1, 1) := by decide +kernel
theorem dJ2_getChar_3b067_32 : decode cJ2_getChar_3b067 32 = .ok (.aload_n 0, 1) := by decide +kernel
theorem dJ2_getChar_3b067_33 : decode cJ2_getChar_3b067 33 = .ok (.iload_n 1, 1) := by decide +kernel
theorem dJ2_getChar_3b067_34 : decode cJ2_getChar_3b067 34 = .ok (.iinc 1 1, 3) := by decide +kernel
theorem dJ2_getChar_3b067_37 : decode cJ2_getChar_3b067 37 = .ok (.baload, 1) := by decide +kernel
theorem dJ2_getChar_3b067_38 : decode cJ2_getChar_3b067 38 = .ok (.sipush 255, 3) := by decide +kernel
theorem dJ2_getChar_3b067_41 : decode cJ2_getChar_3b067 41 = .ok (.iand, 1) := by decide +kernel
theorem dJ2_getChar_3b067_42 : decode cJ2_getChar_3b067 42 = .ok (.getstatic 59, 3) := by decide +kernel
theorem dJ2_getChar_3b067_45 : decode cJ2_getChar_3b067 45 = .ok (.ishl, 1) := by decide +kernel
theorem dJ2_getChar_3b067_46 : decode cJ2_getChar_3b067 46 = .ok (.aload_n 0, 1) := by decide +kernel
theorem dJ2_getChar_3b067_47 : decode cJ2_getChar_3b067 47 = .ok (.iload_n 1, 1) := by decide +kernel
theorem dJ2_getChar_3b067_48 : decode cJ2_getChar_3b067 48 = .ok (.baload, 1) := by decide +kernel
theorem dJ2_getChar_3b067_49 : decode cJ2_getChar_3b067 49 = .ok (.sipush 255, 3) := by decide +kernel
theorem dJ2_getChar_3b067_52 : decode cJ2_getChar_3b067 52 = .ok (.iand, 1) := by decide +kernel
theorem dJ2_getChar_3b067_53 : decode cJ2_getChar_3b067 53 = .ok (.getstatic 63, 3) := by decide +kernel
theorem dJ2_getChar_3b067_56 : decode cJ2_getChar_3b067 56 = .ok (.ishl, 1) := by decide +kernel
theorem dJ2_getChar_3b067_57 : decode cJ2_getChar_3b067 57 = .ok (.ior, 1) := by decide +kernel
theorem dJ2_getChar_3b067_58 : decode cJ2_getChar_3b067 58 = .ok (.i2c, 1) := by decide +kernel
theorem dJ2_getChar_3b067_59 : decode cJ2_getChar_3b067 59 = .ok (.ireturn, 1) := by decide +kernel
theorem dJ2_length_9d52b_0 : decode cJ2_length_9d52b 0 = .ok (.aload_n 0, 1) := by decide +kernel
theorem dJ2_length_9d52b_1 : decode cJ2_length_9d52b 1 = .ok (.arraylength, 1) := by decide +kernel
theorem dJ2_length_9d52b_2 : decode cJ2_length_9d52b 2 = .ok (.iconst 1, 1) := by decide +kernel
theorem dJ2_length_9d52b_3 : decode cJ2_length_9d52b 3 = .ok (.ishr, 1) := by decide +kernel
theorem dJ2_length_9d52b_4 : decode cJ2_length_9d52b 4 = .ok (.ireturn, 1) := by decide +kernel
theorem dJ2_charAt_3b067_0 : decode cJ2_charAt_3b067 0 = .ok (.iload_n 1, 1) := by decide +kernel
theorem dJ2_charAt_3b067_1 : decode cJ2_charAt_3b067 1 = .ok (.aload_n 0, 1) := by decide +kernel
theorem dJ2_charAt_3b067_2 : decode cJ2_charAt_3b067 2 = .ok (.invokestatic 67, 3) := by decide +kernel
theorem dJ2_charAt_3b067_5 : decode cJ2_charAt_3b067 5 = .ok (.aload_n 0, 1) := by decide +kernel
theorem dJ2_charAt_3b067_6 : decode cJ2_charAt_3b067 6 = .ok (.iload_n 1, 1) := by decide +kernel
theorem dJ2_charAt_3b067_7 : decode cJ2_charAt_3b067 7 = .ok (.invokestatic 71, 3) := by decide +kernel
theorem dJ2_charAt_3b067_10 : decode cJ2_charAt_3b067 10 = .ok (.ireturn, 1) := by decide +kernel
theorem dJ2_checkIndex_2214a_0 : decode cJ2_checkIndex_2214a 0 = .ok (.iload_n 0, 1) := by decide +kernel
theorem dJ2_checkIndex_2214a_1 : decode cJ2_checkIndex_2214a 1 = .ok (.aload_n 1, 1) := by decide +kernel
theorem dJ2_checkIndex_2214a_2 : decode cJ2_checkIndex_2214a 2 = .ok (.invokestatic 48, 3) := by decide +kernel
theorem dJ2_checkIndex_2214a_5 : decode cJ2_checkIndex_2214a 5 = .ok (.invokestatic 414, 3) := by decide +kernel
theorem dJ2_checkIndex_2214a_8 : decode cJ2_checkIndex_2214a 8 = .ok (.return_, 1) := by decide +kernel
theorem dJ7_fill_53178_0 : decode cJ7_fill_53178 0 = .ok (.iconst 0, 1) := by decide +kernel
theorem dJ7_fill_53178_1 : decode cJ7_fill_53178 1 = .ok (.istore_n 2, 1) := by decide +kernel
theorem dJ7_fill_53178_2 : decode cJ7_fill_53178 2 = .ok (.aload_n 0, 1) := by decide +kernel
theorem dJ7_fill_53178_3 : decode cJ7_fill_53178 3 = .ok (.arraylength, 1) := by decide +kernel
theorem dJ7_fill_53178_4 : decode cJ7_fill_53178 4 = .ok (.istore_n 3, 1) := by decide +kernel
theorem dJ7_fill_53178_5 : decode cJ7_fill_53178 5 = .ok (.iload_n 2, 1) := by decide +kernel
theorem dJ7_fill_53178_6 : decode cJ7_fill_53178 6 = .ok (.iload_n 3, 1) := by decide +kernel
theorem dJ7_fill_53178_7 : decode cJ7_fill_53178 7 = .ok (.if_icmp .ge 13, 3) := by decide +kernel
theorem dJ7_fill_53178_10 : decode cJ7_fill_53178 10 = .ok (.aload_n 0, 1) := by decide +kernel
theorem dJ7_fill_53178_11 : decode cJ7_fill_53178 11 = .ok (.iload_n 2, 1) := by decide +kernel
theorem dJ7_fill_53178_12 : decode cJ7_fill_53178 12 = .ok (.iload_n 1, 1) := by decide +kernel
theorem dJ7_fill_53178_13 : decode cJ7_fill_53178 13 = .ok (.iastore, 1) := by decide +kernel
theorem dJ7_fill_53178_14 : decode cJ7_fill_53178 14 = .ok (.iinc 2 1, 3) := by decide +kernel
theorem dJ7_fill_53178_17 : decode cJ7_fill_53178 17 = .ok (.goto (-12), 3) := by decide +kernel
theorem dJ7_fill_53178_20 : decode cJ7_fill_53178 20 = .ok (.return_, 1) := by decide +kernel
theorem dJ3_checkIndex_8e157_0 : decode cJ3_checkIndex_8e157 0 = .ok (.iload_n 0, 1) := by decide +kernel
theorem dJ3_checkIndex_8e157_1 : decode cJ3_checkIndex_8e157 1 = .ok (.ifCond .lt 8, 3) := by decide +kernel
theorem dJ3_checkIndex_8e157_4 : decode cJ3_checkIndex_8e157 4 = .ok (.iload_n 0, 1) := by decide +kernel
theorem dJ3_checkIndex_8e157_5 : decode cJ3_checkIndex_8e157 5 = .ok (.iload_n 1, 1) := by decide +kernel
theorem dJ3_checkIndex_8e157_6 : decode cJ3_checkIndex_8e157 6 = .ok (.if_icmp .lt 10, 3) := by decide +kernel
theorem dJ3_checkIndex_8e157_9 : decode cJ3_checkIndex_8e157 9 = .ok (.aload_n 2, 1) := by decide +kernel
theorem dJ3_checkIndex_8e157_10 : decode cJ3_checkIndex_8e157 10 = .ok (.iload_n 0, 1) := by decide +kernel
theorem dJ3_checkIndex_8e157_11 : decode cJ3_checkIndex_8e157 11 = .ok (.iload_n 1, 1) := by decide +kernel
theorem dJ3_checkIndex_8e157_12 : decode cJ3_checkIndex_8e157 12 = .ok (.invokestatic 95, 3) := by decide +kernel
theorem dJ3_checkIndex_8e157_15 : decode cJ3_checkIndex_8e157 15 = .ok (.athrow, 1) := by decide +kernel
theorem dJ3_checkIndex_8e157_16 : decode cJ3_checkIndex_8e157 16 = .ok (.iload_n 0, 1) := by decide +kernel
theorem dJ3_checkIndex_8e157_17 : decode cJ3_checkIndex_8e157 17 = .ok (.ireturn, 1) := by decide +kernel
theorem dL_append_0 : decode cL_append 0 = .ok (.aload 6, 2) := by decide +kernel
theorem dL_append_2 : decode cL_append 2 = .ok (.iconst 0, 1) := by decide +kernel
theorem dL_append_3 : decode cL_append 3 = .ok (.aload_n 0, 1) := by decide +kernel
theorem dL_append_4 : decode cL_append 4 = .ok (.iload_n 1, 1) := by decide +kernel
theorem dL_append_5 : decode cL_append 5 = .ok (.iload_n 2, 1) := by decide +kernel
theorem dL_append_6 : decode cL_append 6 = .ok (.iload_n 3, 1) := by decide +kernel
theorem dL_append_7 : decode cL_append 7 = .ok (.iload 4, 2) := by decide +kernel
theorem dL_append_9 : decode cL_append 9 = .ok (.iload 5, 2) := by decide +kernel
theorem dL_append_11 : decode cL_append 11 = .ok (.invokevirtual 7, 3) := by decide +kernel
theorem dL_append_14 : decode cL_append 14 = .ok (.i2l, 1) := by decide +kernel
theorem dL_append_15 : decode cL_append 15 = .ok (.lastore, 1) := by decide +kernel
theorem dL_append_16 : decode cL_append 16 = .ok (.goto 7, 3) := by decide +kernel
theorem dL_append_19 : decode cL_append 19 = .ok (.astore 7, 2) := by decide +kernel
theorem dL_append_21 : decode cL_append 21 = .ok (.iconst 1, 1) := by decide +kernel
theorem dL_append_22 : decode cL_append 22 = .ok (.ireturn, 1) := by decide +kernel
theorem dL_append_23 : decode cL_append 23 = .ok (.iconst 0, 1) := by decide +kernel
theorem dL_append_24 : decode cL_append 24 = .ok (.ireturn, 1) := by decide +kernel
theorem dL_truncate_0 : decode cL_truncate 0 = .ok (.aload_n 2, 1) := by decide +kernel
theorem dL_truncate_1 : decode cL_truncate 1 = .ok (.iconst 0, 1) := by decide +kernel
theorem dL_truncate_2 : decode cL_truncate 2 = .ok (.aload_n 0, 1) := by decide +kernel
theorem dL_truncate_3 : decode cL_truncate 3 = .ok (.iload_n 1, 1) := by decide +kernel
theorem dL_truncate_4 : decode cL_truncate 4 = .ok (.invokevirtual 15, 3) := by decide +kernel
theorem dL_truncate_7 : decode cL_truncate 7 = .ok (.i2l, 1) := by decide +kernel
theorem dL_truncate_8 : decode cL_truncate 8 = .ok (.lastore, 1) := by decide +kernel
theorem dL_truncate_9 : decode cL_truncate 9 = .ok (.goto 6, 3) := by decide +kernel
theorem dL_truncate_12 : decode cL_truncate 12 = .ok (.astore_n 3, 1) := by decide +kernel
theorem dL_truncate_13 : decode cL_truncate 13 = .ok (.iconst 1, 1) := by decide +kernel
theorem dL_truncate_14 : decode cL_truncate 14 = .ok (.ireturn, 1) := by decide +kernel
theorem dL_truncate_15 : decode cL_truncate 15 = .ok (.iconst 0, 1) := by decide +kernel
theorem dL_truncate_16 : decode cL_truncate 16 = .ok (.ireturn, 1) := by decide +kernel
theorem dL_bishopOwner_0 : decode cL_bishopOwner 0 = .ok (.aload_n 3, 1) := by decide +kernel
theorem dL_bishopOwner_1 : decode cL_bishopOwner 1 = .ok (.iconst 0, 1) := by decide +kernel
theorem dL_bishopOwner_2 : decode cL_bishopOwner 2 = .ok (.aload_n 0, 1) := by decide +kernel
theorem dL_bishopOwner_3 : decode cL_bishopOwner 3 = .ok (.iload_n 1, 1) := by decide +kernel
theorem dL_bishopOwner_4 : decode cL_bishopOwner 4 = .ok (.iload_n 2, 1) := by decide +kernel
theorem dL_bishopOwner_5 : decode cL_bishopOwner 5 = .ok (.invokevirtual 21, 3) := by decide +kernel
theorem dL_bishopOwner_8 : decode cL_bishopOwner 8 = .ok (.i2l, 1) := by decide +kernel
theorem dL_bishopOwner_9 : decode cL_bishopOwner 9 = .ok (.lastore, 1) := by decide +kernel
theorem dL_bishopOwner_10 : decode cL_bishopOwner 10 = .ok (.goto 7, 3) := by decide +kernel
theorem dL_bishopOwner_13 : decode cL_bishopOwner 13 = .ok (.astore 4, 2) := by decide +kernel
theorem dL_bishopOwner_15 : decode cL_bishopOwner 15 = .ok (.iconst 1, 1) := by decide +kernel
theorem dL_bishopOwner_16 : decode cL_bishopOwner 16 = .ok (.ireturn, 1) := by decide +kernel
theorem dL_bishopOwner_17 : decode cL_bishopOwner 17 = .ok (.iconst 0, 1) := by decide +kernel
theorem dL_bishopOwner_18 : decode cL_bishopOwner 18 = .ok (.ireturn, 1) := by decide +kernel
theorem dL_bishopCount_0 : decode cL_bishopCount 0 = .ok (.aload_n 3, 1) := by decide +kernel
theorem dL_bishopCount_1 : decode cL_bishopCount 1 = .ok (.iconst 0, 1) := by decide +kernel
theorem dL_bishopCount_2 : decode cL_bishopCount 2 = .ok (.aload_n 0, 1) := by decide +kernel
theorem dL_bishopCount_3 : decode cL_bishopCount 3 = .ok (.iload_n 1, 1) := by decide +kernel
theorem dL_bishopCount_4 : decode cL_bishopCount 4 = .ok (.iload_n 2, 1) := by decide +kernel
theorem dL_bishopCount_5 : decode cL_bishopCount 5 = .ok (.invokevirtual 27, 3) := by decide +kernel
theorem dL_bishopCount_8 : decode cL_bishopCount 8 = .ok (.i2l, 1) := by decide +kernel
theorem dL_bishopCount_9 : decode cL_bishopCount 9 = .ok (.lastore, 1) := by decide +kernel
theorem dL_bishopCount_10 : decode cL_bishopCount 10 = .ok (.goto 7, 3) := by decide +kernel
theorem dL_bishopCount_13 : decode cL_bishopCount 13 = .ok (.astore 4, 2) := by decide +kernel
theorem dL_bishopCount_15 : decode cL_bishopCount 15 = .ok (.iconst 1, 1) := by decide +kernel
theorem dL_bishopCount_16 : decode cL_bishopCount 16 = .ok (.ireturn, 1) := by decide +kernel
theorem dL_bishopCount_17 : decode cL_bishopCount 17 = .ok (.iconst 0, 1) := by decide +kernel
theorem dL_bishopCount_18 : decode cL_bishopCount 18 = .ok (.ireturn, 1) := by decide +kernel
theorem dL_moveCount_0 : decode cL_moveCount 0 = .ok (.aload_n 2, 1) := by decide +kernel
theorem dL_moveCount_1 : decode cL_moveCount 1 = .ok (.iconst 0, 1) := by decide +kernel
theorem dL_moveCount_2 : decode cL_moveCount 2 = .ok (.aload_n 0, 1) := by decide +kernel
theorem dL_moveCount_3 : decode cL_moveCount 3 = .ok (.iload_n 1, 1) := by decide +kernel
theorem dL_moveCount_4 : decode cL_moveCount 4 = .ok (.invokevirtual 30, 3) := by decide +kernel
theorem dL_moveCount_7 : decode cL_moveCount 7 = .ok (.i2l, 1) := by decide +kernel
theorem dL_moveCount_8 : decode cL_moveCount 8 = .ok (.lastore, 1) := by decide +kernel
theorem dL_moveCount_9 : decode cL_moveCount 9 = .ok (.goto 6, 3) := by decide +kernel
theorem dL_moveCount_12 : decode cL_moveCount 12 = .ok (.astore_n 3, 1) := by decide +kernel
theorem dL_moveCount_13 : decode cL_moveCount 13 = .ok (.iconst 1, 1) := by decide +kernel
theorem dL_moveCount_14 : decode cL_moveCount 14 = .ok (.ireturn, 1) := by decide +kernel
theorem dL_moveCount_15 : decode cL_moveCount 15 = .ok (.iconst 0, 1) := by decide +kernel
theorem dL_moveCount_16 : decode cL_moveCount 16 = .ok (.ireturn, 1) := by decide +kernel
theorem dL_isTurn_0 : decode cL_isTurn 0 = .ok (.aload_n 2, 1) := by decide +kernel
theorem dL_isTurn_1 : decode cL_isTurn 1 = .ok (.iconst 0, 1) := by decide +kernel
theorem dL_isTurn_2 : decode cL_isTurn 2 = .ok (.aload_n 0, 1) := by decide +kernel
theorem dL_isTurn_3 : decode cL_isTurn 3 = .ok (.iload_n 1, 1) := by decide +kernel
theorem dL_isTurn_4 : decode cL_isTurn 4 = .ok (.invokevirtual 33, 3) := by decide +kernel
theorem dL_isTurn_7 : decode cL_isTurn 7 = .ok (.ifCond .eq 7, 3) := by decide +kernel
theorem dL_isTurn_10 : decode cL_isTurn 10 = .ok (.lconst 1, 1) := by decide +kernel
theorem dL_isTurn_11 : decode cL_isTurn 11 = .ok (.goto 4, 3) := by decide +kernel
theorem dL_isTurn_14 : decode cL_isTurn 14 = .ok (.lconst 0, 1) := by decide +kernel
theorem dL_isTurn_15 : decode cL_isTurn 15 = .ok (.lastore, 1) := by decide +kernel
theorem dL_isTurn_16 : decode cL_isTurn 16 = .ok (.goto 6, 3) := by decide +kernel
theorem dL_isTurn_19 : decode cL_isTurn 19 = .ok (.astore_n 3, 1) := by decide +kernel
theorem dL_isTurn_20 : decode cL_isTurn 20 = .ok (.iconst 1, 1) := by decide +kernel
theorem dL_isTurn_21 : decode cL_isTurn 21 = .ok (.ireturn, 1) := by decide +kernel
theorem dL_isTurn_22 : decode cL_isTurn 22 = .ok (.iconst 0, 1) := by decide +kernel
theorem dL_isTurn_23 : decode cL_isTurn 23 = .ok (.ireturn, 1) := by decide +kernel
theorem dL_isOver_0 : decode cL_isOver 0 = .ok (.aload_n 2, 1) := by decide +kernel
theorem dL_isOver_1 : decode cL_isOver 1 = .ok (.iconst 0, 1) := by decide +kernel
theorem dL_isOver_2 : decode cL_isOver 2 = .ok (.aload_n 0, 1) := by decide +kernel
theorem dL_isOver_3 : decode cL_isOver 3 = .ok (.iload_n 1, 1) := by decide +kernel
theorem dL_isOver_4 : decode cL_isOver 4 = .ok (.invokevirtual 37, 3) := by decide +kernel
theorem dL_isOver_7 : decode cL_isOver 7 = .ok (.ifCond .eq 7, 3) := by decide +kernel
theorem dL_isOver_10 : decode cL_isOver 10 = .ok (.lconst 1, 1) := by decide +kernel
theorem dL_isOver_11 : decode cL_isOver 11 = .ok (.goto 4, 3) := by decide +kernel
theorem dL_isOver_14 : decode cL_isOver 14 = .ok (.lconst 0, 1) := by decide +kernel
theorem dL_isOver_15 : decode cL_isOver 15 = .ok (.lastore, 1) := by decide +kernel
theorem dL_isOver_16 : decode cL_isOver 16 = .ok (.goto 6, 3) := by decide +kernel
theorem dL_isOver_19 : decode cL_isOver 19 = .ok (.astore_n 3, 1) := by decide +kernel
theorem dL_isOver_20 : decode cL_isOver 20 = .ok (.iconst 1, 1) := by decide +kernel
theorem dL_isOver_21 : decode cL_isOver 21 = .ok (.ireturn, 1) := by decide +kernel
theorem dL_isOver_22 : decode cL_isOver 22 = .ok (.iconst 0, 1) := by decide +kernel
theorem dL_isOver_23 : decode cL_isOver 23 = .ok (.ireturn, 1) := by decide +kernel
theorem dL_winner_0 : decode cL_winner 0 = .ok (.aload_n 2, 1) := by decide +kernel
theorem dL_winner_1 : decode cL_winner 1 = .ok (.iconst 0, 1) := by decide +kernel
theorem dL_winner_2 : decode cL_winner 2 = .ok (.aload_n 0, 1) := by decide +kernel
theorem dL_winner_3 : decode cL_winner 3 = .ok (.iload_n 1, 1) := by decide +kernel
theorem dL_winner_4 : decode cL_winner 4 = .ok (.invokevirtual 40, 3) := by decide +kernel
theorem dL_winner_7 : decode cL_winner 7 = .ok (.i2l, 1) := by decide +kernel
theorem dL_winner_8 : decode cL_winner 8 = .ok (.lastore, 1) := by decide +kernel
theorem dL_winner_9 : decode cL_winner 9 = .ok (.goto 6, 3) := by decide +kernel
theorem dL_winner_12 : decode cL_winner 12 = .ok (.astore_n 3, 1) := by decide +kernel
theorem dL_winner_13 : decode cL_winner 13 = .ok (.iconst 1, 1) := by decide +kernel
theorem dL_winner_14 : decode cL_winner 14 = .ok (.ireturn, 1) := by decide +kernel
theorem dL_winner_15 : decode cL_winner 15 = .ok (.iconst 0, 1) := by decide +kernel
theorem dL_winner_16 : decode cL_winner 16 = .ok (.ireturn, 1) := by decide +kernel
theorem dL_canMove_0 : decode cL_canMove 0 = .ok (.aload 4, 2) := by decide +kernel
theorem dL_canMove_2 : decode cL_canMove 2 = .ok (.iconst 0, 1) := by decide +kernel
theorem dL_canMove_3 : decode cL_canMove 3 = .ok (.aload_n 0, 1) := by decide +kernel
theorem dL_canMove_4 : decode cL_canMove 4 = .ok (.iload_n 1, 1) := by decide +kernel
theorem dL_canMove_5 : decode cL_canMove 5 = .ok (.iload_n 2, 1) := by decide +kernel
theorem dL_canMove_6 : decode cL_canMove 6 = .ok (.iload_n 3, 1) := by decide +kernel
theorem dL_canMove_7 : decode cL_canMove 7 = .ok (.invokevirtual 43, 3) := by decide +kernel
theorem dL_canMove_10 : decode cL_canMove 10 = .ok (.ifCond .eq 7, 3) := by decide +kernel
theorem dL_canMove_13 : decode cL_canMove 13 = .ok (.lconst 1, 1) := by decide +kernel
theorem dL_canMove_14 : decode cL_canMove 14 = .ok (.goto 4, 3) := by decide +kernel
theorem dL_canMove_17 : decode cL_canMove 17 = .ok (.lconst 0, 1) := by decide +kernel
theorem dL_canMove_18 : decode cL_canMove 18 = .ok (.lastore, 1) := by decide +kernel
theorem dL_canMove_19 : decode cL_canMove 19 = .ok (.goto 7, 3) := by decide +kernel
theorem dL_canMove_22 : decode cL_canMove 22 = .ok (.astore 5, 2) := by decide +kernel
theorem dL_canMove_24 : decode cL_canMove 24 = .ok (.iconst 1, 1) := by decide +kernel
theorem dL_canMove_25 : decode cL_canMove 25 = .ok (.ireturn, 1) := by decide +kernel
theorem dL_canMove_26 : decode cL_canMove 26 = .ok (.iconst 0, 1) := by decide +kernel
theorem dL_canMove_27 : decode cL_canMove 27 = .ok (.ireturn, 1) := by decide +kernel
theorem dL_mobility_0 : decode cL_mobility 0 = .ok (.aload_n 3, 1) := by decide +kernel
theorem dL_mobility_1 : decode cL_mobility 1 = .ok (.iconst 0, 1) := by decide +kernel
theorem dL_mobility_2 : decode cL_mobility 2 = .ok (.aload_n 0, 1) := by decide +kernel
theorem dL_mobility_3 : decode cL_mobility 3 = .ok (.iload_n 1, 1) := by decide +kernel
theorem dL_mobility_4 : decode cL_mobility 4 = .ok (.iload_n 2, 1) := by decide +kernel
theorem dL_mobility_5 : decode cL_mobility 5 = .ok (.invokevirtual 47, 3) := by decide +kernel
theorem dL_mobility_8 : decode cL_mobility 8 = .ok (.i2l, 1) := by decide +kernel
theorem dL_mobility_9 : decode cL_mobility 9 = .ok (.lastore, 1) := by decide +kernel
theorem dL_mobility_10 : decode cL_mobility 10 = .ok (.goto 7, 3) := by decide +kernel
theorem dL_mobility_13 : decode cL_mobility 13 = .ok (.astore 4, 2) := by decide +kernel
theorem dL_mobility_15 : decode cL_mobility 15 = .ok (.iconst 1, 1) := by decide +kernel
theorem dL_mobility_16 : decode cL_mobility 16 = .ok (.ireturn, 1) := by decide +kernel
theorem dL_mobility_17 : decode cL_mobility 17 = .ok (.iconst 0, 1) := by decide +kernel
theorem dL_mobility_18 : decode cL_mobility 18 = .ok (.ireturn, 1) := by decide +kernel
theorem dL_movedFrom_0 : decode cL_movedFrom 0 = .ok (.aload_n 3, 1) := by decide +kernel
theorem dL_movedFrom_1 : decode cL_movedFrom 1 = .ok (.iconst 0, 1) := by decide +kernel
theorem dL_movedFrom_2 : decode cL_movedFrom 2 = .ok (.aload_n 0, 1) := by decide +kernel
theorem dL_movedFrom_3 : decode cL_movedFrom 3 = .ok (.iload_n 1, 1) := by decide +kernel
theorem dL_movedFrom_4 : decode cL_movedFrom 4 = .ok (.iload_n 2, 1) := by decide +kernel
theorem dL_movedFrom_5 : decode cL_movedFrom 5 = .ok (.invokevirtual 50, 3) := by decide +kernel
theorem dL_movedFrom_8 : decode cL_movedFrom 8 = .ok (.i2l, 1) := by decide +kernel
theorem dL_movedFrom_9 : decode cL_movedFrom 9 = .ok (.lastore, 1) := by decide +kernel
theorem dL_movedFrom_10 : decode cL_movedFrom 10 = .ok (.goto 11, 3) := by decide +kernel
theorem dL_movedFrom_13 : decode cL_movedFrom 13 = .ok (.astore 4, 2) := by decide +kernel
theorem dL_movedFrom_15 : decode cL_movedFrom 15 = .ok (.iconst 1, 1) := by decide +kernel
theorem dL_movedFrom_16 : decode cL_movedFrom 16 = .ok (.ireturn, 1) := by decide +kernel
theorem dL_movedFrom_17 : decode cL_movedFrom 17 = .ok (.astore 4, 2) := by decide +kernel
theorem dL_movedFrom_19 : decode cL_movedFrom 19 = .ok (.iconst 2, 1) := by decide +kernel
theorem dL_movedFrom_20 : decode cL_movedFrom 20 = .ok (.ireturn, 1) := by decide +kernel
theorem dL_movedFrom_21 : decode cL_movedFrom 21 = .ok (.iconst 0, 1) := by decide +kernel
theorem dL_movedFrom_22 : decode cL_movedFrom 22 = .ok (.ireturn, 1) := by decide +kernel
theorem dL_movedTo_0 : decode cL_movedTo 0 = .ok (.aload_n 3, 1) := by decide +kernel
theorem dL_movedTo_1 : decode cL_movedTo 1 = .ok (.iconst 0, 1) := by decide +kernel
theorem dL_movedTo_2 : decode cL_movedTo 2 = .ok (.aload_n 0, 1) := by decide +kernel
theorem dL_movedTo_3 : decode cL_movedTo 3 = .ok (.iload_n 1, 1) := by decide +kernel
theorem dL_movedTo_4 : decode cL_movedTo 4 = .ok (.iload_n 2, 1) := by decide +kernel
theorem dL_movedTo_5 : decode cL_movedTo 5 = .ok (.invokevirtual 55, 3) := by decide +kernel
theorem dL_movedTo_8 : decode cL_movedTo 8 = .ok (.i2l, 1) := by decide +kernel
theorem dL_movedTo_9 : decode cL_movedTo 9 = .ok (.lastore, 1) := by decide +kernel
theorem dL_movedTo_10 : decode cL_movedTo 10 = .ok (.goto 11, 3) := by decide +kernel
theorem dL_movedTo_13 : decode cL_movedTo 13 = .ok (.astore 4, 2) := by decide +kernel
theorem dL_movedTo_15 : decode cL_movedTo 15 = .ok (.iconst 1, 1) := by decide +kernel
theorem dL_movedTo_16 : decode cL_movedTo 16 = .ok (.ireturn, 1) := by decide +kernel
theorem dL_movedTo_17 : decode cL_movedTo 17 = .ok (.astore 4, 2) := by decide +kernel
theorem dL_movedTo_19 : decode cL_movedTo 19 = .ok (.iconst 2, 1) := by decide +kernel
theorem dL_movedTo_20 : decode cL_movedTo 20 = .ok (.ireturn, 1) := by decide +kernel
theorem dL_movedTo_21 : decode cL_movedTo 21 = .ok (.iconst 0, 1) := by decide +kernel
theorem dL_movedTo_22 : decode cL_movedTo 22 = .ok (.ireturn, 1) := by decide +kernel
theorem dL_storedMoves_0 : decode cL_storedMoves 0 = .ok (.aload_n 2, 1) := by decide +kernel
theorem dL_storedMoves_1 : decode cL_storedMoves 1 = .ok (.iconst 0, 1) := by decide +kernel
theorem dL_storedMoves_2 : decode cL_storedMoves 2 = .ok (.aload_n 0, 1) := by decide +kernel
theorem dL_storedMoves_3 : decode cL_storedMoves 3 = .ok (.iload_n 1, 1) := by decide +kernel
theorem dL_storedMoves_4 : decode cL_storedMoves 4 = .ok (.invokevirtual 58, 3) := by decide +kernel
theorem dL_storedMoves_7 : decode cL_storedMoves 7 = .ok (.i2l, 1) := by decide +kernel
theorem dL_storedMoves_8 : decode cL_storedMoves 8 = .ok (.lastore, 1) := by decide +kernel
theorem dL_storedMoves_9 : decode cL_storedMoves 9 = .ok (.goto 6, 3) := by decide +kernel
theorem dL_storedMoves_12 : decode cL_storedMoves 12 = .ok (.astore_n 3, 1) := by decide +kernel
theorem dL_storedMoves_13 : decode cL_storedMoves 13 = .ok (.iconst 1, 1) := by decide +kernel
theorem dL_storedMoves_14 : decode cL_storedMoves 14 = .ok (.ireturn, 1) := by decide +kernel
theorem dL_storedMoves_15 : decode cL_storedMoves 15 = .ok (.iconst 0, 1) := by decide +kernel
theorem dL_storedMoves_16 : decode cL_storedMoves 16 = .ok (.ireturn, 1) := by decide +kernel
theorem dL_snowDepth_0 : decode cL_snowDepth 0 = .ok (.aload_n 3, 1) := by decide +kernel
theorem dL_snowDepth_1 : decode cL_snowDepth 1 = .ok (.iconst 0, 1) := by decide +kernel
theorem dL_snowDepth_2 : decode cL_snowDepth 2 = .ok (.aload_n 0, 1) := by decide +kernel
theorem dL_snowDepth_3 : decode cL_snowDepth 3 = .ok (.iload_n 1, 1) := by decide +kernel
theorem dL_snowDepth_4 : decode cL_snowDepth 4 = .ok (.iload_n 2, 1) := by decide +kernel
theorem dL_snowDepth_5 : decode cL_snowDepth 5 = .ok (.invokevirtual 61, 3) := by decide +kernel
theorem dL_snowDepth_8 : decode cL_snowDepth 8 = .ok (.i2l, 1) := by decide +kernel
theorem dL_snowDepth_9 : decode cL_snowDepth 9 = .ok (.lastore, 1) := by decide +kernel
theorem dL_snowDepth_10 : decode cL_snowDepth 10 = .ok (.goto 7, 3) := by decide +kernel
theorem dL_snowDepth_13 : decode cL_snowDepth 13 = .ok (.astore 4, 2) := by decide +kernel
theorem dL_snowDepth_15 : decode cL_snowDepth 15 = .ok (.iconst 1, 1) := by decide +kernel
theorem dL_snowDepth_16 : decode cL_snowDepth 16 = .ok (.ireturn, 1) := by decide +kernel
theorem dL_snowDepth_17 : decode cL_snowDepth 17 = .ok (.iconst 0, 1) := by decide +kernel
theorem dL_snowDepth_18 : decode cL_snowDepth 18 = .ok (.ireturn, 1) := by decide +kernel
theorem dL_travelDays_0 : decode cL_travelDays 0 = .ok (.aload_n 2, 1) := by decide +kernel
theorem dL_travelDays_1 : decode cL_travelDays 1 = .ok (.iconst 0, 1) := by decide +kernel
theorem dL_travelDays_2 : decode cL_travelDays 2 = .ok (.aload_n 0, 1) := by decide +kernel
theorem dL_travelDays_3 : decode cL_travelDays 3 = .ok (.iload_n 1, 1) := by decide +kernel
theorem dL_travelDays_4 : decode cL_travelDays 4 = .ok (.invokevirtual 64, 3) := by decide +kernel
theorem dL_travelDays_7 : decode cL_travelDays 7 = .ok (.i2l, 1) := by decide +kernel
theorem dL_travelDays_8 : decode cL_travelDays 8 = .ok (.lastore, 1) := by decide +kernel
theorem dL_travelDays_9 : decode cL_travelDays 9 = .ok (.goto 6, 3) := by decide +kernel
theorem dL_travelDays_12 : decode cL_travelDays 12 = .ok (.astore_n 3, 1) := by decide +kernel
theorem dL_travelDays_13 : decode cL_travelDays 13 = .ok (.iconst 1, 1) := by decide +kernel
theorem dL_travelDays_14 : decode cL_travelDays 14 = .ok (.ireturn, 1) := by decide +kernel
theorem dL_travelDays_15 : decode cL_travelDays 15 = .ok (.iconst 0, 1) := by decide +kernel
theorem dL_travelDays_16 : decode cL_travelDays 16 = .ok (.ireturn, 1) := by decide +kernel
theorem dL_mules_0 : decode cL_mules 0 = .ok (.aload_n 3, 1) := by decide +kernel
theorem dL_mules_1 : decode cL_mules 1 = .ok (.iconst 0, 1) := by decide +kernel
theorem dL_mules_2 : decode cL_mules 2 = .ok (.aload_n 0, 1) := by decide +kernel
theorem dL_mules_3 : decode cL_mules 3 = .ok (.iload_n 1, 1) := by decide +kernel
theorem dL_mules_4 : decode cL_mules 4 = .ok (.iload_n 2, 1) := by decide +kernel
theorem dL_mules_5 : decode cL_mules 5 = .ok (.invokevirtual 67, 3) := by decide +kernel
theorem dL_mules_8 : decode cL_mules 8 = .ok (.i2l, 1) := by decide +kernel
theorem dL_mules_9 : decode cL_mules 9 = .ok (.lastore, 1) := by decide +kernel
theorem dL_mules_10 : decode cL_mules 10 = .ok (.goto 7, 3) := by decide +kernel
theorem dL_mules_13 : decode cL_mules 13 = .ok (.astore 4, 2) := by decide +kernel
theorem dL_mules_15 : decode cL_mules 15 = .ok (.iconst 1, 1) := by decide +kernel
theorem dL_mules_16 : decode cL_mules 16 = .ok (.ireturn, 1) := by decide +kernel
theorem dL_mules_17 : decode cL_mules 17 = .ok (.iconst 0, 1) := by decide +kernel
theorem dL_mules_18 : decode cL_mules 18 = .ok (.ireturn, 1) := by decide +kernel
theorem dL_queueLength_0 : decode cL_queueLength 0 = .ok (.aload_n 3, 1) := by decide +kernel
theorem dL_queueLength_1 : decode cL_queueLength 1 = .ok (.iconst 0, 1) := by decide +kernel
theorem dL_queueLength_2 : decode cL_queueLength 2 = .ok (.aload_n 0, 1) := by decide +kernel
theorem dL_queueLength_3 : decode cL_queueLength 3 = .ok (.iload_n 1, 1) := by decide +kernel
theorem dL_queueLength_4 : decode cL_queueLength 4 = .ok (.iload_n 2, 1) := by decide +kernel
theorem dL_queueLength_5 : decode cL_queueLength 5 = .ok (.invokevirtual 70, 3) := by decide +kernel
theorem dL_queueLength_8 : decode cL_queueLength 8 = .ok (.i2l, 1) := by decide +kernel
theorem dL_queueLength_9 : decode cL_queueLength 9 = .ok (.lastore, 1) := by decide +kernel
theorem dL_queueLength_10 : decode cL_queueLength 10 = .ok (.goto 7, 3) := by decide +kernel
theorem dL_queueLength_13 : decode cL_queueLength 13 = .ok (.astore 4, 2) := by decide +kernel
theorem dL_queueLength_15 : decode cL_queueLength 15 = .ok (.iconst 1, 1) := by decide +kernel
theorem dL_queueLength_16 : decode cL_queueLength 16 = .ok (.ireturn, 1) := by decide +kernel
theorem dL_queueLength_17 : decode cL_queueLength 17 = .ok (.iconst 0, 1) := by decide +kernel
theorem dL_queueLength_18 : decode cL_queueLength 18 = .ok (.ireturn, 1) := by decide +kernel
theorem dL_writer_0 : decode cL_writer 0 = .ok (.aload_n 2, 1) := by decide +kernel
theorem dL_writer_1 : decode cL_writer 1 = .ok (.iconst 0, 1) := by decide +kernel
theorem dL_writer_2 : decode cL_writer 2 = .ok (.aload_n 0, 1) := by decide +kernel
theorem dL_writer_3 : decode cL_writer 3 = .ok (.iload_n 1, 1) := by decide +kernel
theorem dL_writer_4 : decode cL_writer 4 = .ok (.invokevirtual 73, 3) := by decide +kernel
theorem dL_writer_7 : decode cL_writer 7 = .ok (.i2l, 1) := by decide +kernel
theorem dL_writer_8 : decode cL_writer 8 = .ok (.lastore, 1) := by decide +kernel
theorem dL_writer_9 : decode cL_writer 9 = .ok (.goto 6, 3) := by decide +kernel
theorem dL_writer_12 : decode cL_writer 12 = .ok (.astore_n 3, 1) := by decide +kernel
theorem dL_writer_13 : decode cL_writer 13 = .ok (.iconst 1, 1) := by decide +kernel
theorem dL_writer_14 : decode cL_writer 14 = .ok (.ireturn, 1) := by decide +kernel
theorem dL_writer_15 : decode cL_writer 15 = .ok (.iconst 0, 1) := by decide +kernel
theorem dL_writer_16 : decode cL_writer 16 = .ok (.ireturn, 1) := by decide +kernel
theorem dL_letterNumber_0 : decode cL_letterNumber 0 = .ok (.aload_n 2, 1) := by decide +kernel
theorem dL_letterNumber_1 : decode cL_letterNumber 1 = .ok (.iconst 0, 1) := by decide +kernel
theorem dL_letterNumber_2 : decode cL_letterNumber 2 = .ok (.aload_n 0, 1) := by decide +kernel
theorem dL_letterNumber_3 : decode cL_letterNumber 3 = .ok (.iload_n 1, 1) := by decide +kernel
theorem dL_letterNumber_4 : decode cL_letterNumber 4 = .ok (.invokevirtual 76, 3) := by decide +kernel
theorem dL_letterNumber_7 : decode cL_letterNumber 7 = .ok (.i2l, 1) := by decide +kernel
theorem dL_letterNumber_8 : decode cL_letterNumber 8 = .ok (.lastore, 1) := by decide +kernel
theorem dL_letterNumber_9 : decode cL_letterNumber 9 = .ok (.goto 6, 3) := by decide +kernel
theorem dL_letterNumber_12 : decode cL_letterNumber 12 = .ok (.astore_n 3, 1) := by decide +kernel
theorem dL_letterNumber_13 : decode cL_letterNumber 13 = .ok (.iconst 1, 1) := by decide +kernel
theorem dL_letterNumber_14 : decode cL_letterNumber 14 = .ok (.ireturn, 1) := by decide +kernel
theorem dL_letterNumber_15 : decode cL_letterNumber 15 = .ok (.iconst 0, 1) := by decide +kernel
theorem dL_letterNumber_16 : decode cL_letterNumber 16 = .ok (.ireturn, 1) := by decide +kernel
theorem dL_isPromise_0 : decode cL_isPromise 0 = .ok (.aload_n 2, 1) := by decide +kernel
theorem dL_isPromise_1 : decode cL_isPromise 1 = .ok (.iconst 0, 1) := by decide +kernel
theorem dL_isPromise_2 : decode cL_isPromise 2 = .ok (.aload_n 0, 1) := by decide +kernel
theorem dL_isPromise_3 : decode cL_isPromise 3 = .ok (.iload_n 1, 1) := by decide +kernel
theorem dL_isPromise_4 : decode cL_isPromise 4 = .ok (.invokevirtual 79, 3) := by decide +kernel
theorem dL_isPromise_7 : decode cL_isPromise 7 = .ok (.ifCond .eq 7, 3) := by decide +kernel
theorem dL_isPromise_10 : decode cL_isPromise 10 = .ok (.lconst 1, 1) := by decide +kernel
theorem dL_isPromise_11 : decode cL_isPromise 11 = .ok (.goto 4, 3) := by decide +kernel
theorem dL_isPromise_14 : decode cL_isPromise 14 = .ok (.lconst 0, 1) := by decide +kernel
theorem dL_isPromise_15 : decode cL_isPromise 15 = .ok (.lastore, 1) := by decide +kernel
theorem dL_isPromise_16 : decode cL_isPromise 16 = .ok (.goto 6, 3) := by decide +kernel
theorem dL_isPromise_19 : decode cL_isPromise 19 = .ok (.astore_n 3, 1) := by decide +kernel
theorem dL_isPromise_20 : decode cL_isPromise 20 = .ok (.iconst 1, 1) := by decide +kernel
theorem dL_isPromise_21 : decode cL_isPromise 21 = .ok (.ireturn, 1) := by decide +kernel
theorem dL_isPromise_22 : decode cL_isPromise 22 = .ok (.iconst 0, 1) := by decide +kernel
theorem dL_isPromise_23 : decode cL_isPromise 23 = .ok (.ireturn, 1) := by decide +kernel
theorem dL_letterState_0 : decode cL_letterState 0 = .ok (.aload_n 2, 1) := by decide +kernel
theorem dL_letterState_1 : decode cL_letterState 1 = .ok (.iconst 0, 1) := by decide +kernel
theorem dL_letterState_2 : decode cL_letterState 2 = .ok (.aload_n 0, 1) := by decide +kernel
theorem dL_letterState_3 : decode cL_letterState 3 = .ok (.iload_n 1, 1) := by decide +kernel
theorem dL_letterState_4 : decode cL_letterState 4 = .ok (.invokevirtual 82, 3) := by decide +kernel
theorem dL_letterState_7 : decode cL_letterState 7 = .ok (.i2l, 1) := by decide +kernel
theorem dL_letterState_8 : decode cL_letterState 8 = .ok (.lastore, 1) := by decide +kernel
theorem dL_letterState_9 : decode cL_letterState 9 = .ok (.goto 6, 3) := by decide +kernel
theorem dL_letterState_12 : decode cL_letterState 12 = .ok (.astore_n 3, 1) := by decide +kernel
theorem dL_letterState_13 : decode cL_letterState 13 = .ok (.iconst 1, 1) := by decide +kernel
theorem dL_letterState_14 : decode cL_letterState 14 = .ok (.ireturn, 1) := by decide +kernel
theorem dL_letterState_15 : decode cL_letterState 15 = .ok (.iconst 0, 1) := by decide +kernel
theorem dL_letterState_16 : decode cL_letterState 16 = .ok (.ireturn, 1) := by decide +kernel
theorem dL_awaitedLetter_0 : decode cL_awaitedLetter 0 = .ok (.aload_n 2, 1) := by decide +kernel
theorem dL_awaitedLetter_1 : decode cL_awaitedLetter 1 = .ok (.iconst 0, 1) := by decide +kernel
theorem dL_awaitedLetter_2 : decode cL_awaitedLetter 2 = .ok (.aload_n 0, 1) := by decide +kernel
theorem dL_awaitedLetter_3 : decode cL_awaitedLetter 3 = .ok (.iload_n 1, 1) := by decide +kernel
theorem dL_awaitedLetter_4 : decode cL_awaitedLetter 4 = .ok (.invokevirtual 85, 3) := by decide +kernel
theorem dL_awaitedLetter_7 : decode cL_awaitedLetter 7 = .ok (.i2l, 1) := by decide +kernel
theorem dL_awaitedLetter_8 : decode cL_awaitedLetter 8 = .ok (.lastore, 1) := by decide +kernel
theorem dL_awaitedLetter_9 : decode cL_awaitedLetter 9 = .ok (.goto 6, 3) := by decide +kernel
theorem dL_awaitedLetter_12 : decode cL_awaitedLetter 12 = .ok (.astore_n 3, 1) := by decide +kernel
theorem dL_awaitedLetter_13 : decode cL_awaitedLetter 13 = .ok (.iconst 1, 1) := by decide +kernel
theorem dL_awaitedLetter_14 : decode cL_awaitedLetter 14 = .ok (.ireturn, 1) := by decide +kernel
theorem dL_awaitedLetter_15 : decode cL_awaitedLetter 15 = .ok (.iconst 0, 1) := by decide +kernel
theorem dL_awaitedLetter_16 : decode cL_awaitedLetter 16 = .ok (.ireturn, 1) := by decide +kernel
theorem dL_reasonToWait_0 : decode cL_reasonToWait 0 = .ok (.aload_n 2, 1) := by decide +kernel
theorem dL_reasonToWait_1 : decode cL_reasonToWait 1 = .ok (.iconst 0, 1) := by decide +kernel
theorem dL_reasonToWait_2 : decode cL_reasonToWait 2 = .ok (.aload_n 0, 1) := by decide +kernel
theorem dL_reasonToWait_3 : decode cL_reasonToWait 3 = .ok (.iload_n 1, 1) := by decide +kernel
theorem dL_reasonToWait_4 : decode cL_reasonToWait 4 = .ok (.invokevirtual 88, 3) := by decide +kernel
theorem dL_reasonToWait_7 : decode cL_reasonToWait 7 = .ok (.i2l, 1) := by decide +kernel
theorem dL_reasonToWait_8 : decode cL_reasonToWait 8 = .ok (.lastore, 1) := by decide +kernel
theorem dL_reasonToWait_9 : decode cL_reasonToWait 9 = .ok (.goto 6, 3) := by decide +kernel
theorem dL_reasonToWait_12 : decode cL_reasonToWait 12 = .ok (.astore_n 3, 1) := by decide +kernel
theorem dL_reasonToWait_13 : decode cL_reasonToWait 13 = .ok (.iconst 1, 1) := by decide +kernel
theorem dL_reasonToWait_14 : decode cL_reasonToWait 14 = .ok (.ireturn, 1) := by decide +kernel
theorem dL_reasonToWait_15 : decode cL_reasonToWait 15 = .ok (.iconst 0, 1) := by decide +kernel
theorem dL_reasonToWait_16 : decode cL_reasonToWait 16 = .ok (.ireturn, 1) := by decide +kernel
theorem dL_keptPromises_0 : decode cL_keptPromises 0 = .ok (.aload_n 2, 1) := by decide +kernel
theorem dL_keptPromises_1 : decode cL_keptPromises 1 = .ok (.iconst 0, 1) := by decide +kernel
theorem dL_keptPromises_2 : decode cL_keptPromises 2 = .ok (.aload_n 0, 1) := by decide +kernel
theorem dL_keptPromises_3 : decode cL_keptPromises 3 = .ok (.iload_n 1, 1) := by decide +kernel
theorem dL_keptPromises_4 : decode cL_keptPromises 4 = .ok (.invokevirtual 91, 3) := by decide +kernel
theorem dL_keptPromises_7 : decode cL_keptPromises 7 = .ok (.i2l, 1) := by decide +kernel
theorem dL_keptPromises_8 : decode cL_keptPromises 8 = .ok (.lastore, 1) := by decide +kernel
theorem dL_keptPromises_9 : decode cL_keptPromises 9 = .ok (.goto 6, 3) := by decide +kernel
theorem dL_keptPromises_12 : decode cL_keptPromises 12 = .ok (.astore_n 3, 1) := by decide +kernel
theorem dL_keptPromises_13 : decode cL_keptPromises 13 = .ok (.iconst 1, 1) := by decide +kernel
theorem dL_keptPromises_14 : decode cL_keptPromises 14 = .ok (.ireturn, 1) := by decide +kernel
theorem dL_keptPromises_15 : decode cL_keptPromises 15 = .ok (.iconst 0, 1) := by decide +kernel
theorem dL_keptPromises_16 : decode cL_keptPromises 16 = .ok (.ireturn, 1) := by decide +kernel
theorem dL_longestWait_0 : decode cL_longestWait 0 = .ok (.aload_n 2, 1) := by decide +kernel
theorem dL_longestWait_1 : decode cL_longestWait 1 = .ok (.iconst 0, 1) := by decide +kernel
theorem dL_longestWait_2 : decode cL_longestWait 2 = .ok (.aload_n 0, 1) := by decide +kernel
theorem dL_longestWait_3 : decode cL_longestWait 3 = .ok (.iload_n 1, 1) := by decide +kernel
theorem dL_longestWait_4 : decode cL_longestWait 4 = .ok (.invokevirtual 94, 3) := by decide +kernel
theorem dL_longestWait_7 : decode cL_longestWait 7 = .ok (.i2l, 1) := by decide +kernel
theorem dL_longestWait_8 : decode cL_longestWait 8 = .ok (.lastore, 1) := by decide +kernel
theorem dL_longestWait_9 : decode cL_longestWait 9 = .ok (.goto 6, 3) := by decide +kernel
theorem dL_longestWait_12 : decode cL_longestWait 12 = .ok (.astore_n 3, 1) := by decide +kernel
theorem dL_longestWait_13 : decode cL_longestWait 13 = .ok (.iconst 1, 1) := by decide +kernel
theorem dL_longestWait_14 : decode cL_longestWait 14 = .ok (.ireturn, 1) := by decide +kernel
theorem dL_longestWait_15 : decode cL_longestWait 15 = .ok (.iconst 0, 1) := by decide +kernel
theorem dL_longestWait_16 : decode cL_longestWait 16 = .ok (.ireturn, 1) := by decide +kernel
theorem dL_meanWait_0 : decode cL_meanWait 0 = .ok (.aload_n 2, 1) := by decide +kernel
theorem dL_meanWait_1 : decode cL_meanWait 1 = .ok (.iconst 0, 1) := by decide +kernel
theorem dL_meanWait_2 : decode cL_meanWait 2 = .ok (.aload_n 0, 1) := by decide +kernel
theorem dL_meanWait_3 : decode cL_meanWait 3 = .ok (.iload_n 1, 1) := by decide +kernel
theorem dL_meanWait_4 : decode cL_meanWait 4 = .ok (.invokevirtual 97, 3) := by decide +kernel
theorem dL_meanWait_7 : decode cL_meanWait 7 = .ok (.dastore, 1) := by decide +kernel
theorem dL_meanWait_8 : decode cL_meanWait 8 = .ok (.goto 6, 3) := by decide +kernel
theorem dL_meanWait_11 : decode cL_meanWait 11 = .ok (.astore_n 3, 1) := by decide +kernel
theorem dL_meanWait_12 : decode cL_meanWait 12 = .ok (.iconst 1, 1) := by decide +kernel
theorem dL_meanWait_13 : decode cL_meanWait 13 = .ok (.ireturn, 1) := by decide +kernel
theorem dL_meanWait_14 : decode cL_meanWait 14 = .ok (.iconst 0, 1) := by decide +kernel
theorem dL_meanWait_15 : decode cL_meanWait 15 = .ok (.ireturn, 1) := by decide +kernel
theorem dL_arrivalDay_0 : decode cL_arrivalDay 0 = .ok (.aload_n 2, 1) := by decide +kernel
theorem dL_arrivalDay_1 : decode cL_arrivalDay 1 = .ok (.iconst 0, 1) := by decide +kernel
theorem dL_arrivalDay_2 : decode cL_arrivalDay 2 = .ok (.aload_n 0, 1) := by decide +kernel
theorem dL_arrivalDay_3 : decode cL_arrivalDay 3 = .ok (.iload_n 1, 1) := by decide +kernel
theorem dL_arrivalDay_4 : decode cL_arrivalDay 4 = .ok (.invokevirtual 101, 3) := by decide +kernel
theorem dL_arrivalDay_7 : decode cL_arrivalDay 7 = .ok (.i2l, 1) := by decide +kernel
theorem dL_arrivalDay_8 : decode cL_arrivalDay 8 = .ok (.lastore, 1) := by decide +kernel
theorem dL_arrivalDay_9 : decode cL_arrivalDay 9 = .ok (.goto 6, 3) := by decide +kernel
theorem dL_arrivalDay_12 : decode cL_arrivalDay 12 = .ok (.astore_n 3, 1) := by decide +kernel
theorem dL_arrivalDay_13 : decode cL_arrivalDay 13 = .ok (.iconst 1, 1) := by decide +kernel
theorem dL_arrivalDay_14 : decode cL_arrivalDay 14 = .ok (.ireturn, 1) := by decide +kernel
theorem dL_arrivalDay_15 : decode cL_arrivalDay 15 = .ok (.iconst 0, 1) := by decide +kernel
theorem dL_arrivalDay_16 : decode cL_arrivalDay 16 = .ok (.ireturn, 1) := by decide +kernel
theorem dL_daysUntilTurn_0 : decode cL_daysUntilTurn 0 = .ok (.aload_n 2, 1) := by decide +kernel
theorem dL_daysUntilTurn_1 : decode cL_daysUntilTurn 1 = .ok (.iconst 0, 1) := by decide +kernel
theorem dL_daysUntilTurn_2 : decode cL_daysUntilTurn 2 = .ok (.aload_n 0, 1) := by decide +kernel
theorem dL_daysUntilTurn_3 : decode cL_daysUntilTurn 3 = .ok (.iload_n 1, 1) := by decide +kernel
theorem dL_daysUntilTurn_4 : decode cL_daysUntilTurn 4 = .ok (.invokevirtual 104, 3) := by decide +kernel
theorem dL_daysUntilTurn_7 : decode cL_daysUntilTurn 7 = .ok (.i2l, 1) := by decide +kernel
theorem dL_daysUntilTurn_8 : decode cL_daysUntilTurn 8 = .ok (.lastore, 1) := by decide +kernel
theorem dL_daysUntilTurn_9 : decode cL_daysUntilTurn 9 = .ok (.goto 6, 3) := by decide +kernel
theorem dL_daysUntilTurn_12 : decode cL_daysUntilTurn 12 = .ok (.astore_n 3, 1) := by decide +kernel
theorem dL_daysUntilTurn_13 : decode cL_daysUntilTurn 13 = .ok (.iconst 1, 1) := by decide +kernel
theorem dL_daysUntilTurn_14 : decode cL_daysUntilTurn 14 = .ok (.ireturn, 1) := by decide +kernel
theorem dL_daysUntilTurn_15 : decode cL_daysUntilTurn 15 = .ok (.iconst 0, 1) := by decide +kernel
theorem dL_daysUntilTurn_16 : decode cL_daysUntilTurn 16 = .ok (.ireturn, 1) := by decide +kernel
theorem dL_fastestPass_0 : decode cL_fastestPass 0 = .ok (.aload_n 2, 1) := by decide +kernel
theorem dL_fastestPass_1 : decode cL_fastestPass 1 = .ok (.iconst 0, 1) := by decide +kernel
theorem dL_fastestPass_2 : decode cL_fastestPass 2 = .ok (.aload_n 0, 1) := by decide +kernel
theorem dL_fastestPass_3 : decode cL_fastestPass 3 = .ok (.iload_n 1, 1) := by decide +kernel
theorem dL_fastestPass_4 : decode cL_fastestPass 4 = .ok (.invokevirtual 107, 3) := by decide +kernel
theorem dL_fastestPass_7 : decode cL_fastestPass 7 = .ok (.i2l, 1) := by decide +kernel
theorem dL_fastestPass_8 : decode cL_fastestPass 8 = .ok (.lastore, 1) := by decide +kernel
theorem dL_fastestPass_9 : decode cL_fastestPass 9 = .ok (.goto 6, 3) := by decide +kernel
theorem dL_fastestPass_12 : decode cL_fastestPass 12 = .ok (.astore_n 3, 1) := by decide +kernel
theorem dL_fastestPass_13 : decode cL_fastestPass 13 = .ok (.iconst 1, 1) := by decide +kernel
theorem dL_fastestPass_14 : decode cL_fastestPass 14 = .ok (.ireturn, 1) := by decide +kernel
theorem dL_fastestPass_15 : decode cL_fastestPass 15 = .ok (.iconst 0, 1) := by decide +kernel
theorem dL_fastestPass_16 : decode cL_fastestPass 16 = .ok (.ireturn, 1) := by decide +kernel
theorem dL_move_0 : decode cL_move 0 = .ok (.aload 5, 2) := by decide +kernel
theorem dL_move_2 : decode cL_move 2 = .ok (.iconst 0, 1) := by decide +kernel
theorem dL_move_3 : decode cL_move 3 = .ok (.aload_n 0, 1) := by decide +kernel
theorem dL_move_4 : decode cL_move 4 = .ok (.iload_n 1, 1) := by decide +kernel
theorem dL_move_5 : decode cL_move 5 = .ok (.iload_n 2, 1) := by decide +kernel
theorem dL_move_6 : decode cL_move 6 = .ok (.iload_n 3, 1) := by decide +kernel
theorem dL_move_7 : decode cL_move 7 = .ok (.iload 4, 2) := by decide +kernel
theorem dL_move_9 : decode cL_move 9 = .ok (.invokevirtual 110, 3) := by decide +kernel
theorem dL_move_12 : decode cL_move 12 = .ok (.i2l, 1) := by decide +kernel
theorem dL_move_13 : decode cL_move 13 = .ok (.lastore, 1) := by decide +kernel
theorem dL_move_14 : decode cL_move 14 = .ok (.goto 15, 3) := by decide +kernel
theorem dL_move_17 : decode cL_move 17 = .ok (.astore 6, 2) := by decide +kernel
theorem dL_move_19 : decode cL_move 19 = .ok (.iconst 1, 1) := by decide +kernel
theorem dL_move_20 : decode cL_move 20 = .ok (.ireturn, 1) := by decide +kernel
theorem dL_move_21 : decode cL_move 21 = .ok (.astore 6, 2) := by decide +kernel
theorem dL_move_23 : decode cL_move 23 = .ok (.iconst 2, 1) := by decide +kernel
theorem dL_move_24 : decode cL_move 24 = .ok (.ireturn, 1) := by decide +kernel
theorem dL_move_25 : decode cL_move 25 = .ok (.astore 6, 2) := by decide +kernel
theorem dL_move_27 : decode cL_move 27 = .ok (.iconst 3, 1) := by decide +kernel
theorem dL_move_28 : decode cL_move 28 = .ok (.ireturn, 1) := by decide +kernel
theorem dL_move_29 : decode cL_move 29 = .ok (.iconst 0, 1) := by decide +kernel
theorem dL_move_30 : decode cL_move 30 = .ok (.ireturn, 1) := by decide +kernel
theorem dL_promise_0 : decode cL_promise 0 = .ok (.aload 7, 2) := by decide +kernel
theorem dL_promise_2 : decode cL_promise 2 = .ok (.iconst 0, 1) := by decide +kernel
theorem dL_promise_3 : decode cL_promise 3 = .ok (.aload_n 0, 1) := by decide +kernel
theorem dL_promise_4 : decode cL_promise 4 = .ok (.iload_n 1, 1) := by decide +kernel
theorem dL_promise_5 : decode cL_promise 5 = .ok (.iload_n 2, 1) := by decide +kernel
theorem dL_promise_6 : decode cL_promise 6 = .ok (.iload_n 3, 1) := by decide +kernel
theorem dL_promise_7 : decode cL_promise 7 = .ok (.iload 4, 2) := by decide +kernel
theorem dL_promise_9 : decode cL_promise 9 = .ok (.iload 5, 2) := by decide +kernel
theorem dL_promise_11 : decode cL_promise 11 = .ok (.iload 6, 2) := by decide +kernel
theorem dL_promise_13 : decode cL_promise 13 = .ok (.invokevirtual 114, 3) := by decide +kernel
