theorem dX6_passDay_69 : decode cX6_passDay 69 = .ok (.aload_n 0, 1) := by decide +kernel
theorem dX6_passDay_70 : decode cX6_passDay 70 = .ok (.getfield 37, 3) := by decide +kernel
theorem dX6_passDay_73 : decode cX6_passDay 73 = .ok (.iload 5, 2) := by decide +kernel
theorem dX6_passDay_75 : decode cX6_passDay 75 = .ok (.iload 6, 2) := by decide +kernel
theorem dX6_passDay_77 : decode cX6_passDay 77 = .ok (.invokestatic 89, 3) := by decide +kernel
theorem dX6_passDay_80 : decode cX6_passDay 80 = .ok (.iload 6, 2) := by decide +kernel
theorem dX6_passDay_82 : decode cX6_passDay 82 = .ok (.ifCond .ne 13, 3) := by decide +kernel
theorem dX6_passDay_85 : decode cX6_passDay 85 = .ok (.aload_n 0, 1) := by decide +kernel
theorem dX6_passDay_86 : decode cX6_passDay 86 = .ok (.iload 5, 2) := by decide +kernel
theorem dX6_passDay_88 : decode cX6_passDay 88 = .ok (.iload_n 1, 1) := by decide +kernel
theorem dX6_passDay_89 : decode cX6_passDay 89 = .ok (.invokevirtual 108, 3) := by decide +kernel
theorem dX6_passDay_92 : decode cX6_passDay 92 = .ok (.goto 16, 3) := by decide +kernel
theorem dX6_passDay_95 : decode cX6_passDay 95 = .ok (.aload_n 0, 1) := by decide +kernel
theorem dX6_passDay_96 : decode cX6_passDay 96 = .ok (.getfield 46, 3) := by decide +kernel
theorem dX6_passDay_99 : decode cX6_passDay 99 = .ok (.iload_n 3, 1) := by decide +kernel
theorem dX6_passDay_100 : decode cX6_passDay 100 = .ok (.iload 5, 2) := by decide +kernel
theorem dX6_passDay_102 : decode cX6_passDay 102 = .ok (.invokestatic 89, 3) := by decide +kernel
theorem dX6_passDay_105 : decode cX6_passDay 105 = .ok (.iinc 3 1, 3) := by decide +kernel
theorem dX6_passDay_108 : decode cX6_passDay 108 = .ok (.iinc 4 1, 3) := by decide +kernel
theorem dX6_passDay_111 : decode cX6_passDay 111 = .ok (.goto (-96), 3) := by decide +kernel
theorem dX6_passDay_114 : decode cX6_passDay 114 = .ok (.aload_n 0, 1) := by decide +kernel
theorem dX6_passDay_115 : decode cX6_passDay 115 = .ok (.iload_n 3, 1) := by decide +kernel
theorem dX6_passDay_116 : decode cX6_passDay 116 = .ok (.putfield 68, 3) := by decide +kernel
theorem dX6_passDay_119 : decode cX6_passDay 119 = .ok (.iconst 0, 1) := by decide +kernel
theorem dX6_passDay_120 : decode cX6_passDay 120 = .ok (.istore 4, 2) := by decide +kernel
theorem dX6_passDay_122 : decode cX6_passDay 122 = .ok (.iload 4, 2) := by decide +kernel
theorem dX6_passDay_124 : decode cX6_passDay 124 = .ok (.aload_n 0, 1) := by decide +kernel
theorem dX6_passDay_125 : decode cX6_passDay 125 = .ok (.getfield 12, 3) := by decide +kernel
theorem dX6_passDay_128 : decode cX6_passDay 128 = .ok (.invokevirtual 112, 3) := by decide +kernel
theorem dX6_passDay_131 : decode cX6_passDay 131 = .ok (.if_icmp .ge 52, 3) := by decide +kernel
theorem dX6_passDay_134 : decode cX6_passDay 134 = .ok (.aload_n 0, 1) := by decide +kernel
theorem dX6_passDay_135 : decode cX6_passDay 135 = .ok (.getfield 12, 3) := by decide +kernel
theorem dX6_passDay_138 : decode cX6_passDay 138 = .ok (.iload 4, 2) := by decide +kernel
theorem dX6_passDay_140 : decode cX6_passDay 140 = .ok (.iload_n 2, 1) := by decide +kernel
theorem dX6_passDay_141 : decode cX6_passDay 141 = .ok (.invokevirtual 115, 3) := by decide +kernel
theorem dX6_passDay_144 : decode cX6_passDay 144 = .ok (.istore 5, 2) := by decide +kernel
theorem dX6_passDay_146 : decode cX6_passDay 146 = .ok (.iconst 0, 1) := by decide +kernel
theorem dX6_passDay_147 : decode cX6_passDay 147 = .ok (.istore 6, 2) := by decide +kernel
theorem dX6_passDay_149 : decode cX6_passDay 149 = .ok (.iload 6, 2) := by decide +kernel
theorem dX6_passDay_151 : decode cX6_passDay 151 = .ok (.iconst 2, 1) := by decide +kernel
theorem dX6_passDay_152 : decode cX6_passDay 152 = .ok (.if_icmp .ge 25, 3) := by decide +kernel
theorem dX6_passDay_155 : decode cX6_passDay 155 = .ok (.iload 5, 2) := by decide +kernel
theorem dX6_passDay_157 : decode cX6_passDay 157 = .ok (.iconst (-1), 1) := by decide +kernel
theorem dX6_passDay_158 : decode cX6_passDay 158 = .ok (.if_icmp .eq 19, 3) := by decide +kernel
theorem dX6_passDay_161 : decode cX6_passDay 161 = .ok (.aload_n 0, 1) := by decide +kernel
theorem dX6_passDay_162 : decode cX6_passDay 162 = .ok (.iload 4, 2) := by decide +kernel
theorem dX6_passDay_164 : decode cX6_passDay 164 = .ok (.iload 6, 2) := by decide +kernel
theorem dX6_passDay_166 : decode cX6_passDay 166 = .ok (.iload 5, 2) := by decide +kernel
theorem dX6_passDay_168 : decode cX6_passDay 168 = .ok (.invokevirtual 119, 3) := by decide +kernel
theorem dX6_passDay_171 : decode cX6_passDay 171 = .ok (.iinc 6 1, 3) := by decide +kernel
theorem dX6_passDay_174 : decode cX6_passDay 174 = .ok (.goto (-25), 3) := by decide +kernel
theorem dX6_passDay_177 : decode cX6_passDay 177 = .ok (.iinc 4 1, 3) := by decide +kernel
theorem dX6_passDay_180 : decode cX6_passDay 180 = .ok (.goto (-58), 3) := by decide +kernel
theorem dX6_passDay_183 : decode cX6_passDay 183 = .ok (.aload_n 0, 1) := by decide +kernel
theorem dX6_passDay_184 : decode cX6_passDay 184 = .ok (.getfield 101, 3) := by decide +kernel
theorem dX6_passDay_187 : decode cX6_passDay 187 = .ok (.ireturn, 1) := by decide +kernel
theorem dX6_arrive_0 : decode cX6_arrive 0 = .ok (.aload_n 0, 1) := by decide +kernel
theorem dX6_arrive_1 : decode cX6_arrive 1 = .ok (.getfield 34, 3) := by decide +kernel
theorem dX6_arrive_4 : decode cX6_arrive 4 = .ok (.iload_n 1, 1) := by decide +kernel
theorem dX6_arrive_5 : decode cX6_arrive 5 = .ok (.iconst 2, 1) := by decide +kernel
theorem dX6_arrive_6 : decode cX6_arrive 6 = .ok (.invokestatic 89, 3) := by decide +kernel
theorem dX6_arrive_9 : decode cX6_arrive 9 = .ok (.aload_n 0, 1) := by decide +kernel
theorem dX6_arrive_10 : decode cX6_arrive 10 = .ok (.getfield 43, 3) := by decide +kernel
theorem dX6_arrive_13 : decode cX6_arrive 13 = .ok (.iload_n 1, 1) := by decide +kernel
theorem dX6_arrive_14 : decode cX6_arrive 14 = .ok (.iload_n 2, 1) := by decide +kernel
theorem dX6_arrive_15 : decode cX6_arrive 15 = .ok (.invokestatic 89, 3) := by decide +kernel
theorem dX6_arrive_18 : decode cX6_arrive 18 = .ok (.aload_n 0, 1) := by decide +kernel
theorem dX6_arrive_19 : decode cX6_arrive 19 = .ok (.dup, 1) := by decide +kernel
theorem dX6_arrive_20 : decode cX6_arrive 20 = .ok (.getfield 71, 3) := by decide +kernel
theorem dX6_arrive_23 : decode cX6_arrive 23 = .ok (.iconst 1, 1) := by decide +kernel
theorem dX6_arrive_24 : decode cX6_arrive 24 = .ok (.iadd, 1) := by decide +kernel
theorem dX6_arrive_25 : decode cX6_arrive 25 = .ok (.putfield 71, 3) := by decide +kernel
theorem dX6_arrive_28 : decode cX6_arrive 28 = .ok (.aload_n 0, 1) := by decide +kernel
theorem dX6_arrive_29 : decode cX6_arrive 29 = .ok (.dup, 1) := by decide +kernel
theorem dX6_arrive_30 : decode cX6_arrive 30 = .ok (.getfield 74, 3) := by decide +kernel
theorem dX6_arrive_33 : decode cX6_arrive 33 = .ok (.iload_n 2, 1) := by decide +kernel
theorem dX6_arrive_34 : decode cX6_arrive 34 = .ok (.aload_n 0, 1) := by decide +kernel
theorem dX6_arrive_35 : decode cX6_arrive 35 = .ok (.getfield 40, 3) := by decide +kernel
theorem dX6_arrive_38 : decode cX6_arrive 38 = .ok (.iload_n 1, 1) := by decide +kernel
theorem dX6_arrive_39 : decode cX6_arrive 39 = .ok (.invokestatic 85, 3) := by decide +kernel
theorem dX6_arrive_42 : decode cX6_arrive 42 = .ok (.isub, 1) := by decide +kernel
theorem dX6_arrive_43 : decode cX6_arrive 43 = .ok (.iadd, 1) := by decide +kernel
theorem dX6_arrive_44 : decode cX6_arrive 44 = .ok (.putfield 74, 3) := by decide +kernel
theorem dX6_arrive_47 : decode cX6_arrive 47 = .ok (.aload_n 0, 1) := by decide +kernel
theorem dX6_arrive_48 : decode cX6_arrive 48 = .ok (.getfield 12, 3) := by decide +kernel
theorem dX6_arrive_51 : decode cX6_arrive 51 = .ok (.aload_n 0, 1) := by decide +kernel
theorem dX6_arrive_52 : decode cX6_arrive 52 = .ok (.getfield 31, 3) := by decide +kernel
theorem dX6_arrive_55 : decode cX6_arrive 55 = .ok (.iload_n 1, 1) := by decide +kernel
theorem dX6_arrive_56 : decode cX6_arrive 56 = .ok (.invokestatic 85, 3) := by decide +kernel
theorem dX6_arrive_59 : decode cX6_arrive 59 = .ok (.iconst 1, 1) := by decide +kernel
theorem dX6_arrive_60 : decode cX6_arrive 60 = .ok (.aload_n 0, 1) := by decide +kernel
theorem dX6_arrive_61 : decode cX6_arrive 61 = .ok (.iload_n 1, 1) := by decide +kernel
theorem dX6_arrive_62 : decode cX6_arrive 62 = .ok (.invokevirtual 122, 3) := by decide +kernel
theorem dX6_arrive_65 : decode cX6_arrive 65 = .ok (.isub, 1) := by decide +kernel
theorem dX6_arrive_66 : decode cX6_arrive 66 = .ok (.iconst 1, 1) := by decide +kernel
theorem dX6_arrive_67 : decode cX6_arrive 67 = .ok (.invokevirtual 125, 3) := by decide +kernel
theorem dX6_arrive_70 : decode cX6_arrive 70 = .ok (.aload_n 0, 1) := by decide +kernel
theorem dX6_arrive_71 : decode cX6_arrive 71 = .ok (.getfield 49, 3) := by decide +kernel
theorem dX6_arrive_74 : decode cX6_arrive 74 = .ok (.aload_n 0, 1) := by decide +kernel
theorem dX6_arrive_75 : decode cX6_arrive 75 = .ok (.getfield 101, 3) := by decide +kernel
theorem dX6_arrive_78 : decode cX6_arrive 78 = .ok (.iload_n 1, 1) := by decide +kernel
theorem dX6_arrive_79 : decode cX6_arrive 79 = .ok (.invokestatic 89, 3) := by decide +kernel
theorem dX6_arrive_82 : decode cX6_arrive 82 = .ok (.aload_n 0, 1) := by decide +kernel
theorem dX6_arrive_83 : decode cX6_arrive 83 = .ok (.dup, 1) := by decide +kernel
theorem dX6_arrive_84 : decode cX6_arrive 84 = .ok (.getfield 101, 3) := by decide +kernel
theorem dX6_arrive_87 : decode cX6_arrive 87 = .ok (.iconst 1, 1) := by decide +kernel
theorem dX6_arrive_88 : decode cX6_arrive 88 = .ok (.iadd, 1) := by decide +kernel
theorem dX6_arrive_89 : decode cX6_arrive 89 = .ok (.putfield 101, 3) := by decide +kernel
theorem dX6_arrive_92 : decode cX6_arrive 92 = .ok (.return_, 1) := by decide +kernel
theorem dX6_sendOff_0 : decode cX6_sendOff 0 = .ok (.iconst 0, 1) := by decide +kernel
theorem dX6_sendOff_1 : decode cX6_sendOff 1 = .ok (.istore 4, 2) := by decide +kernel
theorem dX6_sendOff_3 : decode cX6_sendOff 3 = .ok (.iload 4, 2) := by decide +kernel
theorem dX6_sendOff_5 : decode cX6_sendOff 5 = .ok (.aload_n 0, 1) := by decide +kernel
theorem dX6_sendOff_6 : decode cX6_sendOff 6 = .ok (.getfield 64, 3) := by decide +kernel
theorem dX6_sendOff_9 : decode cX6_sendOff 9 = .ok (.if_icmp .ge 123, 3) := by decide +kernel
theorem dX6_sendOff_12 : decode cX6_sendOff 12 = .ok (.aload_n 0, 1) := by decide +kernel
theorem dX6_sendOff_13 : decode cX6_sendOff 13 = .ok (.iload_n 1, 1) := by decide +kernel
theorem dX6_sendOff_14 : decode cX6_sendOff 14 = .ok (.iload_n 2, 1) := by decide +kernel
theorem dX6_sendOff_15 : decode cX6_sendOff 15 = .ok (.invokevirtual 128, 3) := by decide +kernel
theorem dX6_sendOff_18 : decode cX6_sendOff 18 = .ok (.ifCond .le 15, 3) := by decide +kernel
theorem dX6_sendOff_21 : decode cX6_sendOff 21 = .ok (.aload_n 0, 1) := by decide +kernel
theorem dX6_sendOff_22 : decode cX6_sendOff 22 = .ok (.getfield 12, 3) := by decide +kernel
theorem dX6_sendOff_25 : decode cX6_sendOff 25 = .ok (.iload_n 1, 1) := by decide +kernel
theorem dX6_sendOff_26 : decode cX6_sendOff 26 = .ok (.iload_n 2, 1) := by decide +kernel
theorem dX6_sendOff_27 : decode cX6_sendOff 27 = .ok (.invokevirtual 131, 3) := by decide +kernel
theorem dX6_sendOff_30 : decode cX6_sendOff 30 = .ok (.ifCond .gt 4, 3) := by decide +kernel
theorem dX6_sendOff_33 : decode cX6_sendOff 33 = .ok (.return_, 1) := by decide +kernel
theorem dX6_sendOff_34 : decode cX6_sendOff 34 = .ok (.aload_n 0, 1) := by decide +kernel
theorem dX6_sendOff_35 : decode cX6_sendOff 35 = .ok (.iload 4, 2) := by decide +kernel
theorem dX6_sendOff_37 : decode cX6_sendOff 37 = .ok (.invokevirtual 134, 3) := by decide +kernel
theorem dX6_sendOff_40 : decode cX6_sendOff 40 = .ok (.ifCond .ne 86, 3) := by decide +kernel
theorem dX6_sendOff_43 : decode cX6_sendOff 43 = .ok (.aload_n 0, 1) := by decide +kernel
theorem dX6_sendOff_44 : decode cX6_sendOff 44 = .ok (.getfield 31, 3) := by decide +kernel
theorem dX6_sendOff_47 : decode cX6_sendOff 47 = .ok (.iload 4, 2) := by decide +kernel
theorem dX6_sendOff_49 : decode cX6_sendOff 49 = .ok (.invokestatic 85, 3) := by decide +kernel
theorem dX6_sendOff_52 : decode cX6_sendOff 52 = .ok (.iload_n 1, 1) := by decide +kernel
theorem dX6_sendOff_53 : decode cX6_sendOff 53 = .ok (.if_icmp .ne 73, 3) := by decide +kernel
theorem dX6_sendOff_56 : decode cX6_sendOff 56 = .ok (.aload_n 0, 1) := by decide +kernel
theorem dX6_sendOff_57 : decode cX6_sendOff 57 = .ok (.iload 4, 2) := by decide +kernel
theorem dX6_sendOff_59 : decode cX6_sendOff 59 = .ok (.invokevirtual 122, 3) := by decide +kernel
theorem dX6_sendOff_62 : decode cX6_sendOff 62 = .ok (.iload_n 2, 1) := by decide +kernel
theorem dX6_sendOff_63 : decode cX6_sendOff 63 = .ok (.if_icmp .ne 63, 3) := by decide +kernel
theorem dX6_sendOff_66 : decode cX6_sendOff 66 = .ok (.aload_n 0, 1) := by decide +kernel
theorem dX6_sendOff_67 : decode cX6_sendOff 67 = .ok (.getfield 34, 3) := by decide +kernel
theorem dX6_sendOff_70 : decode cX6_sendOff 70 = .ok (.iload 4, 2) := by decide +kernel
theorem dX6_sendOff_72 : decode cX6_sendOff 72 = .ok (.iconst 1, 1) := by decide +kernel
theorem dX6_sendOff_73 : decode cX6_sendOff 73 = .ok (.invokestatic 89, 3) := by decide +kernel
theorem dX6_sendOff_76 : decode cX6_sendOff 76 = .ok (.aload_n 0, 1) := by decide +kernel
theorem dX6_sendOff_77 : decode cX6_sendOff 77 = .ok (.getfield 37, 3) := by decide +kernel
theorem dX6_sendOff_80 : decode cX6_sendOff 80 = .ok (.iload 4, 2) := by decide +kernel
theorem dX6_sendOff_82 : decode cX6_sendOff 82 = .ok (.iload_n 3, 1) := by decide +kernel
theorem dX6_sendOff_83 : decode cX6_sendOff 83 = .ok (.invokestatic 89, 3) := by decide +kernel
theorem dX6_sendOff_86 : decode cX6_sendOff 86 = .ok (.aload_n 0, 1) := by decide +kernel
theorem dX6_sendOff_87 : decode cX6_sendOff 87 = .ok (.getfield 46, 3) := by decide +kernel
theorem dX6_sendOff_90 : decode cX6_sendOff 90 = .ok (.aload_n 0, 1) := by decide +kernel
theorem dX6_sendOff_91 : decode cX6_sendOff 91 = .ok (.getfield 68, 3) := by decide +kernel
theorem dX6_sendOff_94 : decode cX6_sendOff 94 = .ok (.iload 4, 2) := by decide +kernel
theorem dX6_sendOff_96 : decode cX6_sendOff 96 = .ok (.invokestatic 89, 3) := by decide +kernel
theorem dX6_sendOff_99 : decode cX6_sendOff 99 = .ok (.aload_n 0, 1) := by decide +kernel
theorem dX6_sendOff_100 : decode cX6_sendOff 100 = .ok (.dup, 1) := by decide +kernel
theorem dX6_sendOff_101 : decode cX6_sendOff 101 = .ok (.getfield 68, 3) := by decide +kernel
theorem dX6_sendOff_104 : decode cX6_sendOff 104 = .ok (.iconst 1, 1) := by decide +kernel
theorem dX6_sendOff_105 : decode cX6_sendOff 105 = .ok (.iadd, 1) := by decide +kernel
theorem dX6_sendOff_106 : decode cX6_sendOff 106 = .ok (.putfield 68, 3) := by decide +kernel
theorem dX6_sendOff_109 : decode cX6_sendOff 109 = .ok (.aload_n 0, 1) := by decide +kernel
theorem dX6_sendOff_110 : decode cX6_sendOff 110 = .ok (.iload_n 1, 1) := by decide +kernel
theorem dX6_sendOff_111 : decode cX6_sendOff 111 = .ok (.iload_n 2, 1) := by decide +kernel
theorem dX6_sendOff_112 : decode cX6_sendOff 112 = .ok (.iconst (-1), 1) := by decide +kernel
theorem dX6_sendOff_113 : decode cX6_sendOff 113 = .ok (.invokevirtual 93, 3) := by decide +kernel
theorem dX6_sendOff_116 : decode cX6_sendOff 116 = .ok (.aload_n 0, 1) := by decide +kernel
theorem dX6_sendOff_117 : decode cX6_sendOff 117 = .ok (.getfield 12, 3) := by decide +kernel
theorem dX6_sendOff_120 : decode cX6_sendOff 120 = .ok (.iload_n 1, 1) := by decide +kernel
theorem dX6_sendOff_121 : decode cX6_sendOff 121 = .ok (.iload_n 2, 1) := by decide +kernel
theorem dX6_sendOff_122 : decode cX6_sendOff 122 = .ok (.iconst (-1), 1) := by decide +kernel
theorem dX6_sendOff_123 : decode cX6_sendOff 123 = .ok (.invokevirtual 125, 3) := by decide +kernel
theorem dX6_sendOff_126 : decode cX6_sendOff 126 = .ok (.iinc 4 1, 3) := by decide +kernel
theorem dX6_sendOff_129 : decode cX6_sendOff 129 = .ok (.goto (-126), 3) := by decide +kernel
theorem dX6_sendOff_132 : decode cX6_sendOff 132 = .ok (.return_, 1) := by decide +kernel
theorem dX7_init_0 : decode cX7_init 0 = .ok (.aload_n 0, 1) := by decide +kernel
theorem dX7_init_1 : decode cX7_init 1 = .ok (.invokespecial 5, 3) := by decide +kernel
theorem dX7_init_4 : decode cX7_init 4 = .ok (.aload_n 0, 1) := by decide +kernel
theorem dX7_init_5 : decode cX7_init 5 = .ok (.bipush 60, 2) := by decide +kernel
theorem dX7_init_7 : decode cX7_init 7 = .ok (.newarray .int, 2) := by decide +kernel
theorem dX7_init_9 : decode cX7_init 9 = .ok (.putfield 11, 3) := by decide +kernel
theorem dX7_init_12 : decode cX7_init 12 = .ok (.aload_n 0, 1) := by decide +kernel
theorem dX7_init_13 : decode cX7_init 13 = .ok (.sipush 360, 3) := by decide +kernel
theorem dX7_init_16 : decode cX7_init 16 = .ok (.newarray .int, 2) := by decide +kernel
theorem dX7_init_18 : decode cX7_init 18 = .ok (.putfield 15, 3) := by decide +kernel
theorem dX7_init_21 : decode cX7_init 21 = .ok (.aload_n 0, 1) := by decide +kernel
theorem dX7_init_22 : decode cX7_init 22 = .ok (.bipush 60, 2) := by decide +kernel
theorem dX7_init_24 : decode cX7_init 24 = .ok (.newarray .int, 2) := by decide +kernel
theorem dX7_init_26 : decode cX7_init 26 = .ok (.putfield 18, 3) := by decide +kernel
theorem dX7_init_29 : decode cX7_init 29 = .ok (.aload_n 0, 1) := by decide +kernel
theorem dX7_init_30 : decode cX7_init 30 = .ok (.bipush 60, 2) := by decide +kernel
theorem dX7_init_32 : decode cX7_init 32 = .ok (.newarray .int, 2) := by decide +kernel
theorem dX7_init_34 : decode cX7_init 34 = .ok (.putfield 21, 3) := by decide +kernel
theorem dX7_init_37 : decode cX7_init 37 = .ok (.aload_n 0, 1) := by decide +kernel
theorem dX7_init_38 : decode cX7_init 38 = .ok (.iconst 2, 1) := by decide +kernel
theorem dX7_init_39 : decode cX7_init 39 = .ok (.newarray .int, 2) := by decide +kernel
theorem dX7_init_41 : decode cX7_init 41 = .ok (.putfield 24, 3) := by decide +kernel
theorem dX7_init_44 : decode cX7_init 44 = .ok (.return_, 1) := by decide +kernel
theorem dX8_init_0 : decode cX8_init 0 = .ok (.aload_n 0, 1) := by decide +kernel
theorem dX8_init_1 : decode cX8_init 1 = .ok (.invokespecial 3, 3) := by decide +kernel
theorem dX8_init_4 : decode cX8_init 4 = .ok (.aload_n 0, 1) := by decide +kernel
theorem dX8_init_5 : decode cX8_init 5 = .ok (.sipush 800, 3) := by decide +kernel
theorem dX8_init_8 : decode cX8_init 8 = .ok (.newarray .int, 2) := by decide +kernel
theorem dX8_init_10 : decode cX8_init 10 = .ok (.putfield 9, 3) := by decide +kernel
theorem dX8_init_13 : decode cX8_init 13 = .ok (.aload_n 0, 1) := by decide +kernel
theorem dX8_init_14 : decode cX8_init 14 = .ok (.iconst (-1), 1) := by decide +kernel
theorem dX8_init_15 : decode cX8_init 15 = .ok (.putfield 15, 3) := by decide +kernel
theorem dX8_init_18 : decode cX8_init 18 = .ok (.return_, 1) := by decide +kernel
theorem dX8_length_0 : decode cX8_length 0 = .ok (.aload_n 0, 1) := by decide +kernel
theorem dX8_length_1 : decode cX8_length 1 = .ok (.getfield 19, 3) := by decide +kernel
theorem dX8_length_4 : decode cX8_length 4 = .ok (.ireturn, 1) := by decide +kernel
theorem dX8_add_0 : decode cX8_add 0 = .ok (.aload_n 0, 1) := by decide +kernel
theorem dX8_add_1 : decode cX8_add 1 = .ok (.getfield 19, 3) := by decide +kernel
theorem dX8_add_4 : decode cX8_add 4 = .ok (.aload_n 0, 1) := by decide +kernel
theorem dX8_add_5 : decode cX8_add 5 = .ok (.getfield 9, 3) := by decide +kernel
theorem dX8_add_8 : decode cX8_add 8 = .ok (.arraylength, 1) := by decide +kernel
theorem dX8_add_9 : decode cX8_add 9 = .ok (.if_icmp .ge 25, 3) := by decide +kernel
theorem dX8_add_12 : decode cX8_add 12 = .ok (.aload_n 0, 1) := by decide +kernel
theorem dX8_add_13 : decode cX8_add 13 = .ok (.getfield 9, 3) := by decide +kernel
theorem dX8_add_16 : decode cX8_add 16 = .ok (.aload_n 0, 1) := by decide +kernel
theorem dX8_add_17 : decode cX8_add 17 = .ok (.getfield 19, 3) := by decide +kernel
theorem dX8_add_20 : decode cX8_add 20 = .ok (.iload_n 1, 1) := by decide +kernel
theorem dX8_add_21 : decode cX8_add 21 = .ok (.invokestatic 22, 3) := by decide +kernel
theorem dX8_add_24 : decode cX8_add 24 = .ok (.aload_n 0, 1) := by decide +kernel
theorem dX8_add_25 : decode cX8_add 25 = .ok (.dup, 1) := by decide +kernel
theorem dX8_add_26 : decode cX8_add 26 = .ok (.getfield 19, 3) := by decide +kernel
theorem dX8_add_29 : decode cX8_add 29 = .ok (.iconst 1, 1) := by decide +kernel
theorem dX8_add_30 : decode cX8_add 30 = .ok (.iadd, 1) := by decide +kernel
theorem dX8_add_31 : decode cX8_add 31 = .ok (.putfield 19, 3) := by decide +kernel
theorem dX8_add_34 : decode cX8_add 34 = .ok (.return_, 1) := by decide +kernel
theorem dX8_clear_0 : decode cX8_clear 0 = .ok (.aload_n 0, 1) := by decide +kernel
theorem dX8_clear_1 : decode cX8_clear 1 = .ok (.iconst 0, 1) := by decide +kernel
theorem dX8_clear_2 : decode cX8_clear 2 = .ok (.putfield 19, 3) := by decide +kernel
theorem dX8_clear_5 : decode cX8_clear 5 = .ok (.return_, 1) := by decide +kernel
theorem dX8_error_0 : decode cX8_error 0 = .ok (.aload_n 0, 1) := by decide +kernel
theorem dX8_error_1 : decode cX8_error 1 = .ok (.getfield 26, 3) := by decide +kernel
theorem dX8_error_4 : decode cX8_error 4 = .ok (.ireturn, 1) := by decide +kernel
theorem dX8_errorAt_0 : decode cX8_errorAt 0 = .ok (.aload_n 0, 1) := by decide +kernel
theorem dX8_errorAt_1 : decode cX8_errorAt 1 = .ok (.getfield 15, 3) := by decide +kernel
theorem dX8_errorAt_4 : decode cX8_errorAt 4 = .ok (.ireturn, 1) := by decide +kernel
theorem dX8_hasError_0 : decode cX8_hasError 0 = .ok (.aload_n 0, 1) := by decide +kernel
theorem dX8_hasError_1 : decode cX8_hasError 1 = .ok (.getfield 26, 3) := by decide +kernel
theorem dX8_hasError_4 : decode cX8_hasError 4 = .ok (.ifCond .eq 7, 3) := by decide +kernel
theorem dX8_hasError_7 : decode cX8_hasError 7 = .ok (.iconst 1, 1) := by decide +kernel
theorem dX8_hasError_8 : decode cX8_hasError 8 = .ok (.goto 4, 3) := by decide +kernel
theorem dX8_hasError_11 : decode cX8_hasError 11 = .ok (.iconst 0, 1) := by decide +kernel
theorem dX8_hasError_12 : decode cX8_hasError 12 = .ok (.ireturn, 1) := by decide +kernel
theorem dX8_begin_0 : decode cX8_begin 0 = .ok (.aload_n 0, 1) := by decide +kernel
theorem dX8_begin_1 : decode cX8_begin 1 = .ok (.iconst 0, 1) := by decide +kernel
theorem dX8_begin_2 : decode cX8_begin 2 = .ok (.putfield 26, 3) := by decide +kernel
theorem dX8_begin_5 : decode cX8_begin 5 = .ok (.aload_n 0, 1) := by decide +kernel
theorem dX8_begin_6 : decode cX8_begin 6 = .ok (.iconst (-1), 1) := by decide +kernel
theorem dX8_begin_7 : decode cX8_begin 7 = .ok (.putfield 15, 3) := by decide +kernel
theorem dX8_begin_10 : decode cX8_begin 10 = .ok (.aload_n 0, 1) := by decide +kernel
theorem dX8_begin_11 : decode cX8_begin 11 = .ok (.iconst 0, 1) := by decide +kernel
theorem dX8_begin_12 : decode cX8_begin 12 = .ok (.putfield 29, 3) := by decide +kernel
theorem dX8_begin_15 : decode cX8_begin 15 = .ok (.aload_n 0, 1) := by decide +kernel
theorem dX8_begin_16 : decode cX8_begin 16 = .ok (.invokevirtual 32, 3) := by decide +kernel
theorem dX8_begin_19 : decode cX8_begin 19 = .ok (.return_, 1) := by decide +kernel
theorem dX8_step_0 : decode cX8_step 0 = .ok (.aload_n 0, 1) := by decide +kernel
theorem dX8_step_1 : decode cX8_step 1 = .ok (.aload_n 0, 1) := by decide +kernel
theorem dX8_step_2 : decode cX8_step 2 = .ok (.getfield 35, 3) := by decide +kernel
theorem dX8_step_5 : decode cX8_step 5 = .ok (.putfield 38, 3) := by decide +kernel
theorem dX8_step_8 : decode cX8_step 8 = .ok (.aload_n 0, 1) := by decide +kernel
theorem dX8_step_9 : decode cX8_step 9 = .ok (.aload_n 0, 1) := by decide +kernel
theorem dX8_step_10 : decode cX8_step 10 = .ok (.getfield 29, 3) := by decide +kernel
theorem dX8_step_13 : decode cX8_step 13 = .ok (.putfield 35, 3) := by decide +kernel
theorem dX8_step_16 : decode cX8_step 16 = .ok (.aload_n 0, 1) := by decide +kernel
theorem dX8_step_17 : decode cX8_step 17 = .ok (.getfield 35, 3) := by decide +kernel
theorem dX8_step_20 : decode cX8_step 20 = .ok (.aload_n 0, 1) := by decide +kernel
theorem dX8_step_21 : decode cX8_step 21 = .ok (.getfield 19, 3) := by decide +kernel
theorem dX8_step_24 : decode cX8_step 24 = .ok (.if_icmp .ge 33, 3) := by decide +kernel
theorem dX8_step_27 : decode cX8_step 27 = .ok (.aload_n 0, 1) := by decide +kernel
theorem dX8_step_28 : decode cX8_step 28 = .ok (.getfield 9, 3) := by decide +kernel
theorem dX8_step_31 : decode cX8_step 31 = .ok (.aload_n 0, 1) := by decide +kernel
theorem dX8_step_32 : decode cX8_step 32 = .ok (.getfield 35, 3) := by decide +kernel
theorem dX8_step_35 : decode cX8_step 35 = .ok (.invokestatic 41, 3) := by decide +kernel
theorem dX8_step_38 : decode cX8_step 38 = .ok (.invokestatic 45, 3) := by decide +kernel
theorem dX8_step_41 : decode cX8_step 41 = .ok (.ifCond .eq 16, 3) := by decide +kernel
theorem dX8_step_44 : decode cX8_step 44 = .ok (.aload_n 0, 1) := by decide +kernel
theorem dX8_step_45 : decode cX8_step 45 = .ok (.dup, 1) := by decide +kernel
theorem dX8_step_46 : decode cX8_step 46 = .ok (.getfield 35, 3) := by decide +kernel
theorem dX8_step_49 : decode cX8_step 49 = .ok (.iconst 1, 1) := by decide +kernel
theorem dX8_step_50 : decode cX8_step 50 = .ok (.iadd, 1) := by decide +kernel
theorem dX8_step_51 : decode cX8_step 51 = .ok (.putfield 35, 3) := by decide +kernel
theorem dX8_step_54 : decode cX8_step 54 = .ok (.goto (-38), 3) := by decide +kernel
theorem dX8_step_57 : decode cX8_step 57 = .ok (.aload_n 0, 1) := by decide +kernel
theorem dX8_step_58 : decode cX8_step 58 = .ok (.aload_n 0, 1) := by decide +kernel
theorem dX8_step_59 : decode cX8_step 59 = .ok (.getfield 35, 3) := by decide +kernel
theorem dX8_step_62 : decode cX8_step 62 = .ok (.putfield 29, 3) := by decide +kernel
theorem dX8_step_65 : decode cX8_step 65 = .ok (.aload_n 0, 1) := by decide +kernel
theorem dX8_step_66 : decode cX8_step 66 = .ok (.iconst 0, 1) := by decide +kernel
theorem dX8_step_67 : decode cX8_step 67 = .ok (.putfield 49, 3) := by decide +kernel
theorem dX8_step_70 : decode cX8_step 70 = .ok (.aload_n 0, 1) := by decide +kernel
theorem dX8_step_71 : decode cX8_step 71 = .ok (.getfield 9, 3) := by decide +kernel
theorem dX8_step_74 : decode cX8_step 74 = .ok (.aload_n 0, 1) := by decide +kernel
theorem dX8_step_75 : decode cX8_step 75 = .ok (.getfield 35, 3) := by decide +kernel
theorem dX8_step_78 : decode cX8_step 78 = .ok (.invokestatic 41, 3) := by decide +kernel
theorem dX8_step_81 : decode cX8_step 81 = .ok (.istore_n 1, 1) := by decide +kernel
theorem dX8_step_82 : decode cX8_step 82 = .ok (.aload_n 0, 1) := by decide +kernel
theorem dX8_step_83 : decode cX8_step 83 = .ok (.getfield 35, 3) := by decide +kernel
theorem dX8_step_86 : decode cX8_step 86 = .ok (.aload_n 0, 1) := by decide +kernel
theorem dX8_step_87 : decode cX8_step 87 = .ok (.getfield 19, 3) := by decide +kernel
theorem dX8_step_90 : decode cX8_step 90 = .ok (.if_icmp .lt 11, 3) := by decide +kernel
theorem dX8_step_93 : decode cX8_step 93 = .ok (.aload_n 0, 1) := by decide +kernel
theorem dX8_step_94 : decode cX8_step 94 = .ok (.iconst 0, 1) := by decide +kernel
theorem dX8_step_95 : decode cX8_step 95 = .ok (.putfield 52, 3) := by decide +kernel
theorem dX8_step_98 : decode cX8_step 98 = .ok (.goto 73, 3) := by decide +kernel
theorem dX8_step_101 : decode cX8_step 101 = .ok (.iload_n 1, 1) := by decide +kernel
theorem dX8_step_102 : decode cX8_step 102 = .ok (.invokestatic 55, 3) := by decide +kernel
theorem dX8_step_105 : decode cX8_step 105 = .ok (.ifCond .eq 10, 3) := by decide +kernel
theorem dX8_step_108 : decode cX8_step 108 = .ok (.aload_n 0, 1) := by decide +kernel
theorem dX8_step_109 : decode cX8_step 109 = .ok (.invokevirtual 58, 3) := by decide +kernel
theorem dX8_step_112 : decode cX8_step 112 = .ok (.goto 59, 3) := by decide +kernel
theorem dX8_step_115 : decode cX8_step 115 = .ok (.iload_n 1, 1) := by decide +kernel
theorem dX8_step_116 : decode cX8_step 116 = .ok (.invokestatic 61, 3) := by decide +kernel
theorem dX8_step_119 : decode cX8_step 119 = .ok (.ifCond .eq 10, 3) := by decide +kernel
theorem dX8_step_122 : decode cX8_step 122 = .ok (.aload_n 0, 1) := by decide +kernel
theorem dX8_step_123 : decode cX8_step 123 = .ok (.invokevirtual 64, 3) := by decide +kernel
theorem dX8_step_126 : decode cX8_step 126 = .ok (.goto 45, 3) := by decide +kernel
theorem dX8_step_129 : decode cX8_step 129 = .ok (.aload_n 0, 1) := by decide +kernel
theorem dX8_step_130 : decode cX8_step 130 = .ok (.iload_n 1, 1) := by decide +kernel
theorem dX8_step_131 : decode cX8_step 131 = .ok (.bipush 59, 2) := by decide +kernel
theorem dX8_step_133 : decode cX8_step 133 = .ok (.if_icmp .eq 15, 3) := by decide +kernel
theorem dX8_step_136 : decode cX8_step 136 = .ok (.iload_n 1, 1) := by decide +kernel
theorem dX8_step_137 : decode cX8_step 137 = .ok (.bipush 40, 2) := by decide +kernel
theorem dX8_step_139 : decode cX8_step 139 = .ok (.if_icmp .eq 9, 3) := by decide +kernel
theorem dX8_step_142 : decode cX8_step 142 = .ok (.iload_n 1, 1) := by decide +kernel
theorem dX8_step_143 : decode cX8_step 143 = .ok (.bipush 41, 2) := by decide +kernel
theorem dX8_step_145 : decode cX8_step 145 = .ok (.if_icmp .ne 7, 3) := by decide +kernel
theorem dX8_step_148 : decode cX8_step 148 = .ok (.iconst 3, 1) := by decide +kernel
theorem dX8_step_149 : decode cX8_step 149 = .ok (.goto 4, 3) := by decide +kernel
theorem dX8_step_152 : decode cX8_step 152 = .ok (.iconst 4, 1) := by decide +kernel
theorem dX8_step_153 : decode cX8_step 153 = .ok (.putfield 52, 3) := by decide +kernel
theorem dX8_step_156 : decode cX8_step 156 = .ok (.aload_n 0, 1) := by decide +kernel
theorem dX8_step_157 : decode cX8_step 157 = .ok (.iload_n 1, 1) := by decide +kernel
theorem dX8_step_158 : decode cX8_step 158 = .ok (.putfield 49, 3) := by decide +kernel
theorem dX8_step_161 : decode cX8_step 161 = .ok (.aload_n 0, 1) := by decide +kernel
theorem dX8_step_162 : decode cX8_step 162 = .ok (.aload_n 0, 1) := by decide +kernel
theorem dX8_step_163 : decode cX8_step 163 = .ok (.getfield 35, 3) := by decide +kernel
theorem dX8_step_166 : decode cX8_step 166 = .ok (.iconst 1, 1) := by decide +kernel
theorem dX8_step_167 : decode cX8_step 167 = .ok (.iadd, 1) := by decide +kernel
theorem dX8_step_168 : decode cX8_step 168 = .ok (.putfield 29, 3) := by decide +kernel
theorem dX8_step_171 : decode cX8_step 171 = .ok (.return_, 1) := by decide +kernel
theorem dX8_stepOverWord_0 : decode cX8_stepOverWord 0 = .ok (.aload_n 0, 1) := by decide +kernel
theorem dX8_stepOverWord_1 : decode cX8_stepOverWord 1 = .ok (.iconst 1, 1) := by decide +kernel
theorem dX8_stepOverWord_2 : decode cX8_stepOverWord 2 = .ok (.putfield 52, 3) := by decide +kernel
theorem dX8_stepOverWord_5 : decode cX8_stepOverWord 5 = .ok (.aload_n 0, 1) := by decide +kernel
theorem dX8_stepOverWord_6 : decode cX8_stepOverWord 6 = .ok (.getfield 29, 3) := by decide +kernel
theorem dX8_stepOverWord_9 : decode cX8_stepOverWord 9 = .ok (.aload_n 0, 1) := by decide +kernel
theorem dX8_stepOverWord_10 : decode cX8_stepOverWord 10 = .ok (.getfield 19, 3) := by decide +kernel
theorem dX8_stepOverWord_13 : decode cX8_stepOverWord 13 = .ok (.if_icmp .ge 33, 3) := by decide +kernel
theorem dX8_stepOverWord_16 : decode cX8_stepOverWord 16 = .ok (.aload_n 0, 1) := by decide +kernel
theorem dX8_stepOverWord_17 : decode cX8_stepOverWord 17 = .ok (.getfield 9, 3) := by decide +kernel
theorem dX8_stepOverWord_20 : decode cX8_stepOverWord 20 = .ok (.aload_n 0, 1) := by decide +kernel
theorem dX8_stepOverWord_21 : decode cX8_stepOverWord 21 = .ok (.getfield 29, 3) := by decide +kernel
theorem dX8_stepOverWord_24 : decode cX8_stepOverWord 24 = .ok (.invokestatic 41, 3) := by decide +kernel
theorem dX8_stepOverWord_27 : decode cX8_stepOverWord 27 = .ok (.invokestatic 55, 3) := by decide +kernel
theorem dX8_stepOverWord_30 : decode cX8_stepOverWord 30 = .ok (.ifCond .eq 16, 3) := by decide +kernel
theorem dX8_stepOverWord_33 : decode cX8_stepOverWord 33 = .ok (.aload_n 0, 1) := by decide +kernel
theorem dX8_stepOverWord_34 : decode cX8_stepOverWord 34 = .ok (.dup, 1) := by decide +kernel
theorem dX8_stepOverWord_35 : decode cX8_stepOverWord 35 = .ok (.getfield 29, 3) := by decide +kernel
theorem dX8_stepOverWord_38 : decode cX8_stepOverWord 38 = .ok (.iconst 1, 1) := by decide +kernel
theorem dX8_stepOverWord_39 : decode cX8_stepOverWord 39 = .ok (.iadd, 1) := by decide +kernel
theorem dX8_stepOverWord_40 : decode cX8_stepOverWord 40 = .ok (.putfield 29, 3) := by decide +kernel
theorem dX8_stepOverWord_43 : decode cX8_stepOverWord 43 = .ok (.goto (-38), 3) := by decide +kernel
theorem dX8_stepOverWord_46 : decode cX8_stepOverWord 46 = .ok (.return_, 1) := by decide +kernel
theorem dX8_stepOverNumber_0 : decode cX8_stepOverNumber 0 = .ok (.aload_n 0, 1) := by decide +kernel
theorem dX8_stepOverNumber_1 : decode cX8_stepOverNumber 1 = .ok (.iconst 2, 1) := by decide +kernel
theorem dX8_stepOverNumber_2 : decode cX8_stepOverNumber 2 = .ok (.putfield 52, 3) := by decide +kernel
theorem dX8_stepOverNumber_5 : decode cX8_stepOverNumber 5 = .ok (.aload_n 0, 1) := by decide +kernel
theorem dX8_stepOverNumber_6 : decode cX8_stepOverNumber 6 = .ok (.getfield 29, 3) := by decide +kernel
theorem dX8_stepOverNumber_9 : decode cX8_stepOverNumber 9 = .ok (.aload_n 0, 1) := by decide +kernel
theorem dX8_stepOverNumber_10 : decode cX8_stepOverNumber 10 = .ok (.getfield 19, 3) := by decide +kernel
theorem dX8_stepOverNumber_13 : decode cX8_stepOverNumber 13 = .ok (.if_icmp .ge 65, 3) := by decide +kernel
theorem dX8_stepOverNumber_16 : decode cX8_stepOverNumber 16 = .ok (.aload_n 0, 1) := by decide +kernel
theorem dX8_stepOverNumber_17 : decode cX8_stepOverNumber 17 = .ok (.getfield 9, 3) := by decide +kernel
theorem dX8_stepOverNumber_20 : decode cX8_stepOverNumber 20 = .ok (.aload_n 0, 1) := by decide +kernel
theorem dX8_stepOverNumber_21 : decode cX8_stepOverNumber 21 = .ok (.getfield 29, 3) := by decide +kernel
theorem dX8_stepOverNumber_24 : decode cX8_stepOverNumber 24 = .ok (.invokestatic 41, 3) := by decide +kernel
theorem dX8_stepOverNumber_27 : decode cX8_stepOverNumber 27 = .ok (.invokestatic 61, 3) := by decide +kernel
theorem dX8_stepOverNumber_30 : decode cX8_stepOverNumber 30 = .ok (.ifCond .eq 48, 3) := by decide +kernel
theorem dX8_stepOverNumber_33 : decode cX8_stepOverNumber 33 = .ok (.aload_n 0, 1) := by decide +kernel
theorem dX8_stepOverNumber_34 : decode cX8_stepOverNumber 34 = .ok (.sipush 1000, 3) := by decide +kernel
theorem dX8_stepOverNumber_37 : decode cX8_stepOverNumber 37 = .ok (.aload_n 0, 1) := by decide +kernel
theorem dX8_stepOverNumber_38 : decode cX8_stepOverNumber 38 = .ok (.getfield 49, 3) := by decide +kernel
theorem dX8_stepOverNumber_41 : decode cX8_stepOverNumber 41 = .ok (.bipush 10, 2) := by decide +kernel
theorem dX8_stepOverNumber_43 : decode cX8_stepOverNumber 43 = .ok (.imul, 1) := by decide +kernel
theorem dX8_stepOverNumber_44 : decode cX8_stepOverNumber 44 = .ok (.aload_n 0, 1) := by decide +kernel
theorem dX8_stepOverNumber_45 : decode cX8_stepOverNumber 45 = .ok (.getfield 9, 3) := by decide +kernel
theorem dX8_stepOverNumber_48 : decode cX8_stepOverNumber 48 = .ok (.aload_n 0, 1) := by decide +kernel
theorem dX8_stepOverNumber_49 : decode cX8_stepOverNumber 49 = .ok (.getfield 29, 3) := by decide +kernel
theorem dX8_stepOverNumber_52 : decode cX8_stepOverNumber 52 = .ok (.invokestatic 41, 3) := by decide +kernel
theorem dX8_stepOverNumber_55 : decode cX8_stepOverNumber 55 = .ok (.iadd, 1) := by decide +kernel
theorem dX8_stepOverNumber_56 : decode cX8_stepOverNumber 56 = .ok (.bipush 48, 2) := by decide +kernel
theorem dX8_stepOverNumber_58 : decode cX8_stepOverNumber 58 = .ok (.isub, 1) := by decide +kernel
theorem dX8_stepOverNumber_59 : decode cX8_stepOverNumber 59 = .ok (.invokestatic 67, 3) := by decide +kernel
theorem dX8_stepOverNumber_62 : decode cX8_stepOverNumber 62 = .ok (.putfield 49, 3) := by decide +kernel
theorem dX8_stepOverNumber_65 : decode cX8_stepOverNumber 65 = .ok (.aload_n 0, 1) := by decide +kernel
theorem dX8_stepOverNumber_66 : decode cX8_stepOverNumber 66 = .ok (.dup, 1) := by decide +kernel
theorem dX8_stepOverNumber_67 : decode cX8_stepOverNumber 67 = .ok (.getfield 29, 3) := by decide +kernel
theorem dX8_stepOverNumber_70 : decode cX8_stepOverNumber 70 = .ok (.iconst 1, 1) := by decide +kernel
theorem dX8_stepOverNumber_71 : decode cX8_stepOverNumber 71 = .ok (.iadd, 1) := by decide +kernel
theorem dX8_stepOverNumber_72 : decode cX8_stepOverNumber 72 = .ok (.putfield 29, 3) := by decide +kernel
theorem dX8_stepOverNumber_75 : decode cX8_stepOverNumber 75 = .ok (.goto (-70), 3) := by decide +kernel
theorem dX8_stepOverNumber_78 : decode cX8_stepOverNumber 78 = .ok (.return_, 1) := by decide +kernel
theorem dX8_isBlank_0 : decode cX8_isBlank 0 = .ok (.iload_n 0, 1) := by decide +kernel
theorem dX8_isBlank_1 : decode cX8_isBlank 1 = .ok (.bipush 32, 2) := by decide +kernel
theorem dX8_isBlank_3 : decode cX8_isBlank 3 = .ok (.if_icmp .eq 9, 3) := by decide +kernel
theorem dX8_isBlank_6 : decode cX8_isBlank 6 = .ok (.iload_n 0, 1) := by decide +kernel
theorem dX8_isBlank_7 : decode cX8_isBlank 7 = .ok (.bipush 10, 2) := by decide +kernel
theorem dX8_isBlank_9 : decode cX8_isBlank 9 = .ok (.if_icmp .ne 7, 3) := by decide +kernel
theorem dX8_isBlank_12 : decode cX8_isBlank 12 = .ok (.iconst 1, 1) := by decide +kernel
theorem dX8_isBlank_13 : decode cX8_isBlank 13 = .ok (.goto 4, 3) := by decide +kernel
theorem dX8_isBlank_16 : decode cX8_isBlank 16 = .ok (.iconst 0, 1) := by decide +kernel
theorem dX8_isBlank_17 : decode cX8_isBlank 17 = .ok (.ireturn, 1) := by decide +kernel
theorem dX8_isLetter_0 : decode cX8_isLetter 0 = .ok (.iload_n 0, 1) := by decide +kernel
theorem dX8_isLetter_1 : decode cX8_isLetter 1 = .ok (.bipush 97, 2) := by decide +kernel
theorem dX8_isLetter_3 : decode cX8_isLetter 3 = .ok (.if_icmp .lt 13, 3) := by decide +kernel
theorem dX8_isLetter_6 : decode cX8_isLetter 6 = .ok (.iload_n 0, 1) := by decide +kernel
theorem dX8_isLetter_7 : decode cX8_isLetter 7 = .ok (.bipush 122, 2) := by decide +kernel
theorem dX8_isLetter_9 : decode cX8_isLetter 9 = .ok (.if_icmp .gt 7, 3) := by decide +kernel
theorem dX8_isLetter_12 : decode cX8_isLetter 12 = .ok (.iconst 1, 1) := by decide +kernel
theorem dX8_isLetter_13 : decode cX8_isLetter 13 = .ok (.goto 4, 3) := by decide +kernel
theorem dX8_isLetter_16 : decode cX8_isLetter 16 = .ok (.iconst 0, 1) := by decide +kernel
theorem dX8_isLetter_17 : decode cX8_isLetter 17 = .ok (.ireturn, 1) := by decide +kernel
theorem dX8_isDigit_0 : decode cX8_isDigit 0 = .ok (.iload_n 0, 1) := by decide +kernel
theorem dX8_isDigit_1 : decode cX8_isDigit 1 = .ok (.bipush 48, 2) := by decide +kernel
theorem dX8_isDigit_3 : decode cX8_isDigit 3 = .ok (.if_icmp .lt 13, 3) := by decide +kernel
theorem dX8_isDigit_6 : decode cX8_isDigit 6 = .ok (.iload_n 0, 1) := by decide +kernel
theorem dX8_isDigit_7 : decode cX8_isDigit 7 = .ok (.bipush 57, 2) := by decide +kernel
theorem dX8_isDigit_9 : decode cX8_isDigit 9 = .ok (.if_icmp .gt 7, 3) := by decide +kernel
theorem dX8_isDigit_12 : decode cX8_isDigit 12 = .ok (.iconst 1, 1) := by decide +kernel
theorem dX8_isDigit_13 : decode cX8_isDigit 13 = .ok (.goto 4, 3) := by decide +kernel
theorem dX8_isDigit_16 : decode cX8_isDigit 16 = .ok (.iconst 0, 1) := by decide +kernel
theorem dX8_isDigit_17 : decode cX8_isDigit 17 = .ok (.ireturn, 1) := by decide +kernel
theorem dX8_fail_0 : decode cX8_fail 0 = .ok (.aload_n 0, 1) := by decide +kernel
theorem dX8_fail_1 : decode cX8_fail 1 = .ok (.getfield 26, 3) := by decide +kernel
theorem dX8_fail_4 : decode cX8_fail 4 = .ok (.ifCond .ne 16, 3) := by decide +kernel
theorem dX8_fail_7 : decode cX8_fail 7 = .ok (.aload_n 0, 1) := by decide +kernel
theorem dX8_fail_8 : decode cX8_fail 8 = .ok (.iload_n 1, 1) := by decide +kernel
theorem dX8_fail_9 : decode cX8_fail 9 = .ok (.putfield 26, 3) := by decide +kernel
theorem dX8_fail_12 : decode cX8_fail 12 = .ok (.aload_n 0, 1) := by decide +kernel
theorem dX8_fail_13 : decode cX8_fail 13 = .ok (.aload_n 0, 1) := by decide +kernel
theorem dX8_fail_14 : decode cX8_fail 14 = .ok (.getfield 35, 3) := by decide +kernel
theorem dX8_fail_17 : decode cX8_fail 17 = .ok (.putfield 15, 3) := by decide +kernel
theorem dX8_fail_20 : decode cX8_fail 20 = .ok (.return_, 1) := by decide +kernel
theorem dX8_failBefore_0 : decode cX8_failBefore 0 = .ok (.aload_n 0, 1) := by decide +kernel
theorem dX8_failBefore_1 : decode cX8_failBefore 1 = .ok (.getfield 26, 3) := by decide +kernel
theorem dX8_failBefore_4 : decode cX8_failBefore 4 = .ok (.ifCond .ne 16, 3) := by decide +kernel
theorem dX8_failBefore_7 : decode cX8_failBefore 7 = .ok (.aload_n 0, 1) := by decide +kernel
theorem dX8_failBefore_8 : decode cX8_failBefore 8 = .ok (.iload_n 1, 1) := by decide +kernel
theorem dX8_failBefore_9 : decode cX8_failBefore 9 = .ok (.putfield 26, 3) := by decide +kernel
theorem dX8_failBefore_12 : decode cX8_failBefore 12 = .ok (.aload_n 0, 1) := by decide +kernel
theorem dX8_failBefore_13 : decode cX8_failBefore 13 = .ok (.aload_n 0, 1) := by decide +kernel
theorem dX8_failBefore_14 : decode cX8_failBefore 14 = .ok (.getfield 38, 3) := by decide +kernel
theorem dX8_failBefore_17 : decode cX8_failBefore 17 = .ok (.putfield 15, 3) := by decide +kernel
theorem dX8_failBefore_20 : decode cX8_failBefore 20 = .ok (.return_, 1) := by decide +kernel
theorem dX8_isWord_0 : decode cX8_isWord 0 = .ok (.aload_n 0, 1) := by decide +kernel
theorem dX8_isWord_1 : decode cX8_isWord 1 = .ok (.getfield 26, 3) := by decide +kernel
theorem dX8_isWord_4 : decode cX8_isWord 4 = .ok (.ifCond .ne 27, 3) := by decide +kernel
theorem dX8_isWord_7 : decode cX8_isWord 7 = .ok (.aload_n 0, 1) := by decide +kernel
theorem dX8_isWord_8 : decode cX8_isWord 8 = .ok (.getfield 52, 3) := by decide +kernel
theorem dX8_isWord_11 : decode cX8_isWord 11 = .ok (.iconst 1, 1) := by decide +kernel
theorem dX8_isWord_12 : decode cX8_isWord 12 = .ok (.if_icmp .ne 19, 3) := by decide +kernel
theorem dX8_isWord_15 : decode cX8_isWord 15 = .ok (.aload_n 0, 1) := by decide +kernel
theorem dX8_isWord_16 : decode cX8_isWord 16 = .ok (.getfield 29, 3) := by decide +kernel
theorem dX8_isWord_19 : decode cX8_isWord 19 = .ok (.aload_n 0, 1) := by decide +kernel
theorem dX8_isWord_20 : decode cX8_isWord 20 = .ok (.getfield 35, 3) := by decide +kernel
theorem dX8_isWord_23 : decode cX8_isWord 23 = .ok (.isub, 1) := by decide +kernel
theorem dX8_isWord_24 : decode cX8_isWord 24 = .ok (.aload_n 1, 1) := by decide +kernel
theorem dX8_isWord_25 : decode cX8_isWord 25 = .ok (.invokevirtual 73, 3) := by decide +kernel
theorem dX8_isWord_28 : decode cX8_isWord 28 = .ok (.if_icmp .eq 5, 3) := by decide +kernel
theorem dX8_isWord_31 : decode cX8_isWord 31 = .ok (.iconst 0, 1) := by decide +kernel
theorem dX8_isWord_32 : decode cX8_isWord 32 = .ok (.ireturn, 1) := by decide +kernel
theorem dX8_isWord_33 : decode cX8_isWord 33 = .ok (.iconst 0, 1) := by decide +kernel
theorem dX8_isWord_34 : decode cX8_isWord 34 = .ok (.istore_n 2, 1) := by decide +kernel
theorem dX8_isWord_35 : decode cX8_isWord 35 = .ok (.iload_n 2, 1) := by decide +kernel
theorem dX8_isWord_36 : decode cX8_isWord 36 = .ok (.aload_n 1, 1) := by decide +kernel
theorem dX8_isWord_37 : decode cX8_isWord 37 = .ok (.invokevirtual 73, 3) := by decide +kernel
theorem dX8_isWord_40 : decode cX8_isWord 40 = .ok (.if_icmp .ge 32, 3) := by decide +kernel
theorem dX8_isWord_43 : decode cX8_isWord 43 = .ok (.aload_n 0, 1) := by decide +kernel
theorem dX8_isWord_44 : decode cX8_isWord 44 = .ok (.getfield 9, 3) := by decide +kernel
theorem dX8_isWord_47 : decode cX8_isWord 47 = .ok (.aload_n 0, 1) := by decide +kernel
theorem dX8_isWord_48 : decode cX8_isWord 48 = .ok (.getfield 35, 3) := by decide +kernel
theorem dX8_isWord_51 : decode cX8_isWord 51 = .ok (.iload_n 2, 1) := by decide +kernel
theorem dX8_isWord_52 : decode cX8_isWord 52 = .ok (.iadd, 1) := by decide +kernel
theorem dX8_isWord_53 : decode cX8_isWord 53 = .ok (.invokestatic 41, 3) := by decide +kernel
theorem dX8_isWord_56 : decode cX8_isWord 56 = .ok (.aload_n 1, 1) := by decide +kernel
theorem dX8_isWord_57 : decode cX8_isWord 57 = .ok (.iload_n 2, 1) := by decide +kernel
theorem dX8_isWord_58 : decode cX8_isWord 58 = .ok (.invokevirtual 78, 3) := by decide +kernel
theorem dX8_isWord_61 : decode cX8_isWord 61 = .ok (.if_icmp .eq 5, 3) := by decide +kernel
theorem dX8_isWord_64 : decode cX8_isWord 64 = .ok (.iconst 0, 1) := by decide +kernel
theorem dX8_isWord_65 : decode cX8_isWord 65 = .ok (.ireturn, 1) := by decide +kernel
theorem dX8_isWord_66 : decode cX8_isWord 66 = .ok (.iinc 2 1, 3) := by decide +kernel
theorem dX8_isWord_69 : decode cX8_isWord 69 = .ok (.goto (-34), 3) := by decide +kernel
theorem dX8_isWord_72 : decode cX8_isWord 72 = .ok (.iconst 1, 1) := by decide +kernel
theorem dX8_isWord_73 : decode cX8_isWord 73 = .ok (.ireturn, 1) := by decide +kernel
theorem dX8_skipWord_0 : decode cX8_skipWord 0 = .ok (.aload_n 0, 1) := by decide +kernel
theorem dX8_skipWord_1 : decode cX8_skipWord 1 = .ok (.aload_n 1, 1) := by decide +kernel
theorem dX8_skipWord_2 : decode cX8_skipWord 2 = .ok (.invokevirtual 82, 3) := by decide +kernel
theorem dX8_skipWord_5 : decode cX8_skipWord 5 = .ok (.ifCond .ne 5, 3) := by decide +kernel
theorem dX8_skipWord_8 : decode cX8_skipWord 8 = .ok (.iconst 0, 1) := by decide +kernel
theorem dX8_skipWord_9 : decode cX8_skipWord 9 = .ok (.ireturn, 1) := by decide +kernel
theorem dX8_skipWord_10 : decode cX8_skipWord 10 = .ok (.aload_n 0, 1) := by decide +kernel
theorem dX8_skipWord_11 : decode cX8_skipWord 11 = .ok (.invokevirtual 32, 3) := by decide +kernel
theorem dX8_skipWord_14 : decode cX8_skipWord 14 = .ok (.iconst 1, 1) := by decide +kernel
theorem dX8_skipWord_15 : decode cX8_skipWord 15 = .ok (.ireturn, 1) := by decide +kernel
theorem dX8_isSign_0 : decode cX8_isSign 0 = .ok (.aload_n 0, 1) := by decide +kernel
theorem dX8_isSign_1 : decode cX8_isSign 1 = .ok (.getfield 26, 3) := by decide +kernel
theorem dX8_isSign_4 : decode cX8_isSign 4 = .ok (.ifCond .ne 23, 3) := by decide +kernel
theorem dX8_isSign_7 : decode cX8_isSign 7 = .ok (.aload_n 0, 1) := by decide +kernel
theorem dX8_isSign_8 : decode cX8_isSign 8 = .ok (.getfield 52, 3) := by decide +kernel
theorem dX8_isSign_11 : decode cX8_isSign 11 = .ok (.iconst 3, 1) := by decide +kernel
theorem dX8_isSign_12 : decode cX8_isSign 12 = .ok (.if_icmp .ne 15, 3) := by decide +kernel
theorem dX8_isSign_15 : decode cX8_isSign 15 = .ok (.aload_n 0, 1) := by decide +kernel
theorem dX8_isSign_16 : decode cX8_isSign 16 = .ok (.getfield 49, 3) := by decide +kernel
theorem dX8_isSign_19 : decode cX8_isSign 19 = .ok (.iload_n 1, 1) := by decide +kernel
theorem dX8_isSign_20 : decode cX8_isSign 20 = .ok (.if_icmp .ne 7, 3) := by decide +kernel
theorem dX8_isSign_23 : decode cX8_isSign 23 = .ok (.iconst 1, 1) := by decide +kernel
theorem dX8_isSign_24 : decode cX8_isSign 24 = .ok (.goto 4, 3) := by decide +kernel
theorem dX8_isSign_27 : decode cX8_isSign 27 = .ok (.iconst 0, 1) := by decide +kernel
theorem dX8_isSign_28 : decode cX8_isSign 28 = .ok (.ireturn, 1) := by decide +kernel
theorem dX8_expectWord_0 : decode cX8_expectWord 0 = .ok (.aload_n 0, 1) := by decide +kernel
theorem dX8_expectWord_1 : decode cX8_expectWord 1 = .ok (.aload_n 1, 1) := by decide +kernel
theorem dX8_expectWord_2 : decode cX8_expectWord 2 = .ok (.invokevirtual 82, 3) := by decide +kernel
theorem dX8_expectWord_5 : decode cX8_expectWord 5 = .ok (.ifCond .eq 10, 3) := by decide +kernel
theorem dX8_expectWord_8 : decode cX8_expectWord 8 = .ok (.aload_n 0, 1) := by decide +kernel
theorem dX8_expectWord_9 : decode cX8_expectWord 9 = .ok (.invokevirtual 32, 3) := by decide +kernel
theorem dX8_expectWord_12 : decode cX8_expectWord 12 = .ok (.goto 8, 3) := by decide +kernel
theorem dX8_expectWord_15 : decode cX8_expectWord 15 = .ok (.aload_n 0, 1) := by decide +kernel
theorem dX8_expectWord_16 : decode cX8_expectWord 16 = .ok (.iconst 1, 1) := by decide +kernel
theorem dX8_expectWord_17 : decode cX8_expectWord 17 = .ok (.invokevirtual 90, 3) := by decide +kernel
theorem dX8_expectWord_20 : decode cX8_expectWord 20 = .ok (.return_, 1) := by decide +kernel
theorem dX8_expectSign_0 : decode cX8_expectSign 0 = .ok (.aload_n 0, 1) := by decide +kernel
theorem dX8_expectSign_1 : decode cX8_expectSign 1 = .ok (.iload_n 1, 1) := by decide +kernel
theorem dX8_expectSign_2 : decode cX8_expectSign 2 = .ok (.invokevirtual 86, 3) := by decide +kernel
theorem dX8_expectSign_5 : decode cX8_expectSign 5 = .ok (.ifCond .eq 10, 3) := by decide +kernel
theorem dX8_expectSign_8 : decode cX8_expectSign 8 = .ok (.aload_n 0, 1) := by decide +kernel
theorem dX8_expectSign_9 : decode cX8_expectSign 9 = .ok (.invokevirtual 32, 3) := by decide +kernel
theorem dX8_expectSign_12 : decode cX8_expectSign 12 = .ok (.goto 8, 3) := by decide +kernel
theorem dX8_expectSign_15 : decode cX8_expectSign 15 = .ok (.aload_n 0, 1) := by decide +kernel
theorem dX8_expectSign_16 : decode cX8_expectSign 16 = .ok (.iconst 1, 1) := by decide +kernel
theorem dX8_expectSign_17 : decode cX8_expectSign 17 = .ok (.invokevirtual 90, 3) := by decide +kernel
theorem dX8_expectSign_20 : decode cX8_expectSign 20 = .ok (.return_, 1) := by decide +kernel
theorem dX8_expectEnd_0 : decode cX8_expectEnd 0 = .ok (.aload_n 0, 1) := by decide +kernel
theorem dX8_expectEnd_1 : decode cX8_expectEnd 1 = .ok (.getfield 52, 3) := by decide +kernel
theorem dX8_expectEnd_4 : decode cX8_expectEnd 4 = .ok (.ifCond .eq 8, 3) := by decide +kernel
theorem dX8_expectEnd_7 : decode cX8_expectEnd 7 = .ok (.aload_n 0, 1) := by decide +kernel
theorem dX8_expectEnd_8 : decode cX8_expectEnd 8 = .ok (.iconst 1, 1) := by decide +kernel
theorem dX8_expectEnd_9 : decode cX8_expectEnd 9 = .ok (.invokevirtual 90, 3) := by decide +kernel
theorem dX8_expectEnd_12 : decode cX8_expectEnd 12 = .ok (.return_, 1) := by decide +kernel
theorem dX8_number_0 : decode cX8_number 0 = .ok (.aload_n 0, 1) := by decide +kernel
theorem dX8_number_1 : decode cX8_number 1 = .ok (.getfield 52, 3) := by decide +kernel
theorem dX8_number_4 : decode cX8_number 4 = .ok (.iconst 2, 1) := by decide +kernel
theorem dX8_number_5 : decode cX8_number 5 = .ok (.if_icmp .eq 11, 3) := by decide +kernel
theorem dX8_number_8 : decode cX8_number 8 = .ok (.aload_n 0, 1) := by decide +kernel
theorem dX8_number_9 : decode cX8_number 9 = .ok (.iconst 1, 1) := by decide +kernel
theorem dX8_number_10 : decode cX8_number 10 = .ok (.invokevirtual 90, 3) := by decide +kernel
theorem dX8_number_13 : decode cX8_number 13 = .ok (.goto 24, 3) := by decide +kernel
theorem dX8_number_16 : decode cX8_number 16 = .ok (.aload_n 0, 1) := by decide +kernel
theorem dX8_number_17 : decode cX8_number 17 = .ok (.getfield 49, 3) := by decide +kernel
theorem dX8_number_20 : decode cX8_number 20 = .ok (.iload_n 1, 1) := by decide +kernel
theorem dX8_number_21 : decode cX8_number 21 = .ok (.if_icmp .lt 11, 3) := by decide +kernel
theorem dX8_number_24 : decode cX8_number 24 = .ok (.aload_n 0, 1) := by decide +kernel
theorem dX8_number_25 : decode cX8_number 25 = .ok (.getfield 49, 3) := by decide +kernel
theorem dX8_number_28 : decode cX8_number 28 = .ok (.iload_n 2, 1) := by decide +kernel
theorem dX8_number_29 : decode cX8_number 29 = .ok (.if_icmp .le 8, 3) := by decide +kernel
theorem dX8_number_32 : decode cX8_number 32 = .ok (.aload_n 0, 1) := by decide +kernel
theorem dX8_number_33 : decode cX8_number 33 = .ok (.iconst 2, 1) := by decide +kernel
theorem dX8_number_34 : decode cX8_number 34 = .ok (.invokevirtual 90, 3) := by decide +kernel
theorem dX8_number_37 : decode cX8_number 37 = .ok (.aload_n 0, 1) := by decide +kernel
theorem dX8_number_38 : decode cX8_number 38 = .ok (.getfield 26, 3) := by decide +kernel
theorem dX8_number_41 : decode cX8_number 41 = .ok (.ifCond .eq 5, 3) := by decide +kernel
theorem dX8_number_44 : decode cX8_number 44 = .ok (.iload_n 1, 1) := by decide +kernel
theorem dX8_number_45 : decode cX8_number 45 = .ok (.ireturn, 1) := by decide +kernel
theorem dX8_number_46 : decode cX8_number 46 = .ok (.aload_n 0, 1) := by decide +kernel
theorem dX8_number_47 : decode cX8_number 47 = .ok (.getfield 49, 3) := by decide +kernel
theorem dX8_number_50 : decode cX8_number 50 = .ok (.istore_n 3, 1) := by decide +kernel
theorem dX8_number_51 : decode cX8_number 51 = .ok (.aload_n 0, 1) := by decide +kernel
theorem dX8_number_52 : decode cX8_number 52 = .ok (.invokevirtual 32, 3) := by decide +kernel
theorem dX8_number_55 : decode cX8_number 55 = .ok (.iload_n 3, 1) := by decide +kernel
theorem dX8_number_56 : decode cX8_number 56 = .ok (.ireturn, 1) := by decide +kernel
theorem dX9_init_0 : decode cX9_init 0 = .ok (.aload_n 0, 1) := by decide +kernel
theorem dX9_init_1 : decode cX9_init 1 = .ok (.invokespecial 3, 3) := by decide +kernel
theorem dX9_init_4 : decode cX9_init 4 = .ok (.aload_n 0, 1) := by decide +kernel
theorem dX9_init_5 : decode cX9_init 5 = .ok (.new 9, 3) := by decide +kernel
theorem dX9_init_8 : decode cX9_init 8 = .ok (.dup, 1) := by decide +kernel
theorem dX9_init_9 : decode cX9_init 9 = .ok (.invokespecial 11, 3) := by decide +kernel
theorem dX9_init_12 : decode cX9_init 12 = .ok (.putfield 12, 3) := by decide +kernel
theorem dX9_init_15 : decode cX9_init 15 = .ok (.aload_n 0, 1) := by decide +kernel
theorem dX9_init_16 : decode cX9_init 16 = .ok (.new 16, 3) := by decide +kernel
theorem dX9_init_19 : decode cX9_init 19 = .ok (.dup, 1) := by decide +kernel
theorem dX9_init_20 : decode cX9_init 20 = .ok (.invokespecial 18, 3) := by decide +kernel
theorem dX9_init_23 : decode cX9_init 23 = .ok (.putfield 19, 3) := by decide +kernel
theorem dX9_init_26 : decode cX9_init 26 = .ok (.aload_n 0, 1) := by decide +kernel
theorem dX9_init_27 : decode cX9_init 27 = .ok (.new 23, 3) := by decide +kernel
theorem dX9_init_30 : decode cX9_init 30 = .ok (.dup, 1) := by decide +kernel
theorem dX9_init_31 : decode cX9_init 31 = .ok (.invokespecial 25, 3) := by decide +kernel
theorem dX9_init_34 : decode cX9_init 34 = .ok (.putfield 26, 3) := by decide +kernel
theorem dX9_init_37 : decode cX9_init 37 = .ok (.aload_n 0, 1) := by decide +kernel
theorem dX9_init_38 : decode cX9_init 38 = .ok (.new 30, 3) := by decide +kernel
theorem dX9_init_41 : decode cX9_init 41 = .ok (.dup, 1) := by decide +kernel
theorem dX9_init_42 : decode cX9_init 42 = .ok (.invokespecial 32, 3) := by decide +kernel
theorem dX9_init_45 : decode cX9_init 45 = .ok (.putfield 33, 3) := by decide +kernel
theorem dX9_init_48 : decode cX9_init 48 = .ok (.aload_n 0, 1) := by decide +kernel
theorem dX9_init_49 : decode cX9_init 49 = .ok (.new 30, 3) := by decide +kernel
theorem dX9_init_52 : decode cX9_init 52 = .ok (.dup, 1) := by decide +kernel
theorem dX9_init_53 : decode cX9_init 53 = .ok (.invokespecial 32, 3) := by decide +kernel
theorem dX9_init_56 : decode cX9_init 56 = .ok (.putfield 37, 3) := by decide +kernel
theorem dX9_init_59 : decode cX9_init 59 = .ok (.aload_n 0, 1) := by decide +kernel
theorem dX9_init_60 : decode cX9_init 60 = .ok (.new 40, 3) := by decide +kernel
theorem dX9_init_63 : decode cX9_init 63 = .ok (.dup, 1) := by decide +kernel
theorem dX9_init_64 : decode cX9_init 64 = .ok (.invokespecial 42, 3) := by decide +kernel
theorem dX9_init_67 : decode cX9_init 67 = .ok (.putfield 43, 3) := by decide +kernel
theorem dX9_init_70 : decode cX9_init 70 = .ok (.aload_n 0, 1) := by decide +kernel
theorem dX9_init_71 : decode cX9_init 71 = .ok (.new 30, 3) := by decide +kernel
theorem dX9_init_74 : decode cX9_init 74 = .ok (.dup, 1) := by decide +kernel
theorem dX9_init_75 : decode cX9_init 75 = .ok (.invokespecial 32, 3) := by decide +kernel
theorem dX9_init_78 : decode cX9_init 78 = .ok (.putfield 47, 3) := by decide +kernel
theorem dX9_init_81 : decode cX9_init 81 = .ok (.aload_n 0, 1) := by decide +kernel
theorem dX9_init_82 : decode cX9_init 82 = .ok (.new 30, 3) := by decide +kernel
theorem dX9_init_85 : decode cX9_init 85 = .ok (.dup, 1) := by decide +kernel
theorem dX9_init_86 : decode cX9_init 86 = .ok (.invokespecial 32, 3) := by decide +kernel
theorem dX9_init_89 : decode cX9_init 89 = .ok (.putfield 50, 3) := by decide +kernel
theorem dX9_init_92 : decode cX9_init 92 = .ok (.aload_n 0, 1) := by decide +kernel
theorem dX9_init_93 : decode cX9_init 93 = .ok (.iconst (-1), 1) := by decide +kernel
theorem dX9_init_94 : decode cX9_init 94 = .ok (.putfield 53, 3) := by decide +kernel
theorem dX9_init_97 : decode cX9_init 97 = .ok (.iconst 0, 1) := by decide +kernel
theorem dX9_init_98 : decode cX9_init 98 = .ok (.istore_n 1, 1) := by decide +kernel
theorem dX9_init_99 : decode cX9_init 99 = .ok (.iload_n 1, 1) := by decide +kernel
theorem dX9_init_100 : decode cX9_init 100 = .ok (.ldc 57, 2) := by decide +kernel
theorem dX9_init_102 : decode cX9_init 102 = .ok (.invokevirtual 59, 3) := by decide +kernel
theorem dX9_init_105 : decode cX9_init 105 = .ok (.if_icmp .ge 22, 3) := by decide +kernel
theorem dX9_init_108 : decode cX9_init 108 = .ok (.aload_n 0, 1) := by decide +kernel
theorem dX9_init_109 : decode cX9_init 109 = .ok (.getfield 12, 3) := by decide +kernel
theorem dX9_init_112 : decode cX9_init 112 = .ok (.ldc 57, 2) := by decide +kernel
theorem dX9_init_114 : decode cX9_init 114 = .ok (.iload_n 1, 1) := by decide +kernel
theorem dX9_init_115 : decode cX9_init 115 = .ok (.invokevirtual 65, 3) := by decide +kernel
theorem dX9_init_118 : decode cX9_init 118 = .ok (.invokevirtual 69, 3) := by decide +kernel
theorem dX9_init_121 : decode cX9_init 121 = .ok (.iinc 1 1, 3) := by decide +kernel
theorem dX9_init_124 : decode cX9_init 124 = .ok (.goto (-25), 3) := by decide +kernel
theorem dX9_init_127 : decode cX9_init 127 = .ok (.aload_n 0, 1) := by decide +kernel
theorem dX9_init_128 : decode cX9_init 128 = .ok (.invokevirtual 73, 3) := by decide +kernel
theorem dX9_init_131 : decode cX9_init 131 = .ok (.aload_n 0, 1) := by decide +kernel
theorem dX9_init_132 : decode cX9_init 132 = .ok (.getfield 33, 3) := by decide +kernel
theorem dX9_init_135 : decode cX9_init 135 = .ok (.aload_n 0, 1) := by decide +kernel
theorem dX9_init_136 : decode cX9_init 136 = .ok (.getfield 37, 3) := by decide +kernel
theorem dX9_init_139 : decode cX9_init 139 = .ok (.invokevirtual 76, 3) := by decide +kernel
theorem dX9_init_142 : decode cX9_init 142 = .ok (.aload_n 0, 1) := by decide +kernel
theorem dX9_init_143 : decode cX9_init 143 = .ok (.getfield 12, 3) := by decide +kernel
theorem dX9_init_146 : decode cX9_init 146 = .ok (.invokevirtual 80, 3) := by decide +kernel
theorem dX9_init_149 : decode cX9_init 149 = .ok (.return_, 1) := by decide +kernel
theorem dX9_append_0 : decode cX9_append 0 = .ok (.iload_n 1, 1) := by decide +kernel
theorem dX9_append_1 : decode cX9_append 1 = .ok (.invokestatic 83, 3) := by decide +kernel
theorem dX9_append_4 : decode cX9_append 4 = .ok (.iload_n 2, 1) := by decide +kernel
theorem dX9_append_5 : decode cX9_append 5 = .ok (.invokestatic 83, 3) := by decide +kernel
theorem dX9_append_8 : decode cX9_append 8 = .ok (.iadd, 1) := by decide +kernel
theorem dX9_append_9 : decode cX9_append 9 = .ok (.iload_n 3, 1) := by decide +kernel
theorem dX9_append_10 : decode cX9_append 10 = .ok (.invokestatic 83, 3) := by decide +kernel
theorem dX9_append_13 : decode cX9_append 13 = .ok (.iadd, 1) := by decide +kernel
theorem dX9_append_14 : decode cX9_append 14 = .ok (.iload 4, 2) := by decide +kernel
theorem dX9_append_16 : decode cX9_append 16 = .ok (.invokestatic 83, 3) := by decide +kernel
theorem dX9_append_19 : decode cX9_append 19 = .ok (.iadd, 1) := by decide +kernel
theorem dX9_append_20 : decode cX9_append 20 = .ok (.iload 5, 2) := by decide +kernel
theorem dX9_append_22 : decode cX9_append 22 = .ok (.invokestatic 83, 3) := by decide +kernel
theorem dX9_append_25 : decode cX9_append 25 = .ok (.iadd, 1) := by decide +kernel
theorem dX9_append_26 : decode cX9_append 26 = .ok (.istore 6, 2) := by decide +kernel
theorem dX9_append_28 : decode cX9_append 28 = .ok (.aload_n 0, 1) := by decide +kernel
theorem dX9_append_29 : decode cX9_append 29 = .ok (.getfield 12, 3) := by decide +kernel
theorem dX9_append_32 : decode cX9_append 32 = .ok (.invokevirtual 87, 3) := by decide +kernel
theorem dX9_append_35 : decode cX9_append 35 = .ok (.iload 6, 2) := by decide +kernel
theorem dX9_append_37 : decode cX9_append 37 = .ok (.iadd, 1) := by decide +kernel
theorem dX9_append_38 : decode cX9_append 38 = .ok (.sipush 800, 3) := by decide +kernel
theorem dX9_append_41 : decode cX9_append 41 = .ok (.if_icmp .le 13, 3) := by decide +kernel
theorem dX9_append_44 : decode cX9_append 44 = .ok (.new 88, 3) := by decide +kernel
theorem dX9_append_47 : decode cX9_append 47 = .ok (.dup, 1) := by decide +kernel
theorem dX9_append_48 : decode cX9_append 48 = .ok (.ldc 90, 2) := by decide +kernel
theorem dX9_append_50 : decode cX9_append 50 = .ok (.invokespecial 92, 3) := by decide +kernel
theorem dX9_append_53 : decode cX9_append 53 = .ok (.athrow, 1) := by decide +kernel
theorem dX9_append_54 : decode cX9_append 54 = .ok (.aload_n 0, 1) := by decide +kernel
theorem dX9_append_55 : decode cX9_append 55 = .ok (.iload_n 1, 1) := by decide +kernel
theorem dX9_append_56 : decode cX9_append 56 = .ok (.invokevirtual 95, 3) := by decide +kernel
theorem dX9_append_59 : decode cX9_append 59 = .ok (.aload_n 0, 1) := by decide +kernel
theorem dX9_append_60 : decode cX9_append 60 = .ok (.iload_n 2, 1) := by decide +kernel
theorem dX9_append_61 : decode cX9_append 61 = .ok (.invokevirtual 95, 3) := by decide +kernel
theorem dX9_append_64 : decode cX9_append 64 = .ok (.aload_n 0, 1) := by decide +kernel
theorem dX9_append_65 : decode cX9_append 65 = .ok (.iload_n 3, 1) := by decide +kernel
theorem dX9_append_66 : decode cX9_append 66 = .ok (.invokevirtual 95, 3) := by decide +kernel
theorem dX9_append_69 : decode cX9_append 69 = .ok (.aload_n 0, 1) := by decide +kernel
theorem dX9_append_70 : decode cX9_append 70 = .ok (.iload 4, 2) := by decide +kernel
theorem dX9_append_72 : decode cX9_append 72 = .ok (.invokevirtual 95, 3) := by decide +kernel
theorem dX9_append_75 : decode cX9_append 75 = .ok (.aload_n 0, 1) := by decide +kernel
theorem dX9_append_76 : decode cX9_append 76 = .ok (.iload 5, 2) := by decide +kernel
theorem dX9_append_78 : decode cX9_append 78 = .ok (.invokevirtual 95, 3) := by decide +kernel
theorem dX9_append_81 : decode cX9_append 81 = .ok (.aload_n 0, 1) := by decide +kernel
theorem dX9_append_82 : decode cX9_append 82 = .ok (.getfield 12, 3) := by decide +kernel
theorem dX9_append_85 : decode cX9_append 85 = .ok (.invokevirtual 87, 3) := by decide +kernel
theorem dX9_append_88 : decode cX9_append 88 = .ok (.ireturn, 1) := by decide +kernel
theorem dX9_load_0 : decode cX9_load 0 = .ok (.aload_n 0, 1) := by decide +kernel
theorem dX9_load_1 : decode cX9_load 1 = .ok (.invokevirtual 73, 3) := by decide +kernel
theorem dX9_load_4 : decode cX9_load 4 = .ok (.aload_n 0, 1) := by decide +kernel
theorem dX9_load_5 : decode cX9_load 5 = .ok (.getfield 12, 3) := by decide +kernel
theorem dX9_load_8 : decode cX9_load 8 = .ok (.invokevirtual 80, 3) := by decide +kernel
theorem dX9_load_11 : decode cX9_load 11 = .ok (.aload_n 0, 1) := by decide +kernel
theorem dX9_load_12 : decode cX9_load 12 = .ok (.invokevirtual 106, 3) := by decide +kernel
theorem dX9_load_15 : decode cX9_load 15 = .ok (.aload_n 0, 1) := by decide +kernel
theorem dX9_load_16 : decode cX9_load 16 = .ok (.getfield 109, 3) := by decide +kernel
theorem dX9_load_19 : decode cX9_load 19 = .ok (.ifCond .ne 31, 3) := by decide +kernel
theorem dX9_load_22 : decode cX9_load 22 = .ok (.aload_n 0, 1) := by decide +kernel
theorem dX9_load_23 : decode cX9_load 23 = .ok (.getfield 33, 3) := by decide +kernel
theorem dX9_load_26 : decode cX9_load 26 = .ok (.aload_n 0, 1) := by decide +kernel
theorem dX9_load_27 : decode cX9_load 27 = .ok (.getfield 37, 3) := by decide +kernel
theorem dX9_load_30 : decode cX9_load 30 = .ok (.invokevirtual 76, 3) := by decide +kernel
theorem dX9_load_33 : decode cX9_load 33 = .ok (.aload_n 0, 1) := by decide +kernel
theorem dX9_load_34 : decode cX9_load 34 = .ok (.getfield 43, 3) := by decide +kernel
theorem dX9_load_37 : decode cX9_load 37 = .ok (.invokevirtual 112, 3) := by decide +kernel
theorem dX9_load_40 : decode cX9_load 40 = .ok (.aload_n 0, 1) := by decide +kernel
theorem dX9_load_41 : decode cX9_load 41 = .ok (.iconst 0, 1) := by decide +kernel
theorem dX9_load_42 : decode cX9_load 42 = .ok (.putfield 115, 3) := by decide +kernel
theorem dX9_load_45 : decode cX9_load 45 = .ok (.aload_n 0, 1) := by decide +kernel
theorem dX9_load_46 : decode cX9_load 46 = .ok (.iconst 0, 1) := by decide +kernel
theorem dX9_load_47 : decode cX9_load 47 = .ok (.putfield 119, 3) := by decide +kernel
theorem dX9_load_50 : decode cX9_load 50 = .ok (.aload_n 0, 1) := by decide +kernel
theorem dX9_load_51 : decode cX9_load 51 = .ok (.getfield 109, 3) := by decide +kernel
theorem dX9_load_54 : decode cX9_load 54 = .ok (.ireturn, 1) := by decide +kernel
theorem dX9_errorPosition_0 : decode cX9_errorPosition 0 = .ok (.aload_n 0, 1) := by decide +kernel
theorem dX9_errorPosition_1 : decode cX9_errorPosition 1 = .ok (.getfield 53, 3) := by decide +kernel
theorem dX9_errorPosition_4 : decode cX9_errorPosition 4 = .ok (.ireturn, 1) := by decide +kernel
theorem dX9_boardSize_0 : decode cX9_boardSize 0 = .ok (.aload_n 0, 1) := by decide +kernel
theorem dX9_boardSize_1 : decode cX9_boardSize 1 = .ok (.getfield 33, 3) := by decide +kernel
theorem dX9_boardSize_4 : decode cX9_boardSize 4 = .ok (.iconst 0, 1) := by decide +kernel
theorem dX9_boardSize_5 : decode cX9_boardSize 5 = .ok (.invokevirtual 140, 3) := by decide +kernel
theorem dX9_boardSize_8 : decode cX9_boardSize 8 = .ok (.invokevirtual 144, 3) := by decide +kernel
theorem dX9_boardSize_11 : decode cX9_boardSize 11 = .ok (.ireturn, 1) := by decide +kernel
theorem dX9_moveLimit_0 : decode cX9_moveLimit 0 = .ok (.aload_n 0, 1) := by decide +kernel
theorem dX9_moveLimit_1 : decode cX9_moveLimit 1 = .ok (.getfield 33, 3) := by decide +kernel
theorem dX9_moveLimit_4 : decode cX9_moveLimit 4 = .ok (.iconst 0, 1) := by decide +kernel
theorem dX9_moveLimit_5 : decode cX9_moveLimit 5 = .ok (.invokevirtual 140, 3) := by decide +kernel
theorem dX9_moveLimit_8 : decode cX9_moveLimit 8 = .ok (.invokevirtual 149, 3) := by decide +kernel
theorem dX9_moveLimit_11 : decode cX9_moveLimit 11 = .ok (.ireturn, 1) := by decide +kernel
theorem dX9_day_0 : decode cX9_day 0 = .ok (.aload_n 0, 1) := by decide +kernel
theorem dX9_day_1 : decode cX9_day 1 = .ok (.getfield 33, 3) := by decide +kernel
theorem dX9_day_4 : decode cX9_day 4 = .ok (.invokevirtual 152, 3) := by decide +kernel
theorem dX9_day_7 : decode cX9_day 7 = .ok (.ireturn, 1) := by decide +kernel
theorem dX9_month_0 : decode cX9_month 0 = .ok (.aload_n 0, 1) := by decide +kernel
theorem dX9_month_1 : decode cX9_month 1 = .ok (.getfield 33, 3) := by decide +kernel
theorem dX9_month_4 : decode cX9_month 4 = .ok (.invokevirtual 152, 3) := by decide +kernel
theorem dX9_month_7 : decode cX9_month 7 = .ok (.invokestatic 155, 3) := by decide +kernel
theorem dX9_month_10 : decode cX9_month 10 = .ok (.ireturn, 1) := by decide +kernel
theorem dX9_bishopOwner_0 : decode cX9_bishopOwner 0 = .ok (.iload_n 1, 1) := by decide +kernel
theorem dX9_bishopOwner_1 : decode cX9_bishopOwner 1 = .ok (.invokestatic 158, 3) := by decide +kernel
theorem dX9_bishopOwner_4 : decode cX9_bishopOwner 4 = .ok (.ifCond .eq 18, 3) := by decide +kernel
theorem dX9_bishopOwner_7 : decode cX9_bishopOwner 7 = .ok (.aload_n 0, 1) := by decide +kernel
theorem dX9_bishopOwner_8 : decode cX9_bishopOwner 8 = .ok (.getfield 33, 3) := by decide +kernel
theorem dX9_bishopOwner_11 : decode cX9_bishopOwner 11 = .ok (.iload_n 2, 1) := by decide +kernel
theorem dX9_bishopOwner_12 : decode cX9_bishopOwner 12 = .ok (.invokevirtual 161, 3) := by decide +kernel
theorem dX9_bishopOwner_15 : decode cX9_bishopOwner 15 = .ok (.ifCond .eq 7, 3) := by decide +kernel
theorem dX9_bishopOwner_18 : decode cX9_bishopOwner 18 = .ok (.iconst 1, 1) := by decide +kernel
theorem dX9_bishopOwner_19 : decode cX9_bishopOwner 19 = .ok (.goto 4, 3) := by decide +kernel
theorem dX9_bishopOwner_22 : decode cX9_bishopOwner 22 = .ok (.iconst 0, 1) := by decide +kernel
theorem dX9_bishopOwner_23 : decode cX9_bishopOwner 23 = .ok (.invokestatic 164, 3) := by decide +kernel
theorem dX9_bishopOwner_26 : decode cX9_bishopOwner 26 = .ok (.aload_n 0, 1) := by decide +kernel
theorem dX9_bishopOwner_27 : decode cX9_bishopOwner 27 = .ok (.getfield 33, 3) := by decide +kernel
theorem dX9_bishopOwner_30 : decode cX9_bishopOwner 30 = .ok (.iload_n 1, 1) := by decide +kernel
theorem dX9_bishopOwner_31 : decode cX9_bishopOwner 31 = .ok (.invokevirtual 140, 3) := by decide +kernel
theorem dX9_bishopOwner_34 : decode cX9_bishopOwner 34 = .ok (.iload_n 2, 1) := by decide +kernel
theorem dX9_bishopOwner_35 : decode cX9_bishopOwner 35 = .ok (.invokevirtual 168, 3) := by decide +kernel
theorem dX9_bishopOwner_38 : decode cX9_bishopOwner 38 = .ok (.ireturn, 1) := by decide +kernel
theorem dX9_bishopCount_0 : decode cX9_bishopCount 0 = .ok (.iload_n 1, 1) := by decide +kernel
theorem dX9_bishopCount_1 : decode cX9_bishopCount 1 = .ok (.invokestatic 158, 3) := by decide +kernel
theorem dX9_bishopCount_4 : decode cX9_bishopCount 4 = .ok (.ifCond .eq 14, 3) := by decide +kernel
theorem dX9_bishopCount_7 : decode cX9_bishopCount 7 = .ok (.iload_n 2, 1) := by decide +kernel
theorem dX9_bishopCount_8 : decode cX9_bishopCount 8 = .ok (.invokestatic 158, 3) := by decide +kernel
theorem dX9_bishopCount_11 : decode cX9_bishopCount 11 = .ok (.ifCond .eq 7, 3) := by decide +kernel
theorem dX9_bishopCount_14 : decode cX9_bishopCount 14 = .ok (.iconst 1, 1) := by decide +kernel
theorem dX9_bishopCount_15 : decode cX9_bishopCount 15 = .ok (.goto 4, 3) := by decide +kernel
theorem dX9_bishopCount_18 : decode cX9_bishopCount 18 = .ok (.iconst 0, 1) := by decide +kernel
theorem dX9_bishopCount_19 : decode cX9_bishopCount 19 = .ok (.invokestatic 164, 3) := by decide +kernel
theorem dX9_bishopCount_22 : decode cX9_bishopCount 22 = .ok (.aload_n 0, 1) := by decide +kernel
theorem dX9_bishopCount_23 : decode cX9_bishopCount 23 = .ok (.getfield 33, 3) := by decide +kernel
theorem dX9_bishopCount_26 : decode cX9_bishopCount 26 = .ok (.iload_n 1, 1) := by decide +kernel
theorem dX9_bishopCount_27 : decode cX9_bishopCount 27 = .ok (.invokevirtual 140, 3) := by decide +kernel
theorem dX9_bishopCount_30 : decode cX9_bishopCount 30 = .ok (.iload_n 2, 1) := by decide +kernel
theorem dX9_bishopCount_31 : decode cX9_bishopCount 31 = .ok (.invokevirtual 171, 3) := by decide +kernel
theorem dX9_bishopCount_34 : decode cX9_bishopCount 34 = .ok (.ireturn, 1) := by decide +kernel
theorem dX9_moveCount_0 : decode cX9_moveCount 0 = .ok (.iload_n 1, 1) := by decide +kernel
theorem dX9_moveCount_1 : decode cX9_moveCount 1 = .ok (.invokestatic 158, 3) := by decide +kernel
theorem dX9_moveCount_4 : decode cX9_moveCount 4 = .ok (.invokestatic 164, 3) := by decide +kernel
theorem dX9_moveCount_7 : decode cX9_moveCount 7 = .ok (.aload_n 0, 1) := by decide +kernel
theorem dX9_moveCount_8 : decode cX9_moveCount 8 = .ok (.getfield 33, 3) := by decide +kernel
theorem dX9_moveCount_11 : decode cX9_moveCount 11 = .ok (.iload_n 1, 1) := by decide +kernel
theorem dX9_moveCount_12 : decode cX9_moveCount 12 = .ok (.invokevirtual 140, 3) := by decide +kernel
theorem dX9_moveCount_15 : decode cX9_moveCount 15 = .ok (.invokevirtual 174, 3) := by decide +kernel
theorem dX9_moveCount_18 : decode cX9_moveCount 18 = .ok (.ireturn, 1) := by decide +kernel
theorem dX9_isTurn_0 : decode cX9_isTurn 0 = .ok (.iload_n 1, 1) := by decide +kernel
theorem dX9_isTurn_1 : decode cX9_isTurn 1 = .ok (.invokestatic 158, 3) := by decide +kernel
theorem dX9_isTurn_4 : decode cX9_isTurn 4 = .ok (.invokestatic 164, 3) := by decide +kernel
theorem dX9_isTurn_7 : decode cX9_isTurn 7 = .ok (.aload_n 0, 1) := by decide +kernel
theorem dX9_isTurn_8 : decode cX9_isTurn 8 = .ok (.getfield 33, 3) := by decide +kernel
theorem dX9_isTurn_11 : decode cX9_isTurn 11 = .ok (.iload_n 1, 1) := by decide +kernel
theorem dX9_isTurn_12 : decode cX9_isTurn 12 = .ok (.invokevirtual 177, 3) := by decide +kernel
theorem dX9_isTurn_15 : decode cX9_isTurn 15 = .ok (.invokevirtual 181, 3) := by decide +kernel
theorem dX9_isTurn_18 : decode cX9_isTurn 18 = .ok (.ireturn, 1) := by decide +kernel
theorem dX9_isOver_0 : decode cX9_isOver 0 = .ok (.iload_n 1, 1) := by decide +kernel
theorem dX9_isOver_1 : decode cX9_isOver 1 = .ok (.invokestatic 158, 3) := by decide +kernel
theorem dX9_isOver_4 : decode cX9_isOver 4 = .ok (.invokestatic 164, 3) := by decide +kernel
theorem dX9_isOver_7 : decode cX9_isOver 7 = .ok (.aload_n 0, 1) := by decide +kernel
theorem dX9_isOver_8 : decode cX9_isOver 8 = .ok (.getfield 33, 3) := by decide +kernel
theorem dX9_isOver_11 : decode cX9_isOver 11 = .ok (.iload_n 1, 1) := by decide +kernel
theorem dX9_isOver_12 : decode cX9_isOver 12 = .ok (.invokevirtual 140, 3) := by decide +kernel
theorem dX9_isOver_15 : decode cX9_isOver 15 = .ok (.invokevirtual 187, 3) := by decide +kernel
theorem dX9_isOver_18 : decode cX9_isOver 18 = .ok (.ireturn, 1) := by decide +kernel
theorem dX9_winner_0 : decode cX9_winner 0 = .ok (.iload_n 1, 1) := by decide +kernel
theorem dX9_winner_1 : decode cX9_winner 1 = .ok (.invokestatic 158, 3) := by decide +kernel
theorem dX9_winner_4 : decode cX9_winner 4 = .ok (.invokestatic 164, 3) := by decide +kernel
theorem dX9_winner_7 : decode cX9_winner 7 = .ok (.aload_n 0, 1) := by decide +kernel
theorem dX9_winner_8 : decode cX9_winner 8 = .ok (.getfield 33, 3) := by decide +kernel
theorem dX9_winner_11 : decode cX9_winner 11 = .ok (.iload_n 1, 1) := by decide +kernel
theorem dX9_winner_12 : decode cX9_winner 12 = .ok (.invokevirtual 140, 3) := by decide +kernel
theorem dX9_winner_15 : decode cX9_winner 15 = .ok (.astore_n 2, 1) := by decide +kernel
theorem dX9_winner_16 : decode cX9_winner 16 = .ok (.aload_n 2, 1) := by decide +kernel
theorem dX9_winner_17 : decode cX9_winner 17 = .ok (.iconst 0, 1) := by decide +kernel
theorem dX9_winner_18 : decode cX9_winner 18 = .ok (.invokevirtual 171, 3) := by decide +kernel
theorem dX9_winner_21 : decode cX9_winner 21 = .ok (.aload_n 2, 1) := by decide +kernel
theorem dX9_winner_22 : decode cX9_winner 22 = .ok (.iconst 1, 1) := by decide +kernel
theorem dX9_winner_23 : decode cX9_winner 23 = .ok (.invokevirtual 171, 3) := by decide +kernel
theorem dX9_winner_26 : decode cX9_winner 26 = .ok (.isub, 1) := by decide +kernel
theorem dX9_winner_27 : decode cX9_winner 27 = .ok (.istore_n 3, 1) := by decide +kernel
theorem dX9_winner_28 : decode cX9_winner 28 = .ok (.aload_n 2, 1) := by decide +kernel
theorem dX9_winner_29 : decode cX9_winner 29 = .ok (.invokevirtual 187, 3) := by decide +kernel
theorem dX9_winner_32 : decode cX9_winner 32 = .ok (.ifCond .eq 7, 3) := by decide +kernel
theorem dX9_winner_35 : decode cX9_winner 35 = .ok (.iload_n 3, 1) := by decide +kernel
theorem dX9_winner_36 : decode cX9_winner 36 = .ok (.ifCond .ne 5, 3) := by decide +kernel
theorem dX9_winner_39 : decode cX9_winner 39 = .ok (.iconst (-1), 1) := by decide +kernel
theorem dX9_winner_40 : decode cX9_winner 40 = .ok (.ireturn, 1) := by decide +kernel
theorem dX9_winner_41 : decode cX9_winner 41 = .ok (.iload_n 3, 1) := by decide +kernel
theorem dX9_winner_42 : decode cX9_winner 42 = .ok (.ifCond .le 7, 3) := by decide +kernel
theorem dX9_winner_45 : decode cX9_winner 45 = .ok (.iconst 0, 1) := by decide +kernel
theorem dX9_winner_46 : decode cX9_winner 46 = .ok (.goto 4, 3) := by decide +kernel
theorem dX9_winner_49 : decode cX9_winner 49 = .ok (.iconst 1, 1) := by decide +kernel
theorem dX9_winner_50 : decode cX9_winner 50 = .ok (.ireturn, 1) := by decide +kernel
theorem dX9_canMove_0 : decode cX9_canMove 0 = .ok (.iload_n 1, 1) := by decide +kernel
theorem dX9_canMove_1 : decode cX9_canMove 1 = .ok (.invokestatic 158, 3) := by decide +kernel
theorem dX9_canMove_4 : decode cX9_canMove 4 = .ok (.ifCond .eq 29, 3) := by decide +kernel
theorem dX9_canMove_7 : decode cX9_canMove 7 = .ok (.aload_n 0, 1) := by decide +kernel
theorem dX9_canMove_8 : decode cX9_canMove 8 = .ok (.getfield 33, 3) := by decide +kernel
theorem dX9_canMove_11 : decode cX9_canMove 11 = .ok (.iload_n 2, 1) := by decide +kernel
theorem dX9_canMove_12 : decode cX9_canMove 12 = .ok (.invokevirtual 161, 3) := by decide +kernel
theorem dX9_canMove_15 : decode cX9_canMove 15 = .ok (.ifCond .eq 18, 3) := by decide +kernel
theorem dX9_canMove_18 : decode cX9_canMove 18 = .ok (.aload_n 0, 1) := by decide +kernel
theorem dX9_canMove_19 : decode cX9_canMove 19 = .ok (.getfield 33, 3) := by decide +kernel
theorem dX9_canMove_22 : decode cX9_canMove 22 = .ok (.iload_n 3, 1) := by decide +kernel
theorem dX9_canMove_23 : decode cX9_canMove 23 = .ok (.invokevirtual 161, 3) := by decide +kernel
theorem dX9_canMove_26 : decode cX9_canMove 26 = .ok (.ifCond .eq 7, 3) := by decide +kernel
theorem dX9_canMove_29 : decode cX9_canMove 29 = .ok (.iconst 1, 1) := by decide +kernel
theorem dX9_canMove_30 : decode cX9_canMove 30 = .ok (.goto 4, 3) := by decide +kernel
theorem dX9_canMove_33 : decode cX9_canMove 33 = .ok (.iconst 0, 1) := by decide +kernel
theorem dX9_canMove_34 : decode cX9_canMove 34 = .ok (.invokestatic 164, 3) := by decide +kernel
theorem dX9_canMove_37 : decode cX9_canMove 37 = .ok (.aload_n 0, 1) := by decide +kernel
theorem dX9_canMove_38 : decode cX9_canMove 38 = .ok (.getfield 33, 3) := by decide +kernel
theorem dX9_canMove_41 : decode cX9_canMove 41 = .ok (.iload_n 1, 1) := by decide +kernel
theorem dX9_canMove_42 : decode cX9_canMove 42 = .ok (.invokevirtual 140, 3) := by decide +kernel
theorem dX9_canMove_45 : decode cX9_canMove 45 = .ok (.iload_n 2, 1) := by decide +kernel
theorem dX9_canMove_46 : decode cX9_canMove 46 = .ok (.iload_n 3, 1) := by decide +kernel
theorem dX9_canMove_47 : decode cX9_canMove 47 = .ok (.invokevirtual 190, 3) := by decide +kernel
theorem dX9_canMove_50 : decode cX9_canMove 50 = .ok (.ireturn, 1) := by decide +kernel
theorem dX9_mobility_0 : decode cX9_mobility 0 = .ok (.iload_n 1, 1) := by decide +kernel
theorem dX9_mobility_1 : decode cX9_mobility 1 = .ok (.invokestatic 158, 3) := by decide +kernel
theorem dX9_mobility_4 : decode cX9_mobility 4 = .ok (.ifCond .eq 14, 3) := by decide +kernel
theorem dX9_mobility_7 : decode cX9_mobility 7 = .ok (.iload_n 2, 1) := by decide +kernel
theorem dX9_mobility_8 : decode cX9_mobility 8 = .ok (.invokestatic 158, 3) := by decide +kernel
theorem dX9_mobility_11 : decode cX9_mobility 11 = .ok (.ifCond .eq 7, 3) := by decide +kernel
theorem dX9_mobility_14 : decode cX9_mobility 14 = .ok (.iconst 1, 1) := by decide +kernel
theorem dX9_mobility_15 : decode cX9_mobility 15 = .ok (.goto 4, 3) := by decide +kernel
theorem dX9_mobility_18 : decode cX9_mobility 18 = .ok (.iconst 0, 1) := by decide +kernel
theorem dX9_mobility_19 : decode cX9_mobility 19 = .ok (.invokestatic 164, 3) := by decide +kernel
theorem dX9_mobility_22 : decode cX9_mobility 22 = .ok (.aload_n 0, 1) := by decide +kernel
theorem dX9_mobility_23 : decode cX9_mobility 23 = .ok (.getfield 33, 3) := by decide +kernel
theorem dX9_mobility_26 : decode cX9_mobility 26 = .ok (.iload_n 1, 1) := by decide +kernel
theorem dX9_mobility_27 : decode cX9_mobility 27 = .ok (.invokevirtual 140, 3) := by decide +kernel
theorem dX9_mobility_30 : decode cX9_mobility 30 = .ok (.iload_n 2, 1) := by decide +kernel
theorem dX9_mobility_31 : decode cX9_mobility 31 = .ok (.invokevirtual 194, 3) := by decide +kernel
theorem dX9_mobility_34 : decode cX9_mobility 34 = .ok (.ireturn, 1) := by decide +kernel
theorem dX9_movedFrom_0 : decode cX9_movedFrom 0 = .ok (.aload_n 0, 1) := by decide +kernel
theorem dX9_movedFrom_1 : decode cX9_movedFrom 1 = .ok (.iload_n 1, 1) := by decide +kernel
theorem dX9_movedFrom_2 : decode cX9_movedFrom 2 = .ok (.iload_n 2, 1) := by decide +kernel
theorem dX9_movedFrom_3 : decode cX9_movedFrom 3 = .ok (.invokevirtual 197, 3) := by decide +kernel
theorem dX9_movedFrom_6 : decode cX9_movedFrom 6 = .ok (.invokestatic 201, 3) := by decide +kernel
theorem dX9_movedFrom_9 : decode cX9_movedFrom 9 = .ok (.ireturn, 1) := by decide +kernel
theorem dX9_movedTo_0 : decode cX9_movedTo 0 = .ok (.aload_n 0, 1) := by decide +kernel
theorem dX9_movedTo_1 : decode cX9_movedTo 1 = .ok (.iload_n 1, 1) := by decide +kernel
theorem dX9_movedTo_2 : decode cX9_movedTo 2 = .ok (.iload_n 2, 1) := by decide +kernel
theorem dX9_movedTo_3 : decode cX9_movedTo 3 = .ok (.invokevirtual 197, 3) := by decide +kernel
theorem dX9_movedTo_6 : decode cX9_movedTo 6 = .ok (.invokestatic 204, 3) := by decide +kernel
theorem dX9_movedTo_9 : decode cX9_movedTo 9 = .ok (.ireturn, 1) := by decide +kernel
theorem dX9_storedMoves_0 : decode cX9_storedMoves 0 = .ok (.iload_n 1, 1) := by decide +kernel
theorem dX9_storedMoves_1 : decode cX9_storedMoves 1 = .ok (.invokestatic 158, 3) := by decide +kernel
theorem dX9_storedMoves_4 : decode cX9_storedMoves 4 = .ok (.invokestatic 164, 3) := by decide +kernel
theorem dX9_storedMoves_7 : decode cX9_storedMoves 7 = .ok (.aload_n 0, 1) := by decide +kernel
theorem dX9_storedMoves_8 : decode cX9_storedMoves 8 = .ok (.getfield 33, 3) := by decide +kernel
theorem dX9_storedMoves_11 : decode cX9_storedMoves 11 = .ok (.iload_n 1, 1) := by decide +kernel
theorem dX9_storedMoves_12 : decode cX9_storedMoves 12 = .ok (.invokevirtual 177, 3) := by decide +kernel
theorem dX9_storedMoves_15 : decode cX9_storedMoves 15 = .ok (.invokevirtual 207, 3) := by decide +kernel
theorem dX9_storedMoves_18 : decode cX9_storedMoves 18 = .ok (.ireturn, 1) := by decide +kernel
theorem dX9_areBoardsEqual_0 : decode cX9_areBoardsEqual 0 = .ok (.aload_n 0, 1) := by decide +kernel
theorem dX9_areBoardsEqual_1 : decode cX9_areBoardsEqual 1 = .ok (.getfield 33, 3) := by decide +kernel
theorem dX9_areBoardsEqual_4 : decode cX9_areBoardsEqual 4 = .ok (.invokevirtual 210, 3) := by decide +kernel
theorem dX9_areBoardsEqual_7 : decode cX9_areBoardsEqual 7 = .ok (.ireturn, 1) := by decide +kernel
theorem dX9_passCount_0 : decode cX9_passCount 0 = .ok (.aload_n 0, 1) := by decide +kernel
theorem dX9_passCount_1 : decode cX9_passCount 1 = .ok (.getfield 33, 3) := by decide +kernel
theorem dX9_passCount_4 : decode cX9_passCount 4 = .ok (.invokevirtual 213, 3) := by decide +kernel
theorem dX9_passCount_7 : decode cX9_passCount 7 = .ok (.invokevirtual 217, 3) := by decide +kernel
theorem dX9_passCount_10 : decode cX9_passCount 10 = .ok (.ireturn, 1) := by decide +kernel
theorem dX9_snowDepth_0 : decode cX9_snowDepth 0 = .ok (.aload_n 0, 1) := by decide +kernel
theorem dX9_snowDepth_1 : decode cX9_snowDepth 1 = .ok (.getfield 33, 3) := by decide +kernel
theorem dX9_snowDepth_4 : decode cX9_snowDepth 4 = .ok (.invokevirtual 213, 3) := by decide +kernel
theorem dX9_snowDepth_7 : decode cX9_snowDepth 7 = .ok (.iload_n 1, 1) := by decide +kernel
theorem dX9_snowDepth_8 : decode cX9_snowDepth 8 = .ok (.invokevirtual 222, 3) := by decide +kernel
theorem dX9_snowDepth_11 : decode cX9_snowDepth 11 = .ok (.ifCond .eq 14, 3) := by decide +kernel
theorem dX9_snowDepth_14 : decode cX9_snowDepth 14 = .ok (.iload_n 2, 1) := by decide +kernel
theorem dX9_snowDepth_15 : decode cX9_snowDepth 15 = .ok (.invokestatic 225, 3) := by decide +kernel
theorem dX9_snowDepth_18 : decode cX9_snowDepth 18 = .ok (.ifCond .eq 7, 3) := by decide +kernel
theorem dX9_snowDepth_21 : decode cX9_snowDepth 21 = .ok (.iconst 1, 1) := by decide +kernel
theorem dX9_snowDepth_22 : decode cX9_snowDepth 22 = .ok (.goto 4, 3) := by decide +kernel
theorem dX9_snowDepth_25 : decode cX9_snowDepth 25 = .ok (.iconst 0, 1) := by decide +kernel
theorem dX9_snowDepth_26 : decode cX9_snowDepth 26 = .ok (.invokestatic 164, 3) := by decide +kernel
theorem dX9_snowDepth_29 : decode cX9_snowDepth 29 = .ok (.aload_n 0, 1) := by decide +kernel
theorem dX9_snowDepth_30 : decode cX9_snowDepth 30 = .ok (.getfield 33, 3) := by decide +kernel
theorem dX9_snowDepth_33 : decode cX9_snowDepth 33 = .ok (.invokevirtual 213, 3) := by decide +kernel
theorem dX9_snowDepth_36 : decode cX9_snowDepth 36 = .ok (.iload_n 1, 1) := by decide +kernel
theorem dX9_snowDepth_37 : decode cX9_snowDepth 37 = .ok (.iload_n 2, 1) := by decide +kernel
theorem dX9_snowDepth_38 : decode cX9_snowDepth 38 = .ok (.invokevirtual 228, 3) := by decide +kernel
theorem dX9_snowDepth_41 : decode cX9_snowDepth 41 = .ok (.ireturn, 1) := by decide +kernel
theorem dX9_travelDays_0 : decode cX9_travelDays 0 = .ok (.aload_n 0, 1) := by decide +kernel
theorem dX9_travelDays_1 : decode cX9_travelDays 1 = .ok (.getfield 33, 3) := by decide +kernel
theorem dX9_travelDays_4 : decode cX9_travelDays 4 = .ok (.invokevirtual 213, 3) := by decide +kernel
theorem dX9_travelDays_7 : decode cX9_travelDays 7 = .ok (.iload_n 1, 1) := by decide +kernel
theorem dX9_travelDays_8 : decode cX9_travelDays 8 = .ok (.invokevirtual 222, 3) := by decide +kernel
theorem dX9_travelDays_11 : decode cX9_travelDays 11 = .ok (.invokestatic 164, 3) := by decide +kernel
theorem dX9_travelDays_14 : decode cX9_travelDays 14 = .ok (.aload_n 0, 1) := by decide +kernel
theorem dX9_travelDays_15 : decode cX9_travelDays 15 = .ok (.getfield 33, 3) := by decide +kernel
theorem dX9_travelDays_18 : decode cX9_travelDays 18 = .ok (.invokevirtual 213, 3) := by decide +kernel
theorem dX9_travelDays_21 : decode cX9_travelDays 21 = .ok (.iload_n 1, 1) := by decide +kernel
theorem dX9_travelDays_22 : decode cX9_travelDays 22 = .ok (.aload_n 0, 1) := by decide +kernel
theorem dX9_travelDays_23 : decode cX9_travelDays 23 = .ok (.getfield 33, 3) := by decide +kernel
theorem dX9_travelDays_26 : decode cX9_travelDays 26 = .ok (.invokevirtual 152, 3) := by decide +kernel
theorem dX9_travelDays_29 : decode cX9_travelDays 29 = .ok (.invokestatic 155, 3) := by decide +kernel
theorem dX9_travelDays_32 : decode cX9_travelDays 32 = .ok (.invokevirtual 231, 3) := by decide +kernel
theorem dX9_travelDays_35 : decode cX9_travelDays 35 = .ok (.ireturn, 1) := by decide +kernel
theorem dX9_mules_0 : decode cX9_mules 0 = .ok (.aload_n 0, 1) := by decide +kernel
theorem dX9_mules_1 : decode cX9_mules 1 = .ok (.getfield 33, 3) := by decide +kernel
theorem dX9_mules_4 : decode cX9_mules 4 = .ok (.invokevirtual 213, 3) := by decide +kernel
theorem dX9_mules_7 : decode cX9_mules 7 = .ok (.iload_n 1, 1) := by decide +kernel
theorem dX9_mules_8 : decode cX9_mules 8 = .ok (.invokevirtual 222, 3) := by decide +kernel
theorem dX9_mules_11 : decode cX9_mules 11 = .ok (.ifCond .eq 14, 3) := by decide +kernel
theorem dX9_mules_14 : decode cX9_mules 14 = .ok (.iload_n 2, 1) := by decide +kernel
theorem dX9_mules_15 : decode cX9_mules 15 = .ok (.invokestatic 158, 3) := by decide +kernel
theorem dX9_mules_18 : decode cX9_mules 18 = .ok (.ifCond .eq 7, 3) := by decide +kernel
theorem dX9_mules_21 : decode cX9_mules 21 = .ok (.iconst 1, 1) := by decide +kernel
theorem dX9_mules_22 : decode cX9_mules 22 = .ok (.goto 4, 3) := by decide +kernel
theorem dX9_mules_25 : decode cX9_mules 25 = .ok (.iconst 0, 1) := by decide +kernel
theorem dX9_mules_26 : decode cX9_mules 26 = .ok (.invokestatic 164, 3) := by decide +kernel
theorem dX9_mules_29 : decode cX9_mules 29 = .ok (.aload_n 0, 1) := by decide +kernel
theorem dX9_mules_30 : decode cX9_mules 30 = .ok (.getfield 33, 3) := by decide +kernel
theorem dX9_mules_33 : decode cX9_mules 33 = .ok (.invokevirtual 213, 3) := by decide +kernel
theorem dX9_mules_36 : decode cX9_mules 36 = .ok (.iload_n 1, 1) := by decide +kernel
theorem dX9_mules_37 : decode cX9_mules 37 = .ok (.iload_n 2, 1) := by decide +kernel
theorem dX9_mules_38 : decode cX9_mules 38 = .ok (.invokevirtual 234, 3) := by decide +kernel
theorem dX9_mules_41 : decode cX9_mules 41 = .ok (.ireturn, 1) := by decide +kernel
theorem dX9_queueLength_0 : decode cX9_queueLength 0 = .ok (.aload_n 0, 1) := by decide +kernel
theorem dX9_queueLength_1 : decode cX9_queueLength 1 = .ok (.getfield 33, 3) := by decide +kernel
theorem dX9_queueLength_4 : decode cX9_queueLength 4 = .ok (.invokevirtual 213, 3) := by decide +kernel
theorem dX9_queueLength_7 : decode cX9_queueLength 7 = .ok (.iload_n 1, 1) := by decide +kernel
theorem dX9_queueLength_8 : decode cX9_queueLength 8 = .ok (.invokevirtual 222, 3) := by decide +kernel
theorem dX9_queueLength_11 : decode cX9_queueLength 11 = .ok (.ifCond .eq 14, 3) := by decide +kernel
theorem dX9_queueLength_14 : decode cX9_queueLength 14 = .ok (.iload_n 2, 1) := by decide +kernel
theorem dX9_queueLength_15 : decode cX9_queueLength 15 = .ok (.invokestatic 158, 3) := by decide +kernel
theorem dX9_queueLength_18 : decode cX9_queueLength 18 = .ok (.ifCond .eq 7, 3) := by decide +kernel
theorem dX9_queueLength_21 : decode cX9_queueLength 21 = .ok (.iconst 1, 1) := by decide +kernel
theorem dX9_queueLength_22 : decode cX9_queueLength 22 = .ok (.goto 4, 3) := by decide +kernel
theorem dX9_queueLength_25 : decode cX9_queueLength 25 = .ok (.iconst 0, 1) := by decide +kernel
theorem dX9_queueLength_26 : decode cX9_queueLength 26 = .ok (.invokestatic 164, 3) := by decide +kernel
theorem dX9_queueLength_29 : decode cX9_queueLength 29 = .ok (.aload_n 0, 1) := by decide +kernel
theorem dX9_queueLength_30 : decode cX9_queueLength 30 = .ok (.getfield 33, 3) := by decide +kernel
theorem dX9_queueLength_33 : decode cX9_queueLength 33 = .ok (.invokevirtual 237, 3) := by decide +kernel
theorem dX9_queueLength_36 : decode cX9_queueLength 36 = .ok (.iload_n 1, 1) := by decide +kernel
theorem dX9_queueLength_37 : decode cX9_queueLength 37 = .ok (.iload_n 2, 1) := by decide +kernel
theorem dX9_queueLength_38 : decode cX9_queueLength 38 = .ok (.invokevirtual 241, 3) := by decide +kernel
theorem dX9_queueLength_41 : decode cX9_queueLength 41 = .ok (.ireturn, 1) := by decide +kernel
theorem dX9_letterCount_0 : decode cX9_letterCount 0 = .ok (.aload_n 0, 1) := by decide +kernel
theorem dX9_letterCount_1 : decode cX9_letterCount 1 = .ok (.getfield 33, 3) := by decide +kernel
theorem dX9_letterCount_4 : decode cX9_letterCount 4 = .ok (.invokevirtual 237, 3) := by decide +kernel
theorem dX9_letterCount_7 : decode cX9_letterCount 7 = .ok (.invokevirtual 246, 3) := by decide +kernel
theorem dX9_letterCount_10 : decode cX9_letterCount 10 = .ok (.ireturn, 1) := by decide +kernel
theorem dX9_writer_0 : decode cX9_writer 0 = .ok (.aload_n 0, 1) := by decide +kernel
theorem dX9_writer_1 : decode cX9_writer 1 = .ok (.getfield 33, 3) := by decide +kernel
