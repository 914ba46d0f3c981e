theorem dX10_takes_58 : decode cX10_takes 58 = .ok (.aload_n 0, 1) := by decide +kernel
theorem dX10_takes_59 : decode cX10_takes 59 = .ok (.getfield 19, 3) := by decide +kernel
theorem dX10_takes_62 : decode cX10_takes 62 = .ok (.iload_n 2, 1) := by decide +kernel
theorem dX10_takes_63 : decode cX10_takes 63 = .ok (.aload_n 1, 1) := by decide +kernel
theorem dX10_takes_64 : decode cX10_takes 64 = .ok (.getfield 19, 3) := by decide +kernel
theorem dX10_takes_67 : decode cX10_takes 67 = .ok (.iload_n 2, 1) := by decide +kernel
theorem dX10_takes_68 : decode cX10_takes 68 = .ok (.iaload, 1) := by decide +kernel
theorem dX10_takes_69 : decode cX10_takes 69 = .ok (.iastore, 1) := by decide +kernel
theorem dX10_takes_70 : decode cX10_takes 70 = .ok (.aload_n 0, 1) := by decide +kernel
theorem dX10_takes_71 : decode cX10_takes 71 = .ok (.getfield 22, 3) := by decide +kernel
theorem dX10_takes_74 : decode cX10_takes 74 = .ok (.iload_n 2, 1) := by decide +kernel
theorem dX10_takes_75 : decode cX10_takes 75 = .ok (.aload_n 1, 1) := by decide +kernel
theorem dX10_takes_76 : decode cX10_takes 76 = .ok (.getfield 22, 3) := by decide +kernel
theorem dX10_takes_79 : decode cX10_takes 79 = .ok (.iload_n 2, 1) := by decide +kernel
theorem dX10_takes_80 : decode cX10_takes 80 = .ok (.iaload, 1) := by decide +kernel
theorem dX10_takes_81 : decode cX10_takes 81 = .ok (.iastore, 1) := by decide +kernel
theorem dX10_takes_82 : decode cX10_takes 82 = .ok (.aload_n 0, 1) := by decide +kernel
theorem dX10_takes_83 : decode cX10_takes 83 = .ok (.getfield 25, 3) := by decide +kernel
theorem dX10_takes_86 : decode cX10_takes 86 = .ok (.iload_n 2, 1) := by decide +kernel
theorem dX10_takes_87 : decode cX10_takes 87 = .ok (.aload_n 1, 1) := by decide +kernel
theorem dX10_takes_88 : decode cX10_takes 88 = .ok (.getfield 25, 3) := by decide +kernel
theorem dX10_takes_91 : decode cX10_takes 91 = .ok (.iload_n 2, 1) := by decide +kernel
theorem dX10_takes_92 : decode cX10_takes 92 = .ok (.baload, 1) := by decide +kernel
theorem dX10_takes_93 : decode cX10_takes 93 = .ok (.bastore, 1) := by decide +kernel
theorem dX10_takes_94 : decode cX10_takes 94 = .ok (.iinc 2 1, 3) := by decide +kernel
theorem dX10_takes_97 : decode cX10_takes 97 = .ok (.goto (-69), 3) := by decide +kernel
theorem dX10_takes_100 : decode cX10_takes 100 = .ok (.aload_n 0, 1) := by decide +kernel
theorem dX10_takes_101 : decode cX10_takes 101 = .ok (.aload_n 1, 1) := by decide +kernel
theorem dX10_takes_102 : decode cX10_takes 102 = .ok (.getfield 33, 3) := by decide +kernel
theorem dX10_takes_105 : decode cX10_takes 105 = .ok (.putfield 33, 3) := by decide +kernel
theorem dX10_takes_108 : decode cX10_takes 108 = .ok (.aload_n 0, 1) := by decide +kernel
theorem dX10_takes_109 : decode cX10_takes 109 = .ok (.aload_n 1, 1) := by decide +kernel
theorem dX10_takes_110 : decode cX10_takes 110 = .ok (.getfield 29, 3) := by decide +kernel
theorem dX10_takes_113 : decode cX10_takes 113 = .ok (.putfield 29, 3) := by decide +kernel
theorem dX10_takes_116 : decode cX10_takes 116 = .ok (.aload_n 0, 1) := by decide +kernel
theorem dX10_takes_117 : decode cX10_takes 117 = .ok (.aload_n 1, 1) := by decide +kernel
theorem dX10_takes_118 : decode cX10_takes 118 = .ok (.getfield 36, 3) := by decide +kernel
theorem dX10_takes_121 : decode cX10_takes 121 = .ok (.putfield 36, 3) := by decide +kernel
theorem dX10_takes_124 : decode cX10_takes 124 = .ok (.aload_n 0, 1) := by decide +kernel
theorem dX10_takes_125 : decode cX10_takes 125 = .ok (.aload_n 1, 1) := by decide +kernel
theorem dX10_takes_126 : decode cX10_takes 126 = .ok (.getfield 39, 3) := by decide +kernel
theorem dX10_takes_129 : decode cX10_takes 129 = .ok (.putfield 39, 3) := by decide +kernel
theorem dX10_takes_132 : decode cX10_takes 132 = .ok (.aload_n 0, 1) := by decide +kernel
theorem dX10_takes_133 : decode cX10_takes 133 = .ok (.aload_n 1, 1) := by decide +kernel
theorem dX10_takes_134 : decode cX10_takes 134 = .ok (.getfield 42, 3) := by decide +kernel
theorem dX10_takes_137 : decode cX10_takes 137 = .ok (.putfield 42, 3) := by decide +kernel
theorem dX10_takes_140 : decode cX10_takes 140 = .ok (.aload_n 0, 1) := by decide +kernel
theorem dX10_takes_141 : decode cX10_takes 141 = .ok (.aload_n 1, 1) := by decide +kernel
theorem dX10_takes_142 : decode cX10_takes 142 = .ok (.getfield 45, 3) := by decide +kernel
theorem dX10_takes_145 : decode cX10_takes 145 = .ok (.putfield 45, 3) := by decide +kernel
theorem dX10_takes_148 : decode cX10_takes 148 = .ok (.return_, 1) := by decide +kernel
theorem dX10_bishops_0 : decode cX10_bishops 0 = .ok (.iconst 0, 1) := by decide +kernel
theorem dX10_bishops_1 : decode cX10_bishops 1 = .ok (.istore_n 2, 1) := by decide +kernel
theorem dX10_bishops_2 : decode cX10_bishops 2 = .ok (.iconst 0, 1) := by decide +kernel
theorem dX10_bishops_3 : decode cX10_bishops 3 = .ok (.istore_n 3, 1) := by decide +kernel
theorem dX10_bishops_4 : decode cX10_bishops 4 = .ok (.iload_n 3, 1) := by decide +kernel
theorem dX10_bishops_5 : decode cX10_bishops 5 = .ok (.bipush 64, 2) := by decide +kernel
theorem dX10_bishops_7 : decode cX10_bishops 7 = .ok (.if_icmp .ge 27, 3) := by decide +kernel
theorem dX10_bishops_10 : decode cX10_bishops 10 = .ok (.iload_n 2, 1) := by decide +kernel
theorem dX10_bishops_11 : decode cX10_bishops 11 = .ok (.aload_n 0, 1) := by decide +kernel
theorem dX10_bishops_12 : decode cX10_bishops 12 = .ok (.getfield 7, 3) := by decide +kernel
theorem dX10_bishops_15 : decode cX10_bishops 15 = .ok (.iload_n 3, 1) := by decide +kernel
theorem dX10_bishops_16 : decode cX10_bishops 16 = .ok (.iaload, 1) := by decide +kernel
theorem dX10_bishops_17 : decode cX10_bishops 17 = .ok (.iload_n 1, 1) := by decide +kernel
theorem dX10_bishops_18 : decode cX10_bishops 18 = .ok (.if_icmp .ne 7, 3) := by decide +kernel
theorem dX10_bishops_21 : decode cX10_bishops 21 = .ok (.iconst 1, 1) := by decide +kernel
theorem dX10_bishops_22 : decode cX10_bishops 22 = .ok (.goto 4, 3) := by decide +kernel
theorem dX10_bishops_25 : decode cX10_bishops 25 = .ok (.iconst 0, 1) := by decide +kernel
theorem dX10_bishops_26 : decode cX10_bishops 26 = .ok (.iadd, 1) := by decide +kernel
theorem dX10_bishops_27 : decode cX10_bishops 27 = .ok (.istore_n 2, 1) := by decide +kernel
theorem dX10_bishops_28 : decode cX10_bishops 28 = .ok (.iinc 3 1, 3) := by decide +kernel
theorem dX10_bishops_31 : decode cX10_bishops 31 = .ok (.goto (-27), 3) := by decide +kernel
theorem dX10_bishops_34 : decode cX10_bishops 34 = .ok (.iload_n 2, 1) := by decide +kernel
theorem dX10_bishops_35 : decode cX10_bishops 35 = .ok (.ireturn, 1) := by decide +kernel
theorem dX10_canGo_0 : decode cX10_canGo 0 = .ok (.aload_n 0, 1) := by decide +kernel
theorem dX10_canGo_1 : decode cX10_canGo 1 = .ok (.getfield 7, 3) := by decide +kernel
theorem dX10_canGo_4 : decode cX10_canGo 4 = .ok (.iload_n 2, 1) := by decide +kernel
theorem dX10_canGo_5 : decode cX10_canGo 5 = .ok (.iaload, 1) := by decide +kernel
theorem dX10_canGo_6 : decode cX10_canGo 6 = .ok (.istore 4, 2) := by decide +kernel
theorem dX10_canGo_8 : decode cX10_canGo 8 = .ok (.iconst 0, 1) := by decide +kernel
theorem dX10_canGo_9 : decode cX10_canGo 9 = .ok (.istore 5, 2) := by decide +kernel
theorem dX10_canGo_11 : decode cX10_canGo 11 = .ok (.iload 5, 2) := by decide +kernel
theorem dX10_canGo_13 : decode cX10_canGo 13 = .ok (.iconst 4, 1) := by decide +kernel
theorem dX10_canGo_14 : decode cX10_canGo 14 = .ok (.if_icmp .ge 159, 3) := by decide +kernel
theorem dX10_canGo_17 : decode cX10_canGo 17 = .ok (.iload 4, 2) := by decide +kernel
theorem dX10_canGo_19 : decode cX10_canGo 19 = .ok (.ifCond .lt 154, 3) := by decide +kernel
theorem dX10_canGo_22 : decode cX10_canGo 22 = .ok (.iload_n 2, 1) := by decide +kernel
theorem dX10_canGo_23 : decode cX10_canGo 23 = .ok (.iload_n 1, 1) := by decide +kernel
theorem dX10_canGo_24 : decode cX10_canGo 24 = .ok (.idiv, 1) := by decide +kernel
theorem dX10_canGo_25 : decode cX10_canGo 25 = .ok (.istore 6, 2) := by decide +kernel
theorem dX10_canGo_27 : decode cX10_canGo 27 = .ok (.iload_n 2, 1) := by decide +kernel
theorem dX10_canGo_28 : decode cX10_canGo 28 = .ok (.iload_n 1, 1) := by decide +kernel
theorem dX10_canGo_29 : decode cX10_canGo 29 = .ok (.irem, 1) := by decide +kernel
theorem dX10_canGo_30 : decode cX10_canGo 30 = .ok (.istore 7, 2) := by decide +kernel
theorem dX10_canGo_32 : decode cX10_canGo 32 = .ok (.iconst 1, 1) := by decide +kernel
theorem dX10_canGo_33 : decode cX10_canGo 33 = .ok (.istore 8, 2) := by decide +kernel
theorem dX10_canGo_35 : decode cX10_canGo 35 = .ok (.iload 8, 2) := by decide +kernel
theorem dX10_canGo_37 : decode cX10_canGo 37 = .ok (.ifCond .eq 130, 3) := by decide +kernel
theorem dX10_canGo_40 : decode cX10_canGo 40 = .ok (.iload 6, 2) := by decide +kernel
theorem dX10_canGo_42 : decode cX10_canGo 42 = .ok (.iload 5, 2) := by decide +kernel
theorem dX10_canGo_44 : decode cX10_canGo 44 = .ok (.iconst 2, 1) := by decide +kernel
theorem dX10_canGo_45 : decode cX10_canGo 45 = .ok (.if_icmp .ge 7, 3) := by decide +kernel
theorem dX10_canGo_48 : decode cX10_canGo 48 = .ok (.iconst 1, 1) := by decide +kernel
theorem dX10_canGo_49 : decode cX10_canGo 49 = .ok (.goto 4, 3) := by decide +kernel
theorem dX10_canGo_52 : decode cX10_canGo 52 = .ok (.iconst (-1), 1) := by decide +kernel
theorem dX10_canGo_53 : decode cX10_canGo 53 = .ok (.iadd, 1) := by decide +kernel
theorem dX10_canGo_54 : decode cX10_canGo 54 = .ok (.istore 6, 2) := by decide +kernel
theorem dX10_canGo_56 : decode cX10_canGo 56 = .ok (.iload 7, 2) := by decide +kernel
theorem dX10_canGo_58 : decode cX10_canGo 58 = .ok (.iload 5, 2) := by decide +kernel
theorem dX10_canGo_60 : decode cX10_canGo 60 = .ok (.iconst 2, 1) := by decide +kernel
theorem dX10_canGo_61 : decode cX10_canGo 61 = .ok (.irem, 1) := by decide +kernel
theorem dX10_canGo_62 : decode cX10_canGo 62 = .ok (.ifCond .ne 7, 3) := by decide +kernel
theorem dX10_canGo_65 : decode cX10_canGo 65 = .ok (.iconst 1, 1) := by decide +kernel
theorem dX10_canGo_66 : decode cX10_canGo 66 = .ok (.goto 4, 3) := by decide +kernel
theorem dX10_canGo_69 : decode cX10_canGo 69 = .ok (.iconst (-1), 1) := by decide +kernel
theorem dX10_canGo_70 : decode cX10_canGo 70 = .ok (.iadd, 1) := by decide +kernel
theorem dX10_canGo_71 : decode cX10_canGo 71 = .ok (.istore 7, 2) := by decide +kernel
theorem dX10_canGo_73 : decode cX10_canGo 73 = .ok (.iload 6, 2) := by decide +kernel
theorem dX10_canGo_75 : decode cX10_canGo 75 = .ok (.ifCond .lt 41, 3) := by decide +kernel
theorem dX10_canGo_78 : decode cX10_canGo 78 = .ok (.iload 7, 2) := by decide +kernel
theorem dX10_canGo_80 : decode cX10_canGo 80 = .ok (.ifCond .lt 36, 3) := by decide +kernel
theorem dX10_canGo_83 : decode cX10_canGo 83 = .ok (.iload 6, 2) := by decide +kernel
theorem dX10_canGo_85 : decode cX10_canGo 85 = .ok (.iload_n 1, 1) := by decide +kernel
theorem dX10_canGo_86 : decode cX10_canGo 86 = .ok (.if_icmp .ge 30, 3) := by decide +kernel
theorem dX10_canGo_89 : decode cX10_canGo 89 = .ok (.iload 7, 2) := by decide +kernel
theorem dX10_canGo_91 : decode cX10_canGo 91 = .ok (.iload_n 1, 1) := by decide +kernel
theorem dX10_canGo_92 : decode cX10_canGo 92 = .ok (.if_icmp .ge 24, 3) := by decide +kernel
theorem dX10_canGo_95 : decode cX10_canGo 95 = .ok (.aload_n 0, 1) := by decide +kernel
theorem dX10_canGo_96 : decode cX10_canGo 96 = .ok (.getfield 7, 3) := by decide +kernel
theorem dX10_canGo_99 : decode cX10_canGo 99 = .ok (.iload 6, 2) := by decide +kernel
theorem dX10_canGo_101 : decode cX10_canGo 101 = .ok (.iload_n 1, 1) := by decide +kernel
theorem dX10_canGo_102 : decode cX10_canGo 102 = .ok (.imul, 1) := by decide +kernel
theorem dX10_canGo_103 : decode cX10_canGo 103 = .ok (.iload 7, 2) := by decide +kernel
theorem dX10_canGo_105 : decode cX10_canGo 105 = .ok (.iadd, 1) := by decide +kernel
theorem dX10_canGo_106 : decode cX10_canGo 106 = .ok (.iaload, 1) := by decide +kernel
theorem dX10_canGo_107 : decode cX10_canGo 107 = .ok (.iload 4, 2) := by decide +kernel
theorem dX10_canGo_109 : decode cX10_canGo 109 = .ok (.if_icmp .eq 7, 3) := by decide +kernel
theorem dX10_canGo_112 : decode cX10_canGo 112 = .ok (.iconst 1, 1) := by decide +kernel
theorem dX10_canGo_113 : decode cX10_canGo 113 = .ok (.goto 4, 3) := by decide +kernel
theorem dX10_canGo_116 : decode cX10_canGo 116 = .ok (.iconst 0, 1) := by decide +kernel
theorem dX10_canGo_117 : decode cX10_canGo 117 = .ok (.istore 8, 2) := by decide +kernel
theorem dX10_canGo_119 : decode cX10_canGo 119 = .ok (.iload 8, 2) := by decide +kernel
theorem dX10_canGo_121 : decode cX10_canGo 121 = .ok (.ifCond .eq 16, 3) := by decide +kernel
theorem dX10_canGo_124 : decode cX10_canGo 124 = .ok (.iload 6, 2) := by decide +kernel
theorem dX10_canGo_126 : decode cX10_canGo 126 = .ok (.iload_n 1, 1) := by decide +kernel
theorem dX10_canGo_127 : decode cX10_canGo 127 = .ok (.imul, 1) := by decide +kernel
theorem dX10_canGo_128 : decode cX10_canGo 128 = .ok (.iload 7, 2) := by decide +kernel
theorem dX10_canGo_130 : decode cX10_canGo 130 = .ok (.iadd, 1) := by decide +kernel
theorem dX10_canGo_131 : decode cX10_canGo 131 = .ok (.iload_n 3, 1) := by decide +kernel
theorem dX10_canGo_132 : decode cX10_canGo 132 = .ok (.if_icmp .ne 5, 3) := by decide +kernel
theorem dX10_canGo_135 : decode cX10_canGo 135 = .ok (.iconst 1, 1) := by decide +kernel
theorem dX10_canGo_136 : decode cX10_canGo 136 = .ok (.ireturn, 1) := by decide +kernel
theorem dX10_canGo_137 : decode cX10_canGo 137 = .ok (.iload 8, 2) := by decide +kernel
theorem dX10_canGo_139 : decode cX10_canGo 139 = .ok (.ifCond .eq 22, 3) := by decide +kernel
theorem dX10_canGo_142 : decode cX10_canGo 142 = .ok (.aload_n 0, 1) := by decide +kernel
theorem dX10_canGo_143 : decode cX10_canGo 143 = .ok (.getfield 7, 3) := by decide +kernel
theorem dX10_canGo_146 : decode cX10_canGo 146 = .ok (.iload 6, 2) := by decide +kernel
theorem dX10_canGo_148 : decode cX10_canGo 148 = .ok (.iload_n 1, 1) := by decide +kernel
theorem dX10_canGo_149 : decode cX10_canGo 149 = .ok (.imul, 1) := by decide +kernel
theorem dX10_canGo_150 : decode cX10_canGo 150 = .ok (.iload 7, 2) := by decide +kernel
theorem dX10_canGo_152 : decode cX10_canGo 152 = .ok (.iadd, 1) := by decide +kernel
theorem dX10_canGo_153 : decode cX10_canGo 153 = .ok (.iaload, 1) := by decide +kernel
theorem dX10_canGo_154 : decode cX10_canGo 154 = .ok (.ifCond .ge 7, 3) := by decide +kernel
theorem dX10_canGo_157 : decode cX10_canGo 157 = .ok (.iconst 1, 1) := by decide +kernel
theorem dX10_canGo_158 : decode cX10_canGo 158 = .ok (.goto 4, 3) := by decide +kernel
theorem dX10_canGo_161 : decode cX10_canGo 161 = .ok (.iconst 0, 1) := by decide +kernel
theorem dX10_canGo_162 : decode cX10_canGo 162 = .ok (.istore 8, 2) := by decide +kernel
theorem dX10_canGo_164 : decode cX10_canGo 164 = .ok (.goto (-129), 3) := by decide +kernel
theorem dX10_canGo_167 : decode cX10_canGo 167 = .ok (.iinc 5 1, 3) := by decide +kernel
theorem dX10_canGo_170 : decode cX10_canGo 170 = .ok (.goto (-159), 3) := by decide +kernel
theorem dX10_canGo_173 : decode cX10_canGo 173 = .ok (.iconst 0, 1) := by decide +kernel
theorem dX10_canGo_174 : decode cX10_canGo 174 = .ok (.ireturn, 1) := by decide +kernel
theorem dX11_init_0 : decode cX11_init 0 = .ok (.aload_n 0, 1) := by decide +kernel
theorem dX11_init_1 : decode cX11_init 1 = .ok (.invokespecial 1, 3) := by decide +kernel
theorem dX11_init_4 : decode cX11_init 4 = .ok (.aload_n 0, 1) := by decide +kernel
theorem dX11_init_5 : decode cX11_init 5 = .ok (.iconst 2, 1) := by decide +kernel
theorem dX11_init_6 : decode cX11_init 6 = .ok (.anewarray 7, 3) := by decide +kernel
theorem dX11_init_9 : decode cX11_init 9 = .ok (.dup, 1) := by decide +kernel
theorem dX11_init_10 : decode cX11_init 10 = .ok (.iconst 0, 1) := by decide +kernel
theorem dX11_init_11 : decode cX11_init 11 = .ok (.new 7, 3) := by decide +kernel
theorem dX11_init_14 : decode cX11_init 14 = .ok (.dup, 1) := by decide +kernel
theorem dX11_init_15 : decode cX11_init 15 = .ok (.invokespecial 9, 3) := by decide +kernel
theorem dX11_init_18 : decode cX11_init 18 = .ok (.aastore, 1) := by decide +kernel
theorem dX11_init_19 : decode cX11_init 19 = .ok (.dup, 1) := by decide +kernel
theorem dX11_init_20 : decode cX11_init 20 = .ok (.iconst 1, 1) := by decide +kernel
theorem dX11_init_21 : decode cX11_init 21 = .ok (.new 7, 3) := by decide +kernel
theorem dX11_init_24 : decode cX11_init 24 = .ok (.dup, 1) := by decide +kernel
theorem dX11_init_25 : decode cX11_init 25 = .ok (.invokespecial 9, 3) := by decide +kernel
theorem dX11_init_28 : decode cX11_init 28 = .ok (.aastore, 1) := by decide +kernel
theorem dX11_init_29 : decode cX11_init 29 = .ok (.putfield 10, 3) := by decide +kernel
theorem dX11_init_32 : decode cX11_init 32 = .ok (.aload_n 0, 1) := by decide +kernel
theorem dX11_init_33 : decode cX11_init 33 = .ok (.iconst 4, 1) := by decide +kernel
theorem dX11_init_34 : decode cX11_init 34 = .ok (.newarray .int, 2) := by decide +kernel
theorem dX11_init_36 : decode cX11_init 36 = .ok (.putfield 16, 3) := by decide +kernel
theorem dX11_init_39 : decode cX11_init 39 = .ok (.aload_n 0, 1) := by decide +kernel
theorem dX11_init_40 : decode cX11_init 40 = .ok (.bipush 8, 2) := by decide +kernel
theorem dX11_init_42 : decode cX11_init 42 = .ok (.newarray .int, 2) := by decide +kernel
theorem dX11_init_44 : decode cX11_init 44 = .ok (.putfield 20, 3) := by decide +kernel
theorem dX11_init_47 : decode cX11_init 47 = .ok (.aload_n 0, 1) := by decide +kernel
theorem dX11_init_48 : decode cX11_init 48 = .ok (.bipush 48, 2) := by decide +kernel
theorem dX11_init_50 : decode cX11_init 50 = .ok (.newarray .int, 2) := by decide +kernel
theorem dX11_init_52 : decode cX11_init 52 = .ok (.putfield 23, 3) := by decide +kernel
theorem dX11_init_55 : decode cX11_init 55 = .ok (.aload_n 0, 1) := by decide +kernel
theorem dX11_init_56 : decode cX11_init 56 = .ok (.bipush 81, 2) := by decide +kernel
theorem dX11_init_58 : decode cX11_init 58 = .ok (.newarray .int, 2) := by decide +kernel
theorem dX11_init_60 : decode cX11_init 60 = .ok (.putfield 26, 3) := by decide +kernel
theorem dX11_init_63 : decode cX11_init 63 = .ok (.aload_n 0, 1) := by decide +kernel
theorem dX11_init_64 : decode cX11_init 64 = .ok (.bipush 81, 2) := by decide +kernel
theorem dX11_init_66 : decode cX11_init 66 = .ok (.newarray .int, 2) := by decide +kernel
theorem dX11_init_68 : decode cX11_init 68 = .ok (.putfield 29, 3) := by decide +kernel
theorem dX11_init_71 : decode cX11_init 71 = .ok (.aload_n 0, 1) := by decide +kernel
theorem dX11_init_72 : decode cX11_init 72 = .ok (.bipush 81, 2) := by decide +kernel
theorem dX11_init_74 : decode cX11_init 74 = .ok (.newarray .int, 2) := by decide +kernel
theorem dX11_init_76 : decode cX11_init 76 = .ok (.putfield 32, 3) := by decide +kernel
theorem dX11_init_79 : decode cX11_init 79 = .ok (.aload_n 0, 1) := by decide +kernel
theorem dX11_init_80 : decode cX11_init 80 = .ok (.bipush 81, 2) := by decide +kernel
theorem dX11_init_82 : decode cX11_init 82 = .ok (.newarray .int, 2) := by decide +kernel
theorem dX11_init_84 : decode cX11_init 84 = .ok (.putfield 35, 3) := by decide +kernel
theorem dX11_init_87 : decode cX11_init 87 = .ok (.aload_n 0, 1) := by decide +kernel
theorem dX11_init_88 : decode cX11_init 88 = .ok (.bipush 81, 2) := by decide +kernel
theorem dX11_init_90 : decode cX11_init 90 = .ok (.newarray .int, 2) := by decide +kernel
theorem dX11_init_92 : decode cX11_init 92 = .ok (.putfield 38, 3) := by decide +kernel
theorem dX11_init_95 : decode cX11_init 95 = .ok (.aload_n 0, 1) := by decide +kernel
theorem dX11_init_96 : decode cX11_init 96 = .ok (.bipush 81, 2) := by decide +kernel
theorem dX11_init_98 : decode cX11_init 98 = .ok (.newarray .int, 2) := by decide +kernel
theorem dX11_init_100 : decode cX11_init 100 = .ok (.putfield 41, 3) := by decide +kernel
theorem dX11_init_103 : decode cX11_init 103 = .ok (.aload_n 0, 1) := by decide +kernel
theorem dX11_init_104 : decode cX11_init 104 = .ok (.bipush 81, 2) := by decide +kernel
theorem dX11_init_106 : decode cX11_init 106 = .ok (.newarray .int, 2) := by decide +kernel
theorem dX11_init_108 : decode cX11_init 108 = .ok (.putfield 44, 3) := by decide +kernel
theorem dX11_init_111 : decode cX11_init 111 = .ok (.aload_n 0, 1) := by decide +kernel
theorem dX11_init_112 : decode cX11_init 112 = .ok (.bipush 81, 2) := by decide +kernel
theorem dX11_init_114 : decode cX11_init 114 = .ok (.newarray .int, 2) := by decide +kernel
theorem dX11_init_116 : decode cX11_init 116 = .ok (.putfield 47, 3) := by decide +kernel
theorem dX11_init_119 : decode cX11_init 119 = .ok (.aload_n 0, 1) := by decide +kernel
theorem dX11_init_120 : decode cX11_init 120 = .ok (.bipush 81, 2) := by decide +kernel
theorem dX11_init_122 : decode cX11_init 122 = .ok (.newarray .int, 2) := by decide +kernel
theorem dX11_init_124 : decode cX11_init 124 = .ok (.putfield 50, 3) := by decide +kernel
theorem dX11_init_127 : decode cX11_init 127 = .ok (.aload_n 0, 1) := by decide +kernel
theorem dX11_init_128 : decode cX11_init 128 = .ok (.bipush 81, 2) := by decide +kernel
theorem dX11_init_130 : decode cX11_init 130 = .ok (.newarray .int, 2) := by decide +kernel
theorem dX11_init_132 : decode cX11_init 132 = .ok (.putfield 53, 3) := by decide +kernel
theorem dX11_init_135 : decode cX11_init 135 = .ok (.aload_n 0, 1) := by decide +kernel
theorem dX11_init_136 : decode cX11_init 136 = .ok (.bipush 81, 2) := by decide +kernel
theorem dX11_init_138 : decode cX11_init 138 = .ok (.newarray .boolean, 2) := by decide +kernel
theorem dX11_init_140 : decode cX11_init 140 = .ok (.putfield 56, 3) := by decide +kernel
theorem dX11_init_143 : decode cX11_init 143 = .ok (.aload_n 0, 1) := by decide +kernel
theorem dX11_init_144 : decode cX11_init 144 = .ok (.bipush 64, 2) := by decide +kernel
theorem dX11_init_146 : decode cX11_init 146 = .ok (.newarray .boolean, 2) := by decide +kernel
theorem dX11_init_148 : decode cX11_init 148 = .ok (.putfield 60, 3) := by decide +kernel
theorem dX11_init_151 : decode cX11_init 151 = .ok (.aload_n 0, 1) := by decide +kernel
theorem dX11_init_152 : decode cX11_init 152 = .ok (.bipush 64, 2) := by decide +kernel
theorem dX11_init_154 : decode cX11_init 154 = .ok (.newarray .boolean, 2) := by decide +kernel
theorem dX11_init_156 : decode cX11_init 156 = .ok (.putfield 63, 3) := by decide +kernel
theorem dX11_init_159 : decode cX11_init 159 = .ok (.aload_n 0, 1) := by decide +kernel
theorem dX11_init_160 : decode cX11_init 160 = .ok (.bipush 64, 2) := by decide +kernel
theorem dX11_init_162 : decode cX11_init 162 = .ok (.newarray .int, 2) := by decide +kernel
theorem dX11_init_164 : decode cX11_init 164 = .ok (.putfield 66, 3) := by decide +kernel
theorem dX11_init_167 : decode cX11_init 167 = .ok (.aload_n 0, 1) := by decide +kernel
theorem dX11_init_168 : decode cX11_init 168 = .ok (.bipush 64, 2) := by decide +kernel
theorem dX11_init_170 : decode cX11_init 170 = .ok (.newarray .int, 2) := by decide +kernel
theorem dX11_init_172 : decode cX11_init 172 = .ok (.putfield 69, 3) := by decide +kernel
theorem dX11_init_175 : decode cX11_init 175 = .ok (.aload_n 0, 1) := by decide +kernel
theorem dX11_init_176 : decode cX11_init 176 = .ok (.bipush 64, 2) := by decide +kernel
theorem dX11_init_178 : decode cX11_init 178 = .ok (.newarray .int, 2) := by decide +kernel
theorem dX11_init_180 : decode cX11_init 180 = .ok (.putfield 72, 3) := by decide +kernel
theorem dX11_init_183 : decode cX11_init 183 = .ok (.aload_n 0, 1) := by decide +kernel
theorem dX11_init_184 : decode cX11_init 184 = .ok (.bipush 64, 2) := by decide +kernel
theorem dX11_init_186 : decode cX11_init 186 = .ok (.newarray .int, 2) := by decide +kernel
theorem dX11_init_188 : decode cX11_init 188 = .ok (.putfield 75, 3) := by decide +kernel
theorem dX11_init_191 : decode cX11_init 191 = .ok (.aload_n 0, 1) := by decide +kernel
theorem dX11_init_192 : decode cX11_init 192 = .ok (.iconst (-1), 1) := by decide +kernel
theorem dX11_init_193 : decode cX11_init 193 = .ok (.putfield 78, 3) := by decide +kernel
theorem dX11_init_196 : decode cX11_init 196 = .ok (.return_, 1) := by decide +kernel
theorem dX11_leaves_0 : decode cX11_leaves 0 = .ok (.aload_n 0, 1) := by decide +kernel
theorem dX11_leaves_1 : decode cX11_leaves 1 = .ok (.iconst 1, 1) := by decide +kernel
theorem dX11_leaves_2 : decode cX11_leaves 2 = .ok (.putfield 82, 3) := by decide +kernel
theorem dX11_leaves_5 : decode cX11_leaves 5 = .ok (.iconst 1, 1) := by decide +kernel
theorem dX11_leaves_6 : decode cX11_leaves 6 = .ok (.ireturn, 1) := by decide +kernel
theorem dX11_copy_0 : decode cX11_copy 0 = .ok (.new 11, 3) := by decide +kernel
theorem dX11_copy_3 : decode cX11_copy 3 = .ok (.dup, 1) := by decide +kernel
theorem dX11_copy_4 : decode cX11_copy 4 = .ok (.invokespecial 86, 3) := by decide +kernel
theorem dX11_copy_7 : decode cX11_copy 7 = .ok (.astore_n 1, 1) := by decide +kernel
theorem dX11_copy_8 : decode cX11_copy 8 = .ok (.aload_n 1, 1) := by decide +kernel
theorem dX11_copy_9 : decode cX11_copy 9 = .ok (.aload_n 0, 1) := by decide +kernel
theorem dX11_copy_10 : decode cX11_copy 10 = .ok (.getfield 87, 3) := by decide +kernel
theorem dX11_copy_13 : decode cX11_copy 13 = .ok (.putfield 87, 3) := by decide +kernel
theorem dX11_copy_16 : decode cX11_copy 16 = .ok (.aload_n 1, 1) := by decide +kernel
theorem dX11_copy_17 : decode cX11_copy 17 = .ok (.aload_n 0, 1) := by decide +kernel
theorem dX11_copy_18 : decode cX11_copy 18 = .ok (.getfield 90, 3) := by decide +kernel
theorem dX11_copy_21 : decode cX11_copy 21 = .ok (.putfield 90, 3) := by decide +kernel
theorem dX11_copy_24 : decode cX11_copy 24 = .ok (.aload_n 1, 1) := by decide +kernel
theorem dX11_copy_25 : decode cX11_copy 25 = .ok (.aload_n 0, 1) := by decide +kernel
theorem dX11_copy_26 : decode cX11_copy 26 = .ok (.getfield 93, 3) := by decide +kernel
theorem dX11_copy_29 : decode cX11_copy 29 = .ok (.putfield 93, 3) := by decide +kernel
theorem dX11_copy_32 : decode cX11_copy 32 = .ok (.aload_n 1, 1) := by decide +kernel
theorem dX11_copy_33 : decode cX11_copy 33 = .ok (.aload_n 0, 1) := by decide +kernel
theorem dX11_copy_34 : decode cX11_copy 34 = .ok (.getfield 96, 3) := by decide +kernel
theorem dX11_copy_37 : decode cX11_copy 37 = .ok (.putfield 96, 3) := by decide +kernel
theorem dX11_copy_40 : decode cX11_copy 40 = .ok (.aload_n 1, 1) := by decide +kernel
theorem dX11_copy_41 : decode cX11_copy 41 = .ok (.aload_n 0, 1) := by decide +kernel
theorem dX11_copy_42 : decode cX11_copy 42 = .ok (.getfield 99, 3) := by decide +kernel
theorem dX11_copy_45 : decode cX11_copy 45 = .ok (.putfield 99, 3) := by decide +kernel
theorem dX11_copy_48 : decode cX11_copy 48 = .ok (.aload_n 1, 1) := by decide +kernel
theorem dX11_copy_49 : decode cX11_copy 49 = .ok (.aload_n 0, 1) := by decide +kernel
theorem dX11_copy_50 : decode cX11_copy 50 = .ok (.getfield 102, 3) := by decide +kernel
theorem dX11_copy_53 : decode cX11_copy 53 = .ok (.putfield 102, 3) := by decide +kernel
theorem dX11_copy_56 : decode cX11_copy 56 = .ok (.aload_n 1, 1) := by decide +kernel
theorem dX11_copy_57 : decode cX11_copy 57 = .ok (.aload_n 0, 1) := by decide +kernel
theorem dX11_copy_58 : decode cX11_copy 58 = .ok (.getfield 105, 3) := by decide +kernel
theorem dX11_copy_61 : decode cX11_copy 61 = .ok (.putfield 105, 3) := by decide +kernel
theorem dX11_copy_64 : decode cX11_copy 64 = .ok (.aload_n 1, 1) := by decide +kernel
theorem dX11_copy_65 : decode cX11_copy 65 = .ok (.aload_n 0, 1) := by decide +kernel
theorem dX11_copy_66 : decode cX11_copy 66 = .ok (.getfield 108, 3) := by decide +kernel
theorem dX11_copy_69 : decode cX11_copy 69 = .ok (.putfield 108, 3) := by decide +kernel
theorem dX11_copy_72 : decode cX11_copy 72 = .ok (.aload_n 1, 1) := by decide +kernel
theorem dX11_copy_73 : decode cX11_copy 73 = .ok (.aload_n 0, 1) := by decide +kernel
theorem dX11_copy_74 : decode cX11_copy 74 = .ok (.getfield 111, 3) := by decide +kernel
theorem dX11_copy_77 : decode cX11_copy 77 = .ok (.putfield 111, 3) := by decide +kernel
theorem dX11_copy_80 : decode cX11_copy 80 = .ok (.aload_n 1, 1) := by decide +kernel
theorem dX11_copy_81 : decode cX11_copy 81 = .ok (.aload_n 0, 1) := by decide +kernel
theorem dX11_copy_82 : decode cX11_copy 82 = .ok (.getfield 114, 3) := by decide +kernel
theorem dX11_copy_85 : decode cX11_copy 85 = .ok (.putfield 114, 3) := by decide +kernel
theorem dX11_copy_88 : decode cX11_copy 88 = .ok (.aload_n 1, 1) := by decide +kernel
theorem dX11_copy_89 : decode cX11_copy 89 = .ok (.aload_n 0, 1) := by decide +kernel
theorem dX11_copy_90 : decode cX11_copy 90 = .ok (.getfield 117, 3) := by decide +kernel
theorem dX11_copy_93 : decode cX11_copy 93 = .ok (.putfield 117, 3) := by decide +kernel
theorem dX11_copy_96 : decode cX11_copy 96 = .ok (.aload_n 1, 1) := by decide +kernel
theorem dX11_copy_97 : decode cX11_copy 97 = .ok (.getfield 10, 3) := by decide +kernel
theorem dX11_copy_100 : decode cX11_copy 100 = .ok (.iconst 0, 1) := by decide +kernel
theorem dX11_copy_101 : decode cX11_copy 101 = .ok (.aaload, 1) := by decide +kernel
theorem dX11_copy_102 : decode cX11_copy 102 = .ok (.aload_n 0, 1) := by decide +kernel
theorem dX11_copy_103 : decode cX11_copy 103 = .ok (.getfield 10, 3) := by decide +kernel
theorem dX11_copy_106 : decode cX11_copy 106 = .ok (.iconst 0, 1) := by decide +kernel
theorem dX11_copy_107 : decode cX11_copy 107 = .ok (.aaload, 1) := by decide +kernel
theorem dX11_copy_108 : decode cX11_copy 108 = .ok (.invokevirtual 120, 3) := by decide +kernel
theorem dX11_copy_111 : decode cX11_copy 111 = .ok (.aload_n 1, 1) := by decide +kernel
theorem dX11_copy_112 : decode cX11_copy 112 = .ok (.getfield 10, 3) := by decide +kernel
theorem dX11_copy_115 : decode cX11_copy 115 = .ok (.iconst 1, 1) := by decide +kernel
theorem dX11_copy_116 : decode cX11_copy 116 = .ok (.aaload, 1) := by decide +kernel
theorem dX11_copy_117 : decode cX11_copy 117 = .ok (.aload_n 0, 1) := by decide +kernel
theorem dX11_copy_118 : decode cX11_copy 118 = .ok (.getfield 10, 3) := by decide +kernel
theorem dX11_copy_121 : decode cX11_copy 121 = .ok (.iconst 1, 1) := by decide +kernel
theorem dX11_copy_122 : decode cX11_copy 122 = .ok (.aaload, 1) := by decide +kernel
theorem dX11_copy_123 : decode cX11_copy 123 = .ok (.invokevirtual 120, 3) := by decide +kernel
theorem dX11_copy_126 : decode cX11_copy 126 = .ok (.iconst 0, 1) := by decide +kernel
theorem dX11_copy_127 : decode cX11_copy 127 = .ok (.istore_n 2, 1) := by decide +kernel
theorem dX11_copy_128 : decode cX11_copy 128 = .ok (.iload_n 2, 1) := by decide +kernel
theorem dX11_copy_129 : decode cX11_copy 129 = .ok (.iconst 4, 1) := by decide +kernel
theorem dX11_copy_130 : decode cX11_copy 130 = .ok (.if_icmp .ge 21, 3) := by decide +kernel
theorem dX11_copy_133 : decode cX11_copy 133 = .ok (.aload_n 1, 1) := by decide +kernel
theorem dX11_copy_134 : decode cX11_copy 134 = .ok (.getfield 16, 3) := by decide +kernel
theorem dX11_copy_137 : decode cX11_copy 137 = .ok (.iload_n 2, 1) := by decide +kernel
theorem dX11_copy_138 : decode cX11_copy 138 = .ok (.aload_n 0, 1) := by decide +kernel
theorem dX11_copy_139 : decode cX11_copy 139 = .ok (.getfield 16, 3) := by decide +kernel
theorem dX11_copy_142 : decode cX11_copy 142 = .ok (.iload_n 2, 1) := by decide +kernel
theorem dX11_copy_143 : decode cX11_copy 143 = .ok (.iaload, 1) := by decide +kernel
theorem dX11_copy_144 : decode cX11_copy 144 = .ok (.iastore, 1) := by decide +kernel
theorem dX11_copy_145 : decode cX11_copy 145 = .ok (.iinc 2 1, 3) := by decide +kernel
theorem dX11_copy_148 : decode cX11_copy 148 = .ok (.goto (-20), 3) := by decide +kernel
theorem dX11_copy_151 : decode cX11_copy 151 = .ok (.iconst 0, 1) := by decide +kernel
theorem dX11_copy_152 : decode cX11_copy 152 = .ok (.istore_n 2, 1) := by decide +kernel
theorem dX11_copy_153 : decode cX11_copy 153 = .ok (.iload_n 2, 1) := by decide +kernel
theorem dX11_copy_154 : decode cX11_copy 154 = .ok (.bipush 8, 2) := by decide +kernel
theorem dX11_copy_156 : decode cX11_copy 156 = .ok (.if_icmp .ge 21, 3) := by decide +kernel
theorem dX11_copy_159 : decode cX11_copy 159 = .ok (.aload_n 1, 1) := by decide +kernel
theorem dX11_copy_160 : decode cX11_copy 160 = .ok (.getfield 20, 3) := by decide +kernel
theorem dX11_copy_163 : decode cX11_copy 163 = .ok (.iload_n 2, 1) := by decide +kernel
theorem dX11_copy_164 : decode cX11_copy 164 = .ok (.aload_n 0, 1) := by decide +kernel
theorem dX11_copy_165 : decode cX11_copy 165 = .ok (.getfield 20, 3) := by decide +kernel
theorem dX11_copy_168 : decode cX11_copy 168 = .ok (.iload_n 2, 1) := by decide +kernel
theorem dX11_copy_169 : decode cX11_copy 169 = .ok (.iaload, 1) := by decide +kernel
theorem dX11_copy_170 : decode cX11_copy 170 = .ok (.iastore, 1) := by decide +kernel
theorem dX11_copy_171 : decode cX11_copy 171 = .ok (.iinc 2 1, 3) := by decide +kernel
theorem dX11_copy_174 : decode cX11_copy 174 = .ok (.goto (-21), 3) := by decide +kernel
theorem dX11_copy_177 : decode cX11_copy 177 = .ok (.iconst 0, 1) := by decide +kernel
theorem dX11_copy_178 : decode cX11_copy 178 = .ok (.istore_n 2, 1) := by decide +kernel
theorem dX11_copy_179 : decode cX11_copy 179 = .ok (.iload_n 2, 1) := by decide +kernel
theorem dX11_copy_180 : decode cX11_copy 180 = .ok (.bipush 48, 2) := by decide +kernel
theorem dX11_copy_182 : decode cX11_copy 182 = .ok (.if_icmp .ge 21, 3) := by decide +kernel
theorem dX11_copy_185 : decode cX11_copy 185 = .ok (.aload_n 1, 1) := by decide +kernel
theorem dX11_copy_186 : decode cX11_copy 186 = .ok (.getfield 23, 3) := by decide +kernel
theorem dX11_copy_189 : decode cX11_copy 189 = .ok (.iload_n 2, 1) := by decide +kernel
theorem dX11_copy_190 : decode cX11_copy 190 = .ok (.aload_n 0, 1) := by decide +kernel
theorem dX11_copy_191 : decode cX11_copy 191 = .ok (.getfield 23, 3) := by decide +kernel
theorem dX11_copy_194 : decode cX11_copy 194 = .ok (.iload_n 2, 1) := by decide +kernel
theorem dX11_copy_195 : decode cX11_copy 195 = .ok (.iaload, 1) := by decide +kernel
theorem dX11_copy_196 : decode cX11_copy 196 = .ok (.iastore, 1) := by decide +kernel
theorem dX11_copy_197 : decode cX11_copy 197 = .ok (.iinc 2 1, 3) := by decide +kernel
theorem dX11_copy_200 : decode cX11_copy 200 = .ok (.goto (-21), 3) := by decide +kernel
theorem dX11_copy_203 : decode cX11_copy 203 = .ok (.iconst 0, 1) := by decide +kernel
theorem dX11_copy_204 : decode cX11_copy 204 = .ok (.istore_n 2, 1) := by decide +kernel
theorem dX11_copy_205 : decode cX11_copy 205 = .ok (.iload_n 2, 1) := by decide +kernel
theorem dX11_copy_206 : decode cX11_copy 206 = .ok (.aload_n 0, 1) := by decide +kernel
theorem dX11_copy_207 : decode cX11_copy 207 = .ok (.getfield 99, 3) := by decide +kernel
theorem dX11_copy_210 : decode cX11_copy 210 = .ok (.if_icmp .ge 141, 3) := by decide +kernel
theorem dX11_copy_213 : decode cX11_copy 213 = .ok (.aload_n 1, 1) := by decide +kernel
theorem dX11_copy_214 : decode cX11_copy 214 = .ok (.getfield 26, 3) := by decide +kernel
theorem dX11_copy_217 : decode cX11_copy 217 = .ok (.iload_n 2, 1) := by decide +kernel
theorem dX11_copy_218 : decode cX11_copy 218 = .ok (.aload_n 0, 1) := by decide +kernel
theorem dX11_copy_219 : decode cX11_copy 219 = .ok (.getfield 26, 3) := by decide +kernel
theorem dX11_copy_222 : decode cX11_copy 222 = .ok (.iload_n 2, 1) := by decide +kernel
theorem dX11_copy_223 : decode cX11_copy 223 = .ok (.iaload, 1) := by decide +kernel
theorem dX11_copy_224 : decode cX11_copy 224 = .ok (.iastore, 1) := by decide +kernel
theorem dX11_copy_225 : decode cX11_copy 225 = .ok (.aload_n 1, 1) := by decide +kernel
theorem dX11_copy_226 : decode cX11_copy 226 = .ok (.getfield 29, 3) := by decide +kernel
theorem dX11_copy_229 : decode cX11_copy 229 = .ok (.iload_n 2, 1) := by decide +kernel
theorem dX11_copy_230 : decode cX11_copy 230 = .ok (.aload_n 0, 1) := by decide +kernel
theorem dX11_copy_231 : decode cX11_copy 231 = .ok (.getfield 29, 3) := by decide +kernel
theorem dX11_copy_234 : decode cX11_copy 234 = .ok (.iload_n 2, 1) := by decide +kernel
theorem dX11_copy_235 : decode cX11_copy 235 = .ok (.iaload, 1) := by decide +kernel
theorem dX11_copy_236 : decode cX11_copy 236 = .ok (.iastore, 1) := by decide +kernel
theorem dX11_copy_237 : decode cX11_copy 237 = .ok (.aload_n 1, 1) := by decide +kernel
theorem dX11_copy_238 : decode cX11_copy 238 = .ok (.getfield 32, 3) := by decide +kernel
theorem dX11_copy_241 : decode cX11_copy 241 = .ok (.iload_n 2, 1) := by decide +kernel
theorem dX11_copy_242 : decode cX11_copy 242 = .ok (.aload_n 0, 1) := by decide +kernel
theorem dX11_copy_243 : decode cX11_copy 243 = .ok (.getfield 32, 3) := by decide +kernel
theorem dX11_copy_246 : decode cX11_copy 246 = .ok (.iload_n 2, 1) := by decide +kernel
theorem dX11_copy_247 : decode cX11_copy 247 = .ok (.iaload, 1) := by decide +kernel
theorem dX11_copy_248 : decode cX11_copy 248 = .ok (.iastore, 1) := by decide +kernel
theorem dX11_copy_249 : decode cX11_copy 249 = .ok (.aload_n 1, 1) := by decide +kernel
theorem dX11_copy_250 : decode cX11_copy 250 = .ok (.getfield 35, 3) := by decide +kernel
theorem dX11_copy_253 : decode cX11_copy 253 = .ok (.iload_n 2, 1) := by decide +kernel
theorem dX11_copy_254 : decode cX11_copy 254 = .ok (.aload_n 0, 1) := by decide +kernel
theorem dX11_copy_255 : decode cX11_copy 255 = .ok (.getfield 35, 3) := by decide +kernel
theorem dX11_copy_258 : decode cX11_copy 258 = .ok (.iload_n 2, 1) := by decide +kernel
theorem dX11_copy_259 : decode cX11_copy 259 = .ok (.iaload, 1) := by decide +kernel
theorem dX11_copy_260 : decode cX11_copy 260 = .ok (.iastore, 1) := by decide +kernel
theorem dX11_copy_261 : decode cX11_copy 261 = .ok (.aload_n 1, 1) := by decide +kernel
theorem dX11_copy_262 : decode cX11_copy 262 = .ok (.getfield 38, 3) := by decide +kernel
theorem dX11_copy_265 : decode cX11_copy 265 = .ok (.iload_n 2, 1) := by decide +kernel
theorem dX11_copy_266 : decode cX11_copy 266 = .ok (.aload_n 0, 1) := by decide +kernel
theorem dX11_copy_267 : decode cX11_copy 267 = .ok (.getfield 38, 3) := by decide +kernel
theorem dX11_copy_270 : decode cX11_copy 270 = .ok (.iload_n 2, 1) := by decide +kernel
theorem dX11_copy_271 : decode cX11_copy 271 = .ok (.iaload, 1) := by decide +kernel
theorem dX11_copy_272 : decode cX11_copy 272 = .ok (.iastore, 1) := by decide +kernel
theorem dX11_copy_273 : decode cX11_copy 273 = .ok (.aload_n 1, 1) := by decide +kernel
theorem dX11_copy_274 : decode cX11_copy 274 = .ok (.getfield 41, 3) := by decide +kernel
theorem dX11_copy_277 : decode cX11_copy 277 = .ok (.iload_n 2, 1) := by decide +kernel
theorem dX11_copy_278 : decode cX11_copy 278 = .ok (.aload_n 0, 1) := by decide +kernel
theorem dX11_copy_279 : decode cX11_copy 279 = .ok (.getfield 41, 3) := by decide +kernel
theorem dX11_copy_282 : decode cX11_copy 282 = .ok (.iload_n 2, 1) := by decide +kernel
theorem dX11_copy_283 : decode cX11_copy 283 = .ok (.iaload, 1) := by decide +kernel
theorem dX11_copy_284 : decode cX11_copy 284 = .ok (.iastore, 1) := by decide +kernel
theorem dX11_copy_285 : decode cX11_copy 285 = .ok (.aload_n 1, 1) := by decide +kernel
theorem dX11_copy_286 : decode cX11_copy 286 = .ok (.getfield 44, 3) := by decide +kernel
theorem dX11_copy_289 : decode cX11_copy 289 = .ok (.iload_n 2, 1) := by decide +kernel
theorem dX11_copy_290 : decode cX11_copy 290 = .ok (.aload_n 0, 1) := by decide +kernel
theorem dX11_copy_291 : decode cX11_copy 291 = .ok (.getfield 44, 3) := by decide +kernel
theorem dX11_copy_294 : decode cX11_copy 294 = .ok (.iload_n 2, 1) := by decide +kernel
theorem dX11_copy_295 : decode cX11_copy 295 = .ok (.iaload, 1) := by decide +kernel
theorem dX11_copy_296 : decode cX11_copy 296 = .ok (.iastore, 1) := by decide +kernel
theorem dX11_copy_297 : decode cX11_copy 297 = .ok (.aload_n 1, 1) := by decide +kernel
theorem dX11_copy_298 : decode cX11_copy 298 = .ok (.getfield 47, 3) := by decide +kernel
theorem dX11_copy_301 : decode cX11_copy 301 = .ok (.iload_n 2, 1) := by decide +kernel
theorem dX11_copy_302 : decode cX11_copy 302 = .ok (.aload_n 0, 1) := by decide +kernel
theorem dX11_copy_303 : decode cX11_copy 303 = .ok (.getfield 47, 3) := by decide +kernel
theorem dX11_copy_306 : decode cX11_copy 306 = .ok (.iload_n 2, 1) := by decide +kernel
theorem dX11_copy_307 : decode cX11_copy 307 = .ok (.iaload, 1) := by decide +kernel
theorem dX11_copy_308 : decode cX11_copy 308 = .ok (.iastore, 1) := by decide +kernel
theorem dX11_copy_309 : decode cX11_copy 309 = .ok (.aload_n 1, 1) := by decide +kernel
theorem dX11_copy_310 : decode cX11_copy 310 = .ok (.getfield 50, 3) := by decide +kernel
theorem dX11_copy_313 : decode cX11_copy 313 = .ok (.iload_n 2, 1) := by decide +kernel
theorem dX11_copy_314 : decode cX11_copy 314 = .ok (.aload_n 0, 1) := by decide +kernel
theorem dX11_copy_315 : decode cX11_copy 315 = .ok (.getfield 50, 3) := by decide +kernel
theorem dX11_copy_318 : decode cX11_copy 318 = .ok (.iload_n 2, 1) := by decide +kernel
theorem dX11_copy_319 : decode cX11_copy 319 = .ok (.iaload, 1) := by decide +kernel
theorem dX11_copy_320 : decode cX11_copy 320 = .ok (.iastore, 1) := by decide +kernel
theorem dX11_copy_321 : decode cX11_copy 321 = .ok (.aload_n 1, 1) := by decide +kernel
theorem dX11_copy_322 : decode cX11_copy 322 = .ok (.getfield 53, 3) := by decide +kernel
theorem dX11_copy_325 : decode cX11_copy 325 = .ok (.iload_n 2, 1) := by decide +kernel
theorem dX11_copy_326 : decode cX11_copy 326 = .ok (.aload_n 0, 1) := by decide +kernel
theorem dX11_copy_327 : decode cX11_copy 327 = .ok (.getfield 53, 3) := by decide +kernel
theorem dX11_copy_330 : decode cX11_copy 330 = .ok (.iload_n 2, 1) := by decide +kernel
theorem dX11_copy_331 : decode cX11_copy 331 = .ok (.iaload, 1) := by decide +kernel
theorem dX11_copy_332 : decode cX11_copy 332 = .ok (.iastore, 1) := by decide +kernel
theorem dX11_copy_333 : decode cX11_copy 333 = .ok (.aload_n 1, 1) := by decide +kernel
theorem dX11_copy_334 : decode cX11_copy 334 = .ok (.getfield 56, 3) := by decide +kernel
theorem dX11_copy_337 : decode cX11_copy 337 = .ok (.iload_n 2, 1) := by decide +kernel
theorem dX11_copy_338 : decode cX11_copy 338 = .ok (.aload_n 0, 1) := by decide +kernel
theorem dX11_copy_339 : decode cX11_copy 339 = .ok (.getfield 56, 3) := by decide +kernel
theorem dX11_copy_342 : decode cX11_copy 342 = .ok (.iload_n 2, 1) := by decide +kernel
theorem dX11_copy_343 : decode cX11_copy 343 = .ok (.baload, 1) := by decide +kernel
theorem dX11_copy_344 : decode cX11_copy 344 = .ok (.bastore, 1) := by decide +kernel
theorem dX11_copy_345 : decode cX11_copy 345 = .ok (.iinc 2 1, 3) := by decide +kernel
theorem dX11_copy_348 : decode cX11_copy 348 = .ok (.goto (-143), 3) := by decide +kernel
theorem dX11_copy_351 : decode cX11_copy 351 = .ok (.iconst 0, 1) := by decide +kernel
theorem dX11_copy_352 : decode cX11_copy 352 = .ok (.istore_n 2, 1) := by decide +kernel
theorem dX11_copy_353 : decode cX11_copy 353 = .ok (.iload_n 2, 1) := by decide +kernel
theorem dX11_copy_354 : decode cX11_copy 354 = .ok (.bipush 64, 2) := by decide +kernel
theorem dX11_copy_356 : decode cX11_copy 356 = .ok (.if_icmp .ge 81, 3) := by decide +kernel
theorem dX11_copy_359 : decode cX11_copy 359 = .ok (.aload_n 1, 1) := by decide +kernel
theorem dX11_copy_360 : decode cX11_copy 360 = .ok (.getfield 60, 3) := by decide +kernel
theorem dX11_copy_363 : decode cX11_copy 363 = .ok (.iload_n 2, 1) := by decide +kernel
theorem dX11_copy_364 : decode cX11_copy 364 = .ok (.aload_n 0, 1) := by decide +kernel
theorem dX11_copy_365 : decode cX11_copy 365 = .ok (.getfield 60, 3) := by decide +kernel
theorem dX11_copy_368 : decode cX11_copy 368 = .ok (.iload_n 2, 1) := by decide +kernel
theorem dX11_copy_369 : decode cX11_copy 369 = .ok (.baload, 1) := by decide +kernel
theorem dX11_copy_370 : decode cX11_copy 370 = .ok (.bastore, 1) := by decide +kernel
theorem dX11_copy_371 : decode cX11_copy 371 = .ok (.aload_n 1, 1) := by decide +kernel
theorem dX11_copy_372 : decode cX11_copy 372 = .ok (.getfield 63, 3) := by decide +kernel
theorem dX11_copy_375 : decode cX11_copy 375 = .ok (.iload_n 2, 1) := by decide +kernel
theorem dX11_copy_376 : decode cX11_copy 376 = .ok (.aload_n 0, 1) := by decide +kernel
theorem dX11_copy_377 : decode cX11_copy 377 = .ok (.getfield 63, 3) := by decide +kernel
theorem dX11_copy_380 : decode cX11_copy 380 = .ok (.iload_n 2, 1) := by decide +kernel
theorem dX11_copy_381 : decode cX11_copy 381 = .ok (.baload, 1) := by decide +kernel
theorem dX11_copy_382 : decode cX11_copy 382 = .ok (.bastore, 1) := by decide +kernel
theorem dX11_copy_383 : decode cX11_copy 383 = .ok (.aload_n 1, 1) := by decide +kernel
theorem dX11_copy_384 : decode cX11_copy 384 = .ok (.getfield 66, 3) := by decide +kernel
theorem dX11_copy_387 : decode cX11_copy 387 = .ok (.iload_n 2, 1) := by decide +kernel
theorem dX11_copy_388 : decode cX11_copy 388 = .ok (.aload_n 0, 1) := by decide +kernel
theorem dX11_copy_389 : decode cX11_copy 389 = .ok (.getfield 66, 3) := by decide +kernel
theorem dX11_copy_392 : decode cX11_copy 392 = .ok (.iload_n 2, 1) := by decide +kernel
theorem dX11_copy_393 : decode cX11_copy 393 = .ok (.iaload, 1) := by decide +kernel
theorem dX11_copy_394 : decode cX11_copy 394 = .ok (.iastore, 1) := by decide +kernel
theorem dX11_copy_395 : decode cX11_copy 395 = .ok (.aload_n 1, 1) := by decide +kernel
theorem dX11_copy_396 : decode cX11_copy 396 = .ok (.getfield 69, 3) := by decide +kernel
theorem dX11_copy_399 : decode cX11_copy 399 = .ok (.iload_n 2, 1) := by decide +kernel
theorem dX11_copy_400 : decode cX11_copy 400 = .ok (.aload_n 0, 1) := by decide +kernel
theorem dX11_copy_401 : decode cX11_copy 401 = .ok (.getfield 69, 3) := by decide +kernel
theorem dX11_copy_404 : decode cX11_copy 404 = .ok (.iload_n 2, 1) := by decide +kernel
theorem dX11_copy_405 : decode cX11_copy 405 = .ok (.iaload, 1) := by decide +kernel
theorem dX11_copy_406 : decode cX11_copy 406 = .ok (.iastore, 1) := by decide +kernel
theorem dX11_copy_407 : decode cX11_copy 407 = .ok (.aload_n 1, 1) := by decide +kernel
theorem dX11_copy_408 : decode cX11_copy 408 = .ok (.getfield 72, 3) := by decide +kernel
theorem dX11_copy_411 : decode cX11_copy 411 = .ok (.iload_n 2, 1) := by decide +kernel
theorem dX11_copy_412 : decode cX11_copy 412 = .ok (.aload_n 0, 1) := by decide +kernel
theorem dX11_copy_413 : decode cX11_copy 413 = .ok (.getfield 72, 3) := by decide +kernel
theorem dX11_copy_416 : decode cX11_copy 416 = .ok (.iload_n 2, 1) := by decide +kernel
theorem dX11_copy_417 : decode cX11_copy 417 = .ok (.iaload, 1) := by decide +kernel
theorem dX11_copy_418 : decode cX11_copy 418 = .ok (.iastore, 1) := by decide +kernel
theorem dX11_copy_419 : decode cX11_copy 419 = .ok (.aload_n 1, 1) := by decide +kernel
theorem dX11_copy_420 : decode cX11_copy 420 = .ok (.getfield 75, 3) := by decide +kernel
theorem dX11_copy_423 : decode cX11_copy 423 = .ok (.iload_n 2, 1) := by decide +kernel
theorem dX11_copy_424 : decode cX11_copy 424 = .ok (.aload_n 0, 1) := by decide +kernel
theorem dX11_copy_425 : decode cX11_copy 425 = .ok (.getfield 75, 3) := by decide +kernel
theorem dX11_copy_428 : decode cX11_copy 428 = .ok (.iload_n 2, 1) := by decide +kernel
theorem dX11_copy_429 : decode cX11_copy 429 = .ok (.iaload, 1) := by decide +kernel
theorem dX11_copy_430 : decode cX11_copy 430 = .ok (.iastore, 1) := by decide +kernel
theorem dX11_copy_431 : decode cX11_copy 431 = .ok (.iinc 2 1, 3) := by decide +kernel
theorem dX11_copy_434 : decode cX11_copy 434 = .ok (.goto (-81), 3) := by decide +kernel
theorem dX11_copy_437 : decode cX11_copy 437 = .ok (.aload_n 1, 1) := by decide +kernel
theorem dX11_copy_438 : decode cX11_copy 438 = .ok (.areturn, 1) := by decide +kernel
theorem dX11_isOver_0 : decode cX11_isOver 0 = .ok (.aload_n 0, 1) := by decide +kernel
theorem dX11_isOver_1 : decode cX11_isOver 1 = .ok (.getfield 10, 3) := by decide +kernel
theorem dX11_isOver_4 : decode cX11_isOver 4 = .ok (.iload_n 1, 1) := by decide +kernel
theorem dX11_isOver_5 : decode cX11_isOver 5 = .ok (.aaload, 1) := by decide +kernel
theorem dX11_isOver_6 : decode cX11_isOver 6 = .ok (.iconst 0, 1) := by decide +kernel
theorem dX11_isOver_7 : decode cX11_isOver 7 = .ok (.invokevirtual 124, 3) := by decide +kernel
theorem dX11_isOver_10 : decode cX11_isOver 10 = .ok (.ifCond .eq 32, 3) := by decide +kernel
theorem dX11_isOver_13 : decode cX11_isOver 13 = .ok (.aload_n 0, 1) := by decide +kernel
theorem dX11_isOver_14 : decode cX11_isOver 14 = .ok (.getfield 10, 3) := by decide +kernel
theorem dX11_isOver_17 : decode cX11_isOver 17 = .ok (.iload_n 1, 1) := by decide +kernel
theorem dX11_isOver_18 : decode cX11_isOver 18 = .ok (.aaload, 1) := by decide +kernel
theorem dX11_isOver_19 : decode cX11_isOver 19 = .ok (.iconst 1, 1) := by decide +kernel
theorem dX11_isOver_20 : decode cX11_isOver 20 = .ok (.invokevirtual 124, 3) := by decide +kernel
theorem dX11_isOver_23 : decode cX11_isOver 23 = .ok (.ifCond .eq 19, 3) := by decide +kernel
theorem dX11_isOver_26 : decode cX11_isOver 26 = .ok (.aload_n 0, 1) := by decide +kernel
theorem dX11_isOver_27 : decode cX11_isOver 27 = .ok (.getfield 10, 3) := by decide +kernel
theorem dX11_isOver_30 : decode cX11_isOver 30 = .ok (.iload_n 1, 1) := by decide +kernel
theorem dX11_isOver_31 : decode cX11_isOver 31 = .ok (.aaload, 1) := by decide +kernel
theorem dX11_isOver_32 : decode cX11_isOver 32 = .ok (.getfield 127, 3) := by decide +kernel
theorem dX11_isOver_35 : decode cX11_isOver 35 = .ok (.aload_n 0, 1) := by decide +kernel
theorem dX11_isOver_36 : decode cX11_isOver 36 = .ok (.getfield 90, 3) := by decide +kernel
theorem dX11_isOver_39 : decode cX11_isOver 39 = .ok (.if_icmp .ne 7, 3) := by decide +kernel
theorem dX11_isOver_42 : decode cX11_isOver 42 = .ok (.iconst 1, 1) := by decide +kernel
theorem dX11_isOver_43 : decode cX11_isOver 43 = .ok (.goto 4, 3) := by decide +kernel
theorem dX11_isOver_46 : decode cX11_isOver 46 = .ok (.iconst 0, 1) := by decide +kernel
theorem dX11_isOver_47 : decode cX11_isOver 47 = .ok (.ireturn, 1) := by decide +kernel
theorem dX11_isTurn_0 : decode cX11_isTurn 0 = .ok (.aload_n 0, 1) := by decide +kernel
theorem dX11_isTurn_1 : decode cX11_isTurn 1 = .ok (.iload_n 1, 1) := by decide +kernel
theorem dX11_isTurn_2 : decode cX11_isTurn 2 = .ok (.invokevirtual 130, 3) := by decide +kernel
theorem dX11_isTurn_5 : decode cX11_isTurn 5 = .ok (.ifCond .ne 22, 3) := by decide +kernel
theorem dX11_isTurn_8 : decode cX11_isTurn 8 = .ok (.aload_n 0, 1) := by decide +kernel
theorem dX11_isTurn_9 : decode cX11_isTurn 9 = .ok (.getfield 10, 3) := by decide +kernel
theorem dX11_isTurn_12 : decode cX11_isTurn 12 = .ok (.iload_n 1, 1) := by decide +kernel
theorem dX11_isTurn_13 : decode cX11_isTurn 13 = .ok (.aaload, 1) := by decide +kernel
theorem dX11_isTurn_14 : decode cX11_isTurn 14 = .ok (.getfield 127, 3) := by decide +kernel
theorem dX11_isTurn_17 : decode cX11_isTurn 17 = .ok (.iconst 2, 1) := by decide +kernel
theorem dX11_isTurn_18 : decode cX11_isTurn 18 = .ok (.irem, 1) := by decide +kernel
theorem dX11_isTurn_19 : decode cX11_isTurn 19 = .ok (.iload_n 1, 1) := by decide +kernel
theorem dX11_isTurn_20 : decode cX11_isTurn 20 = .ok (.if_icmp .ne 7, 3) := by decide +kernel
theorem dX11_isTurn_23 : decode cX11_isTurn 23 = .ok (.iconst 1, 1) := by decide +kernel
theorem dX11_isTurn_24 : decode cX11_isTurn 24 = .ok (.goto 4, 3) := by decide +kernel
theorem dX11_isTurn_27 : decode cX11_isTurn 27 = .ok (.iconst 0, 1) := by decide +kernel
theorem dX11_isTurn_28 : decode cX11_isTurn 28 = .ok (.ireturn, 1) := by decide +kernel
theorem dX11_applies_0 : decode cX11_applies 0 = .ok (.aload_n 0, 1) := by decide +kernel
theorem dX11_applies_1 : decode cX11_applies 1 = .ok (.getfield 10, 3) := by decide +kernel
theorem dX11_applies_4 : decode cX11_applies 4 = .ok (.iload_n 1, 1) := by decide +kernel
theorem dX11_applies_5 : decode cX11_applies 5 = .ok (.aaload, 1) := by decide +kernel
theorem dX11_applies_6 : decode cX11_applies 6 = .ok (.astore 4, 2) := by decide +kernel
theorem dX11_applies_8 : decode cX11_applies 8 = .ok (.aload 4, 2) := by decide +kernel
theorem dX11_applies_10 : decode cX11_applies 10 = .ok (.dup, 1) := by decide +kernel
theorem dX11_applies_11 : decode cX11_applies 11 = .ok (.getfield 127, 3) := by decide +kernel
theorem dX11_applies_14 : decode cX11_applies 14 = .ok (.iconst 1, 1) := by decide +kernel
theorem dX11_applies_15 : decode cX11_applies 15 = .ok (.iadd, 1) := by decide +kernel
theorem dX11_applies_16 : decode cX11_applies 16 = .ok (.putfield 127, 3) := by decide +kernel
theorem dX11_applies_19 : decode cX11_applies 19 = .ok (.aload 4, 2) := by decide +kernel
theorem dX11_applies_21 : decode cX11_applies 21 = .ok (.getfield 134, 3) := by decide +kernel
theorem dX11_applies_24 : decode cX11_applies 24 = .ok (.aload 4, 2) := by decide +kernel
theorem dX11_applies_26 : decode cX11_applies 26 = .ok (.getfield 127, 3) := by decide +kernel
theorem dX11_applies_29 : decode cX11_applies 29 = .ok (.iload_n 2, 1) := by decide +kernel
theorem dX11_applies_30 : decode cX11_applies 30 = .ok (.iastore, 1) := by decide +kernel
theorem dX11_applies_31 : decode cX11_applies 31 = .ok (.aload 4, 2) := by decide +kernel
theorem dX11_applies_33 : decode cX11_applies 33 = .ok (.getfield 135, 3) := by decide +kernel
theorem dX11_applies_36 : decode cX11_applies 36 = .ok (.aload 4, 2) := by decide +kernel
theorem dX11_applies_38 : decode cX11_applies 38 = .ok (.getfield 127, 3) := by decide +kernel
theorem dX11_applies_41 : decode cX11_applies 41 = .ok (.iload_n 3, 1) := by decide +kernel
theorem dX11_applies_42 : decode cX11_applies 42 = .ok (.iastore, 1) := by decide +kernel
theorem dX11_applies_43 : decode cX11_applies 43 = .ok (.aload 4, 2) := by decide +kernel
theorem dX11_applies_45 : decode cX11_applies 45 = .ok (.getfield 136, 3) := by decide +kernel
theorem dX11_applies_48 : decode cX11_applies 48 = .ok (.aload 4, 2) := by decide +kernel
theorem dX11_applies_50 : decode cX11_applies 50 = .ok (.getfield 127, 3) := by decide +kernel
theorem dX11_applies_53 : decode cX11_applies 53 = .ok (.aload 4, 2) := by decide +kernel
theorem dX11_applies_55 : decode cX11_applies 55 = .ok (.getfield 139, 3) := by decide +kernel
theorem dX11_applies_58 : decode cX11_applies 58 = .ok (.iload_n 3, 1) := by decide +kernel
theorem dX11_applies_59 : decode cX11_applies 59 = .ok (.iaload, 1) := by decide +kernel
theorem dX11_applies_60 : decode cX11_applies 60 = .ok (.ifCond .lt 7, 3) := by decide +kernel
theorem dX11_applies_63 : decode cX11_applies 63 = .ok (.iconst 1, 1) := by decide +kernel
theorem dX11_applies_64 : decode cX11_applies 64 = .ok (.goto 4, 3) := by decide +kernel
theorem dX11_applies_67 : decode cX11_applies 67 = .ok (.iconst 0, 1) := by decide +kernel
theorem dX11_applies_68 : decode cX11_applies 68 = .ok (.bastore, 1) := by decide +kernel
theorem dX11_applies_69 : decode cX11_applies 69 = .ok (.aload 4, 2) := by decide +kernel
theorem dX11_applies_71 : decode cX11_applies 71 = .ok (.getfield 139, 3) := by decide +kernel
theorem dX11_applies_74 : decode cX11_applies 74 = .ok (.iload_n 3, 1) := by decide +kernel
theorem dX11_applies_75 : decode cX11_applies 75 = .ok (.aload 4, 2) := by decide +kernel
theorem dX11_applies_77 : decode cX11_applies 77 = .ok (.getfield 139, 3) := by decide +kernel
theorem dX11_applies_80 : decode cX11_applies 80 = .ok (.iload_n 2, 1) := by decide +kernel
theorem dX11_applies_81 : decode cX11_applies 81 = .ok (.iaload, 1) := by decide +kernel
theorem dX11_applies_82 : decode cX11_applies 82 = .ok (.iastore, 1) := by decide +kernel
theorem dX11_applies_83 : decode cX11_applies 83 = .ok (.aload 4, 2) := by decide +kernel
theorem dX11_applies_85 : decode cX11_applies 85 = .ok (.getfield 139, 3) := by decide +kernel
theorem dX11_applies_88 : decode cX11_applies 88 = .ok (.iload_n 2, 1) := by decide +kernel
theorem dX11_applies_89 : decode cX11_applies 89 = .ok (.iconst (-1), 1) := by decide +kernel
theorem dX11_applies_90 : decode cX11_applies 90 = .ok (.iastore, 1) := by decide +kernel
theorem dX11_applies_91 : decode cX11_applies 91 = .ok (.aload 4, 2) := by decide +kernel
theorem dX11_applies_93 : decode cX11_applies 93 = .ok (.getfield 127, 3) := by decide +kernel
theorem dX11_applies_96 : decode cX11_applies 96 = .ok (.iconst 2, 1) := by decide +kernel
theorem dX11_applies_97 : decode cX11_applies 97 = .ok (.irem, 1) := by decide +kernel
theorem dX11_applies_98 : decode cX11_applies 98 = .ok (.iload_n 1, 1) := by decide +kernel
theorem dX11_applies_99 : decode cX11_applies 99 = .ok (.if_icmp .eq 15, 3) := by decide +kernel
theorem dX11_applies_102 : decode cX11_applies 102 = .ok (.aload 4, 2) := by decide +kernel
theorem dX11_applies_104 : decode cX11_applies 104 = .ok (.aload_n 0, 1) := by decide +kernel
theorem dX11_applies_105 : decode cX11_applies 105 = .ok (.getfield 93, 3) := by decide +kernel
theorem dX11_applies_108 : decode cX11_applies 108 = .ok (.putfield 142, 3) := by decide +kernel
theorem dX11_applies_111 : decode cX11_applies 111 = .ok (.goto 65, 3) := by decide +kernel
theorem dX11_applies_114 : decode cX11_applies 114 = .ok (.aload 4, 2) := by decide +kernel
theorem dX11_applies_116 : decode cX11_applies 116 = .ok (.getfield 142, 3) := by decide +kernel
theorem dX11_applies_119 : decode cX11_applies 119 = .ok (.ifCond .lt 57, 3) := by decide +kernel
theorem dX11_applies_122 : decode cX11_applies 122 = .ok (.aload 4, 2) := by decide +kernel
theorem dX11_applies_124 : decode cX11_applies 124 = .ok (.aload 4, 2) := by decide +kernel
theorem dX11_applies_126 : decode cX11_applies 126 = .ok (.getfield 145, 3) := by decide +kernel
theorem dX11_applies_129 : decode cX11_applies 129 = .ok (.aload_n 0, 1) := by decide +kernel
theorem dX11_applies_130 : decode cX11_applies 130 = .ok (.getfield 93, 3) := by decide +kernel
theorem dX11_applies_133 : decode cX11_applies 133 = .ok (.aload 4, 2) := by decide +kernel
theorem dX11_applies_135 : decode cX11_applies 135 = .ok (.getfield 142, 3) := by decide +kernel
theorem dX11_applies_138 : decode cX11_applies 138 = .ok (.isub, 1) := by decide +kernel
theorem dX11_applies_139 : decode cX11_applies 139 = .ok (.invokestatic 148, 3) := by decide +kernel
theorem dX11_applies_142 : decode cX11_applies 142 = .ok (.putfield 145, 3) := by decide +kernel
theorem dX11_applies_145 : decode cX11_applies 145 = .ok (.aload 4, 2) := by decide +kernel
theorem dX11_applies_147 : decode cX11_applies 147 = .ok (.dup, 1) := by decide +kernel
theorem dX11_applies_148 : decode cX11_applies 148 = .ok (.getfield 154, 3) := by decide +kernel
theorem dX11_applies_151 : decode cX11_applies 151 = .ok (.aload_n 0, 1) := by decide +kernel
theorem dX11_applies_152 : decode cX11_applies 152 = .ok (.getfield 93, 3) := by decide +kernel
theorem dX11_applies_155 : decode cX11_applies 155 = .ok (.aload 4, 2) := by decide +kernel
theorem dX11_applies_157 : decode cX11_applies 157 = .ok (.getfield 142, 3) := by decide +kernel
theorem dX11_applies_160 : decode cX11_applies 160 = .ok (.isub, 1) := by decide +kernel
theorem dX11_applies_161 : decode cX11_applies 161 = .ok (.iadd, 1) := by decide +kernel
theorem dX11_applies_162 : decode cX11_applies 162 = .ok (.putfield 154, 3) := by decide +kernel
theorem dX11_applies_165 : decode cX11_applies 165 = .ok (.aload 4, 2) := by decide +kernel
theorem dX11_applies_167 : decode cX11_applies 167 = .ok (.dup, 1) := by decide +kernel
theorem dX11_applies_168 : decode cX11_applies 168 = .ok (.getfield 157, 3) := by decide +kernel
theorem dX11_applies_171 : decode cX11_applies 171 = .ok (.iconst 1, 1) := by decide +kernel
theorem dX11_applies_172 : decode cX11_applies 172 = .ok (.iadd, 1) := by decide +kernel
theorem dX11_applies_173 : decode cX11_applies 173 = .ok (.putfield 157, 3) := by decide +kernel
theorem dX11_applies_176 : decode cX11_applies 176 = .ok (.return_, 1) := by decide +kernel
theorem dX11_goesOn_0 : decode cX11_goesOn 0 = .ok (.aload_n 0, 1) := by decide +kernel
theorem dX11_goesOn_1 : decode cX11_goesOn 1 = .ok (.getfield 10, 3) := by decide +kernel
theorem dX11_goesOn_4 : decode cX11_goesOn 4 = .ok (.iload_n 1, 1) := by decide +kernel
theorem dX11_goesOn_5 : decode cX11_goesOn 5 = .ok (.aaload, 1) := by decide +kernel
theorem dX11_goesOn_6 : decode cX11_goesOn 6 = .ok (.astore_n 2, 1) := by decide +kernel
theorem dX11_goesOn_7 : decode cX11_goesOn 7 = .ok (.aload_n 0, 1) := by decide +kernel
theorem dX11_goesOn_8 : decode cX11_goesOn 8 = .ok (.iload_n 1, 1) := by decide +kernel
theorem dX11_goesOn_9 : decode cX11_goesOn 9 = .ok (.invokevirtual 130, 3) := by decide +kernel
theorem dX11_goesOn_12 : decode cX11_goesOn 12 = .ok (.ifCond .ne 167, 3) := by decide +kernel
theorem dX11_goesOn_15 : decode cX11_goesOn 15 = .ok (.aload_n 2, 1) := by decide +kernel
theorem dX11_goesOn_16 : decode cX11_goesOn 16 = .ok (.getfield 127, 3) := by decide +kernel
theorem dX11_goesOn_19 : decode cX11_goesOn 19 = .ok (.iconst 1, 1) := by decide +kernel
theorem dX11_goesOn_20 : decode cX11_goesOn 20 = .ok (.iadd, 1) := by decide +kernel
theorem dX11_goesOn_21 : decode cX11_goesOn 21 = .ok (.istore_n 3, 1) := by decide +kernel
theorem dX11_goesOn_22 : decode cX11_goesOn 22 = .ok (.iload_n 3, 1) := by decide +kernel
theorem dX11_goesOn_23 : decode cX11_goesOn 23 = .ok (.iconst 2, 1) := by decide +kernel
theorem dX11_goesOn_24 : decode cX11_goesOn 24 = .ok (.irem, 1) := by decide +kernel
theorem dX11_goesOn_25 : decode cX11_goesOn 25 = .ok (.iload_n 1, 1) := by decide +kernel
theorem dX11_goesOn_26 : decode cX11_goesOn 26 = .ok (.if_icmp .eq 7, 3) := by decide +kernel
theorem dX11_goesOn_29 : decode cX11_goesOn 29 = .ok (.iconst 1, 1) := by decide +kernel
theorem dX11_goesOn_30 : decode cX11_goesOn 30 = .ok (.goto 4, 3) := by decide +kernel
theorem dX11_goesOn_33 : decode cX11_goesOn 33 = .ok (.iconst 0, 1) := by decide +kernel
theorem dX11_goesOn_34 : decode cX11_goesOn 34 = .ok (.istore 4, 2) := by decide +kernel
theorem dX11_goesOn_36 : decode cX11_goesOn 36 = .ok (.aload_n 2, 1) := by decide +kernel
theorem dX11_goesOn_37 : decode cX11_goesOn 37 = .ok (.getfield 160, 3) := by decide +kernel
theorem dX11_goesOn_40 : decode cX11_goesOn 40 = .ok (.iload_n 3, 1) := by decide +kernel
theorem dX11_goesOn_41 : decode cX11_goesOn 41 = .ok (.iaload, 1) := by decide +kernel
theorem dX11_goesOn_42 : decode cX11_goesOn 42 = .ok (.ifCond .lt 34, 3) := by decide +kernel
theorem dX11_goesOn_45 : decode cX11_goesOn 45 = .ok (.aload_n 2, 1) := by decide +kernel
theorem dX11_goesOn_46 : decode cX11_goesOn 46 = .ok (.getfield 160, 3) := by decide +kernel
theorem dX11_goesOn_49 : decode cX11_goesOn 49 = .ok (.iload_n 3, 1) := by decide +kernel
theorem dX11_goesOn_50 : decode cX11_goesOn 50 = .ok (.iaload, 1) := by decide +kernel
theorem dX11_goesOn_51 : decode cX11_goesOn 51 = .ok (.istore 5, 2) := by decide +kernel
theorem dX11_goesOn_53 : decode cX11_goesOn 53 = .ok (.aload_n 2, 1) := by decide +kernel
theorem dX11_goesOn_54 : decode cX11_goesOn 54 = .ok (.getfield 160, 3) := by decide +kernel
theorem dX11_goesOn_57 : decode cX11_goesOn 57 = .ok (.iload_n 3, 1) := by decide +kernel
theorem dX11_goesOn_58 : decode cX11_goesOn 58 = .ok (.iconst (-1), 1) := by decide +kernel
theorem dX11_goesOn_59 : decode cX11_goesOn 59 = .ok (.iastore, 1) := by decide +kernel
theorem dX11_goesOn_60 : decode cX11_goesOn 60 = .ok (.aload_n 0, 1) := by decide +kernel
theorem dX11_goesOn_61 : decode cX11_goesOn 61 = .ok (.iload_n 1, 1) := by decide +kernel
theorem dX11_goesOn_62 : decode cX11_goesOn 62 = .ok (.iload 5, 2) := by decide +kernel
theorem dX11_goesOn_64 : decode cX11_goesOn 64 = .ok (.aload_n 2, 1) := by decide +kernel
theorem dX11_goesOn_65 : decode cX11_goesOn 65 = .ok (.getfield 163, 3) := by decide +kernel
theorem dX11_goesOn_68 : decode cX11_goesOn 68 = .ok (.iload_n 3, 1) := by decide +kernel
theorem dX11_goesOn_69 : decode cX11_goesOn 69 = .ok (.iaload, 1) := by decide +kernel
theorem dX11_goesOn_70 : decode cX11_goesOn 70 = .ok (.invokevirtual 166, 3) := by decide +kernel
theorem dX11_goesOn_73 : decode cX11_goesOn 73 = .ok (.goto 103, 3) := by decide +kernel
theorem dX11_goesOn_76 : decode cX11_goesOn 76 = .ok (.iload 4, 2) := by decide +kernel
theorem dX11_goesOn_78 : decode cX11_goesOn 78 = .ok (.ifCond .eq 15, 3) := by decide +kernel
theorem dX11_goesOn_81 : decode cX11_goesOn 81 = .ok (.aload_n 0, 1) := by decide +kernel
theorem dX11_goesOn_82 : decode cX11_goesOn 82 = .ok (.getfield 60, 3) := by decide +kernel
theorem dX11_goesOn_85 : decode cX11_goesOn 85 = .ok (.iload_n 3, 1) := by decide +kernel
theorem dX11_goesOn_86 : decode cX11_goesOn 86 = .ok (.baload, 1) := by decide +kernel
theorem dX11_goesOn_87 : decode cX11_goesOn 87 = .ok (.ifCond .eq 88, 3) := by decide +kernel
theorem dX11_goesOn_90 : decode cX11_goesOn 90 = .ok (.goto 12, 3) := by decide +kernel
theorem dX11_goesOn_93 : decode cX11_goesOn 93 = .ok (.aload_n 0, 1) := by decide +kernel
theorem dX11_goesOn_94 : decode cX11_goesOn 94 = .ok (.getfield 63, 3) := by decide +kernel
theorem dX11_goesOn_97 : decode cX11_goesOn 97 = .ok (.iload_n 3, 1) := by decide +kernel
theorem dX11_goesOn_98 : decode cX11_goesOn 98 = .ok (.baload, 1) := by decide +kernel
theorem dX11_goesOn_99 : decode cX11_goesOn 99 = .ok (.ifCond .eq 76, 3) := by decide +kernel
theorem dX11_goesOn_102 : decode cX11_goesOn 102 = .ok (.aload_n 2, 1) := by decide +kernel
theorem dX11_goesOn_103 : decode cX11_goesOn 103 = .ok (.getfield 134, 3) := by decide +kernel
theorem dX11_goesOn_106 : decode cX11_goesOn 106 = .ok (.iload_n 3, 1) := by decide +kernel
theorem dX11_goesOn_107 : decode cX11_goesOn 107 = .ok (.iconst 1, 1) := by decide +kernel
theorem dX11_goesOn_108 : decode cX11_goesOn 108 = .ok (.isub, 1) := by decide +kernel
theorem dX11_goesOn_109 : decode cX11_goesOn 109 = .ok (.iaload, 1) := by decide +kernel
theorem dX11_goesOn_110 : decode cX11_goesOn 110 = .ok (.aload_n 0, 1) := by decide +kernel
theorem dX11_goesOn_111 : decode cX11_goesOn 111 = .ok (.getfield 66, 3) := by decide +kernel
theorem dX11_goesOn_114 : decode cX11_goesOn 114 = .ok (.iload_n 3, 1) := by decide +kernel
theorem dX11_goesOn_115 : decode cX11_goesOn 115 = .ok (.iaload, 1) := by decide +kernel
theorem dX11_goesOn_116 : decode cX11_goesOn 116 = .ok (.if_icmp .ne 59, 3) := by decide +kernel
theorem dX11_goesOn_119 : decode cX11_goesOn 119 = .ok (.aload_n 2, 1) := by decide +kernel
theorem dX11_goesOn_120 : decode cX11_goesOn 120 = .ok (.getfield 135, 3) := by decide +kernel
theorem dX11_goesOn_123 : decode cX11_goesOn 123 = .ok (.iload_n 3, 1) := by decide +kernel
theorem dX11_goesOn_124 : decode cX11_goesOn 124 = .ok (.iconst 1, 1) := by decide +kernel
theorem dX11_goesOn_125 : decode cX11_goesOn 125 = .ok (.isub, 1) := by decide +kernel
theorem dX11_goesOn_126 : decode cX11_goesOn 126 = .ok (.iaload, 1) := by decide +kernel
theorem dX11_goesOn_127 : decode cX11_goesOn 127 = .ok (.aload_n 0, 1) := by decide +kernel
theorem dX11_goesOn_128 : decode cX11_goesOn 128 = .ok (.getfield 69, 3) := by decide +kernel
theorem dX11_goesOn_131 : decode cX11_goesOn 131 = .ok (.iload_n 3, 1) := by decide +kernel
theorem dX11_goesOn_132 : decode cX11_goesOn 132 = .ok (.iaload, 1) := by decide +kernel
theorem dX11_goesOn_133 : decode cX11_goesOn 133 = .ok (.if_icmp .ne 42, 3) := by decide +kernel
theorem dX11_goesOn_136 : decode cX11_goesOn 136 = .ok (.aload_n 2, 1) := by decide +kernel
theorem dX11_goesOn_137 : decode cX11_goesOn 137 = .ok (.dup, 1) := by decide +kernel
theorem dX11_goesOn_138 : decode cX11_goesOn 138 = .ok (.getfield 170, 3) := by decide +kernel
theorem dX11_goesOn_141 : decode cX11_goesOn 141 = .ok (.iload 4, 2) := by decide +kernel
theorem dX11_goesOn_143 : decode cX11_goesOn 143 = .ok (.ifCond .eq 7, 3) := by decide +kernel
theorem dX11_goesOn_146 : decode cX11_goesOn 146 = .ok (.iconst 1, 1) := by decide +kernel
theorem dX11_goesOn_147 : decode cX11_goesOn 147 = .ok (.goto 4, 3) := by decide +kernel
theorem dX11_goesOn_150 : decode cX11_goesOn 150 = .ok (.iconst 0, 1) := by decide +kernel
theorem dX11_goesOn_151 : decode cX11_goesOn 151 = .ok (.iadd, 1) := by decide +kernel
theorem dX11_goesOn_152 : decode cX11_goesOn 152 = .ok (.putfield 170, 3) := by decide +kernel
theorem dX11_goesOn_155 : decode cX11_goesOn 155 = .ok (.aload_n 0, 1) := by decide +kernel
theorem dX11_goesOn_156 : decode cX11_goesOn 156 = .ok (.iload_n 1, 1) := by decide +kernel
theorem dX11_goesOn_157 : decode cX11_goesOn 157 = .ok (.aload_n 0, 1) := by decide +kernel
theorem dX11_goesOn_158 : decode cX11_goesOn 158 = .ok (.getfield 72, 3) := by decide +kernel
theorem dX11_goesOn_161 : decode cX11_goesOn 161 = .ok (.iload_n 3, 1) := by decide +kernel
theorem dX11_goesOn_162 : decode cX11_goesOn 162 = .ok (.iaload, 1) := by decide +kernel
theorem dX11_goesOn_163 : decode cX11_goesOn 163 = .ok (.aload_n 0, 1) := by decide +kernel
theorem dX11_goesOn_164 : decode cX11_goesOn 164 = .ok (.getfield 75, 3) := by decide +kernel
theorem dX11_goesOn_167 : decode cX11_goesOn 167 = .ok (.iload_n 3, 1) := by decide +kernel
theorem dX11_goesOn_168 : decode cX11_goesOn 168 = .ok (.iaload, 1) := by decide +kernel
theorem dX11_goesOn_169 : decode cX11_goesOn 169 = .ok (.invokevirtual 166, 3) := by decide +kernel
theorem dX11_goesOn_172 : decode cX11_goesOn 172 = .ok (.goto 4, 3) := by decide +kernel
theorem dX11_goesOn_175 : decode cX11_goesOn 175 = .ok (.return_, 1) := by decide +kernel
theorem dX11_goesOn_176 : decode cX11_goesOn 176 = .ok (.goto (-169), 3) := by decide +kernel
theorem dX11_goesOn_179 : decode cX11_goesOn 179 = .ok (.return_, 1) := by decide +kernel
theorem dX11_month_0 : decode cX11_month 0 = .ok (.aload_n 0, 1) := by decide +kernel
theorem dX11_month_1 : decode cX11_month 1 = .ok (.getfield 93, 3) := by decide +kernel
theorem dX11_month_4 : decode cX11_month 4 = .ok (.bipush 30, 2) := by decide +kernel
theorem dX11_month_6 : decode cX11_month 6 = .ok (.idiv, 1) := by decide +kernel
theorem dX11_month_7 : decode cX11_month 7 = .ok (.bipush 12, 2) := by decide +kernel
theorem dX11_month_9 : decode cX11_month 9 = .ok (.irem, 1) := by decide +kernel
theorem dX11_month_10 : decode cX11_month 10 = .ok (.ireturn, 1) := by decide +kernel
theorem dX11_depth_0 : decode cX11_depth 0 = .ok (.aload_n 0, 1) := by decide +kernel
theorem dX11_depth_1 : decode cX11_depth 1 = .ok (.getfield 23, 3) := by decide +kernel
theorem dX11_depth_4 : decode cX11_depth 4 = .ok (.bipush 12, 2) := by decide +kernel
theorem dX11_depth_6 : decode cX11_depth 6 = .ok (.iload_n 1, 1) := by decide +kernel
theorem dX11_depth_7 : decode cX11_depth 7 = .ok (.imul, 1) := by decide +kernel
theorem dX11_depth_8 : decode cX11_depth 8 = .ok (.aload_n 0, 1) := by decide +kernel
theorem dX11_depth_9 : decode cX11_depth 9 = .ok (.invokevirtual 173, 3) := by decide +kernel
theorem dX11_depth_12 : decode cX11_depth 12 = .ok (.iadd, 1) := by decide +kernel
theorem dX11_depth_13 : decode cX11_depth 13 = .ok (.iaload, 1) := by decide +kernel
theorem dX11_depth_14 : decode cX11_depth 14 = .ok (.ireturn, 1) := by decide +kernel
theorem dX11_posts_0 : decode cX11_posts 0 = .ok (.aload_n 0, 1) := by decide +kernel
theorem dX11_posts_1 : decode cX11_posts 1 = .ok (.getfield 99, 3) := by decide +kernel
theorem dX11_posts_4 : decode cX11_posts 4 = .ok (.istore 7, 2) := by decide +kernel
theorem dX11_posts_6 : decode cX11_posts 6 = .ok (.aload_n 0, 1) := by decide +kernel
theorem dX11_posts_7 : decode cX11_posts 7 = .ok (.getfield 26, 3) := by decide +kernel
theorem dX11_posts_10 : decode cX11_posts 10 = .ok (.iload 7, 2) := by decide +kernel
theorem dX11_posts_12 : decode cX11_posts 12 = .ok (.iload_n 1, 1) := by decide +kernel
theorem dX11_posts_13 : decode cX11_posts 13 = .ok (.iastore, 1) := by decide +kernel
theorem dX11_posts_14 : decode cX11_posts 14 = .ok (.aload_n 0, 1) := by decide +kernel
theorem dX11_posts_15 : decode cX11_posts 15 = .ok (.getfield 29, 3) := by decide +kernel
theorem dX11_posts_18 : decode cX11_posts 18 = .ok (.iload 7, 2) := by decide +kernel
theorem dX11_posts_20 : decode cX11_posts 20 = .ok (.iload_n 2, 1) := by decide +kernel
theorem dX11_posts_21 : decode cX11_posts 21 = .ok (.iastore, 1) := by decide +kernel
theorem dX11_posts_22 : decode cX11_posts 22 = .ok (.aload_n 0, 1) := by decide +kernel
theorem dX11_posts_23 : decode cX11_posts 23 = .ok (.getfield 56, 3) := by decide +kernel
theorem dX11_posts_26 : decode cX11_posts 26 = .ok (.iload 7, 2) := by decide +kernel
theorem dX11_posts_28 : decode cX11_posts 28 = .ok (.iload_n 3, 1) := by decide +kernel
theorem dX11_posts_29 : decode cX11_posts 29 = .ok (.bastore, 1) := by decide +kernel
theorem dX11_posts_30 : decode cX11_posts 30 = .ok (.aload_n 0, 1) := by decide +kernel
theorem dX11_posts_31 : decode cX11_posts 31 = .ok (.getfield 32, 3) := by decide +kernel
theorem dX11_posts_34 : decode cX11_posts 34 = .ok (.iload 7, 2) := by decide +kernel
theorem dX11_posts_36 : decode cX11_posts 36 = .ok (.iload 4, 2) := by decide +kernel
theorem dX11_posts_38 : decode cX11_posts 38 = .ok (.iastore, 1) := by decide +kernel
theorem dX11_posts_39 : decode cX11_posts 39 = .ok (.aload_n 0, 1) := by decide +kernel
theorem dX11_posts_40 : decode cX11_posts 40 = .ok (.getfield 35, 3) := by decide +kernel
theorem dX11_posts_43 : decode cX11_posts 43 = .ok (.iload 7, 2) := by decide +kernel
theorem dX11_posts_45 : decode cX11_posts 45 = .ok (.iload 5, 2) := by decide +kernel
theorem dX11_posts_47 : decode cX11_posts 47 = .ok (.iastore, 1) := by decide +kernel
theorem dX11_posts_48 : decode cX11_posts 48 = .ok (.aload_n 0, 1) := by decide +kernel
theorem dX11_posts_49 : decode cX11_posts 49 = .ok (.getfield 38, 3) := by decide +kernel
theorem dX11_posts_52 : decode cX11_posts 52 = .ok (.iload 7, 2) := by decide +kernel
theorem dX11_posts_54 : decode cX11_posts 54 = .ok (.iload 6, 2) := by decide +kernel
theorem dX11_posts_56 : decode cX11_posts 56 = .ok (.iastore, 1) := by decide +kernel
theorem dX11_posts_57 : decode cX11_posts 57 = .ok (.aload_n 0, 1) := by decide +kernel
theorem dX11_posts_58 : decode cX11_posts 58 = .ok (.getfield 41, 3) := by decide +kernel
theorem dX11_posts_61 : decode cX11_posts 61 = .ok (.iload 7, 2) := by decide +kernel
theorem dX11_posts_63 : decode cX11_posts 63 = .ok (.iconst 0, 1) := by decide +kernel
theorem dX11_posts_64 : decode cX11_posts 64 = .ok (.iastore, 1) := by decide +kernel
theorem dX11_posts_65 : decode cX11_posts 65 = .ok (.aload_n 0, 1) := by decide +kernel
theorem dX11_posts_66 : decode cX11_posts 66 = .ok (.getfield 44, 3) := by decide +kernel
theorem dX11_posts_69 : decode cX11_posts 69 = .ok (.iload 7, 2) := by decide +kernel
theorem dX11_posts_71 : decode cX11_posts 71 = .ok (.aload_n 0, 1) := by decide +kernel
theorem dX11_posts_72 : decode cX11_posts 72 = .ok (.getfield 93, 3) := by decide +kernel
theorem dX11_posts_75 : decode cX11_posts 75 = .ok (.iastore, 1) := by decide +kernel
theorem dX11_posts_76 : decode cX11_posts 76 = .ok (.aload_n 0, 1) := by decide +kernel
theorem dX11_posts_77 : decode cX11_posts 77 = .ok (.dup, 1) := by decide +kernel
theorem dX11_posts_78 : decode cX11_posts 78 = .ok (.getfield 99, 3) := by decide +kernel
theorem dX11_posts_81 : decode cX11_posts 81 = .ok (.iconst 1, 1) := by decide +kernel
theorem dX11_posts_82 : decode cX11_posts 82 = .ok (.iadd, 1) := by decide +kernel
theorem dX11_posts_83 : decode cX11_posts 83 = .ok (.putfield 99, 3) := by decide +kernel
theorem dX11_posts_86 : decode cX11_posts 86 = .ok (.iload 7, 2) := by decide +kernel
theorem dX11_posts_88 : decode cX11_posts 88 = .ok (.ireturn, 1) := by decide +kernel
theorem dX11_arrives_0 : decode cX11_arrives 0 = .ok (.iconst 1, 1) := by decide +kernel
theorem dX11_arrives_1 : decode cX11_arrives 1 = .ok (.aload_n 0, 1) := by decide +kernel
theorem dX11_arrives_2 : decode cX11_arrives 2 = .ok (.getfield 26, 3) := by decide +kernel
theorem dX11_arrives_5 : decode cX11_arrives 5 = .ok (.iload_n 1, 1) := by decide +kernel
theorem dX11_arrives_6 : decode cX11_arrives 6 = .ok (.iaload, 1) := by decide +kernel
theorem dX11_arrives_7 : decode cX11_arrives 7 = .ok (.isub, 1) := by decide +kernel
theorem dX11_arrives_8 : decode cX11_arrives 8 = .ok (.istore_n 2, 1) := by decide +kernel
theorem dX11_arrives_9 : decode cX11_arrives 9 = .ok (.aload_n 0, 1) := by decide +kernel
theorem dX11_arrives_10 : decode cX11_arrives 10 = .ok (.getfield 32, 3) := by decide +kernel
theorem dX11_arrives_13 : decode cX11_arrives 13 = .ok (.iload_n 1, 1) := by decide +kernel
theorem dX11_arrives_14 : decode cX11_arrives 14 = .ok (.iaload, 1) := by decide +kernel
theorem dX11_arrives_15 : decode cX11_arrives 15 = .ok (.istore_n 3, 1) := by decide +kernel
theorem dX11_arrives_16 : decode cX11_arrives 16 = .ok (.aload_n 0, 1) := by decide +kernel
theorem dX11_arrives_17 : decode cX11_arrives 17 = .ok (.getfield 41, 3) := by decide +kernel
theorem dX11_arrives_20 : decode cX11_arrives 20 = .ok (.iload_n 1, 1) := by decide +kernel
theorem dX11_arrives_21 : decode cX11_arrives 21 = .ok (.iconst 2, 1) := by decide +kernel
theorem dX11_arrives_22 : decode cX11_arrives 22 = .ok (.iastore, 1) := by decide +kernel
theorem dX11_arrives_23 : decode cX11_arrives 23 = .ok (.aload_n 0, 1) := by decide +kernel
theorem dX11_arrives_24 : decode cX11_arrives 24 = .ok (.getfield 53, 3) := by decide +kernel
theorem dX11_arrives_27 : decode cX11_arrives 27 = .ok (.iload_n 1, 1) := by decide +kernel
theorem dX11_arrives_28 : decode cX11_arrives 28 = .ok (.aload_n 0, 1) := by decide +kernel
theorem dX11_arrives_29 : decode cX11_arrives 29 = .ok (.getfield 93, 3) := by decide +kernel
theorem dX11_arrives_32 : decode cX11_arrives 32 = .ok (.iastore, 1) := by decide +kernel
theorem dX11_arrives_33 : decode cX11_arrives 33 = .ok (.aload_n 0, 1) := by decide +kernel
theorem dX11_arrives_34 : decode cX11_arrives 34 = .ok (.getfield 20, 3) := by decide +kernel
theorem dX11_arrives_37 : decode cX11_arrives 37 = .ok (.iconst 2, 1) := by decide +kernel
theorem dX11_arrives_38 : decode cX11_arrives 38 = .ok (.aload_n 0, 1) := by decide +kernel
theorem dX11_arrives_39 : decode cX11_arrives 39 = .ok (.getfield 29, 3) := by decide +kernel
theorem dX11_arrives_42 : decode cX11_arrives 42 = .ok (.iload_n 1, 1) := by decide +kernel
theorem dX11_arrives_43 : decode cX11_arrives 43 = .ok (.iaload, 1) := by decide +kernel
theorem dX11_arrives_44 : decode cX11_arrives 44 = .ok (.imul, 1) := by decide +kernel
theorem dX11_arrives_45 : decode cX11_arrives 45 = .ok (.iload_n 2, 1) := by decide +kernel
theorem dX11_arrives_46 : decode cX11_arrives 46 = .ok (.iadd, 1) := by decide +kernel
theorem dX11_arrives_47 : decode cX11_arrives 47 = .ok (.dup2, 1) := by decide +kernel
theorem dX11_arrives_48 : decode cX11_arrives 48 = .ok (.iaload, 1) := by decide +kernel
theorem dX11_arrives_49 : decode cX11_arrives 49 = .ok (.iconst 1, 1) := by decide +kernel
theorem dX11_arrives_50 : decode cX11_arrives 50 = .ok (.iadd, 1) := by decide +kernel
theorem dX11_arrives_51 : decode cX11_arrives 51 = .ok (.iastore, 1) := by decide +kernel
theorem dX11_arrives_52 : decode cX11_arrives 52 = .ok (.aload_n 0, 1) := by decide +kernel
theorem dX11_arrives_53 : decode cX11_arrives 53 = .ok (.dup, 1) := by decide +kernel
theorem dX11_arrives_54 : decode cX11_arrives 54 = .ok (.getfield 108, 3) := by decide +kernel
theorem dX11_arrives_57 : decode cX11_arrives 57 = .ok (.aload_n 0, 1) := by decide +kernel
theorem dX11_arrives_58 : decode cX11_arrives 58 = .ok (.getfield 93, 3) := by decide +kernel
theorem dX11_arrives_61 : decode cX11_arrives 61 = .ok (.aload_n 0, 1) := by decide +kernel
theorem dX11_arrives_62 : decode cX11_arrives 62 = .ok (.getfield 44, 3) := by decide +kernel
theorem dX11_arrives_65 : decode cX11_arrives 65 = .ok (.iload_n 1, 1) := by decide +kernel
theorem dX11_arrives_66 : decode cX11_arrives 66 = .ok (.iaload, 1) := by decide +kernel
theorem dX11_arrives_67 : decode cX11_arrives 67 = .ok (.isub, 1) := by decide +kernel
theorem dX11_arrives_68 : decode cX11_arrives 68 = .ok (.iadd, 1) := by decide +kernel
theorem dX11_arrives_69 : decode cX11_arrives 69 = .ok (.putfield 108, 3) := by decide +kernel
theorem dX11_arrives_72 : decode cX11_arrives 72 = .ok (.aload_n 0, 1) := by decide +kernel
theorem dX11_arrives_73 : decode cX11_arrives 73 = .ok (.dup, 1) := by decide +kernel
theorem dX11_arrives_74 : decode cX11_arrives 74 = .ok (.getfield 111, 3) := by decide +kernel
theorem dX11_arrives_77 : decode cX11_arrives 77 = .ok (.iconst 1, 1) := by decide +kernel
theorem dX11_arrives_78 : decode cX11_arrives 78 = .ok (.iadd, 1) := by decide +kernel
theorem dX11_arrives_79 : decode cX11_arrives 79 = .ok (.putfield 111, 3) := by decide +kernel
theorem dX11_arrives_82 : decode cX11_arrives 82 = .ok (.iload_n 1, 1) := by decide +kernel
theorem dX11_arrives_83 : decode cX11_arrives 83 = .ok (.aload_n 0, 1) := by decide +kernel
theorem dX11_arrives_84 : decode cX11_arrives 84 = .ok (.getfield 78, 3) := by decide +kernel
theorem dX11_arrives_87 : decode cX11_arrives 87 = .ok (.if_icmp .ne 4, 3) := by decide +kernel
theorem dX11_arrives_90 : decode cX11_arrives 90 = .ok (.return_, 1) := by decide +kernel
theorem dX11_arrives_91 : decode cX11_arrives 91 = .ok (.aload_n 0, 1) := by decide +kernel
theorem dX11_arrives_92 : decode cX11_arrives 92 = .ok (.getfield 56, 3) := by decide +kernel
theorem dX11_arrives_95 : decode cX11_arrives 95 = .ok (.iload_n 1, 1) := by decide +kernel
theorem dX11_arrives_96 : decode cX11_arrives 96 = .ok (.baload, 1) := by decide +kernel
theorem dX11_arrives_97 : decode cX11_arrives 97 = .ok (.ifCond .eq 12, 3) := by decide +kernel
theorem dX11_arrives_100 : decode cX11_arrives 100 = .ok (.aload_n 0, 1) := by decide +kernel
theorem dX11_arrives_101 : decode cX11_arrives 101 = .ok (.getfield 63, 3) := by decide +kernel
theorem dX11_arrives_104 : decode cX11_arrives 104 = .ok (.iload_n 3, 1) := by decide +kernel
theorem dX11_arrives_105 : decode cX11_arrives 105 = .ok (.baload, 1) := by decide +kernel
theorem dX11_arrives_106 : decode cX11_arrives 106 = .ok (.goto 35, 3) := by decide +kernel
theorem dX11_arrives_109 : decode cX11_arrives 109 = .ok (.aload_n 0, 1) := by decide +kernel
theorem dX11_arrives_110 : decode cX11_arrives 110 = .ok (.getfield 10, 3) := by decide +kernel
theorem dX11_arrives_113 : decode cX11_arrives 113 = .ok (.iload_n 2, 1) := by decide +kernel
theorem dX11_arrives_114 : decode cX11_arrives 114 = .ok (.aaload, 1) := by decide +kernel
theorem dX11_arrives_115 : decode cX11_arrives 115 = .ok (.getfield 127, 3) := by decide +kernel
theorem dX11_arrives_118 : decode cX11_arrives 118 = .ok (.iload_n 3, 1) := by decide +kernel
theorem dX11_arrives_119 : decode cX11_arrives 119 = .ok (.if_icmp .ge 17, 3) := by decide +kernel
theorem dX11_arrives_122 : decode cX11_arrives 122 = .ok (.aload_n 0, 1) := by decide +kernel
theorem dX11_arrives_123 : decode cX11_arrives 123 = .ok (.getfield 10, 3) := by decide +kernel
theorem dX11_arrives_126 : decode cX11_arrives 126 = .ok (.iload_n 2, 1) := by decide +kernel
theorem dX11_arrives_127 : decode cX11_arrives 127 = .ok (.aaload, 1) := by decide +kernel
theorem dX11_arrives_128 : decode cX11_arrives 128 = .ok (.getfield 160, 3) := by decide +kernel
theorem dX11_arrives_131 : decode cX11_arrives 131 = .ok (.iload_n 3, 1) := by decide +kernel
theorem dX11_arrives_132 : decode cX11_arrives 132 = .ok (.iaload, 1) := by decide +kernel
theorem dX11_arrives_133 : decode cX11_arrives 133 = .ok (.ifCond .lt 7, 3) := by decide +kernel
theorem dX11_arrives_136 : decode cX11_arrives 136 = .ok (.iconst 1, 1) := by decide +kernel
theorem dX11_arrives_137 : decode cX11_arrives 137 = .ok (.goto 4, 3) := by decide +kernel
theorem dX11_arrives_140 : decode cX11_arrives 140 = .ok (.iconst 0, 1) := by decide +kernel
theorem dX11_arrives_141 : decode cX11_arrives 141 = .ok (.istore 4, 2) := by decide +kernel
theorem dX11_arrives_143 : decode cX11_arrives 143 = .ok (.aload_n 0, 1) := by decide +kernel
theorem dX11_arrives_144 : decode cX11_arrives 144 = .ok (.dup, 1) := by decide +kernel
theorem dX11_arrives_145 : decode cX11_arrives 145 = .ok (.getfield 102, 3) := by decide +kernel
theorem dX11_arrives_148 : decode cX11_arrives 148 = .ok (.iload 4, 2) := by decide +kernel
theorem dX11_arrives_150 : decode cX11_arrives 150 = .ok (.ifCond .eq 7, 3) := by decide +kernel
theorem dX11_arrives_153 : decode cX11_arrives 153 = .ok (.iconst 1, 1) := by decide +kernel
theorem dX11_arrives_154 : decode cX11_arrives 154 = .ok (.goto 4, 3) := by decide +kernel
theorem dX11_arrives_157 : decode cX11_arrives 157 = .ok (.iconst 0, 1) := by decide +kernel
theorem dX11_arrives_158 : decode cX11_arrives 158 = .ok (.iadd, 1) := by decide +kernel
theorem dX11_arrives_159 : decode cX11_arrives 159 = .ok (.putfield 102, 3) := by decide +kernel
theorem dX11_arrives_162 : decode cX11_arrives 162 = .ok (.aload_n 0, 1) := by decide +kernel
theorem dX11_arrives_163 : decode cX11_arrives 163 = .ok (.getfield 56, 3) := by decide +kernel
theorem dX11_arrives_166 : decode cX11_arrives 166 = .ok (.iload_n 1, 1) := by decide +kernel
theorem dX11_arrives_167 : decode cX11_arrives 167 = .ok (.baload, 1) := by decide +kernel
theorem dX11_arrives_168 : decode cX11_arrives 168 = .ok (.ifCond .eq 13, 3) := by decide +kernel
theorem dX11_arrives_171 : decode cX11_arrives 171 = .ok (.aload_n 0, 1) := by decide +kernel
theorem dX11_arrives_172 : decode cX11_arrives 172 = .ok (.getfield 63, 3) := by decide +kernel
theorem dX11_arrives_175 : decode cX11_arrives 175 = .ok (.iload_n 3, 1) := by decide +kernel
theorem dX11_arrives_176 : decode cX11_arrives 176 = .ok (.iconst 1, 1) := by decide +kernel
theorem dX11_arrives_177 : decode cX11_arrives 177 = .ok (.bastore, 1) := by decide +kernel
theorem dX11_arrives_178 : decode cX11_arrives 178 = .ok (.goto 42, 3) := by decide +kernel
theorem dX11_arrives_181 : decode cX11_arrives 181 = .ok (.iload 4, 2) := by decide +kernel
theorem dX11_arrives_183 : decode cX11_arrives 183 = .ok (.ifCond .ne 37, 3) := by decide +kernel
theorem dX11_arrives_186 : decode cX11_arrives 186 = .ok (.aload_n 0, 1) := by decide +kernel
theorem dX11_arrives_187 : decode cX11_arrives 187 = .ok (.getfield 10, 3) := by decide +kernel
theorem dX11_arrives_190 : decode cX11_arrives 190 = .ok (.iload_n 2, 1) := by decide +kernel
theorem dX11_arrives_191 : decode cX11_arrives 191 = .ok (.aaload, 1) := by decide +kernel
theorem dX11_arrives_192 : decode cX11_arrives 192 = .ok (.getfield 160, 3) := by decide +kernel
theorem dX11_arrives_195 : decode cX11_arrives 195 = .ok (.iload_n 3, 1) := by decide +kernel
theorem dX11_arrives_196 : decode cX11_arrives 196 = .ok (.aload_n 0, 1) := by decide +kernel
theorem dX11_arrives_197 : decode cX11_arrives 197 = .ok (.getfield 35, 3) := by decide +kernel
theorem dX11_arrives_200 : decode cX11_arrives 200 = .ok (.iload_n 1, 1) := by decide +kernel
theorem dX11_arrives_201 : decode cX11_arrives 201 = .ok (.iaload, 1) := by decide +kernel
theorem dX11_arrives_202 : decode cX11_arrives 202 = .ok (.iastore, 1) := by decide +kernel
theorem dX11_arrives_203 : decode cX11_arrives 203 = .ok (.aload_n 0, 1) := by decide +kernel
theorem dX11_arrives_204 : decode cX11_arrives 204 = .ok (.getfield 10, 3) := by decide +kernel
theorem dX11_arrives_207 : decode cX11_arrives 207 = .ok (.iload_n 2, 1) := by decide +kernel
theorem dX11_arrives_208 : decode cX11_arrives 208 = .ok (.aaload, 1) := by decide +kernel
theorem dX11_arrives_209 : decode cX11_arrives 209 = .ok (.getfield 163, 3) := by decide +kernel
theorem dX11_arrives_212 : decode cX11_arrives 212 = .ok (.iload_n 3, 1) := by decide +kernel
theorem dX11_arrives_213 : decode cX11_arrives 213 = .ok (.aload_n 0, 1) := by decide +kernel
theorem dX11_arrives_214 : decode cX11_arrives 214 = .ok (.getfield 38, 3) := by decide +kernel
theorem dX11_arrives_217 : decode cX11_arrives 217 = .ok (.iload_n 1, 1) := by decide +kernel
theorem dX11_arrives_218 : decode cX11_arrives 218 = .ok (.iaload, 1) := by decide +kernel
theorem dX11_arrives_219 : decode cX11_arrives 219 = .ok (.iastore, 1) := by decide +kernel
theorem dX11_arrives_220 : decode cX11_arrives 220 = .ok (.aload_n 0, 1) := by decide +kernel
theorem dX11_arrives_221 : decode cX11_arrives 221 = .ok (.iload_n 2, 1) := by decide +kernel
theorem dX11_arrives_222 : decode cX11_arrives 222 = .ok (.invokevirtual 177, 3) := by decide +kernel
theorem dX11_arrives_225 : decode cX11_arrives 225 = .ok (.return_, 1) := by decide +kernel
theorem dX11_passes_0 : decode cX11_passes 0 = .ok (.aload_n 0, 1) := by decide +kernel
theorem dX11_passes_1 : decode cX11_passes 1 = .ok (.dup, 1) := by decide +kernel
theorem dX11_passes_2 : decode cX11_passes 2 = .ok (.getfield 93, 3) := by decide +kernel
theorem dX11_passes_5 : decode cX11_passes 5 = .ok (.iconst 1, 1) := by decide +kernel
theorem dX11_passes_6 : decode cX11_passes 6 = .ok (.iadd, 1) := by decide +kernel
theorem dX11_passes_7 : decode cX11_passes 7 = .ok (.putfield 93, 3) := by decide +kernel
theorem dX11_passes_10 : decode cX11_passes 10 = .ok (.aload_n 0, 1) := by decide +kernel
theorem dX11_passes_11 : decode cX11_passes 11 = .ok (.getfield 105, 3) := by decide +kernel
theorem dX11_passes_14 : decode cX11_passes 14 = .ok (.istore_n 1, 1) := by decide +kernel
