theorem dX0_init_0 : decode cX0_init 0 = .ok (.aload_n 0, 1) := by decide +kernel
theorem dX0_init_1 : decode cX0_init 1 = .ok (.invokespecial 3, 3) := by decide +kernel
theorem dX0_init_4 : decode cX0_init 4 = .ok (.aload_n 0, 1) := by decide +kernel
theorem dX0_init_5 : decode cX0_init 5 = .ok (.bipush 64, 2) := by decide +kernel
theorem dX0_init_7 : decode cX0_init 7 = .ok (.newarray .int, 2) := by decide +kernel
theorem dX0_init_9 : decode cX0_init 9 = .ok (.putfield 9, 3) := by decide +kernel
theorem dX0_init_12 : decode cX0_init 12 = .ok (.aload_n 0, 1) := by decide +kernel
theorem dX0_init_13 : decode cX0_init 13 = .ok (.iconst 2, 1) := by decide +kernel
theorem dX0_init_14 : decode cX0_init 14 = .ok (.newarray .int, 2) := by decide +kernel
theorem dX0_init_16 : decode cX0_init 16 = .ok (.putfield 15, 3) := by decide +kernel
theorem dX0_init_19 : decode cX0_init 19 = .ok (.aload_n 0, 1) := by decide +kernel
theorem dX0_init_20 : decode cX0_init 20 = .ok (.bipush 61, 2) := by decide +kernel
theorem dX0_init_22 : decode cX0_init 22 = .ok (.newarray .int, 2) := by decide +kernel
theorem dX0_init_24 : decode cX0_init 24 = .ok (.putfield 18, 3) := by decide +kernel
theorem dX0_init_27 : decode cX0_init 27 = .ok (.aload_n 0, 1) := by decide +kernel
theorem dX0_init_28 : decode cX0_init 28 = .ok (.bipush 61, 2) := by decide +kernel
theorem dX0_init_30 : decode cX0_init 30 = .ok (.newarray .int, 2) := by decide +kernel
theorem dX0_init_32 : decode cX0_init 32 = .ok (.putfield 21, 3) := by decide +kernel
theorem dX0_init_35 : decode cX0_init 35 = .ok (.return_, 1) := by decide +kernel
theorem dX0_clear_0 : decode cX0_clear 0 = .ok (.aload_n 0, 1) := by decide +kernel
theorem dX0_clear_1 : decode cX0_clear 1 = .ok (.iload_n 1, 1) := by decide +kernel
theorem dX0_clear_2 : decode cX0_clear 2 = .ok (.putfield 24, 3) := by decide +kernel
theorem dX0_clear_5 : decode cX0_clear 5 = .ok (.aload_n 0, 1) := by decide +kernel
theorem dX0_clear_6 : decode cX0_clear 6 = .ok (.iload_n 2, 1) := by decide +kernel
theorem dX0_clear_7 : decode cX0_clear 7 = .ok (.putfield 28, 3) := by decide +kernel
theorem dX0_clear_10 : decode cX0_clear 10 = .ok (.aload_n 0, 1) := by decide +kernel
theorem dX0_clear_11 : decode cX0_clear 11 = .ok (.iconst 0, 1) := by decide +kernel
theorem dX0_clear_12 : decode cX0_clear 12 = .ok (.putfield 31, 3) := by decide +kernel
theorem dX0_clear_15 : decode cX0_clear 15 = .ok (.aload_n 0, 1) := by decide +kernel
theorem dX0_clear_16 : decode cX0_clear 16 = .ok (.iconst 0, 1) := by decide +kernel
theorem dX0_clear_17 : decode cX0_clear 17 = .ok (.putfield 34, 3) := by decide +kernel
theorem dX0_clear_20 : decode cX0_clear 20 = .ok (.aload_n 0, 1) := by decide +kernel
theorem dX0_clear_21 : decode cX0_clear 21 = .ok (.iconst 0, 1) := by decide +kernel
theorem dX0_clear_22 : decode cX0_clear 22 = .ok (.putfield 37, 3) := by decide +kernel
theorem dX0_clear_25 : decode cX0_clear 25 = .ok (.aload_n 0, 1) := by decide +kernel
theorem dX0_clear_26 : decode cX0_clear 26 = .ok (.getfield 9, 3) := by decide +kernel
theorem dX0_clear_29 : decode cX0_clear 29 = .ok (.iconst (-1), 1) := by decide +kernel
theorem dX0_clear_30 : decode cX0_clear 30 = .ok (.invokestatic 40, 3) := by decide +kernel
theorem dX0_clear_33 : decode cX0_clear 33 = .ok (.aload_n 0, 1) := by decide +kernel
theorem dX0_clear_34 : decode cX0_clear 34 = .ok (.getfield 15, 3) := by decide +kernel
theorem dX0_clear_37 : decode cX0_clear 37 = .ok (.iconst 0, 1) := by decide +kernel
theorem dX0_clear_38 : decode cX0_clear 38 = .ok (.invokestatic 40, 3) := by decide +kernel
theorem dX0_clear_41 : decode cX0_clear 41 = .ok (.return_, 1) := by decide +kernel
theorem dX0_copyFrom_0 : decode cX0_copyFrom 0 = .ok (.aload_n 0, 1) := by decide +kernel
theorem dX0_copyFrom_1 : decode cX0_copyFrom 1 = .ok (.aload_n 1, 1) := by decide +kernel
theorem dX0_copyFrom_2 : decode cX0_copyFrom 2 = .ok (.getfield 24, 3) := by decide +kernel
theorem dX0_copyFrom_5 : decode cX0_copyFrom 5 = .ok (.putfield 24, 3) := by decide +kernel
theorem dX0_copyFrom_8 : decode cX0_copyFrom 8 = .ok (.aload_n 0, 1) := by decide +kernel
theorem dX0_copyFrom_9 : decode cX0_copyFrom 9 = .ok (.aload_n 1, 1) := by decide +kernel
theorem dX0_copyFrom_10 : decode cX0_copyFrom 10 = .ok (.getfield 28, 3) := by decide +kernel
theorem dX0_copyFrom_13 : decode cX0_copyFrom 13 = .ok (.putfield 28, 3) := by decide +kernel
theorem dX0_copyFrom_16 : decode cX0_copyFrom 16 = .ok (.aload_n 0, 1) := by decide +kernel
theorem dX0_copyFrom_17 : decode cX0_copyFrom 17 = .ok (.aload_n 1, 1) := by decide +kernel
theorem dX0_copyFrom_18 : decode cX0_copyFrom 18 = .ok (.getfield 31, 3) := by decide +kernel
theorem dX0_copyFrom_21 : decode cX0_copyFrom 21 = .ok (.putfield 31, 3) := by decide +kernel
theorem dX0_copyFrom_24 : decode cX0_copyFrom 24 = .ok (.aload_n 0, 1) := by decide +kernel
theorem dX0_copyFrom_25 : decode cX0_copyFrom 25 = .ok (.aload_n 1, 1) := by decide +kernel
theorem dX0_copyFrom_26 : decode cX0_copyFrom 26 = .ok (.getfield 34, 3) := by decide +kernel
theorem dX0_copyFrom_29 : decode cX0_copyFrom 29 = .ok (.putfield 34, 3) := by decide +kernel
theorem dX0_copyFrom_32 : decode cX0_copyFrom 32 = .ok (.aload_n 0, 1) := by decide +kernel
theorem dX0_copyFrom_33 : decode cX0_copyFrom 33 = .ok (.aload_n 1, 1) := by decide +kernel
theorem dX0_copyFrom_34 : decode cX0_copyFrom 34 = .ok (.getfield 37, 3) := by decide +kernel
theorem dX0_copyFrom_37 : decode cX0_copyFrom 37 = .ok (.putfield 37, 3) := by decide +kernel
theorem dX0_copyFrom_40 : decode cX0_copyFrom 40 = .ok (.aload_n 1, 1) := by decide +kernel
theorem dX0_copyFrom_41 : decode cX0_copyFrom 41 = .ok (.getfield 9, 3) := by decide +kernel
theorem dX0_copyFrom_44 : decode cX0_copyFrom 44 = .ok (.aload_n 0, 1) := by decide +kernel
theorem dX0_copyFrom_45 : decode cX0_copyFrom 45 = .ok (.getfield 9, 3) := by decide +kernel
theorem dX0_copyFrom_48 : decode cX0_copyFrom 48 = .ok (.invokestatic 46, 3) := by decide +kernel
theorem dX0_copyFrom_51 : decode cX0_copyFrom 51 = .ok (.aload_n 1, 1) := by decide +kernel
theorem dX0_copyFrom_52 : decode cX0_copyFrom 52 = .ok (.getfield 15, 3) := by decide +kernel
theorem dX0_copyFrom_55 : decode cX0_copyFrom 55 = .ok (.aload_n 0, 1) := by decide +kernel
theorem dX0_copyFrom_56 : decode cX0_copyFrom 56 = .ok (.getfield 15, 3) := by decide +kernel
theorem dX0_copyFrom_59 : decode cX0_copyFrom 59 = .ok (.invokestatic 46, 3) := by decide +kernel
theorem dX0_copyFrom_62 : decode cX0_copyFrom 62 = .ok (.aload_n 1, 1) := by decide +kernel
theorem dX0_copyFrom_63 : decode cX0_copyFrom 63 = .ok (.getfield 18, 3) := by decide +kernel
theorem dX0_copyFrom_66 : decode cX0_copyFrom 66 = .ok (.aload_n 0, 1) := by decide +kernel
theorem dX0_copyFrom_67 : decode cX0_copyFrom 67 = .ok (.getfield 18, 3) := by decide +kernel
theorem dX0_copyFrom_70 : decode cX0_copyFrom 70 = .ok (.invokestatic 46, 3) := by decide +kernel
theorem dX0_copyFrom_73 : decode cX0_copyFrom 73 = .ok (.aload_n 1, 1) := by decide +kernel
theorem dX0_copyFrom_74 : decode cX0_copyFrom 74 = .ok (.getfield 21, 3) := by decide +kernel
theorem dX0_copyFrom_77 : decode cX0_copyFrom 77 = .ok (.aload_n 0, 1) := by decide +kernel
theorem dX0_copyFrom_78 : decode cX0_copyFrom 78 = .ok (.getfield 21, 3) := by decide +kernel
theorem dX0_copyFrom_81 : decode cX0_copyFrom 81 = .ok (.invokestatic 46, 3) := by decide +kernel
theorem dX0_copyFrom_84 : decode cX0_copyFrom 84 = .ok (.return_, 1) := by decide +kernel
theorem dX0_place_0 : decode cX0_place 0 = .ok (.aload_n 0, 1) := by decide +kernel
theorem dX0_place_1 : decode cX0_place 1 = .ok (.getfield 9, 3) := by decide +kernel
theorem dX0_place_4 : decode cX0_place 4 = .ok (.iload_n 2, 1) := by decide +kernel
theorem dX0_place_5 : decode cX0_place 5 = .ok (.iload_n 1, 1) := by decide +kernel
theorem dX0_place_6 : decode cX0_place 6 = .ok (.invokestatic 50, 3) := by decide +kernel
theorem dX0_place_9 : decode cX0_place 9 = .ok (.aload_n 0, 1) := by decide +kernel
theorem dX0_place_10 : decode cX0_place 10 = .ok (.getfield 15, 3) := by decide +kernel
theorem dX0_place_13 : decode cX0_place 13 = .ok (.iload_n 1, 1) := by decide +kernel
theorem dX0_place_14 : decode cX0_place 14 = .ok (.aload_n 0, 1) := by decide +kernel
theorem dX0_place_15 : decode cX0_place 15 = .ok (.getfield 15, 3) := by decide +kernel
theorem dX0_place_18 : decode cX0_place 18 = .ok (.iload_n 1, 1) := by decide +kernel
theorem dX0_place_19 : decode cX0_place 19 = .ok (.invokestatic 54, 3) := by decide +kernel
theorem dX0_place_22 : decode cX0_place 22 = .ok (.iconst 1, 1) := by decide +kernel
theorem dX0_place_23 : decode cX0_place 23 = .ok (.iadd, 1) := by decide +kernel
theorem dX0_place_24 : decode cX0_place 24 = .ok (.invokestatic 50, 3) := by decide +kernel
theorem dX0_place_27 : decode cX0_place 27 = .ok (.aload_n 0, 1) := by decide +kernel
theorem dX0_place_28 : decode cX0_place 28 = .ok (.dup, 1) := by decide +kernel
theorem dX0_place_29 : decode cX0_place 29 = .ok (.getfield 37, 3) := by decide +kernel
theorem dX0_place_32 : decode cX0_place 32 = .ok (.iconst 1, 1) := by decide +kernel
theorem dX0_place_33 : decode cX0_place 33 = .ok (.iadd, 1) := by decide +kernel
theorem dX0_place_34 : decode cX0_place 34 = .ok (.putfield 37, 3) := by decide +kernel
theorem dX0_place_37 : decode cX0_place 37 = .ok (.return_, 1) := by decide +kernel
theorem dX0_size_0 : decode cX0_size 0 = .ok (.aload_n 0, 1) := by decide +kernel
theorem dX0_size_1 : decode cX0_size 1 = .ok (.getfield 24, 3) := by decide +kernel
theorem dX0_size_4 : decode cX0_size 4 = .ok (.ireturn, 1) := by decide +kernel
theorem dX0_limit_0 : decode cX0_limit 0 = .ok (.aload_n 0, 1) := by decide +kernel
theorem dX0_limit_1 : decode cX0_limit 1 = .ok (.getfield 28, 3) := by decide +kernel
theorem dX0_limit_4 : decode cX0_limit 4 = .ok (.ireturn, 1) := by decide +kernel
theorem dX0_made_0 : decode cX0_made 0 = .ok (.aload_n 0, 1) := by decide +kernel
theorem dX0_made_1 : decode cX0_made 1 = .ok (.getfield 31, 3) := by decide +kernel
theorem dX0_made_4 : decode cX0_made 4 = .ok (.ireturn, 1) := by decide +kernel
theorem dX0_nextNumber_0 : decode cX0_nextNumber 0 = .ok (.aload_n 0, 1) := by decide +kernel
theorem dX0_nextNumber_1 : decode cX0_nextNumber 1 = .ok (.getfield 31, 3) := by decide +kernel
theorem dX0_nextNumber_4 : decode cX0_nextNumber 4 = .ok (.iconst 1, 1) := by decide +kernel
theorem dX0_nextNumber_5 : decode cX0_nextNumber 5 = .ok (.iadd, 1) := by decide +kernel
theorem dX0_nextNumber_6 : decode cX0_nextNumber 6 = .ok (.ireturn, 1) := by decide +kernel
theorem dX0_ownerOn_0 : decode cX0_ownerOn 0 = .ok (.aload_n 0, 1) := by decide +kernel
theorem dX0_ownerOn_1 : decode cX0_ownerOn 1 = .ok (.getfield 9, 3) := by decide +kernel
theorem dX0_ownerOn_4 : decode cX0_ownerOn 4 = .ok (.iload_n 1, 1) := by decide +kernel
theorem dX0_ownerOn_5 : decode cX0_ownerOn 5 = .ok (.invokestatic 54, 3) := by decide +kernel
theorem dX0_ownerOn_8 : decode cX0_ownerOn 8 = .ok (.ireturn, 1) := by decide +kernel
theorem dX0_bishopsOf_0 : decode cX0_bishopsOf 0 = .ok (.aload_n 0, 1) := by decide +kernel
theorem dX0_bishopsOf_1 : decode cX0_bishopsOf 1 = .ok (.getfield 15, 3) := by decide +kernel
theorem dX0_bishopsOf_4 : decode cX0_bishopsOf 4 = .ok (.iload_n 1, 1) := by decide +kernel
theorem dX0_bishopsOf_5 : decode cX0_bishopsOf 5 = .ok (.invokestatic 54, 3) := by decide +kernel
theorem dX0_bishopsOf_8 : decode cX0_bishopsOf 8 = .ok (.ireturn, 1) := by decide +kernel
theorem dX0_isFinished_0 : decode cX0_isFinished 0 = .ok (.aload_n 0, 1) := by decide +kernel
theorem dX0_isFinished_1 : decode cX0_isFinished 1 = .ok (.getfield 31, 3) := by decide +kernel
theorem dX0_isFinished_4 : decode cX0_isFinished 4 = .ok (.aload_n 0, 1) := by decide +kernel
theorem dX0_isFinished_5 : decode cX0_isFinished 5 = .ok (.getfield 28, 3) := by decide +kernel
theorem dX0_isFinished_8 : decode cX0_isFinished 8 = .ok (.if_icmp .eq 19, 3) := by decide +kernel
theorem dX0_isFinished_11 : decode cX0_isFinished 11 = .ok (.aload_n 0, 1) := by decide +kernel
theorem dX0_isFinished_12 : decode cX0_isFinished 12 = .ok (.iconst 0, 1) := by decide +kernel
theorem dX0_isFinished_13 : decode cX0_isFinished 13 = .ok (.invokevirtual 58, 3) := by decide +kernel
theorem dX0_isFinished_16 : decode cX0_isFinished 16 = .ok (.ifCond .eq 11, 3) := by decide +kernel
theorem dX0_isFinished_19 : decode cX0_isFinished 19 = .ok (.aload_n 0, 1) := by decide +kernel
theorem dX0_isFinished_20 : decode cX0_isFinished 20 = .ok (.iconst 1, 1) := by decide +kernel
theorem dX0_isFinished_21 : decode cX0_isFinished 21 = .ok (.invokevirtual 58, 3) := by decide +kernel
theorem dX0_isFinished_24 : decode cX0_isFinished 24 = .ok (.ifCond .ne 7, 3) := by decide +kernel
theorem dX0_isFinished_27 : decode cX0_isFinished 27 = .ok (.iconst 1, 1) := by decide +kernel
theorem dX0_isFinished_28 : decode cX0_isFinished 28 = .ok (.goto 4, 3) := by decide +kernel
theorem dX0_isFinished_31 : decode cX0_isFinished 31 = .ok (.iconst 0, 1) := by decide +kernel
theorem dX0_isFinished_32 : decode cX0_isFinished 32 = .ok (.ireturn, 1) := by decide +kernel
theorem dX0_moveAt_0 : decode cX0_moveAt 0 = .ok (.iload_n 1, 1) := by decide +kernel
theorem dX0_moveAt_1 : decode cX0_moveAt 1 = .ok (.iconst 1, 1) := by decide +kernel
theorem dX0_moveAt_2 : decode cX0_moveAt 2 = .ok (.if_icmp .lt 22, 3) := by decide +kernel
theorem dX0_moveAt_5 : decode cX0_moveAt 5 = .ok (.iload_n 1, 1) := by decide +kernel
theorem dX0_moveAt_6 : decode cX0_moveAt 6 = .ok (.aload_n 0, 1) := by decide +kernel
theorem dX0_moveAt_7 : decode cX0_moveAt 7 = .ok (.getfield 31, 3) := by decide +kernel
theorem dX0_moveAt_10 : decode cX0_moveAt 10 = .ok (.if_icmp .gt 14, 3) := by decide +kernel
theorem dX0_moveAt_13 : decode cX0_moveAt 13 = .ok (.aload_n 0, 1) := by decide +kernel
theorem dX0_moveAt_14 : decode cX0_moveAt 14 = .ok (.getfield 18, 3) := by decide +kernel
theorem dX0_moveAt_17 : decode cX0_moveAt 17 = .ok (.iload_n 1, 1) := by decide +kernel
theorem dX0_moveAt_18 : decode cX0_moveAt 18 = .ok (.invokestatic 54, 3) := by decide +kernel
theorem dX0_moveAt_21 : decode cX0_moveAt 21 = .ok (.goto 4, 3) := by decide +kernel
theorem dX0_moveAt_24 : decode cX0_moveAt 24 = .ok (.iconst (-1), 1) := by decide +kernel
theorem dX0_moveAt_25 : decode cX0_moveAt 25 = .ok (.ireturn, 1) := by decide +kernel
theorem dX0_canReach_0 : decode cX0_canReach 0 = .ok (.aload_n 0, 1) := by decide +kernel
theorem dX0_canReach_1 : decode cX0_canReach 1 = .ok (.iload_n 1, 1) := by decide +kernel
theorem dX0_canReach_2 : decode cX0_canReach 2 = .ok (.invokevirtual 62, 3) := by decide +kernel
theorem dX0_canReach_5 : decode cX0_canReach 5 = .ok (.istore_n 3, 1) := by decide +kernel
theorem dX0_canReach_6 : decode cX0_canReach 6 = .ok (.iload_n 3, 1) := by decide +kernel
theorem dX0_canReach_7 : decode cX0_canReach 7 = .ok (.iconst (-1), 1) := by decide +kernel
theorem dX0_canReach_8 : decode cX0_canReach 8 = .ok (.if_icmp .eq 20, 3) := by decide +kernel
theorem dX0_canReach_11 : decode cX0_canReach 11 = .ok (.iload_n 3, 1) := by decide +kernel
theorem dX0_canReach_12 : decode cX0_canReach 12 = .ok (.aload_n 0, 1) := by decide +kernel
theorem dX0_canReach_13 : decode cX0_canReach 13 = .ok (.iload_n 2, 1) := by decide +kernel
theorem dX0_canReach_14 : decode cX0_canReach 14 = .ok (.invokevirtual 62, 3) := by decide +kernel
theorem dX0_canReach_17 : decode cX0_canReach 17 = .ok (.if_icmp .eq 11, 3) := by decide +kernel
theorem dX0_canReach_20 : decode cX0_canReach 20 = .ok (.aload_n 0, 1) := by decide +kernel
theorem dX0_canReach_21 : decode cX0_canReach 21 = .ok (.getfield 24, 3) := by decide +kernel
theorem dX0_canReach_24 : decode cX0_canReach 24 = .ok (.iconst 4, 1) := by decide +kernel
theorem dX0_canReach_25 : decode cX0_canReach 25 = .ok (.if_icmp .ge 5, 3) := by decide +kernel
theorem dX0_canReach_28 : decode cX0_canReach 28 = .ok (.iconst 0, 1) := by decide +kernel
theorem dX0_canReach_29 : decode cX0_canReach 29 = .ok (.ireturn, 1) := by decide +kernel
theorem dX0_canReach_30 : decode cX0_canReach 30 = .ok (.iload_n 2, 1) := by decide +kernel
theorem dX0_canReach_31 : decode cX0_canReach 31 = .ok (.aload_n 0, 1) := by decide +kernel
theorem dX0_canReach_32 : decode cX0_canReach 32 = .ok (.getfield 24, 3) := by decide +kernel
theorem dX0_canReach_35 : decode cX0_canReach 35 = .ok (.idiv, 1) := by decide +kernel
theorem dX0_canReach_36 : decode cX0_canReach 36 = .ok (.iload_n 1, 1) := by decide +kernel
theorem dX0_canReach_37 : decode cX0_canReach 37 = .ok (.aload_n 0, 1) := by decide +kernel
theorem dX0_canReach_38 : decode cX0_canReach 38 = .ok (.getfield 24, 3) := by decide +kernel
theorem dX0_canReach_41 : decode cX0_canReach 41 = .ok (.idiv, 1) := by decide +kernel
theorem dX0_canReach_42 : decode cX0_canReach 42 = .ok (.isub, 1) := by decide +kernel
theorem dX0_canReach_43 : decode cX0_canReach 43 = .ok (.istore 4, 2) := by decide +kernel
theorem dX0_canReach_45 : decode cX0_canReach 45 = .ok (.iload_n 2, 1) := by decide +kernel
theorem dX0_canReach_46 : decode cX0_canReach 46 = .ok (.aload_n 0, 1) := by decide +kernel
theorem dX0_canReach_47 : decode cX0_canReach 47 = .ok (.getfield 24, 3) := by decide +kernel
theorem dX0_canReach_50 : decode cX0_canReach 50 = .ok (.irem, 1) := by decide +kernel
theorem dX0_canReach_51 : decode cX0_canReach 51 = .ok (.iload_n 1, 1) := by decide +kernel
theorem dX0_canReach_52 : decode cX0_canReach 52 = .ok (.aload_n 0, 1) := by decide +kernel
theorem dX0_canReach_53 : decode cX0_canReach 53 = .ok (.getfield 24, 3) := by decide +kernel
theorem dX0_canReach_56 : decode cX0_canReach 56 = .ok (.irem, 1) := by decide +kernel
theorem dX0_canReach_57 : decode cX0_canReach 57 = .ok (.isub, 1) := by decide +kernel
theorem dX0_canReach_58 : decode cX0_canReach 58 = .ok (.istore 5, 2) := by decide +kernel
theorem dX0_canReach_60 : decode cX0_canReach 60 = .ok (.iload 4, 2) := by decide +kernel
theorem dX0_canReach_62 : decode cX0_canReach 62 = .ok (.invokestatic 65, 3) := by decide +kernel
theorem dX0_canReach_65 : decode cX0_canReach 65 = .ok (.istore 6, 2) := by decide +kernel
theorem dX0_canReach_67 : decode cX0_canReach 67 = .ok (.iload 6, 2) := by decide +kernel
theorem dX0_canReach_69 : decode cX0_canReach 69 = .ok (.ifCond .eq 13, 3) := by decide +kernel
theorem dX0_canReach_72 : decode cX0_canReach 72 = .ok (.iload 6, 2) := by decide +kernel
theorem dX0_canReach_74 : decode cX0_canReach 74 = .ok (.iload 5, 2) := by decide +kernel
theorem dX0_canReach_76 : decode cX0_canReach 76 = .ok (.invokestatic 65, 3) := by decide +kernel
theorem dX0_canReach_79 : decode cX0_canReach 79 = .ok (.if_icmp .eq 5, 3) := by decide +kernel
theorem dX0_canReach_82 : decode cX0_canReach 82 = .ok (.iconst 0, 1) := by decide +kernel
theorem dX0_canReach_83 : decode cX0_canReach 83 = .ok (.ireturn, 1) := by decide +kernel
theorem dX0_canReach_84 : decode cX0_canReach 84 = .ok (.iload 4, 2) := by decide +kernel
theorem dX0_canReach_86 : decode cX0_canReach 86 = .ok (.ifCond .le 10, 3) := by decide +kernel
theorem dX0_canReach_89 : decode cX0_canReach 89 = .ok (.aload_n 0, 1) := by decide +kernel
theorem dX0_canReach_90 : decode cX0_canReach 90 = .ok (.getfield 24, 3) := by decide +kernel
theorem dX0_canReach_93 : decode cX0_canReach 93 = .ok (.goto 8, 3) := by decide +kernel
theorem dX0_canReach_96 : decode cX0_canReach 96 = .ok (.aload_n 0, 1) := by decide +kernel
theorem dX0_canReach_97 : decode cX0_canReach 97 = .ok (.getfield 24, 3) := by decide +kernel
theorem dX0_canReach_100 : decode cX0_canReach 100 = .ok (.ineg, 1) := by decide +kernel
theorem dX0_canReach_101 : decode cX0_canReach 101 = .ok (.iload 5, 2) := by decide +kernel
theorem dX0_canReach_103 : decode cX0_canReach 103 = .ok (.ifCond .le 7, 3) := by decide +kernel
theorem dX0_canReach_106 : decode cX0_canReach 106 = .ok (.iconst 1, 1) := by decide +kernel
theorem dX0_canReach_107 : decode cX0_canReach 107 = .ok (.goto 4, 3) := by decide +kernel
theorem dX0_canReach_110 : decode cX0_canReach 110 = .ok (.iconst (-1), 1) := by decide +kernel
theorem dX0_canReach_111 : decode cX0_canReach 111 = .ok (.iadd, 1) := by decide +kernel
theorem dX0_canReach_112 : decode cX0_canReach 112 = .ok (.istore 7, 2) := by decide +kernel
theorem dX0_canReach_114 : decode cX0_canReach 114 = .ok (.iconst 1, 1) := by decide +kernel
theorem dX0_canReach_115 : decode cX0_canReach 115 = .ok (.istore 8, 2) := by decide +kernel
theorem dX0_canReach_117 : decode cX0_canReach 117 = .ok (.iload 8, 2) := by decide +kernel
theorem dX0_canReach_119 : decode cX0_canReach 119 = .ok (.iload 6, 2) := by decide +kernel
theorem dX0_canReach_121 : decode cX0_canReach 121 = .ok (.if_icmp .ge 26, 3) := by decide +kernel
theorem dX0_canReach_124 : decode cX0_canReach 124 = .ok (.aload_n 0, 1) := by decide +kernel
theorem dX0_canReach_125 : decode cX0_canReach 125 = .ok (.iload_n 1, 1) := by decide +kernel
theorem dX0_canReach_126 : decode cX0_canReach 126 = .ok (.iload 8, 2) := by decide +kernel
theorem dX0_canReach_128 : decode cX0_canReach 128 = .ok (.iload 7, 2) := by decide +kernel
theorem dX0_canReach_130 : decode cX0_canReach 130 = .ok (.imul, 1) := by decide +kernel
theorem dX0_canReach_131 : decode cX0_canReach 131 = .ok (.iadd, 1) := by decide +kernel
theorem dX0_canReach_132 : decode cX0_canReach 132 = .ok (.invokevirtual 62, 3) := by decide +kernel
theorem dX0_canReach_135 : decode cX0_canReach 135 = .ok (.iconst (-1), 1) := by decide +kernel
theorem dX0_canReach_136 : decode cX0_canReach 136 = .ok (.if_icmp .eq 5, 3) := by decide +kernel
theorem dX0_canReach_139 : decode cX0_canReach 139 = .ok (.iconst 0, 1) := by decide +kernel
theorem dX0_canReach_140 : decode cX0_canReach 140 = .ok (.ireturn, 1) := by decide +kernel
theorem dX0_canReach_141 : decode cX0_canReach 141 = .ok (.iinc 8 1, 3) := by decide +kernel
theorem dX0_canReach_144 : decode cX0_canReach 144 = .ok (.goto (-27), 3) := by decide +kernel
theorem dX0_canReach_147 : decode cX0_canReach 147 = .ok (.iconst 1, 1) := by decide +kernel
theorem dX0_canReach_148 : decode cX0_canReach 148 = .ok (.ireturn, 1) := by decide +kernel
theorem dX0_waysOf_0 : decode cX0_waysOf 0 = .ok (.iconst 0, 1) := by decide +kernel
theorem dX0_waysOf_1 : decode cX0_waysOf 1 = .ok (.istore_n 2, 1) := by decide +kernel
theorem dX0_waysOf_2 : decode cX0_waysOf 2 = .ok (.aload_n 0, 1) := by decide +kernel
theorem dX0_waysOf_3 : decode cX0_waysOf 3 = .ok (.getfield 24, 3) := by decide +kernel
theorem dX0_waysOf_6 : decode cX0_waysOf 6 = .ok (.aload_n 0, 1) := by decide +kernel
theorem dX0_waysOf_7 : decode cX0_waysOf 7 = .ok (.getfield 24, 3) := by decide +kernel
theorem dX0_waysOf_10 : decode cX0_waysOf 10 = .ok (.imul, 1) := by decide +kernel
theorem dX0_waysOf_11 : decode cX0_waysOf 11 = .ok (.istore_n 3, 1) := by decide +kernel
theorem dX0_waysOf_12 : decode cX0_waysOf 12 = .ok (.iconst 0, 1) := by decide +kernel
theorem dX0_waysOf_13 : decode cX0_waysOf 13 = .ok (.istore 4, 2) := by decide +kernel
theorem dX0_waysOf_15 : decode cX0_waysOf 15 = .ok (.iload 4, 2) := by decide +kernel
theorem dX0_waysOf_17 : decode cX0_waysOf 17 = .ok (.iload_n 3, 1) := by decide +kernel
theorem dX0_waysOf_18 : decode cX0_waysOf 18 = .ok (.if_icmp .ge 48, 3) := by decide +kernel
theorem dX0_waysOf_21 : decode cX0_waysOf 21 = .ok (.aload_n 0, 1) := by decide +kernel
theorem dX0_waysOf_22 : decode cX0_waysOf 22 = .ok (.iload 4, 2) := by decide +kernel
theorem dX0_waysOf_24 : decode cX0_waysOf 24 = .ok (.invokevirtual 62, 3) := by decide +kernel
theorem dX0_waysOf_27 : decode cX0_waysOf 27 = .ok (.iload_n 1, 1) := by decide +kernel
theorem dX0_waysOf_28 : decode cX0_waysOf 28 = .ok (.if_icmp .ne 32, 3) := by decide +kernel
theorem dX0_waysOf_31 : decode cX0_waysOf 31 = .ok (.iconst 0, 1) := by decide +kernel
theorem dX0_waysOf_32 : decode cX0_waysOf 32 = .ok (.istore 5, 2) := by decide +kernel
theorem dX0_waysOf_34 : decode cX0_waysOf 34 = .ok (.iload 5, 2) := by decide +kernel
theorem dX0_waysOf_36 : decode cX0_waysOf 36 = .ok (.iload_n 3, 1) := by decide +kernel
theorem dX0_waysOf_37 : decode cX0_waysOf 37 = .ok (.if_icmp .ge 23, 3) := by decide +kernel
theorem dX0_waysOf_40 : decode cX0_waysOf 40 = .ok (.aload_n 0, 1) := by decide +kernel
theorem dX0_waysOf_41 : decode cX0_waysOf 41 = .ok (.iload 4, 2) := by decide +kernel
theorem dX0_waysOf_43 : decode cX0_waysOf 43 = .ok (.iload 5, 2) := by decide +kernel
theorem dX0_waysOf_45 : decode cX0_waysOf 45 = .ok (.invokevirtual 70, 3) := by decide +kernel
theorem dX0_waysOf_48 : decode cX0_waysOf 48 = .ok (.ifCond .eq 6, 3) := by decide +kernel
theorem dX0_waysOf_51 : decode cX0_waysOf 51 = .ok (.iinc 2 1, 3) := by decide +kernel
theorem dX0_waysOf_54 : decode cX0_waysOf 54 = .ok (.iinc 5 1, 3) := by decide +kernel
theorem dX0_waysOf_57 : decode cX0_waysOf 57 = .ok (.goto (-23), 3) := by decide +kernel
theorem dX0_waysOf_60 : decode cX0_waysOf 60 = .ok (.iinc 4 1, 3) := by decide +kernel
theorem dX0_waysOf_63 : decode cX0_waysOf 63 = .ok (.goto (-48), 3) := by decide +kernel
theorem dX0_waysOf_66 : decode cX0_waysOf 66 = .ok (.iload_n 2, 1) := by decide +kernel
theorem dX0_waysOf_67 : decode cX0_waysOf 67 = .ok (.ireturn, 1) := by decide +kernel
theorem dX0_play_0 : decode cX0_play 0 = .ok (.iload_n 1, 1) := by decide +kernel
theorem dX0_play_1 : decode cX0_play 1 = .ok (.invokestatic 74, 3) := by decide +kernel
theorem dX0_play_4 : decode cX0_play 4 = .ok (.istore_n 2, 1) := by decide +kernel
theorem dX0_play_5 : decode cX0_play 5 = .ok (.iload_n 1, 1) := by decide +kernel
theorem dX0_play_6 : decode cX0_play 6 = .ok (.invokestatic 77, 3) := by decide +kernel
theorem dX0_play_9 : decode cX0_play 9 = .ok (.istore_n 3, 1) := by decide +kernel
theorem dX0_play_10 : decode cX0_play 10 = .ok (.aload_n 0, 1) := by decide +kernel
theorem dX0_play_11 : decode cX0_play 11 = .ok (.iload_n 2, 1) := by decide +kernel
theorem dX0_play_12 : decode cX0_play 12 = .ok (.invokevirtual 62, 3) := by decide +kernel
theorem dX0_play_15 : decode cX0_play 15 = .ok (.istore 4, 2) := by decide +kernel
theorem dX0_play_17 : decode cX0_play 17 = .ok (.aload_n 0, 1) := by decide +kernel
theorem dX0_play_18 : decode cX0_play 18 = .ok (.iload_n 3, 1) := by decide +kernel
theorem dX0_play_19 : decode cX0_play 19 = .ok (.invokevirtual 62, 3) := by decide +kernel
theorem dX0_play_22 : decode cX0_play 22 = .ok (.istore 5, 2) := by decide +kernel
theorem dX0_play_24 : decode cX0_play 24 = .ok (.iload 5, 2) := by decide +kernel
theorem dX0_play_26 : decode cX0_play 26 = .ok (.iconst (-1), 1) := by decide +kernel
theorem dX0_play_27 : decode cX0_play 27 = .ok (.if_icmp .eq 33, 3) := by decide +kernel
theorem dX0_play_30 : decode cX0_play 30 = .ok (.aload_n 0, 1) := by decide +kernel
theorem dX0_play_31 : decode cX0_play 31 = .ok (.getfield 15, 3) := by decide +kernel
theorem dX0_play_34 : decode cX0_play 34 = .ok (.iload 5, 2) := by decide +kernel
theorem dX0_play_36 : decode cX0_play 36 = .ok (.aload_n 0, 1) := by decide +kernel
theorem dX0_play_37 : decode cX0_play 37 = .ok (.getfield 15, 3) := by decide +kernel
theorem dX0_play_40 : decode cX0_play 40 = .ok (.iload 5, 2) := by decide +kernel
theorem dX0_play_42 : decode cX0_play 42 = .ok (.invokestatic 54, 3) := by decide +kernel
theorem dX0_play_45 : decode cX0_play 45 = .ok (.iconst 1, 1) := by decide +kernel
theorem dX0_play_46 : decode cX0_play 46 = .ok (.isub, 1) := by decide +kernel
theorem dX0_play_47 : decode cX0_play 47 = .ok (.invokestatic 50, 3) := by decide +kernel
theorem dX0_play_50 : decode cX0_play 50 = .ok (.aload_n 0, 1) := by decide +kernel
theorem dX0_play_51 : decode cX0_play 51 = .ok (.dup, 1) := by decide +kernel
theorem dX0_play_52 : decode cX0_play 52 = .ok (.getfield 34, 3) := by decide +kernel
theorem dX0_play_55 : decode cX0_play 55 = .ok (.iconst 1, 1) := by decide +kernel
theorem dX0_play_56 : decode cX0_play 56 = .ok (.iadd, 1) := by decide +kernel
theorem dX0_play_57 : decode cX0_play 57 = .ok (.putfield 34, 3) := by decide +kernel
theorem dX0_play_60 : decode cX0_play 60 = .ok (.aload_n 0, 1) := by decide +kernel
theorem dX0_play_61 : decode cX0_play 61 = .ok (.getfield 9, 3) := by decide +kernel
theorem dX0_play_64 : decode cX0_play 64 = .ok (.iload_n 2, 1) := by decide +kernel
theorem dX0_play_65 : decode cX0_play 65 = .ok (.iconst (-1), 1) := by decide +kernel
theorem dX0_play_66 : decode cX0_play 66 = .ok (.invokestatic 50, 3) := by decide +kernel
theorem dX0_play_69 : decode cX0_play 69 = .ok (.aload_n 0, 1) := by decide +kernel
theorem dX0_play_70 : decode cX0_play 70 = .ok (.getfield 9, 3) := by decide +kernel
theorem dX0_play_73 : decode cX0_play 73 = .ok (.iload_n 3, 1) := by decide +kernel
theorem dX0_play_74 : decode cX0_play 74 = .ok (.iload 4, 2) := by decide +kernel
theorem dX0_play_76 : decode cX0_play 76 = .ok (.invokestatic 50, 3) := by decide +kernel
theorem dX0_play_79 : decode cX0_play 79 = .ok (.aload_n 0, 1) := by decide +kernel
theorem dX0_play_80 : decode cX0_play 80 = .ok (.dup, 1) := by decide +kernel
theorem dX0_play_81 : decode cX0_play 81 = .ok (.getfield 31, 3) := by decide +kernel
theorem dX0_play_84 : decode cX0_play 84 = .ok (.iconst 1, 1) := by decide +kernel
theorem dX0_play_85 : decode cX0_play 85 = .ok (.iadd, 1) := by decide +kernel
theorem dX0_play_86 : decode cX0_play 86 = .ok (.putfield 31, 3) := by decide +kernel
theorem dX0_play_89 : decode cX0_play 89 = .ok (.aload_n 0, 1) := by decide +kernel
theorem dX0_play_90 : decode cX0_play 90 = .ok (.getfield 18, 3) := by decide +kernel
theorem dX0_play_93 : decode cX0_play 93 = .ok (.aload_n 0, 1) := by decide +kernel
theorem dX0_play_94 : decode cX0_play 94 = .ok (.getfield 31, 3) := by decide +kernel
theorem dX0_play_97 : decode cX0_play 97 = .ok (.iload_n 1, 1) := by decide +kernel
theorem dX0_play_98 : decode cX0_play 98 = .ok (.invokestatic 50, 3) := by decide +kernel
theorem dX0_play_101 : decode cX0_play 101 = .ok (.aload_n 0, 1) := by decide +kernel
theorem dX0_play_102 : decode cX0_play 102 = .ok (.getfield 21, 3) := by decide +kernel
theorem dX0_play_105 : decode cX0_play 105 = .ok (.aload_n 0, 1) := by decide +kernel
theorem dX0_play_106 : decode cX0_play 106 = .ok (.getfield 31, 3) := by decide +kernel
theorem dX0_play_109 : decode cX0_play 109 = .ok (.iload 5, 2) := by decide +kernel
theorem dX0_play_111 : decode cX0_play 111 = .ok (.iconst (-1), 1) := by decide +kernel
theorem dX0_play_112 : decode cX0_play 112 = .ok (.if_icmp .ne 7, 3) := by decide +kernel
theorem dX0_play_115 : decode cX0_play 115 = .ok (.iconst 0, 1) := by decide +kernel
theorem dX0_play_116 : decode cX0_play 116 = .ok (.goto 4, 3) := by decide +kernel
theorem dX0_play_119 : decode cX0_play 119 = .ok (.iconst 1, 1) := by decide +kernel
theorem dX0_play_120 : decode cX0_play 120 = .ok (.invokestatic 50, 3) := by decide +kernel
theorem dX0_play_123 : decode cX0_play 123 = .ok (.return_, 1) := by decide +kernel
theorem dX0_agreesWith_0 : decode cX0_agreesWith 0 = .ok (.aload_n 0, 1) := by decide +kernel
theorem dX0_agreesWith_1 : decode cX0_agreesWith 1 = .ok (.getfield 31, 3) := by decide +kernel
theorem dX0_agreesWith_4 : decode cX0_agreesWith 4 = .ok (.aload_n 1, 1) := by decide +kernel
theorem dX0_agreesWith_5 : decode cX0_agreesWith 5 = .ok (.getfield 31, 3) := by decide +kernel
theorem dX0_agreesWith_8 : decode cX0_agreesWith 8 = .ok (.if_icmp .eq 5, 3) := by decide +kernel
theorem dX0_agreesWith_11 : decode cX0_agreesWith 11 = .ok (.iconst 0, 1) := by decide +kernel
theorem dX0_agreesWith_12 : decode cX0_agreesWith 12 = .ok (.ireturn, 1) := by decide +kernel
theorem dX0_agreesWith_13 : decode cX0_agreesWith 13 = .ok (.iconst 0, 1) := by decide +kernel
theorem dX0_agreesWith_14 : decode cX0_agreesWith 14 = .ok (.istore_n 2, 1) := by decide +kernel
theorem dX0_agreesWith_15 : decode cX0_agreesWith 15 = .ok (.iload_n 2, 1) := by decide +kernel
theorem dX0_agreesWith_16 : decode cX0_agreesWith 16 = .ok (.bipush 64, 2) := by decide +kernel
theorem dX0_agreesWith_18 : decode cX0_agreesWith 18 = .ok (.if_icmp .ge 24, 3) := by decide +kernel
theorem dX0_agreesWith_21 : decode cX0_agreesWith 21 = .ok (.aload_n 0, 1) := by decide +kernel
theorem dX0_agreesWith_22 : decode cX0_agreesWith 22 = .ok (.iload_n 2, 1) := by decide +kernel
theorem dX0_agreesWith_23 : decode cX0_agreesWith 23 = .ok (.invokevirtual 62, 3) := by decide +kernel
theorem dX0_agreesWith_26 : decode cX0_agreesWith 26 = .ok (.aload_n 1, 1) := by decide +kernel
theorem dX0_agreesWith_27 : decode cX0_agreesWith 27 = .ok (.iload_n 2, 1) := by decide +kernel
theorem dX0_agreesWith_28 : decode cX0_agreesWith 28 = .ok (.invokevirtual 62, 3) := by decide +kernel
theorem dX0_agreesWith_31 : decode cX0_agreesWith 31 = .ok (.if_icmp .eq 5, 3) := by decide +kernel
theorem dX0_agreesWith_34 : decode cX0_agreesWith 34 = .ok (.iconst 0, 1) := by decide +kernel
theorem dX0_agreesWith_35 : decode cX0_agreesWith 35 = .ok (.ireturn, 1) := by decide +kernel
theorem dX0_agreesWith_36 : decode cX0_agreesWith 36 = .ok (.iinc 2 1, 3) := by decide +kernel
theorem dX0_agreesWith_39 : decode cX0_agreesWith 39 = .ok (.goto (-24), 3) := by decide +kernel
theorem dX0_agreesWith_42 : decode cX0_agreesWith 42 = .ok (.iconst 1, 1) := by decide +kernel
theorem dX0_agreesWith_43 : decode cX0_agreesWith 43 = .ok (.ireturn, 1) := by decide +kernel
theorem dX0_differencesFrom_0 : decode cX0_differencesFrom 0 = .ok (.iconst 0, 1) := by decide +kernel
theorem dX0_differencesFrom_1 : decode cX0_differencesFrom 1 = .ok (.istore_n 2, 1) := by decide +kernel
theorem dX0_differencesFrom_2 : decode cX0_differencesFrom 2 = .ok (.aload_n 0, 1) := by decide +kernel
theorem dX0_differencesFrom_3 : decode cX0_differencesFrom 3 = .ok (.getfield 31, 3) := by decide +kernel
theorem dX0_differencesFrom_6 : decode cX0_differencesFrom 6 = .ok (.aload_n 1, 1) := by decide +kernel
theorem dX0_differencesFrom_7 : decode cX0_differencesFrom 7 = .ok (.getfield 31, 3) := by decide +kernel
theorem dX0_differencesFrom_10 : decode cX0_differencesFrom 10 = .ok (.invokestatic 80, 3) := by decide +kernel
theorem dX0_differencesFrom_13 : decode cX0_differencesFrom 13 = .ok (.istore_n 3, 1) := by decide +kernel
theorem dX0_differencesFrom_14 : decode cX0_differencesFrom 14 = .ok (.iconst 1, 1) := by decide +kernel
theorem dX0_differencesFrom_15 : decode cX0_differencesFrom 15 = .ok (.istore 4, 2) := by decide +kernel
theorem dX0_differencesFrom_17 : decode cX0_differencesFrom 17 = .ok (.iload 4, 2) := by decide +kernel
theorem dX0_differencesFrom_19 : decode cX0_differencesFrom 19 = .ok (.iload_n 3, 1) := by decide +kernel
theorem dX0_differencesFrom_20 : decode cX0_differencesFrom 20 = .ok (.if_icmp .gt 27, 3) := by decide +kernel
theorem dX0_differencesFrom_23 : decode cX0_differencesFrom 23 = .ok (.aload_n 0, 1) := by decide +kernel
theorem dX0_differencesFrom_24 : decode cX0_differencesFrom 24 = .ok (.iload 4, 2) := by decide +kernel
theorem dX0_differencesFrom_26 : decode cX0_differencesFrom 26 = .ok (.invokevirtual 84, 3) := by decide +kernel
theorem dX0_differencesFrom_29 : decode cX0_differencesFrom 29 = .ok (.aload_n 1, 1) := by decide +kernel
theorem dX0_differencesFrom_30 : decode cX0_differencesFrom 30 = .ok (.iload 4, 2) := by decide +kernel
theorem dX0_differencesFrom_32 : decode cX0_differencesFrom 32 = .ok (.invokevirtual 84, 3) := by decide +kernel
theorem dX0_differencesFrom_35 : decode cX0_differencesFrom 35 = .ok (.if_icmp .eq 6, 3) := by decide +kernel
theorem dX0_differencesFrom_38 : decode cX0_differencesFrom 38 = .ok (.iinc 2 1, 3) := by decide +kernel
theorem dX0_differencesFrom_41 : decode cX0_differencesFrom 41 = .ok (.iinc 4 1, 3) := by decide +kernel
theorem dX0_differencesFrom_44 : decode cX0_differencesFrom 44 = .ok (.goto (-27), 3) := by decide +kernel
theorem dX0_differencesFrom_47 : decode cX0_differencesFrom 47 = .ok (.iload_n 2, 1) := by decide +kernel
theorem dX0_differencesFrom_48 : decode cX0_differencesFrom 48 = .ok (.ireturn, 1) := by decide +kernel
theorem dX0_bishopsAstray_0 : decode cX0_bishopsAstray 0 = .ok (.iconst 0, 1) := by decide +kernel
theorem dX0_bishopsAstray_1 : decode cX0_bishopsAstray 1 = .ok (.istore_n 1, 1) := by decide +kernel
theorem dX0_bishopsAstray_2 : decode cX0_bishopsAstray 2 = .ok (.iconst 0, 1) := by decide +kernel
theorem dX0_bishopsAstray_3 : decode cX0_bishopsAstray 3 = .ok (.istore_n 2, 1) := by decide +kernel
theorem dX0_bishopsAstray_4 : decode cX0_bishopsAstray 4 = .ok (.iload_n 2, 1) := by decide +kernel
theorem dX0_bishopsAstray_5 : decode cX0_bishopsAstray 5 = .ok (.bipush 64, 2) := by decide +kernel
theorem dX0_bishopsAstray_7 : decode cX0_bishopsAstray 7 = .ok (.if_icmp .ge 21, 3) := by decide +kernel
theorem dX0_bishopsAstray_10 : decode cX0_bishopsAstray 10 = .ok (.aload_n 0, 1) := by decide +kernel
theorem dX0_bishopsAstray_11 : decode cX0_bishopsAstray 11 = .ok (.iload_n 2, 1) := by decide +kernel
theorem dX0_bishopsAstray_12 : decode cX0_bishopsAstray 12 = .ok (.invokevirtual 62, 3) := by decide +kernel
theorem dX0_bishopsAstray_15 : decode cX0_bishopsAstray 15 = .ok (.iconst (-1), 1) := by decide +kernel
theorem dX0_bishopsAstray_16 : decode cX0_bishopsAstray 16 = .ok (.if_icmp .eq 6, 3) := by decide +kernel
theorem dX0_bishopsAstray_19 : decode cX0_bishopsAstray 19 = .ok (.iinc 1 1, 3) := by decide +kernel
theorem dX0_bishopsAstray_22 : decode cX0_bishopsAstray 22 = .ok (.iinc 2 1, 3) := by decide +kernel
theorem dX0_bishopsAstray_25 : decode cX0_bishopsAstray 25 = .ok (.goto (-21), 3) := by decide +kernel
theorem dX0_bishopsAstray_28 : decode cX0_bishopsAstray 28 = .ok (.aload_n 0, 1) := by decide +kernel
theorem dX0_bishopsAstray_29 : decode cX0_bishopsAstray 29 = .ok (.getfield 37, 3) := by decide +kernel
theorem dX0_bishopsAstray_32 : decode cX0_bishopsAstray 32 = .ok (.iload_n 1, 1) := by decide +kernel
theorem dX0_bishopsAstray_33 : decode cX0_bishopsAstray 33 = .ok (.aload_n 0, 1) := by decide +kernel
theorem dX0_bishopsAstray_34 : decode cX0_bishopsAstray 34 = .ok (.getfield 34, 3) := by decide +kernel
theorem dX0_bishopsAstray_37 : decode cX0_bishopsAstray 37 = .ok (.iadd, 1) := by decide +kernel
theorem dX0_bishopsAstray_38 : decode cX0_bishopsAstray 38 = .ok (.isub, 1) := by decide +kernel
theorem dX0_bishopsAstray_39 : decode cX0_bishopsAstray 39 = .ok (.invokestatic 65, 3) := by decide +kernel
theorem dX0_bishopsAstray_42 : decode cX0_bishopsAstray 42 = .ok (.ireturn, 1) := by decide +kernel
theorem dX1_init_0 : decode cX1_init 0 = .ok (.aload_n 0, 1) := by decide +kernel
theorem dX1_init_1 : decode cX1_init 1 = .ok (.invokespecial 3, 3) := by decide +kernel
theorem dX1_init_4 : decode cX1_init 4 = .ok (.aload_n 0, 1) := by decide +kernel
theorem dX1_init_5 : decode cX1_init 5 = .ok (.new 9, 3) := by decide +kernel
theorem dX1_init_8 : decode cX1_init 8 = .ok (.dup, 1) := by decide +kernel
theorem dX1_init_9 : decode cX1_init 9 = .ok (.invokespecial 11, 3) := by decide +kernel
theorem dX1_init_12 : decode cX1_init 12 = .ok (.putfield 12, 3) := by decide +kernel
theorem dX1_init_15 : decode cX1_init 15 = .ok (.aload_n 0, 1) := by decide +kernel
theorem dX1_init_16 : decode cX1_init 16 = .ok (.bipush 61, 2) := by decide +kernel
theorem dX1_init_18 : decode cX1_init 18 = .ok (.newarray .int, 2) := by decide +kernel
theorem dX1_init_20 : decode cX1_init 20 = .ok (.putfield 18, 3) := by decide +kernel
theorem dX1_init_23 : decode cX1_init 23 = .ok (.aload_n 0, 1) := by decide +kernel
theorem dX1_init_24 : decode cX1_init 24 = .ok (.bipush 61, 2) := by decide +kernel
theorem dX1_init_26 : decode cX1_init 26 = .ok (.newarray .int, 2) := by decide +kernel
theorem dX1_init_28 : decode cX1_init 28 = .ok (.putfield 22, 3) := by decide +kernel
theorem dX1_init_31 : decode cX1_init 31 = .ok (.aload_n 0, 1) := by decide +kernel
theorem dX1_init_32 : decode cX1_init 32 = .ok (.bipush 61, 2) := by decide +kernel
theorem dX1_init_34 : decode cX1_init 34 = .ok (.newarray .int, 2) := by decide +kernel
theorem dX1_init_36 : decode cX1_init 36 = .ok (.putfield 25, 3) := by decide +kernel
theorem dX1_init_39 : decode cX1_init 39 = .ok (.aload_n 0, 1) := by decide +kernel
theorem dX1_init_40 : decode cX1_init 40 = .ok (.iload_n 1, 1) := by decide +kernel
theorem dX1_init_41 : decode cX1_init 41 = .ok (.putfield 28, 3) := by decide +kernel
theorem dX1_init_44 : decode cX1_init 44 = .ok (.return_, 1) := by decide +kernel
theorem dX1_clear_0 : decode cX1_clear 0 = .ok (.aload_n 0, 1) := by decide +kernel
theorem dX1_clear_1 : decode cX1_clear 1 = .ok (.getfield 12, 3) := by decide +kernel
theorem dX1_clear_4 : decode cX1_clear 4 = .ok (.iload_n 1, 1) := by decide +kernel
theorem dX1_clear_5 : decode cX1_clear 5 = .ok (.iload_n 2, 1) := by decide +kernel
theorem dX1_clear_6 : decode cX1_clear 6 = .ok (.invokevirtual 32, 3) := by decide +kernel
theorem dX1_clear_9 : decode cX1_clear 9 = .ok (.aload_n 0, 1) := by decide +kernel
theorem dX1_clear_10 : decode cX1_clear 10 = .ok (.getfield 18, 3) := by decide +kernel
theorem dX1_clear_13 : decode cX1_clear 13 = .ok (.iconst (-1), 1) := by decide +kernel
theorem dX1_clear_14 : decode cX1_clear 14 = .ok (.invokestatic 36, 3) := by decide +kernel
theorem dX1_clear_17 : decode cX1_clear 17 = .ok (.aload_n 0, 1) := by decide +kernel
theorem dX1_clear_18 : decode cX1_clear 18 = .ok (.getfield 22, 3) := by decide +kernel
theorem dX1_clear_21 : decode cX1_clear 21 = .ok (.iconst (-1), 1) := by decide +kernel
theorem dX1_clear_22 : decode cX1_clear 22 = .ok (.invokestatic 36, 3) := by decide +kernel
theorem dX1_clear_25 : decode cX1_clear 25 = .ok (.aload_n 0, 1) := by decide +kernel
theorem dX1_clear_26 : decode cX1_clear 26 = .ok (.getfield 25, 3) := by decide +kernel
theorem dX1_clear_29 : decode cX1_clear 29 = .ok (.iconst (-1), 1) := by decide +kernel
theorem dX1_clear_30 : decode cX1_clear 30 = .ok (.invokestatic 36, 3) := by decide +kernel
theorem dX1_clear_33 : decode cX1_clear 33 = .ok (.aload_n 0, 1) := by decide +kernel
theorem dX1_clear_34 : decode cX1_clear 34 = .ok (.iconst 0, 1) := by decide +kernel
theorem dX1_clear_35 : decode cX1_clear 35 = .ok (.putfield 42, 3) := by decide +kernel
theorem dX1_clear_38 : decode cX1_clear 38 = .ok (.aload_n 0, 1) := by decide +kernel
theorem dX1_clear_39 : decode cX1_clear 39 = .ok (.iconst 0, 1) := by decide +kernel
theorem dX1_clear_40 : decode cX1_clear 40 = .ok (.putfield 45, 3) := by decide +kernel
theorem dX1_clear_43 : decode cX1_clear 43 = .ok (.aload_n 0, 1) := by decide +kernel
theorem dX1_clear_44 : decode cX1_clear 44 = .ok (.iconst (-1), 1) := by decide +kernel
theorem dX1_clear_45 : decode cX1_clear 45 = .ok (.putfield 48, 3) := by decide +kernel
theorem dX1_clear_48 : decode cX1_clear 48 = .ok (.aload_n 0, 1) := by decide +kernel
theorem dX1_clear_49 : decode cX1_clear 49 = .ok (.iconst 0, 1) := by decide +kernel
theorem dX1_clear_50 : decode cX1_clear 50 = .ok (.putfield 51, 3) := by decide +kernel
theorem dX1_clear_53 : decode cX1_clear 53 = .ok (.aload_n 0, 1) := by decide +kernel
theorem dX1_clear_54 : decode cX1_clear 54 = .ok (.iconst 0, 1) := by decide +kernel
theorem dX1_clear_55 : decode cX1_clear 55 = .ok (.putfield 54, 3) := by decide +kernel
theorem dX1_clear_58 : decode cX1_clear 58 = .ok (.aload_n 0, 1) := by decide +kernel
theorem dX1_clear_59 : decode cX1_clear 59 = .ok (.iconst 0, 1) := by decide +kernel
theorem dX1_clear_60 : decode cX1_clear 60 = .ok (.putfield 57, 3) := by decide +kernel
theorem dX1_clear_63 : decode cX1_clear 63 = .ok (.return_, 1) := by decide +kernel
theorem dX1_copyFrom_0 : decode cX1_copyFrom 0 = .ok (.aload_n 0, 1) := by decide +kernel
theorem dX1_copyFrom_1 : decode cX1_copyFrom 1 = .ok (.getfield 12, 3) := by decide +kernel
theorem dX1_copyFrom_4 : decode cX1_copyFrom 4 = .ok (.aload_n 1, 1) := by decide +kernel
theorem dX1_copyFrom_5 : decode cX1_copyFrom 5 = .ok (.getfield 12, 3) := by decide +kernel
theorem dX1_copyFrom_8 : decode cX1_copyFrom 8 = .ok (.invokevirtual 60, 3) := by decide +kernel
theorem dX1_copyFrom_11 : decode cX1_copyFrom 11 = .ok (.aload_n 1, 1) := by decide +kernel
theorem dX1_copyFrom_12 : decode cX1_copyFrom 12 = .ok (.getfield 18, 3) := by decide +kernel
theorem dX1_copyFrom_15 : decode cX1_copyFrom 15 = .ok (.aload_n 0, 1) := by decide +kernel
theorem dX1_copyFrom_16 : decode cX1_copyFrom 16 = .ok (.getfield 18, 3) := by decide +kernel
theorem dX1_copyFrom_19 : decode cX1_copyFrom 19 = .ok (.invokestatic 64, 3) := by decide +kernel
theorem dX1_copyFrom_22 : decode cX1_copyFrom 22 = .ok (.aload_n 1, 1) := by decide +kernel
theorem dX1_copyFrom_23 : decode cX1_copyFrom 23 = .ok (.getfield 22, 3) := by decide +kernel
theorem dX1_copyFrom_26 : decode cX1_copyFrom 26 = .ok (.aload_n 0, 1) := by decide +kernel
theorem dX1_copyFrom_27 : decode cX1_copyFrom 27 = .ok (.getfield 22, 3) := by decide +kernel
theorem dX1_copyFrom_30 : decode cX1_copyFrom 30 = .ok (.invokestatic 64, 3) := by decide +kernel
theorem dX1_copyFrom_33 : decode cX1_copyFrom 33 = .ok (.aload_n 1, 1) := by decide +kernel
theorem dX1_copyFrom_34 : decode cX1_copyFrom 34 = .ok (.getfield 25, 3) := by decide +kernel
theorem dX1_copyFrom_37 : decode cX1_copyFrom 37 = .ok (.aload_n 0, 1) := by decide +kernel
theorem dX1_copyFrom_38 : decode cX1_copyFrom 38 = .ok (.getfield 25, 3) := by decide +kernel
theorem dX1_copyFrom_41 : decode cX1_copyFrom 41 = .ok (.invokestatic 64, 3) := by decide +kernel
theorem dX1_copyFrom_44 : decode cX1_copyFrom 44 = .ok (.aload_n 0, 1) := by decide +kernel
theorem dX1_copyFrom_45 : decode cX1_copyFrom 45 = .ok (.aload_n 1, 1) := by decide +kernel
theorem dX1_copyFrom_46 : decode cX1_copyFrom 46 = .ok (.getfield 42, 3) := by decide +kernel
theorem dX1_copyFrom_49 : decode cX1_copyFrom 49 = .ok (.putfield 42, 3) := by decide +kernel
theorem dX1_copyFrom_52 : decode cX1_copyFrom 52 = .ok (.aload_n 0, 1) := by decide +kernel
theorem dX1_copyFrom_53 : decode cX1_copyFrom 53 = .ok (.aload_n 1, 1) := by decide +kernel
theorem dX1_copyFrom_54 : decode cX1_copyFrom 54 = .ok (.getfield 45, 3) := by decide +kernel
theorem dX1_copyFrom_57 : decode cX1_copyFrom 57 = .ok (.putfield 45, 3) := by decide +kernel
theorem dX1_copyFrom_60 : decode cX1_copyFrom 60 = .ok (.aload_n 0, 1) := by decide +kernel
theorem dX1_copyFrom_61 : decode cX1_copyFrom 61 = .ok (.aload_n 1, 1) := by decide +kernel
theorem dX1_copyFrom_62 : decode cX1_copyFrom 62 = .ok (.getfield 48, 3) := by decide +kernel
theorem dX1_copyFrom_65 : decode cX1_copyFrom 65 = .ok (.putfield 48, 3) := by decide +kernel
theorem dX1_copyFrom_68 : decode cX1_copyFrom 68 = .ok (.aload_n 0, 1) := by decide +kernel
theorem dX1_copyFrom_69 : decode cX1_copyFrom 69 = .ok (.aload_n 1, 1) := by decide +kernel
theorem dX1_copyFrom_70 : decode cX1_copyFrom 70 = .ok (.getfield 51, 3) := by decide +kernel
theorem dX1_copyFrom_73 : decode cX1_copyFrom 73 = .ok (.putfield 51, 3) := by decide +kernel
theorem dX1_copyFrom_76 : decode cX1_copyFrom 76 = .ok (.aload_n 0, 1) := by decide +kernel
theorem dX1_copyFrom_77 : decode cX1_copyFrom 77 = .ok (.aload_n 1, 1) := by decide +kernel
theorem dX1_copyFrom_78 : decode cX1_copyFrom 78 = .ok (.getfield 54, 3) := by decide +kernel
theorem dX1_copyFrom_81 : decode cX1_copyFrom 81 = .ok (.putfield 54, 3) := by decide +kernel
theorem dX1_copyFrom_84 : decode cX1_copyFrom 84 = .ok (.aload_n 0, 1) := by decide +kernel
theorem dX1_copyFrom_85 : decode cX1_copyFrom 85 = .ok (.aload_n 1, 1) := by decide +kernel
theorem dX1_copyFrom_86 : decode cX1_copyFrom 86 = .ok (.getfield 57, 3) := by decide +kernel
theorem dX1_copyFrom_89 : decode cX1_copyFrom 89 = .ok (.putfield 57, 3) := by decide +kernel
theorem dX1_copyFrom_92 : decode cX1_copyFrom 92 = .ok (.return_, 1) := by decide +kernel
theorem dX1_board_0 : decode cX1_board 0 = .ok (.aload_n 0, 1) := by decide +kernel
theorem dX1_board_1 : decode cX1_board 1 = .ok (.getfield 12, 3) := by decide +kernel
theorem dX1_board_4 : decode cX1_board 4 = .ok (.areturn, 1) := by decide +kernel
theorem dX1_storedCount_0 : decode cX1_storedCount 0 = .ok (.aload_n 0, 1) := by decide +kernel
theorem dX1_storedCount_1 : decode cX1_storedCount 1 = .ok (.getfield 42, 3) := by decide +kernel
theorem dX1_storedCount_4 : decode cX1_storedCount 4 = .ok (.ireturn, 1) := by decide +kernel
theorem dX1_keptCount_0 : decode cX1_keptCount 0 = .ok (.aload_n 0, 1) := by decide +kernel
theorem dX1_keptCount_1 : decode cX1_keptCount 1 = .ok (.getfield 45, 3) := by decide +kernel
theorem dX1_keptCount_4 : decode cX1_keptCount 4 = .ok (.ireturn, 1) := by decide +kernel
theorem dX1_waits_0 : decode cX1_waits 0 = .ok (.aload_n 0, 1) := by decide +kernel
theorem dX1_waits_1 : decode cX1_waits 1 = .ok (.getfield 51, 3) := by decide +kernel
theorem dX1_waits_4 : decode cX1_waits 4 = .ok (.ireturn, 1) := by decide +kernel
theorem dX1_waitSum_0 : decode cX1_waitSum 0 = .ok (.aload_n 0, 1) := by decide +kernel
theorem dX1_waitSum_1 : decode cX1_waitSum 1 = .ok (.getfield 54, 3) := by decide +kernel
theorem dX1_waitSum_4 : decode cX1_waitSum 4 = .ok (.ireturn, 1) := by decide +kernel
theorem dX1_longest_0 : decode cX1_longest 0 = .ok (.aload_n 0, 1) := by decide +kernel
theorem dX1_longest_1 : decode cX1_longest 1 = .ok (.getfield 57, 3) := by decide +kernel
theorem dX1_longest_4 : decode cX1_longest 4 = .ok (.ireturn, 1) := by decide +kernel
theorem dX1_mayPlay_0 : decode cX1_mayPlay 0 = .ok (.aload_n 0, 1) := by decide +kernel
theorem dX1_mayPlay_1 : decode cX1_mayPlay 1 = .ok (.getfield 12, 3) := by decide +kernel
theorem dX1_mayPlay_4 : decode cX1_mayPlay 4 = .ok (.invokevirtual 68, 3) := by decide +kernel
theorem dX1_mayPlay_7 : decode cX1_mayPlay 7 = .ok (.ifCond .ne 24, 3) := by decide +kernel
theorem dX1_mayPlay_10 : decode cX1_mayPlay 10 = .ok (.aload_n 0, 1) := by decide +kernel
theorem dX1_mayPlay_11 : decode cX1_mayPlay 11 = .ok (.getfield 12, 3) := by decide +kernel
theorem dX1_mayPlay_14 : decode cX1_mayPlay 14 = .ok (.invokevirtual 72, 3) := by decide +kernel
theorem dX1_mayPlay_17 : decode cX1_mayPlay 17 = .ok (.invokestatic 76, 3) := by decide +kernel
theorem dX1_mayPlay_20 : decode cX1_mayPlay 20 = .ok (.aload_n 0, 1) := by decide +kernel
theorem dX1_mayPlay_21 : decode cX1_mayPlay 21 = .ok (.getfield 28, 3) := by decide +kernel
theorem dX1_mayPlay_24 : decode cX1_mayPlay 24 = .ok (.if_icmp .ne 7, 3) := by decide +kernel
theorem dX1_mayPlay_27 : decode cX1_mayPlay 27 = .ok (.iconst 1, 1) := by decide +kernel
theorem dX1_mayPlay_28 : decode cX1_mayPlay 28 = .ok (.goto 4, 3) := by decide +kernel
theorem dX1_mayPlay_31 : decode cX1_mayPlay 31 = .ok (.iconst 0, 1) := by decide +kernel
theorem dX1_mayPlay_32 : decode cX1_mayPlay 32 = .ok (.ireturn, 1) := by decide +kernel
theorem dX1_hasPromise_0 : decode cX1_hasPromise 0 = .ok (.aload_n 0, 1) := by decide +kernel
theorem dX1_hasPromise_1 : decode cX1_hasPromise 1 = .ok (.getfield 25, 3) := by decide +kernel
theorem dX1_hasPromise_4 : decode cX1_hasPromise 4 = .ok (.iload_n 1, 1) := by decide +kernel
theorem dX1_hasPromise_5 : decode cX1_hasPromise 5 = .ok (.invokestatic 80, 3) := by decide +kernel
theorem dX1_hasPromise_8 : decode cX1_hasPromise 8 = .ok (.iconst (-1), 1) := by decide +kernel
theorem dX1_hasPromise_9 : decode cX1_hasPromise 9 = .ok (.if_icmp .eq 7, 3) := by decide +kernel
theorem dX1_hasPromise_12 : decode cX1_hasPromise 12 = .ok (.iconst 1, 1) := by decide +kernel
theorem dX1_hasPromise_13 : decode cX1_hasPromise 13 = .ok (.goto 4, 3) := by decide +kernel
theorem dX1_hasPromise_16 : decode cX1_hasPromise 16 = .ok (.iconst 0, 1) := by decide +kernel
theorem dX1_hasPromise_17 : decode cX1_hasPromise 17 = .ok (.ireturn, 1) := by decide +kernel
theorem dX1_keepPromise_0 : decode cX1_keepPromise 0 = .ok (.aload_n 0, 1) := by decide +kernel
theorem dX1_keepPromise_1 : decode cX1_keepPromise 1 = .ok (.getfield 22, 3) := by decide +kernel
theorem dX1_keepPromise_4 : decode cX1_keepPromise 4 = .ok (.iload_n 1, 1) := by decide +kernel
theorem dX1_keepPromise_5 : decode cX1_keepPromise 5 = .ok (.iload_n 2, 1) := by decide +kernel
theorem dX1_keepPromise_6 : decode cX1_keepPromise 6 = .ok (.invokestatic 84, 3) := by decide +kernel
theorem dX1_keepPromise_9 : decode cX1_keepPromise 9 = .ok (.aload_n 0, 1) := by decide +kernel
theorem dX1_keepPromise_10 : decode cX1_keepPromise 10 = .ok (.getfield 25, 3) := by decide +kernel
theorem dX1_keepPromise_13 : decode cX1_keepPromise 13 = .ok (.iload_n 1, 1) := by decide +kernel
theorem dX1_keepPromise_14 : decode cX1_keepPromise 14 = .ok (.iload_n 3, 1) := by decide +kernel
theorem dX1_keepPromise_15 : decode cX1_keepPromise 15 = .ok (.invokestatic 84, 3) := by decide +kernel
theorem dX1_keepPromise_18 : decode cX1_keepPromise 18 = .ok (.return_, 1) := by decide +kernel
theorem dX1_playOwn_0 : decode cX1_playOwn 0 = .ok (.aload_n 0, 1) := by decide +kernel
theorem dX1_playOwn_1 : decode cX1_playOwn 1 = .ok (.getfield 12, 3) := by decide +kernel
theorem dX1_playOwn_4 : decode cX1_playOwn 4 = .ok (.iload_n 1, 1) := by decide +kernel
theorem dX1_playOwn_5 : decode cX1_playOwn 5 = .ok (.invokevirtual 88, 3) := by decide +kernel
theorem dX1_playOwn_8 : decode cX1_playOwn 8 = .ok (.aload_n 0, 1) := by decide +kernel
theorem dX1_playOwn_9 : decode cX1_playOwn 9 = .ok (.iload_n 2, 1) := by decide +kernel
theorem dX1_playOwn_10 : decode cX1_playOwn 10 = .ok (.putfield 48, 3) := by decide +kernel
theorem dX1_playOwn_13 : decode cX1_playOwn 13 = .ok (.return_, 1) := by decide +kernel
theorem dX1_takeIn_0 : decode cX1_takeIn 0 = .ok (.iload_n 3, 1) := by decide +kernel
theorem dX1_takeIn_1 : decode cX1_takeIn 1 = .ok (.iconst (-1), 1) := by decide +kernel
theorem dX1_takeIn_2 : decode cX1_takeIn 2 = .ok (.if_icmp .eq 22, 3) := by decide +kernel
theorem dX1_takeIn_5 : decode cX1_takeIn 5 = .ok (.aload_n 0, 1) := by decide +kernel
theorem dX1_takeIn_6 : decode cX1_takeIn 6 = .ok (.iload_n 1, 1) := by decide +kernel
theorem dX1_takeIn_7 : decode cX1_takeIn 7 = .ok (.invokevirtual 92, 3) := by decide +kernel
theorem dX1_takeIn_10 : decode cX1_takeIn 10 = .ok (.ifCond .eq 5, 3) := by decide +kernel
theorem dX1_takeIn_13 : decode cX1_takeIn 13 = .ok (.iconst 0, 1) := by decide +kernel
theorem dX1_takeIn_14 : decode cX1_takeIn 14 = .ok (.ireturn, 1) := by decide +kernel
theorem dX1_takeIn_15 : decode cX1_takeIn 15 = .ok (.aload_n 0, 1) := by decide +kernel
theorem dX1_takeIn_16 : decode cX1_takeIn 16 = .ok (.iload_n 1, 1) := by decide +kernel
theorem dX1_takeIn_17 : decode cX1_takeIn 17 = .ok (.iload_n 3, 1) := by decide +kernel
theorem dX1_takeIn_18 : decode cX1_takeIn 18 = .ok (.iload_n 2, 1) := by decide +kernel
theorem dX1_takeIn_19 : decode cX1_takeIn 19 = .ok (.invokevirtual 96, 3) := by decide +kernel
theorem dX1_takeIn_22 : decode cX1_takeIn 22 = .ok (.iconst 1, 1) := by decide +kernel
theorem dX1_takeIn_23 : decode cX1_takeIn 23 = .ok (.ireturn, 1) := by decide +kernel
theorem dX1_takeIn_24 : decode cX1_takeIn 24 = .ok (.iload_n 1, 1) := by decide +kernel
theorem dX1_takeIn_25 : decode cX1_takeIn 25 = .ok (.aload_n 0, 1) := by decide +kernel
theorem dX1_takeIn_26 : decode cX1_takeIn 26 = .ok (.getfield 12, 3) := by decide +kernel
theorem dX1_takeIn_29 : decode cX1_takeIn 29 = .ok (.invokevirtual 100, 3) := by decide +kernel
theorem dX1_takeIn_32 : decode cX1_takeIn 32 = .ok (.if_icmp .le 15, 3) := by decide +kernel
theorem dX1_takeIn_35 : decode cX1_takeIn 35 = .ok (.aload_n 0, 1) := by decide +kernel
theorem dX1_takeIn_36 : decode cX1_takeIn 36 = .ok (.getfield 18, 3) := by decide +kernel
theorem dX1_takeIn_39 : decode cX1_takeIn 39 = .ok (.iload_n 1, 1) := by decide +kernel
theorem dX1_takeIn_40 : decode cX1_takeIn 40 = .ok (.invokestatic 80, 3) := by decide +kernel
theorem dX1_takeIn_43 : decode cX1_takeIn 43 = .ok (.iconst (-1), 1) := by decide +kernel
theorem dX1_takeIn_44 : decode cX1_takeIn 44 = .ok (.if_icmp .eq 5, 3) := by decide +kernel
theorem dX1_takeIn_47 : decode cX1_takeIn 47 = .ok (.iconst 0, 1) := by decide +kernel
theorem dX1_takeIn_48 : decode cX1_takeIn 48 = .ok (.ireturn, 1) := by decide +kernel
theorem dX1_takeIn_49 : decode cX1_takeIn 49 = .ok (.aload_n 0, 1) := by decide +kernel
theorem dX1_takeIn_50 : decode cX1_takeIn 50 = .ok (.getfield 18, 3) := by decide +kernel
theorem dX1_takeIn_53 : decode cX1_takeIn 53 = .ok (.iload_n 1, 1) := by decide +kernel
theorem dX1_takeIn_54 : decode cX1_takeIn 54 = .ok (.iload_n 2, 1) := by decide +kernel
theorem dX1_takeIn_55 : decode cX1_takeIn 55 = .ok (.invokestatic 84, 3) := by decide +kernel
theorem dX1_takeIn_58 : decode cX1_takeIn 58 = .ok (.aload_n 0, 1) := by decide +kernel
theorem dX1_takeIn_59 : decode cX1_takeIn 59 = .ok (.dup, 1) := by decide +kernel
theorem dX1_takeIn_60 : decode cX1_takeIn 60 = .ok (.getfield 42, 3) := by decide +kernel
theorem dX1_takeIn_63 : decode cX1_takeIn 63 = .ok (.iconst 1, 1) := by decide +kernel
theorem dX1_takeIn_64 : decode cX1_takeIn 64 = .ok (.iadd, 1) := by decide +kernel
theorem dX1_takeIn_65 : decode cX1_takeIn 65 = .ok (.putfield 42, 3) := by decide +kernel
theorem dX1_takeIn_68 : decode cX1_takeIn 68 = .ok (.iconst 1, 1) := by decide +kernel
theorem dX1_takeIn_69 : decode cX1_takeIn 69 = .ok (.ireturn, 1) := by decide +kernel
theorem dX1_settle_0 : decode cX1_settle 0 = .ok (.iconst 0, 1) := by decide +kernel
theorem dX1_settle_1 : decode cX1_settle 1 = .ok (.istore_n 2, 1) := by decide +kernel
theorem dX1_settle_2 : decode cX1_settle 2 = .ok (.iload_n 2, 1) := by decide +kernel
theorem dX1_settle_3 : decode cX1_settle 3 = .ok (.bipush 60, 2) := by decide +kernel
theorem dX1_settle_5 : decode cX1_settle 5 = .ok (.if_icmp .gt 172, 3) := by decide +kernel
theorem dX1_settle_8 : decode cX1_settle 8 = .ok (.aload_n 0, 1) := by decide +kernel
theorem dX1_settle_9 : decode cX1_settle 9 = .ok (.getfield 12, 3) := by decide +kernel
theorem dX1_settle_12 : decode cX1_settle 12 = .ok (.invokevirtual 68, 3) := by decide +kernel
theorem dX1_settle_15 : decode cX1_settle 15 = .ok (.ifCond .ne 162, 3) := by decide +kernel
theorem dX1_settle_18 : decode cX1_settle 18 = .ok (.aload_n 0, 1) := by decide +kernel
theorem dX1_settle_19 : decode cX1_settle 19 = .ok (.getfield 12, 3) := by decide +kernel
theorem dX1_settle_22 : decode cX1_settle 22 = .ok (.invokevirtual 72, 3) := by decide +kernel
theorem dX1_settle_25 : decode cX1_settle 25 = .ok (.istore_n 3, 1) := by decide +kernel
theorem dX1_settle_26 : decode cX1_settle 26 = .ok (.iload_n 3, 1) := by decide +kernel
theorem dX1_settle_27 : decode cX1_settle 27 = .ok (.invokestatic 76, 3) := by decide +kernel
theorem dX1_settle_30 : decode cX1_settle 30 = .ok (.aload_n 0, 1) := by decide +kernel
theorem dX1_settle_31 : decode cX1_settle 31 = .ok (.getfield 28, 3) := by decide +kernel
theorem dX1_settle_34 : decode cX1_settle 34 = .ok (.if_icmp .ne 7, 3) := by decide +kernel
theorem dX1_settle_37 : decode cX1_settle 37 = .ok (.iconst 1, 1) := by decide +kernel
theorem dX1_settle_38 : decode cX1_settle 38 = .ok (.goto 4, 3) := by decide +kernel
theorem dX1_settle_41 : decode cX1_settle 41 = .ok (.iconst 0, 1) := by decide +kernel
theorem dX1_settle_42 : decode cX1_settle 42 = .ok (.istore 4, 2) := by decide +kernel
theorem dX1_settle_44 : decode cX1_settle 44 = .ok (.aload_n 0, 1) := by decide +kernel
theorem dX1_settle_45 : decode cX1_settle 45 = .ok (.getfield 18, 3) := by decide +kernel
theorem dX1_settle_48 : decode cX1_settle 48 = .ok (.iload_n 3, 1) := by decide +kernel
theorem dX1_settle_49 : decode cX1_settle 49 = .ok (.invokestatic 80, 3) := by decide +kernel
theorem dX1_settle_52 : decode cX1_settle 52 = .ok (.istore 5, 2) := by decide +kernel
theorem dX1_settle_54 : decode cX1_settle 54 = .ok (.iload 5, 2) := by decide +kernel
theorem dX1_settle_56 : decode cX1_settle 56 = .ok (.iconst (-1), 1) := by decide +kernel
theorem dX1_settle_57 : decode cX1_settle 57 = .ok (.if_icmp .eq 25, 3) := by decide +kernel
theorem dX1_settle_60 : decode cX1_settle 60 = .ok (.aload_n 0, 1) := by decide +kernel
theorem dX1_settle_61 : decode cX1_settle 61 = .ok (.getfield 18, 3) := by decide +kernel
theorem dX1_settle_64 : decode cX1_settle 64 = .ok (.iload_n 3, 1) := by decide +kernel
theorem dX1_settle_65 : decode cX1_settle 65 = .ok (.iconst (-1), 1) := by decide +kernel
theorem dX1_settle_66 : decode cX1_settle 66 = .ok (.invokestatic 84, 3) := by decide +kernel
theorem dX1_settle_69 : decode cX1_settle 69 = .ok (.aload_n 0, 1) := by decide +kernel
theorem dX1_settle_70 : decode cX1_settle 70 = .ok (.dup, 1) := by decide +kernel
theorem dX1_settle_71 : decode cX1_settle 71 = .ok (.getfield 42, 3) := by decide +kernel
theorem dX1_settle_74 : decode cX1_settle 74 = .ok (.iconst 1, 1) := by decide +kernel
theorem dX1_settle_75 : decode cX1_settle 75 = .ok (.isub, 1) := by decide +kernel
theorem dX1_settle_76 : decode cX1_settle 76 = .ok (.putfield 42, 3) := by decide +kernel
theorem dX1_settle_79 : decode cX1_settle 79 = .ok (.goto 65, 3) := by decide +kernel
theorem dX1_settle_82 : decode cX1_settle 82 = .ok (.aload_n 0, 1) := by decide +kernel
theorem dX1_settle_83 : decode cX1_settle 83 = .ok (.iload_n 3, 1) := by decide +kernel
theorem dX1_settle_84 : decode cX1_settle 84 = .ok (.invokevirtual 92, 3) := by decide +kernel
theorem dX1_settle_87 : decode cX1_settle 87 = .ok (.ifCond .eq 56, 3) := by decide +kernel
theorem dX1_settle_90 : decode cX1_settle 90 = .ok (.aload_n 0, 1) := by decide +kernel
theorem dX1_settle_91 : decode cX1_settle 91 = .ok (.getfield 22, 3) := by decide +kernel
theorem dX1_settle_94 : decode cX1_settle 94 = .ok (.iload_n 3, 1) := by decide +kernel
theorem dX1_settle_95 : decode cX1_settle 95 = .ok (.invokestatic 80, 3) := by decide +kernel
theorem dX1_settle_98 : decode cX1_settle 98 = .ok (.aload_n 0, 1) := by decide +kernel
theorem dX1_settle_99 : decode cX1_settle 99 = .ok (.getfield 12, 3) := by decide +kernel
theorem dX1_settle_102 : decode cX1_settle 102 = .ok (.iload_n 3, 1) := by decide +kernel
theorem dX1_settle_103 : decode cX1_settle 103 = .ok (.iconst 1, 1) := by decide +kernel
theorem dX1_settle_104 : decode cX1_settle 104 = .ok (.isub, 1) := by decide +kernel
theorem dX1_settle_105 : decode cX1_settle 105 = .ok (.invokevirtual 103, 3) := by decide +kernel
theorem dX1_settle_108 : decode cX1_settle 108 = .ok (.if_icmp .ne 35, 3) := by decide +kernel
theorem dX1_settle_111 : decode cX1_settle 111 = .ok (.aload_n 0, 1) := by decide +kernel
theorem dX1_settle_112 : decode cX1_settle 112 = .ok (.getfield 25, 3) := by decide +kernel
theorem dX1_settle_115 : decode cX1_settle 115 = .ok (.iload_n 3, 1) := by decide +kernel
theorem dX1_settle_116 : decode cX1_settle 116 = .ok (.invokestatic 80, 3) := by decide +kernel
theorem dX1_settle_119 : decode cX1_settle 119 = .ok (.istore 5, 2) := by decide +kernel
theorem dX1_settle_121 : decode cX1_settle 121 = .ok (.aload_n 0, 1) := by decide +kernel
theorem dX1_settle_122 : decode cX1_settle 122 = .ok (.dup, 1) := by decide +kernel
theorem dX1_settle_123 : decode cX1_settle 123 = .ok (.getfield 45, 3) := by decide +kernel
theorem dX1_settle_126 : decode cX1_settle 126 = .ok (.iload 4, 2) := by decide +kernel
theorem dX1_settle_128 : decode cX1_settle 128 = .ok (.ifCond .eq 7, 3) := by decide +kernel
theorem dX1_settle_131 : decode cX1_settle 131 = .ok (.iconst 1, 1) := by decide +kernel
theorem dX1_settle_132 : decode cX1_settle 132 = .ok (.goto 4, 3) := by decide +kernel
theorem dX1_settle_135 : decode cX1_settle 135 = .ok (.iconst 0, 1) := by decide +kernel
theorem dX1_settle_136 : decode cX1_settle 136 = .ok (.iadd, 1) := by decide +kernel
theorem dX1_settle_137 : decode cX1_settle 137 = .ok (.putfield 45, 3) := by decide +kernel
theorem dX1_settle_140 : decode cX1_settle 140 = .ok (.goto 4, 3) := by decide +kernel
theorem dX1_settle_143 : decode cX1_settle 143 = .ok (.return_, 1) := by decide +kernel
theorem dX1_settle_144 : decode cX1_settle 144 = .ok (.aload_n 0, 1) := by decide +kernel
theorem dX1_settle_145 : decode cX1_settle 145 = .ok (.getfield 12, 3) := by decide +kernel
theorem dX1_settle_148 : decode cX1_settle 148 = .ok (.iload 5, 2) := by decide +kernel
theorem dX1_settle_150 : decode cX1_settle 150 = .ok (.invokevirtual 88, 3) := by decide +kernel
theorem dX1_settle_153 : decode cX1_settle 153 = .ok (.iload 4, 2) := by decide +kernel
theorem dX1_settle_155 : decode cX1_settle 155 = .ok (.ifCond .eq 11, 3) := by decide +kernel
theorem dX1_settle_158 : decode cX1_settle 158 = .ok (.aload_n 0, 1) := by decide +kernel
theorem dX1_settle_159 : decode cX1_settle 159 = .ok (.iload_n 1, 1) := by decide +kernel
theorem dX1_settle_160 : decode cX1_settle 160 = .ok (.putfield 48, 3) := by decide +kernel
theorem dX1_settle_163 : decode cX1_settle 163 = .ok (.goto 8, 3) := by decide +kernel
theorem dX1_settle_166 : decode cX1_settle 166 = .ok (.aload_n 0, 1) := by decide +kernel
theorem dX1_settle_167 : decode cX1_settle 167 = .ok (.iload_n 1, 1) := by decide +kernel
theorem dX1_settle_168 : decode cX1_settle 168 = .ok (.invokevirtual 106, 3) := by decide +kernel
theorem dX1_settle_171 : decode cX1_settle 171 = .ok (.iinc 2 1, 3) := by decide +kernel
theorem dX1_settle_174 : decode cX1_settle 174 = .ok (.goto (-172), 3) := by decide +kernel
theorem dX1_settle_177 : decode cX1_settle 177 = .ok (.return_, 1) := by decide +kernel
theorem dX1_noteWait_0 : decode cX1_noteWait 0 = .ok (.aload_n 0, 1) := by decide +kernel
theorem dX1_noteWait_1 : decode cX1_noteWait 1 = .ok (.getfield 48, 3) := by decide +kernel
theorem dX1_noteWait_4 : decode cX1_noteWait 4 = .ok (.iconst (-1), 1) := by decide +kernel
theorem dX1_noteWait_5 : decode cX1_noteWait 5 = .ok (.if_icmp .eq 45, 3) := by decide +kernel
theorem dX1_noteWait_8 : decode cX1_noteWait 8 = .ok (.aload_n 0, 1) := by decide +kernel
theorem dX1_noteWait_9 : decode cX1_noteWait 9 = .ok (.dup, 1) := by decide +kernel
theorem dX1_noteWait_10 : decode cX1_noteWait 10 = .ok (.getfield 51, 3) := by decide +kernel
theorem dX1_noteWait_13 : decode cX1_noteWait 13 = .ok (.iconst 1, 1) := by decide +kernel
theorem dX1_noteWait_14 : decode cX1_noteWait 14 = .ok (.iadd, 1) := by decide +kernel
theorem dX1_noteWait_15 : decode cX1_noteWait 15 = .ok (.putfield 51, 3) := by decide +kernel
theorem dX1_noteWait_18 : decode cX1_noteWait 18 = .ok (.aload_n 0, 1) := by decide +kernel
theorem dX1_noteWait_19 : decode cX1_noteWait 19 = .ok (.dup, 1) := by decide +kernel
theorem dX1_noteWait_20 : decode cX1_noteWait 20 = .ok (.getfield 54, 3) := by decide +kernel
theorem dX1_noteWait_23 : decode cX1_noteWait 23 = .ok (.iload_n 1, 1) := by decide +kernel
theorem dX1_noteWait_24 : decode cX1_noteWait 24 = .ok (.aload_n 0, 1) := by decide +kernel
theorem dX1_noteWait_25 : decode cX1_noteWait 25 = .ok (.getfield 48, 3) := by decide +kernel
theorem dX1_noteWait_28 : decode cX1_noteWait 28 = .ok (.isub, 1) := by decide +kernel
theorem dX1_noteWait_29 : decode cX1_noteWait 29 = .ok (.iadd, 1) := by decide +kernel
theorem dX1_noteWait_30 : decode cX1_noteWait 30 = .ok (.putfield 54, 3) := by decide +kernel
theorem dX1_noteWait_33 : decode cX1_noteWait 33 = .ok (.aload_n 0, 1) := by decide +kernel
theorem dX1_noteWait_34 : decode cX1_noteWait 34 = .ok (.aload_n 0, 1) := by decide +kernel
theorem dX1_noteWait_35 : decode cX1_noteWait 35 = .ok (.getfield 57, 3) := by decide +kernel
theorem dX1_noteWait_38 : decode cX1_noteWait 38 = .ok (.iload_n 1, 1) := by decide +kernel
theorem dX1_noteWait_39 : decode cX1_noteWait 39 = .ok (.aload_n 0, 1) := by decide +kernel
theorem dX1_noteWait_40 : decode cX1_noteWait 40 = .ok (.getfield 48, 3) := by decide +kernel
theorem dX1_noteWait_43 : decode cX1_noteWait 43 = .ok (.isub, 1) := by decide +kernel
theorem dX1_noteWait_44 : decode cX1_noteWait 44 = .ok (.invokestatic 109, 3) := by decide +kernel
theorem dX1_noteWait_47 : decode cX1_noteWait 47 = .ok (.putfield 57, 3) := by decide +kernel
theorem dX1_noteWait_50 : decode cX1_noteWait 50 = .ok (.return_, 1) := by decide +kernel
theorem dX2_init_0 : decode cX2_init 0 = .ok (.aload_n 0, 1) := by decide +kernel
theorem dX2_init_1 : decode cX2_init 1 = .ok (.invokespecial 3, 3) := by decide +kernel
theorem dX2_init_4 : decode cX2_init 4 = .ok (.aload_n 0, 1) := by decide +kernel
theorem dX2_init_5 : decode cX2_init 5 = .ok (.new 9, 3) := by decide +kernel
theorem dX2_init_8 : decode cX2_init 8 = .ok (.dup, 1) := by decide +kernel
theorem dX2_init_9 : decode cX2_init 9 = .ok (.iconst 0, 1) := by decide +kernel
theorem dX2_init_10 : decode cX2_init 10 = .ok (.invokespecial 11, 3) := by decide +kernel
theorem dX2_init_13 : decode cX2_init 13 = .ok (.putfield 14, 3) := by decide +kernel
theorem dX2_init_16 : decode cX2_init 16 = .ok (.aload_n 0, 1) := by decide +kernel
theorem dX2_init_17 : decode cX2_init 17 = .ok (.new 9, 3) := by decide +kernel
theorem dX2_init_20 : decode cX2_init 20 = .ok (.dup, 1) := by decide +kernel
theorem dX2_init_21 : decode cX2_init 21 = .ok (.iconst 1, 1) := by decide +kernel
theorem dX2_init_22 : decode cX2_init 22 = .ok (.invokespecial 11, 3) := by decide +kernel
theorem dX2_init_25 : decode cX2_init 25 = .ok (.putfield 20, 3) := by decide +kernel
theorem dX2_init_28 : decode cX2_init 28 = .ok (.aload_n 0, 1) := by decide +kernel
theorem dX2_init_29 : decode cX2_init 29 = .ok (.new 23, 3) := by decide +kernel
theorem dX2_init_32 : decode cX2_init 32 = .ok (.dup, 1) := by decide +kernel
theorem dX2_init_33 : decode cX2_init 33 = .ok (.invokespecial 25, 3) := by decide +kernel
theorem dX2_init_36 : decode cX2_init 36 = .ok (.putfield 26, 3) := by decide +kernel
theorem dX2_init_39 : decode cX2_init 39 = .ok (.aload_n 0, 1) := by decide +kernel
theorem dX2_init_40 : decode cX2_init 40 = .ok (.new 30, 3) := by decide +kernel
theorem dX2_init_43 : decode cX2_init 43 = .ok (.dup, 1) := by decide +kernel
theorem dX2_init_44 : decode cX2_init 44 = .ok (.invokespecial 32, 3) := by decide +kernel
theorem dX2_init_47 : decode cX2_init 47 = .ok (.putfield 33, 3) := by decide +kernel
theorem dX2_init_50 : decode cX2_init 50 = .ok (.return_, 1) := by decide +kernel
theorem dX2_clear_0 : decode cX2_clear 0 = .ok (.aload_n 0, 1) := by decide +kernel
theorem dX2_clear_1 : decode cX2_clear 1 = .ok (.getfield 14, 3) := by decide +kernel
theorem dX2_clear_4 : decode cX2_clear 4 = .ok (.iload_n 1, 1) := by decide +kernel
theorem dX2_clear_5 : decode cX2_clear 5 = .ok (.iload_n 2, 1) := by decide +kernel
theorem dX2_clear_6 : decode cX2_clear 6 = .ok (.invokevirtual 37, 3) := by decide +kernel
theorem dX2_clear_9 : decode cX2_clear 9 = .ok (.aload_n 0, 1) := by decide +kernel
theorem dX2_clear_10 : decode cX2_clear 10 = .ok (.getfield 20, 3) := by decide +kernel
theorem dX2_clear_13 : decode cX2_clear 13 = .ok (.iload_n 1, 1) := by decide +kernel
theorem dX2_clear_14 : decode cX2_clear 14 = .ok (.iload_n 2, 1) := by decide +kernel
theorem dX2_clear_15 : decode cX2_clear 15 = .ok (.invokevirtual 37, 3) := by decide +kernel
theorem dX2_clear_18 : decode cX2_clear 18 = .ok (.aload_n 0, 1) := by decide +kernel
theorem dX2_clear_19 : decode cX2_clear 19 = .ok (.getfield 26, 3) := by decide +kernel
theorem dX2_clear_22 : decode cX2_clear 22 = .ok (.invokevirtual 41, 3) := by decide +kernel
theorem dX2_clear_25 : decode cX2_clear 25 = .ok (.aload_n 0, 1) := by decide +kernel
theorem dX2_clear_26 : decode cX2_clear 26 = .ok (.iconst 0, 1) := by decide +kernel
theorem dX2_clear_27 : decode cX2_clear 27 = .ok (.putfield 43, 3) := by decide +kernel
theorem dX2_clear_30 : decode cX2_clear 30 = .ok (.aload_n 0, 1) := by decide +kernel
theorem dX2_clear_31 : decode cX2_clear 31 = .ok (.iconst 0, 1) := by decide +kernel
theorem dX2_clear_32 : decode cX2_clear 32 = .ok (.putfield 47, 3) := by decide +kernel
theorem dX2_clear_35 : decode cX2_clear 35 = .ok (.return_, 1) := by decide +kernel
theorem dX2_copyFrom_0 : decode cX2_copyFrom 0 = .ok (.aload_n 0, 1) := by decide +kernel
theorem dX2_copyFrom_1 : decode cX2_copyFrom 1 = .ok (.getfield 14, 3) := by decide +kernel
theorem dX2_copyFrom_4 : decode cX2_copyFrom 4 = .ok (.aload_n 1, 1) := by decide +kernel
theorem dX2_copyFrom_5 : decode cX2_copyFrom 5 = .ok (.getfield 14, 3) := by decide +kernel
theorem dX2_copyFrom_8 : decode cX2_copyFrom 8 = .ok (.invokevirtual 50, 3) := by decide +kernel
theorem dX2_copyFrom_11 : decode cX2_copyFrom 11 = .ok (.aload_n 0, 1) := by decide +kernel
theorem dX2_copyFrom_12 : decode cX2_copyFrom 12 = .ok (.getfield 20, 3) := by decide +kernel
theorem dX2_copyFrom_15 : decode cX2_copyFrom 15 = .ok (.aload_n 1, 1) := by decide +kernel
theorem dX2_copyFrom_16 : decode cX2_copyFrom 16 = .ok (.getfield 20, 3) := by decide +kernel
theorem dX2_copyFrom_19 : decode cX2_copyFrom 19 = .ok (.invokevirtual 50, 3) := by decide +kernel
theorem dX2_copyFrom_22 : decode cX2_copyFrom 22 = .ok (.aload_n 0, 1) := by decide +kernel
theorem dX2_copyFrom_23 : decode cX2_copyFrom 23 = .ok (.getfield 26, 3) := by decide +kernel
theorem dX2_copyFrom_26 : decode cX2_copyFrom 26 = .ok (.aload_n 1, 1) := by decide +kernel
theorem dX2_copyFrom_27 : decode cX2_copyFrom 27 = .ok (.getfield 26, 3) := by decide +kernel
theorem dX2_copyFrom_30 : decode cX2_copyFrom 30 = .ok (.invokevirtual 54, 3) := by decide +kernel
theorem dX2_copyFrom_33 : decode cX2_copyFrom 33 = .ok (.aload_n 0, 1) := by decide +kernel
theorem dX2_copyFrom_34 : decode cX2_copyFrom 34 = .ok (.aload_n 1, 1) := by decide +kernel
theorem dX2_copyFrom_35 : decode cX2_copyFrom 35 = .ok (.getfield 43, 3) := by decide +kernel
theorem dX2_copyFrom_38 : decode cX2_copyFrom 38 = .ok (.putfield 43, 3) := by decide +kernel
theorem dX2_copyFrom_41 : decode cX2_copyFrom 41 = .ok (.aload_n 0, 1) := by decide +kernel
theorem dX2_copyFrom_42 : decode cX2_copyFrom 42 = .ok (.aload_n 1, 1) := by decide +kernel
theorem dX2_copyFrom_43 : decode cX2_copyFrom 43 = .ok (.getfield 47, 3) := by decide +kernel
theorem dX2_copyFrom_46 : decode cX2_copyFrom 46 = .ok (.putfield 47, 3) := by decide +kernel
theorem dX2_copyFrom_49 : decode cX2_copyFrom 49 = .ok (.return_, 1) := by decide +kernel
theorem dX2_today_0 : decode cX2_today 0 = .ok (.aload_n 0, 1) := by decide +kernel
theorem dX2_today_1 : decode cX2_today 1 = .ok (.getfield 43, 3) := by decide +kernel
theorem dX2_today_4 : decode cX2_today 4 = .ok (.ireturn, 1) := by decide +kernel
theorem dX2_duplicates_0 : decode cX2_duplicates 0 = .ok (.aload_n 0, 1) := by decide +kernel
theorem dX2_duplicates_1 : decode cX2_duplicates 1 = .ok (.getfield 47, 3) := by decide +kernel
theorem dX2_duplicates_4 : decode cX2_duplicates 4 = .ok (.ireturn, 1) := by decide +kernel
theorem dX2_deskOf_0 : decode cX2_deskOf 0 = .ok (.iload_n 1, 1) := by decide +kernel
theorem dX2_deskOf_1 : decode cX2_deskOf 1 = .ok (.ifCond .ne 10, 3) := by decide +kernel
theorem dX2_deskOf_4 : decode cX2_deskOf 4 = .ok (.aload_n 0, 1) := by decide +kernel
theorem dX2_deskOf_5 : decode cX2_deskOf 5 = .ok (.getfield 14, 3) := by decide +kernel
theorem dX2_deskOf_8 : decode cX2_deskOf 8 = .ok (.goto 7, 3) := by decide +kernel
theorem dX2_deskOf_11 : decode cX2_deskOf 11 = .ok (.aload_n 0, 1) := by decide +kernel
theorem dX2_deskOf_12 : decode cX2_deskOf 12 = .ok (.getfield 20, 3) := by decide +kernel
theorem dX2_deskOf_15 : decode cX2_deskOf 15 = .ok (.areturn, 1) := by decide +kernel
theorem dX2_boardOf_0 : decode cX2_boardOf 0 = .ok (.aload_n 0, 1) := by decide +kernel
theorem dX2_boardOf_1 : decode cX2_boardOf 1 = .ok (.iload_n 1, 1) := by decide +kernel
theorem dX2_boardOf_2 : decode cX2_boardOf 2 = .ok (.invokevirtual 57, 3) := by decide +kernel
theorem dX2_boardOf_5 : decode cX2_boardOf 5 = .ok (.invokevirtual 61, 3) := by decide +kernel
theorem dX2_boardOf_8 : decode cX2_boardOf 8 = .ok (.areturn, 1) := by decide +kernel
theorem dX2_post_0 : decode cX2_post 0 = .ok (.aload_n 0, 1) := by decide +kernel
theorem dX2_post_1 : decode cX2_post 1 = .ok (.getfield 26, 3) := by decide +kernel
theorem dX2_post_4 : decode cX2_post 4 = .ok (.areturn, 1) := by decide +kernel
theorem dX2_passes_0 : decode cX2_passes 0 = .ok (.aload_n 0, 1) := by decide +kernel
theorem dX2_passes_1 : decode cX2_passes 1 = .ok (.getfield 26, 3) := by decide +kernel
theorem dX2_passes_4 : decode cX2_passes 4 = .ok (.invokevirtual 65, 3) := by decide +kernel
theorem dX2_passes_7 : decode cX2_passes 7 = .ok (.areturn, 1) := by decide +kernel
theorem dX2_isSquare_0 : decode cX2_isSquare 0 = .ok (.aload_n 0, 1) := by decide +kernel
theorem dX2_isSquare_1 : decode cX2_isSquare 1 = .ok (.iconst 0, 1) := by decide +kernel
theorem dX2_isSquare_2 : decode cX2_isSquare 2 = .ok (.invokevirtual 69, 3) := by decide +kernel
theorem dX2_isSquare_5 : decode cX2_isSquare 5 = .ok (.invokevirtual 73, 3) := by decide +kernel
theorem dX2_isSquare_8 : decode cX2_isSquare 8 = .ok (.istore_n 2, 1) := by decide +kernel
theorem dX2_isSquare_9 : decode cX2_isSquare 9 = .ok (.iload_n 1, 1) := by decide +kernel
theorem dX2_isSquare_10 : decode cX2_isSquare 10 = .ok (.ifCond .lt 14, 3) := by decide +kernel
theorem dX2_isSquare_13 : decode cX2_isSquare 13 = .ok (.iload_n 1, 1) := by decide +kernel
theorem dX2_isSquare_14 : decode cX2_isSquare 14 = .ok (.iload_n 2, 1) := by decide +kernel
theorem dX2_isSquare_15 : decode cX2_isSquare 15 = .ok (.iload_n 2, 1) := by decide +kernel
theorem dX2_isSquare_16 : decode cX2_isSquare 16 = .ok (.imul, 1) := by decide +kernel
theorem dX2_isSquare_17 : decode cX2_isSquare 17 = .ok (.if_icmp .ge 7, 3) := by decide +kernel
theorem dX2_isSquare_20 : decode cX2_isSquare 20 = .ok (.iconst 1, 1) := by decide +kernel
theorem dX2_isSquare_21 : decode cX2_isSquare 21 = .ok (.goto 4, 3) := by decide +kernel
theorem dX2_isSquare_24 : decode cX2_isSquare 24 = .ok (.iconst 0, 1) := by decide +kernel
theorem dX2_isSquare_25 : decode cX2_isSquare 25 = .ok (.ireturn, 1) := by decide +kernel
theorem dX2_boardsAgree_0 : decode cX2_boardsAgree 0 = .ok (.aload_n 0, 1) := by decide +kernel
theorem dX2_boardsAgree_1 : decode cX2_boardsAgree 1 = .ok (.iconst 0, 1) := by decide +kernel
theorem dX2_boardsAgree_2 : decode cX2_boardsAgree 2 = .ok (.invokevirtual 69, 3) := by decide +kernel
theorem dX2_boardsAgree_5 : decode cX2_boardsAgree 5 = .ok (.aload_n 0, 1) := by decide +kernel
theorem dX2_boardsAgree_6 : decode cX2_boardsAgree 6 = .ok (.iconst 1, 1) := by decide +kernel
theorem dX2_boardsAgree_7 : decode cX2_boardsAgree 7 = .ok (.invokevirtual 69, 3) := by decide +kernel
theorem dX2_boardsAgree_10 : decode cX2_boardsAgree 10 = .ok (.invokevirtual 77, 3) := by decide +kernel
theorem dX2_boardsAgree_13 : decode cX2_boardsAgree 13 = .ok (.ireturn, 1) := by decide +kernel
theorem dX2_awaitedBy_0 : decode cX2_awaitedBy 0 = .ok (.aload_n 0, 1) := by decide +kernel
theorem dX2_awaitedBy_1 : decode cX2_awaitedBy 1 = .ok (.iload_n 1, 1) := by decide +kernel
theorem dX2_awaitedBy_2 : decode cX2_awaitedBy 2 = .ok (.invokevirtual 69, 3) := by decide +kernel
theorem dX2_awaitedBy_5 : decode cX2_awaitedBy 5 = .ok (.invokevirtual 81, 3) := by decide +kernel
theorem dX2_awaitedBy_8 : decode cX2_awaitedBy 8 = .ok (.istore_n 2, 1) := by decide +kernel
theorem dX2_awaitedBy_9 : decode cX2_awaitedBy 9 = .ok (.iconst 0, 1) := by decide +kernel
theorem dX2_awaitedBy_10 : decode cX2_awaitedBy 10 = .ok (.istore_n 3, 1) := by decide +kernel
theorem dX2_awaitedBy_11 : decode cX2_awaitedBy 11 = .ok (.iload_n 3, 1) := by decide +kernel
theorem dX2_awaitedBy_12 : decode cX2_awaitedBy 12 = .ok (.aload_n 0, 1) := by decide +kernel
theorem dX2_awaitedBy_13 : decode cX2_awaitedBy 13 = .ok (.getfield 26, 3) := by decide +kernel
theorem dX2_awaitedBy_16 : decode cX2_awaitedBy 16 = .ok (.invokevirtual 84, 3) := by decide +kernel
theorem dX2_awaitedBy_19 : decode cX2_awaitedBy 19 = .ok (.if_icmp .ge 47, 3) := by decide +kernel
theorem dX2_awaitedBy_22 : decode cX2_awaitedBy 22 = .ok (.aload_n 0, 1) := by decide +kernel
theorem dX2_awaitedBy_23 : decode cX2_awaitedBy 23 = .ok (.getfield 26, 3) := by decide +kernel
theorem dX2_awaitedBy_26 : decode cX2_awaitedBy 26 = .ok (.iload_n 3, 1) := by decide +kernel
theorem dX2_awaitedBy_27 : decode cX2_awaitedBy 27 = .ok (.invokevirtual 87, 3) := by decide +kernel
theorem dX2_awaitedBy_30 : decode cX2_awaitedBy 30 = .ok (.iload_n 1, 1) := by decide +kernel
theorem dX2_awaitedBy_31 : decode cX2_awaitedBy 31 = .ok (.if_icmp .eq 29, 3) := by decide +kernel
theorem dX2_awaitedBy_34 : decode cX2_awaitedBy 34 = .ok (.aload_n 0, 1) := by decide +kernel
theorem dX2_awaitedBy_35 : decode cX2_awaitedBy 35 = .ok (.getfield 26, 3) := by decide +kernel
theorem dX2_awaitedBy_38 : decode cX2_awaitedBy 38 = .ok (.iload_n 3, 1) := by decide +kernel
theorem dX2_awaitedBy_39 : decode cX2_awaitedBy 39 = .ok (.invokevirtual 91, 3) := by decide +kernel
theorem dX2_awaitedBy_42 : decode cX2_awaitedBy 42 = .ok (.iconst 2, 1) := by decide +kernel
theorem dX2_awaitedBy_43 : decode cX2_awaitedBy 43 = .ok (.if_icmp .eq 17, 3) := by decide +kernel
theorem dX2_awaitedBy_46 : decode cX2_awaitedBy 46 = .ok (.aload_n 0, 1) := by decide +kernel
theorem dX2_awaitedBy_47 : decode cX2_awaitedBy 47 = .ok (.getfield 26, 3) := by decide +kernel
theorem dX2_awaitedBy_50 : decode cX2_awaitedBy 50 = .ok (.iload_n 3, 1) := by decide +kernel
theorem dX2_awaitedBy_51 : decode cX2_awaitedBy 51 = .ok (.invokevirtual 94, 3) := by decide +kernel
theorem dX2_awaitedBy_54 : decode cX2_awaitedBy 54 = .ok (.iload_n 2, 1) := by decide +kernel
theorem dX2_awaitedBy_55 : decode cX2_awaitedBy 55 = .ok (.if_icmp .ne 5, 3) := by decide +kernel
theorem dX2_awaitedBy_58 : decode cX2_awaitedBy 58 = .ok (.iload_n 3, 1) := by decide +kernel
theorem dX2_awaitedBy_59 : decode cX2_awaitedBy 59 = .ok (.ireturn, 1) := by decide +kernel
theorem dX2_awaitedBy_60 : decode cX2_awaitedBy 60 = .ok (.iinc 3 1, 3) := by decide +kernel
theorem dX2_awaitedBy_63 : decode cX2_awaitedBy 63 = .ok (.goto (-52), 3) := by decide +kernel
theorem dX2_awaitedBy_66 : decode cX2_awaitedBy 66 = .ok (.iconst (-1), 1) := by decide +kernel
theorem dX2_awaitedBy_67 : decode cX2_awaitedBy 67 = .ok (.ireturn, 1) := by decide +kernel
theorem dX2_flaws_0 : decode cX2_flaws 0 = .ok (.aload_n 0, 1) := by decide +kernel
theorem dX2_flaws_1 : decode cX2_flaws 1 = .ok (.iconst 0, 1) := by decide +kernel
theorem dX2_flaws_2 : decode cX2_flaws 2 = .ok (.invokevirtual 69, 3) := by decide +kernel
theorem dX2_flaws_5 : decode cX2_flaws 5 = .ok (.aload_n 0, 1) := by decide +kernel
theorem dX2_flaws_6 : decode cX2_flaws 6 = .ok (.iconst 1, 1) := by decide +kernel
theorem dX2_flaws_7 : decode cX2_flaws 7 = .ok (.invokevirtual 69, 3) := by decide +kernel
theorem dX2_flaws_10 : decode cX2_flaws 10 = .ok (.invokevirtual 97, 3) := by decide +kernel
theorem dX2_flaws_13 : decode cX2_flaws 13 = .ok (.aload_n 0, 1) := by decide +kernel
theorem dX2_flaws_14 : decode cX2_flaws 14 = .ok (.iconst 0, 1) := by decide +kernel
theorem dX2_flaws_15 : decode cX2_flaws 15 = .ok (.invokevirtual 69, 3) := by decide +kernel
theorem dX2_flaws_18 : decode cX2_flaws 18 = .ok (.invokevirtual 101, 3) := by decide +kernel
theorem dX2_flaws_21 : decode cX2_flaws 21 = .ok (.iadd, 1) := by decide +kernel
theorem dX2_flaws_22 : decode cX2_flaws 22 = .ok (.aload_n 0, 1) := by decide +kernel
theorem dX2_flaws_23 : decode cX2_flaws 23 = .ok (.iconst 1, 1) := by decide +kernel
theorem dX2_flaws_24 : decode cX2_flaws 24 = .ok (.invokevirtual 69, 3) := by decide +kernel
theorem dX2_flaws_27 : decode cX2_flaws 27 = .ok (.invokevirtual 101, 3) := by decide +kernel
theorem dX2_flaws_30 : decode cX2_flaws 30 = .ok (.iadd, 1) := by decide +kernel
theorem dX2_flaws_31 : decode cX2_flaws 31 = .ok (.aload_n 0, 1) := by decide +kernel
theorem dX2_flaws_32 : decode cX2_flaws 32 = .ok (.invokevirtual 104, 3) := by decide +kernel
theorem dX2_flaws_35 : decode cX2_flaws 35 = .ok (.aload_n 0, 1) := by decide +kernel
theorem dX2_flaws_36 : decode cX2_flaws 36 = .ok (.getfield 26, 3) := by decide +kernel
theorem dX2_flaws_39 : decode cX2_flaws 39 = .ok (.invokevirtual 105, 3) := by decide +kernel
theorem dX2_flaws_42 : decode cX2_flaws 42 = .ok (.invokevirtual 108, 3) := by decide +kernel
theorem dX2_flaws_45 : decode cX2_flaws 45 = .ok (.iadd, 1) := by decide +kernel
theorem dX2_flaws_46 : decode cX2_flaws 46 = .ok (.ireturn, 1) := by decide +kernel
theorem dX2_moveFault_0 : decode cX2_moveFault 0 = .ok (.iload_n 1, 1) := by decide +kernel
theorem dX2_moveFault_1 : decode cX2_moveFault 1 = .ok (.invokestatic 113, 3) := by decide +kernel
theorem dX2_moveFault_4 : decode cX2_moveFault 4 = .ok (.ifCond .eq 31, 3) := by decide +kernel
theorem dX2_moveFault_7 : decode cX2_moveFault 7 = .ok (.aload_n 0, 1) := by decide +kernel
theorem dX2_moveFault_8 : decode cX2_moveFault 8 = .ok (.iload_n 2, 1) := by decide +kernel
theorem dX2_moveFault_9 : decode cX2_moveFault 9 = .ok (.invokevirtual 117, 3) := by decide +kernel
theorem dX2_moveFault_12 : decode cX2_moveFault 12 = .ok (.ifCond .eq 23, 3) := by decide +kernel
theorem dX2_moveFault_15 : decode cX2_moveFault 15 = .ok (.aload_n 0, 1) := by decide +kernel
theorem dX2_moveFault_16 : decode cX2_moveFault 16 = .ok (.iload_n 3, 1) := by decide +kernel
theorem dX2_moveFault_17 : decode cX2_moveFault 17 = .ok (.invokevirtual 117, 3) := by decide +kernel
theorem dX2_moveFault_20 : decode cX2_moveFault 20 = .ok (.ifCond .eq 15, 3) := by decide +kernel
theorem dX2_moveFault_23 : decode cX2_moveFault 23 = .ok (.aload_n 0, 1) := by decide +kernel
theorem dX2_moveFault_24 : decode cX2_moveFault 24 = .ok (.invokevirtual 104, 3) := by decide +kernel
theorem dX2_moveFault_27 : decode cX2_moveFault 27 = .ok (.iload 4, 2) := by decide +kernel
theorem dX2_moveFault_29 : decode cX2_moveFault 29 = .ok (.invokevirtual 120, 3) := by decide +kernel
theorem dX2_moveFault_32 : decode cX2_moveFault 32 = .ok (.ifCond .ne 5, 3) := by decide +kernel
theorem dX2_moveFault_35 : decode cX2_moveFault 35 = .ok (.iconst 1, 1) := by decide +kernel
theorem dX2_moveFault_36 : decode cX2_moveFault 36 = .ok (.ireturn, 1) := by decide +kernel
theorem dX2_moveFault_37 : decode cX2_moveFault 37 = .ok (.aload_n 0, 1) := by decide +kernel
theorem dX2_moveFault_38 : decode cX2_moveFault 38 = .ok (.iload_n 1, 1) := by decide +kernel
theorem dX2_moveFault_39 : decode cX2_moveFault 39 = .ok (.invokevirtual 57, 3) := by decide +kernel
theorem dX2_moveFault_42 : decode cX2_moveFault 42 = .ok (.invokevirtual 123, 3) := by decide +kernel
theorem dX2_moveFault_45 : decode cX2_moveFault 45 = .ok (.ifCond .eq 13, 3) := by decide +kernel
theorem dX2_moveFault_48 : decode cX2_moveFault 48 = .ok (.aload_n 0, 1) := by decide +kernel
theorem dX2_moveFault_49 : decode cX2_moveFault 49 = .ok (.getfield 26, 3) := by decide +kernel
theorem dX2_moveFault_52 : decode cX2_moveFault 52 = .ok (.invokevirtual 127, 3) := by decide +kernel
theorem dX2_moveFault_55 : decode cX2_moveFault 55 = .ok (.ifCond .eq 5, 3) := by decide +kernel
theorem dX2_moveFault_58 : decode cX2_moveFault 58 = .ok (.iconst 2, 1) := by decide +kernel
theorem dX2_moveFault_59 : decode cX2_moveFault 59 = .ok (.ireturn, 1) := by decide +kernel
theorem dX2_moveFault_60 : decode cX2_moveFault 60 = .ok (.aload_n 0, 1) := by decide +kernel
theorem dX2_moveFault_61 : decode cX2_moveFault 61 = .ok (.iload_n 1, 1) := by decide +kernel
theorem dX2_moveFault_62 : decode cX2_moveFault 62 = .ok (.invokevirtual 69, 3) := by decide +kernel
theorem dX2_moveFault_65 : decode cX2_moveFault 65 = .ok (.astore 5, 2) := by decide +kernel
theorem dX2_moveFault_67 : decode cX2_moveFault 67 = .ok (.aload 5, 2) := by decide +kernel
theorem dX2_moveFault_69 : decode cX2_moveFault 69 = .ok (.iload_n 2, 1) := by decide +kernel
theorem dX2_moveFault_70 : decode cX2_moveFault 70 = .ok (.invokevirtual 130, 3) := by decide +kernel
theorem dX2_moveFault_73 : decode cX2_moveFault 73 = .ok (.iload_n 1, 1) := by decide +kernel
theorem dX2_moveFault_74 : decode cX2_moveFault 74 = .ok (.if_icmp .ne 17, 3) := by decide +kernel
theorem dX2_moveFault_77 : decode cX2_moveFault 77 = .ok (.aload 5, 2) := by decide +kernel
theorem dX2_moveFault_79 : decode cX2_moveFault 79 = .ok (.iload_n 2, 1) := by decide +kernel
theorem dX2_moveFault_80 : decode cX2_moveFault 80 = .ok (.iload_n 3, 1) := by decide +kernel
theorem dX2_moveFault_81 : decode cX2_moveFault 81 = .ok (.invokevirtual 133, 3) := by decide +kernel
theorem dX2_moveFault_84 : decode cX2_moveFault 84 = .ok (.ifCond .eq 7, 3) := by decide +kernel
theorem dX2_moveFault_87 : decode cX2_moveFault 87 = .ok (.iconst 0, 1) := by decide +kernel
theorem dX2_moveFault_88 : decode cX2_moveFault 88 = .ok (.goto 4, 3) := by decide +kernel
theorem dX2_moveFault_91 : decode cX2_moveFault 91 = .ok (.iconst 3, 1) := by decide +kernel
theorem dX2_moveFault_92 : decode cX2_moveFault 92 = .ok (.ireturn, 1) := by decide +kernel
theorem dX2_makeMove_0 : decode cX2_makeMove 0 = .ok (.aload_n 0, 1) := by decide +kernel
theorem dX2_makeMove_1 : decode cX2_makeMove 1 = .ok (.iload_n 1, 1) := by decide +kernel
theorem dX2_makeMove_2 : decode cX2_makeMove 2 = .ok (.invokevirtual 57, 3) := by decide +kernel
theorem dX2_makeMove_5 : decode cX2_makeMove 5 = .ok (.astore 5, 2) := by decide +kernel
theorem dX2_makeMove_7 : decode cX2_makeMove 7 = .ok (.aload 5, 2) := by decide +kernel
theorem dX2_makeMove_9 : decode cX2_makeMove 9 = .ok (.invokevirtual 61, 3) := by decide +kernel
theorem dX2_makeMove_12 : decode cX2_makeMove 12 = .ok (.invokevirtual 81, 3) := by decide +kernel
theorem dX2_makeMove_15 : decode cX2_makeMove 15 = .ok (.istore 6, 2) := by decide +kernel
theorem dX2_makeMove_17 : decode cX2_makeMove 17 = .ok (.iload_n 2, 1) := by decide +kernel
theorem dX2_makeMove_18 : decode cX2_makeMove 18 = .ok (.iload_n 3, 1) := by decide +kernel
theorem dX2_makeMove_19 : decode cX2_makeMove 19 = .ok (.invokestatic 137, 3) := by decide +kernel
theorem dX2_makeMove_22 : decode cX2_makeMove 22 = .ok (.istore 7, 2) := by decide +kernel
theorem dX2_makeMove_24 : decode cX2_makeMove 24 = .ok (.aload 5, 2) := by decide +kernel
theorem dX2_makeMove_26 : decode cX2_makeMove 26 = .ok (.iload 7, 2) := by decide +kernel
theorem dX2_makeMove_28 : decode cX2_makeMove 28 = .ok (.aload_n 0, 1) := by decide +kernel
theorem dX2_makeMove_29 : decode cX2_makeMove 29 = .ok (.getfield 43, 3) := by decide +kernel
theorem dX2_makeMove_32 : decode cX2_makeMove 32 = .ok (.invokevirtual 141, 3) := by decide +kernel
theorem dX2_makeMove_35 : decode cX2_makeMove 35 = .ok (.aload_n 0, 1) := by decide +kernel
theorem dX2_makeMove_36 : decode cX2_makeMove 36 = .ok (.getfield 26, 3) := by decide +kernel
theorem dX2_makeMove_39 : decode cX2_makeMove 39 = .ok (.iload_n 1, 1) := by decide +kernel
theorem dX2_makeMove_40 : decode cX2_makeMove 40 = .ok (.iload 6, 2) := by decide +kernel
theorem dX2_makeMove_42 : decode cX2_makeMove 42 = .ok (.iload 7, 2) := by decide +kernel
theorem dX2_makeMove_44 : decode cX2_makeMove 44 = .ok (.iconst (-1), 1) := by decide +kernel
theorem dX2_makeMove_45 : decode cX2_makeMove 45 = .ok (.iload 4, 2) := by decide +kernel
theorem dX2_makeMove_47 : decode cX2_makeMove 47 = .ok (.aload_n 0, 1) := by decide +kernel
