theorem dX9_move_35 : decode cX9_move 35 = .ok (.invokevirtual 311, 3) := by decide +kernel
theorem dX9_move_38 : decode cX9_move 38 = .ok (.ireturn, 1) := by decide +kernel
theorem dX9_promise_0 : decode cX9_promise 0 = .ok (.aload_n 0, 1) := by decide +kernel
theorem dX9_promise_1 : decode cX9_promise 1 = .ok (.getfield 33, 3) := by decide +kernel
theorem dX9_promise_4 : decode cX9_promise 4 = .ok (.iload_n 1, 1) := by decide +kernel
theorem dX9_promise_5 : decode cX9_promise 5 = .ok (.iload_n 2, 1) := by decide +kernel
theorem dX9_promise_6 : decode cX9_promise 6 = .ok (.iload_n 3, 1) := by decide +kernel
theorem dX9_promise_7 : decode cX9_promise 7 = .ok (.iload 4, 2) := by decide +kernel
theorem dX9_promise_9 : decode cX9_promise 9 = .ok (.iload 5, 2) := by decide +kernel
theorem dX9_promise_11 : decode cX9_promise 11 = .ok (.iload 6, 2) := by decide +kernel
theorem dX9_promise_13 : decode cX9_promise 13 = .ok (.invokevirtual 314, 3) := by decide +kernel
theorem dX9_promise_16 : decode cX9_promise 16 = .ok (.invokestatic 308, 3) := by decide +kernel
theorem dX9_promise_19 : decode cX9_promise 19 = .ok (.aload_n 0, 1) := by decide +kernel
theorem dX9_promise_20 : decode cX9_promise 20 = .ok (.getfield 43, 3) := by decide +kernel
theorem dX9_promise_23 : decode cX9_promise 23 = .ok (.aload_n 0, 1) := by decide +kernel
theorem dX9_promise_24 : decode cX9_promise 24 = .ok (.getfield 33, 3) := by decide +kernel
theorem dX9_promise_27 : decode cX9_promise 27 = .ok (.invokevirtual 126, 3) := by decide +kernel
theorem dX9_promise_30 : decode cX9_promise 30 = .ok (.aload_n 0, 1) := by decide +kernel
theorem dX9_promise_31 : decode cX9_promise 31 = .ok (.getfield 33, 3) := by decide +kernel
theorem dX9_promise_34 : decode cX9_promise 34 = .ok (.iload_n 1, 1) := by decide +kernel
theorem dX9_promise_35 : decode cX9_promise 35 = .ok (.iload_n 2, 1) := by decide +kernel
theorem dX9_promise_36 : decode cX9_promise 36 = .ok (.iload_n 3, 1) := by decide +kernel
theorem dX9_promise_37 : decode cX9_promise 37 = .ok (.iload 4, 2) := by decide +kernel
theorem dX9_promise_39 : decode cX9_promise 39 = .ok (.invokestatic 317, 3) := by decide +kernel
theorem dX9_promise_42 : decode cX9_promise 42 = .ok (.iload 5, 2) := by decide +kernel
theorem dX9_promise_44 : decode cX9_promise 44 = .ok (.iload 6, 2) := by decide +kernel
theorem dX9_promise_46 : decode cX9_promise 46 = .ok (.invokestatic 317, 3) := by decide +kernel
theorem dX9_promise_49 : decode cX9_promise 49 = .ok (.invokevirtual 320, 3) := by decide +kernel
theorem dX9_promise_52 : decode cX9_promise 52 = .ok (.ireturn, 1) := by decide +kernel
theorem dX9_resend_0 : decode cX9_resend 0 = .ok (.aload_n 0, 1) := by decide +kernel
theorem dX9_resend_1 : decode cX9_resend 1 = .ok (.getfield 33, 3) := by decide +kernel
theorem dX9_resend_4 : decode cX9_resend 4 = .ok (.iload_n 1, 1) := by decide +kernel
theorem dX9_resend_5 : decode cX9_resend 5 = .ok (.iload_n 2, 1) := by decide +kernel
theorem dX9_resend_6 : decode cX9_resend 6 = .ok (.invokevirtual 323, 3) := by decide +kernel
theorem dX9_resend_9 : decode cX9_resend 9 = .ok (.invokestatic 308, 3) := by decide +kernel
theorem dX9_resend_12 : decode cX9_resend 12 = .ok (.aload_n 0, 1) := by decide +kernel
theorem dX9_resend_13 : decode cX9_resend 13 = .ok (.getfield 43, 3) := by decide +kernel
theorem dX9_resend_16 : decode cX9_resend 16 = .ok (.aload_n 0, 1) := by decide +kernel
theorem dX9_resend_17 : decode cX9_resend 17 = .ok (.getfield 33, 3) := by decide +kernel
theorem dX9_resend_20 : decode cX9_resend 20 = .ok (.invokevirtual 126, 3) := by decide +kernel
theorem dX9_resend_23 : decode cX9_resend 23 = .ok (.aload_n 0, 1) := by decide +kernel
theorem dX9_resend_24 : decode cX9_resend 24 = .ok (.getfield 33, 3) := by decide +kernel
theorem dX9_resend_27 : decode cX9_resend 27 = .ok (.iload_n 1, 1) := by decide +kernel
theorem dX9_resend_28 : decode cX9_resend 28 = .ok (.iload_n 2, 1) := by decide +kernel
theorem dX9_resend_29 : decode cX9_resend 29 = .ok (.invokevirtual 326, 3) := by decide +kernel
theorem dX9_resend_32 : decode cX9_resend 32 = .ok (.ireturn, 1) := by decide +kernel
theorem dX9_advance_0 : decode cX9_advance 0 = .ok (.aload_n 0, 1) := by decide +kernel
theorem dX9_advance_1 : decode cX9_advance 1 = .ok (.getfield 33, 3) := by decide +kernel
theorem dX9_advance_4 : decode cX9_advance 4 = .ok (.iload_n 1, 1) := by decide +kernel
theorem dX9_advance_5 : decode cX9_advance 5 = .ok (.invokevirtual 329, 3) := by decide +kernel
theorem dX9_advance_8 : decode cX9_advance 8 = .ok (.invokestatic 308, 3) := by decide +kernel
theorem dX9_advance_11 : decode cX9_advance 11 = .ok (.aload_n 0, 1) := by decide +kernel
theorem dX9_advance_12 : decode cX9_advance 12 = .ok (.getfield 43, 3) := by decide +kernel
theorem dX9_advance_15 : decode cX9_advance 15 = .ok (.aload_n 0, 1) := by decide +kernel
theorem dX9_advance_16 : decode cX9_advance 16 = .ok (.getfield 33, 3) := by decide +kernel
theorem dX9_advance_19 : decode cX9_advance 19 = .ok (.invokevirtual 126, 3) := by decide +kernel
theorem dX9_advance_22 : decode cX9_advance 22 = .ok (.aload_n 0, 1) := by decide +kernel
theorem dX9_advance_23 : decode cX9_advance 23 = .ok (.getfield 33, 3) := by decide +kernel
theorem dX9_advance_26 : decode cX9_advance 26 = .ok (.iload_n 1, 1) := by decide +kernel
theorem dX9_advance_27 : decode cX9_advance 27 = .ok (.invokevirtual 332, 3) := by decide +kernel
theorem dX9_advance_30 : decode cX9_advance 30 = .ok (.ireturn, 1) := by decide +kernel
theorem dX9_addMule_0 : decode cX9_addMule 0 = .ok (.aload_n 0, 1) := by decide +kernel
theorem dX9_addMule_1 : decode cX9_addMule 1 = .ok (.getfield 33, 3) := by decide +kernel
theorem dX9_addMule_4 : decode cX9_addMule 4 = .ok (.iload_n 1, 1) := by decide +kernel
theorem dX9_addMule_5 : decode cX9_addMule 5 = .ok (.iload_n 2, 1) := by decide +kernel
theorem dX9_addMule_6 : decode cX9_addMule 6 = .ok (.invokevirtual 335, 3) := by decide +kernel
theorem dX9_addMule_9 : decode cX9_addMule 9 = .ok (.invokestatic 308, 3) := by decide +kernel
theorem dX9_addMule_12 : decode cX9_addMule 12 = .ok (.aload_n 0, 1) := by decide +kernel
theorem dX9_addMule_13 : decode cX9_addMule 13 = .ok (.getfield 43, 3) := by decide +kernel
theorem dX9_addMule_16 : decode cX9_addMule 16 = .ok (.aload_n 0, 1) := by decide +kernel
theorem dX9_addMule_17 : decode cX9_addMule 17 = .ok (.getfield 33, 3) := by decide +kernel
theorem dX9_addMule_20 : decode cX9_addMule 20 = .ok (.invokevirtual 126, 3) := by decide +kernel
theorem dX9_addMule_23 : decode cX9_addMule 23 = .ok (.aload_n 0, 1) := by decide +kernel
theorem dX9_addMule_24 : decode cX9_addMule 24 = .ok (.getfield 33, 3) := by decide +kernel
theorem dX9_addMule_27 : decode cX9_addMule 27 = .ok (.invokevirtual 213, 3) := by decide +kernel
theorem dX9_addMule_30 : decode cX9_addMule 30 = .ok (.iload_n 1, 1) := by decide +kernel
theorem dX9_addMule_31 : decode cX9_addMule 31 = .ok (.iload_n 2, 1) := by decide +kernel
theorem dX9_addMule_32 : decode cX9_addMule 32 = .ok (.invokevirtual 338, 3) := by decide +kernel
theorem dX9_addMule_35 : decode cX9_addMule 35 = .ok (.ireturn, 1) := by decide +kernel
theorem dX9_setSnow_0 : decode cX9_setSnow 0 = .ok (.aload_n 0, 1) := by decide +kernel
theorem dX9_setSnow_1 : decode cX9_setSnow 1 = .ok (.getfield 33, 3) := by decide +kernel
theorem dX9_setSnow_4 : decode cX9_setSnow 4 = .ok (.iload_n 1, 1) := by decide +kernel
theorem dX9_setSnow_5 : decode cX9_setSnow 5 = .ok (.iload_n 2, 1) := by decide +kernel
theorem dX9_setSnow_6 : decode cX9_setSnow 6 = .ok (.iload_n 3, 1) := by decide +kernel
theorem dX9_setSnow_7 : decode cX9_setSnow 7 = .ok (.invokevirtual 341, 3) := by decide +kernel
theorem dX9_setSnow_10 : decode cX9_setSnow 10 = .ok (.invokestatic 308, 3) := by decide +kernel
theorem dX9_setSnow_13 : decode cX9_setSnow 13 = .ok (.aload_n 0, 1) := by decide +kernel
theorem dX9_setSnow_14 : decode cX9_setSnow 14 = .ok (.getfield 43, 3) := by decide +kernel
theorem dX9_setSnow_17 : decode cX9_setSnow 17 = .ok (.aload_n 0, 1) := by decide +kernel
theorem dX9_setSnow_18 : decode cX9_setSnow 18 = .ok (.getfield 33, 3) := by decide +kernel
theorem dX9_setSnow_21 : decode cX9_setSnow 21 = .ok (.invokevirtual 126, 3) := by decide +kernel
theorem dX9_setSnow_24 : decode cX9_setSnow 24 = .ok (.aload_n 0, 1) := by decide +kernel
theorem dX9_setSnow_25 : decode cX9_setSnow 25 = .ok (.getfield 33, 3) := by decide +kernel
theorem dX9_setSnow_28 : decode cX9_setSnow 28 = .ok (.invokevirtual 213, 3) := by decide +kernel
theorem dX9_setSnow_31 : decode cX9_setSnow 31 = .ok (.iload_n 1, 1) := by decide +kernel
theorem dX9_setSnow_32 : decode cX9_setSnow 32 = .ok (.iload_n 2, 1) := by decide +kernel
theorem dX9_setSnow_33 : decode cX9_setSnow 33 = .ok (.iload_n 3, 1) := by decide +kernel
theorem dX9_setSnow_34 : decode cX9_setSnow 34 = .ok (.invokevirtual 345, 3) := by decide +kernel
theorem dX9_setSnow_37 : decode cX9_setSnow 37 = .ok (.ireturn, 1) := by decide +kernel
theorem dX9_writeBoard_0 : decode cX9_writeBoard 0 = .ok (.iload_n 1, 1) := by decide +kernel
theorem dX9_writeBoard_1 : decode cX9_writeBoard 1 = .ok (.invokestatic 158, 3) := by decide +kernel
theorem dX9_writeBoard_4 : decode cX9_writeBoard 4 = .ok (.invokestatic 164, 3) := by decide +kernel
theorem dX9_writeBoard_7 : decode cX9_writeBoard 7 = .ok (.aload_n 0, 1) := by decide +kernel
theorem dX9_writeBoard_8 : decode cX9_writeBoard 8 = .ok (.getfield 26, 3) := by decide +kernel
theorem dX9_writeBoard_11 : decode cX9_writeBoard 11 = .ok (.aload_n 0, 1) := by decide +kernel
theorem dX9_writeBoard_12 : decode cX9_writeBoard 12 = .ok (.getfield 33, 3) := by decide +kernel
theorem dX9_writeBoard_15 : decode cX9_writeBoard 15 = .ok (.iload_n 1, 1) := by decide +kernel
theorem dX9_writeBoard_16 : decode cX9_writeBoard 16 = .ok (.invokevirtual 140, 3) := by decide +kernel
theorem dX9_writeBoard_19 : decode cX9_writeBoard 19 = .ok (.invokevirtual 348, 3) := by decide +kernel
theorem dX9_writeBoard_22 : decode cX9_writeBoard 22 = .ok (.aload_n 0, 1) := by decide +kernel
theorem dX9_writeBoard_23 : decode cX9_writeBoard 23 = .ok (.getfield 26, 3) := by decide +kernel
theorem dX9_writeBoard_26 : decode cX9_writeBoard 26 = .ok (.invokevirtual 352, 3) := by decide +kernel
theorem dX9_writeBoard_29 : decode cX9_writeBoard 29 = .ok (.ireturn, 1) := by decide +kernel
theorem dX9_writeMoves_0 : decode cX9_writeMoves 0 = .ok (.iload_n 1, 1) := by decide +kernel
theorem dX9_writeMoves_1 : decode cX9_writeMoves 1 = .ok (.invokestatic 158, 3) := by decide +kernel
theorem dX9_writeMoves_4 : decode cX9_writeMoves 4 = .ok (.invokestatic 164, 3) := by decide +kernel
theorem dX9_writeMoves_7 : decode cX9_writeMoves 7 = .ok (.aload_n 0, 1) := by decide +kernel
theorem dX9_writeMoves_8 : decode cX9_writeMoves 8 = .ok (.getfield 26, 3) := by decide +kernel
theorem dX9_writeMoves_11 : decode cX9_writeMoves 11 = .ok (.aload_n 0, 1) := by decide +kernel
theorem dX9_writeMoves_12 : decode cX9_writeMoves 12 = .ok (.getfield 33, 3) := by decide +kernel
theorem dX9_writeMoves_15 : decode cX9_writeMoves 15 = .ok (.iload_n 1, 1) := by decide +kernel
theorem dX9_writeMoves_16 : decode cX9_writeMoves 16 = .ok (.invokevirtual 140, 3) := by decide +kernel
theorem dX9_writeMoves_19 : decode cX9_writeMoves 19 = .ok (.invokevirtual 353, 3) := by decide +kernel
theorem dX9_writeMoves_22 : decode cX9_writeMoves 22 = .ok (.aload_n 0, 1) := by decide +kernel
theorem dX9_writeMoves_23 : decode cX9_writeMoves 23 = .ok (.getfield 26, 3) := by decide +kernel
theorem dX9_writeMoves_26 : decode cX9_writeMoves 26 = .ok (.invokevirtual 352, 3) := by decide +kernel
theorem dX9_writeMoves_29 : decode cX9_writeMoves 29 = .ok (.ireturn, 1) := by decide +kernel
theorem dX9_outputByte_0 : decode cX9_outputByte 0 = .ok (.aload_n 0, 1) := by decide +kernel
theorem dX9_outputByte_1 : decode cX9_outputByte 1 = .ok (.getfield 26, 3) := by decide +kernel
theorem dX9_outputByte_4 : decode cX9_outputByte 4 = .ok (.iload_n 1, 1) := by decide +kernel
theorem dX9_outputByte_5 : decode cX9_outputByte 5 = .ok (.invokevirtual 356, 3) := by decide +kernel
theorem dX9_outputByte_8 : decode cX9_outputByte 8 = .ok (.ireturn, 1) := by decide +kernel
theorem dX9_undoCount_0 : decode cX9_undoCount 0 = .ok (.aload_n 0, 1) := by decide +kernel
theorem dX9_undoCount_1 : decode cX9_undoCount 1 = .ok (.getfield 43, 3) := by decide +kernel
theorem dX9_undoCount_4 : decode cX9_undoCount 4 = .ok (.invokevirtual 359, 3) := by decide +kernel
theorem dX9_undoCount_7 : decode cX9_undoCount 7 = .ok (.ireturn, 1) := by decide +kernel
theorem dX9_undo_0 : decode cX9_undo 0 = .ok (.aload_n 0, 1) := by decide +kernel
theorem dX9_undo_1 : decode cX9_undo 1 = .ok (.getfield 43, 3) := by decide +kernel
theorem dX9_undo_4 : decode cX9_undo 4 = .ok (.invokevirtual 359, 3) := by decide +kernel
theorem dX9_undo_7 : decode cX9_undo 7 = .ok (.ifCond .ne 14, 3) := by decide +kernel
theorem dX9_undo_10 : decode cX9_undo 10 = .ok (.new 88, 3) := by decide +kernel
theorem dX9_undo_13 : decode cX9_undo 13 = .ok (.dup, 1) := by decide +kernel
theorem dX9_undo_14 : decode cX9_undo 14 = .ok (.ldc_w 360, 3) := by decide +kernel
theorem dX9_undo_17 : decode cX9_undo 17 = .ok (.invokespecial 92, 3) := by decide +kernel
theorem dX9_undo_20 : decode cX9_undo 20 = .ok (.athrow, 1) := by decide +kernel
theorem dX9_undo_21 : decode cX9_undo 21 = .ok (.aload_n 0, 1) := by decide +kernel
theorem dX9_undo_22 : decode cX9_undo 22 = .ok (.getfield 43, 3) := by decide +kernel
theorem dX9_undo_25 : decode cX9_undo 25 = .ok (.aload_n 0, 1) := by decide +kernel
theorem dX9_undo_26 : decode cX9_undo 26 = .ok (.getfield 33, 3) := by decide +kernel
theorem dX9_undo_29 : decode cX9_undo 29 = .ok (.invokevirtual 362, 3) := by decide +kernel
theorem dX9_undo_32 : decode cX9_undo 32 = .ok (.aload_n 0, 1) := by decide +kernel
theorem dX9_undo_33 : decode cX9_undo 33 = .ok (.getfield 43, 3) := by decide +kernel
theorem dX9_undo_36 : decode cX9_undo 36 = .ok (.invokevirtual 359, 3) := by decide +kernel
theorem dX9_undo_39 : decode cX9_undo 39 = .ok (.ireturn, 1) := by decide +kernel
theorem dX9_save_0 : decode cX9_save 0 = .ok (.iload_n 1, 1) := by decide +kernel
theorem dX9_save_1 : decode cX9_save 1 = .ok (.invokestatic 365, 3) := by decide +kernel
theorem dX9_save_4 : decode cX9_save 4 = .ok (.invokestatic 164, 3) := by decide +kernel
theorem dX9_save_7 : decode cX9_save 7 = .ok (.aload_n 0, 1) := by decide +kernel
theorem dX9_save_8 : decode cX9_save 8 = .ok (.iload_n 1, 1) := by decide +kernel
theorem dX9_save_9 : decode cX9_save 9 = .ok (.invokevirtual 368, 3) := by decide +kernel
theorem dX9_save_12 : decode cX9_save 12 = .ok (.aload_n 0, 1) := by decide +kernel
theorem dX9_save_13 : decode cX9_save 13 = .ok (.getfield 33, 3) := by decide +kernel
theorem dX9_save_16 : decode cX9_save 16 = .ok (.invokevirtual 76, 3) := by decide +kernel
theorem dX9_save_19 : decode cX9_save 19 = .ok (.iload_n 1, 1) := by decide +kernel
theorem dX9_save_20 : decode cX9_save 20 = .ok (.ifCond .ne 11, 3) := by decide +kernel
theorem dX9_save_23 : decode cX9_save 23 = .ok (.aload_n 0, 1) := by decide +kernel
theorem dX9_save_24 : decode cX9_save 24 = .ok (.iconst 1, 1) := by decide +kernel
theorem dX9_save_25 : decode cX9_save 25 = .ok (.putfield 115, 3) := by decide +kernel
theorem dX9_save_28 : decode cX9_save 28 = .ok (.goto 8, 3) := by decide +kernel
theorem dX9_save_31 : decode cX9_save 31 = .ok (.aload_n 0, 1) := by decide +kernel
theorem dX9_save_32 : decode cX9_save 32 = .ok (.iconst 1, 1) := by decide +kernel
theorem dX9_save_33 : decode cX9_save 33 = .ok (.putfield 119, 3) := by decide +kernel
theorem dX9_save_36 : decode cX9_save 36 = .ok (.aload_n 0, 1) := by decide +kernel
theorem dX9_save_37 : decode cX9_save 37 = .ok (.getfield 33, 3) := by decide +kernel
theorem dX9_save_40 : decode cX9_save 40 = .ok (.invokevirtual 152, 3) := by decide +kernel
theorem dX9_save_43 : decode cX9_save 43 = .ok (.ireturn, 1) := by decide +kernel
theorem dX9_restore_0 : decode cX9_restore 0 = .ok (.iload_n 1, 1) := by decide +kernel
theorem dX9_restore_1 : decode cX9_restore 1 = .ok (.invokestatic 365, 3) := by decide +kernel
theorem dX9_restore_4 : decode cX9_restore 4 = .ok (.invokestatic 164, 3) := by decide +kernel
theorem dX9_restore_7 : decode cX9_restore 7 = .ok (.iload_n 1, 1) := by decide +kernel
theorem dX9_restore_8 : decode cX9_restore 8 = .ok (.ifCond .ne 10, 3) := by decide +kernel
theorem dX9_restore_11 : decode cX9_restore 11 = .ok (.aload_n 0, 1) := by decide +kernel
theorem dX9_restore_12 : decode cX9_restore 12 = .ok (.getfield 115, 3) := by decide +kernel
theorem dX9_restore_15 : decode cX9_restore 15 = .ok (.goto 7, 3) := by decide +kernel
theorem dX9_restore_18 : decode cX9_restore 18 = .ok (.aload_n 0, 1) := by decide +kernel
theorem dX9_restore_19 : decode cX9_restore 19 = .ok (.getfield 119, 3) := by decide +kernel
theorem dX9_restore_22 : decode cX9_restore 22 = .ok (.istore_n 2, 1) := by decide +kernel
theorem dX9_restore_23 : decode cX9_restore 23 = .ok (.iload_n 2, 1) := by decide +kernel
theorem dX9_restore_24 : decode cX9_restore 24 = .ok (.ifCond .ne 14, 3) := by decide +kernel
theorem dX9_restore_27 : decode cX9_restore 27 = .ok (.new 372, 3) := by decide +kernel
theorem dX9_restore_30 : decode cX9_restore 30 = .ok (.dup, 1) := by decide +kernel
theorem dX9_restore_31 : decode cX9_restore 31 = .ok (.ldc_w 374, 3) := by decide +kernel
theorem dX9_restore_34 : decode cX9_restore 34 = .ok (.invokespecial 376, 3) := by decide +kernel
theorem dX9_restore_37 : decode cX9_restore 37 = .ok (.athrow, 1) := by decide +kernel
theorem dX9_restore_38 : decode cX9_restore 38 = .ok (.aload_n 0, 1) := by decide +kernel
theorem dX9_restore_39 : decode cX9_restore 39 = .ok (.getfield 33, 3) := by decide +kernel
theorem dX9_restore_42 : decode cX9_restore 42 = .ok (.aload_n 0, 1) := by decide +kernel
theorem dX9_restore_43 : decode cX9_restore 43 = .ok (.iload_n 1, 1) := by decide +kernel
theorem dX9_restore_44 : decode cX9_restore 44 = .ok (.invokevirtual 368, 3) := by decide +kernel
theorem dX9_restore_47 : decode cX9_restore 47 = .ok (.invokevirtual 76, 3) := by decide +kernel
theorem dX9_restore_50 : decode cX9_restore 50 = .ok (.aload_n 0, 1) := by decide +kernel
theorem dX9_restore_51 : decode cX9_restore 51 = .ok (.getfield 43, 3) := by decide +kernel
theorem dX9_restore_54 : decode cX9_restore 54 = .ok (.invokevirtual 112, 3) := by decide +kernel
theorem dX9_restore_57 : decode cX9_restore 57 = .ok (.aload_n 0, 1) := by decide +kernel
theorem dX9_restore_58 : decode cX9_restore 58 = .ok (.getfield 33, 3) := by decide +kernel
theorem dX9_restore_61 : decode cX9_restore 61 = .ok (.invokevirtual 152, 3) := by decide +kernel
theorem dX9_restore_64 : decode cX9_restore 64 = .ok (.ireturn, 1) := by decide +kernel
theorem dX9_require_0 : decode cX9_require 0 = .ok (.iload_n 0, 1) := by decide +kernel
theorem dX9_require_1 : decode cX9_require 1 = .ok (.ifCond .ne 14, 3) := by decide +kernel
theorem dX9_require_4 : decode cX9_require 4 = .ok (.new 377, 3) := by decide +kernel
theorem dX9_require_7 : decode cX9_require 7 = .ok (.dup, 1) := by decide +kernel
theorem dX9_require_8 : decode cX9_require 8 = .ok (.ldc_w 379, 3) := by decide +kernel
theorem dX9_require_11 : decode cX9_require 11 = .ok (.invokespecial 381, 3) := by decide +kernel
theorem dX9_require_14 : decode cX9_require 14 = .ok (.athrow, 1) := by decide +kernel
theorem dX9_require_15 : decode cX9_require 15 = .ok (.return_, 1) := by decide +kernel
theorem dX9_refuse_0 : decode cX9_refuse 0 = .ok (.iload_n 0, 1) := by decide +kernel
theorem dX9_refuse_1 : decode cX9_refuse 1 = .ok (.iconst 1, 1) := by decide +kernel
theorem dX9_refuse_2 : decode cX9_refuse 2 = .ok (.if_icmp .ne 14, 3) := by decide +kernel
theorem dX9_refuse_5 : decode cX9_refuse 5 = .ok (.new 377, 3) := by decide +kernel
theorem dX9_refuse_8 : decode cX9_refuse 8 = .ok (.dup, 1) := by decide +kernel
theorem dX9_refuse_9 : decode cX9_refuse 9 = .ok (.ldc_w 379, 3) := by decide +kernel
theorem dX9_refuse_12 : decode cX9_refuse 12 = .ok (.invokespecial 381, 3) := by decide +kernel
theorem dX9_refuse_15 : decode cX9_refuse 15 = .ok (.athrow, 1) := by decide +kernel
theorem dX9_refuse_16 : decode cX9_refuse 16 = .ok (.iload_n 0, 1) := by decide +kernel
theorem dX9_refuse_17 : decode cX9_refuse 17 = .ok (.iconst 2, 1) := by decide +kernel
theorem dX9_refuse_18 : decode cX9_refuse 18 = .ok (.if_icmp .ne 14, 3) := by decide +kernel
theorem dX9_refuse_21 : decode cX9_refuse 21 = .ok (.new 88, 3) := by decide +kernel
theorem dX9_refuse_24 : decode cX9_refuse 24 = .ok (.dup, 1) := by decide +kernel
theorem dX9_refuse_25 : decode cX9_refuse 25 = .ok (.ldc_w 382, 3) := by decide +kernel
theorem dX9_refuse_28 : decode cX9_refuse 28 = .ok (.invokespecial 92, 3) := by decide +kernel
theorem dX9_refuse_31 : decode cX9_refuse 31 = .ok (.athrow, 1) := by decide +kernel
theorem dX9_refuse_32 : decode cX9_refuse 32 = .ok (.iload_n 0, 1) := by decide +kernel
theorem dX9_refuse_33 : decode cX9_refuse 33 = .ok (.iconst 3, 1) := by decide +kernel
theorem dX9_refuse_34 : decode cX9_refuse 34 = .ok (.if_icmp .ne 14, 3) := by decide +kernel
theorem dX9_refuse_37 : decode cX9_refuse 37 = .ok (.new 98, 3) := by decide +kernel
theorem dX9_refuse_40 : decode cX9_refuse 40 = .ok (.dup, 1) := by decide +kernel
theorem dX9_refuse_41 : decode cX9_refuse 41 = .ok (.ldc_w 384, 3) := by decide +kernel
theorem dX9_refuse_44 : decode cX9_refuse 44 = .ok (.invokespecial 102, 3) := by decide +kernel
theorem dX9_refuse_47 : decode cX9_refuse 47 = .ok (.athrow, 1) := by decide +kernel
theorem dX9_refuse_48 : decode cX9_refuse 48 = .ok (.return_, 1) := by decide +kernel
theorem dX9_appliedMove_0 : decode cX9_appliedMove 0 = .ok (.iload_n 1, 1) := by decide +kernel
theorem dX9_appliedMove_1 : decode cX9_appliedMove 1 = .ok (.invokestatic 158, 3) := by decide +kernel
theorem dX9_appliedMove_4 : decode cX9_appliedMove 4 = .ok (.invokestatic 164, 3) := by decide +kernel
theorem dX9_appliedMove_7 : decode cX9_appliedMove 7 = .ok (.aload_n 0, 1) := by decide +kernel
theorem dX9_appliedMove_8 : decode cX9_appliedMove 8 = .ok (.getfield 33, 3) := by decide +kernel
theorem dX9_appliedMove_11 : decode cX9_appliedMove 11 = .ok (.iload_n 1, 1) := by decide +kernel
theorem dX9_appliedMove_12 : decode cX9_appliedMove 12 = .ok (.invokevirtual 140, 3) := by decide +kernel
theorem dX9_appliedMove_15 : decode cX9_appliedMove 15 = .ok (.iload_n 2, 1) := by decide +kernel
theorem dX9_appliedMove_16 : decode cX9_appliedMove 16 = .ok (.invokevirtual 386, 3) := by decide +kernel
theorem dX9_appliedMove_19 : decode cX9_appliedMove 19 = .ok (.istore_n 3, 1) := by decide +kernel
theorem dX9_appliedMove_20 : decode cX9_appliedMove 20 = .ok (.iload_n 3, 1) := by decide +kernel
theorem dX9_appliedMove_21 : decode cX9_appliedMove 21 = .ok (.iconst (-1), 1) := by decide +kernel
theorem dX9_appliedMove_22 : decode cX9_appliedMove 22 = .ok (.if_icmp .ne 14, 3) := by decide +kernel
theorem dX9_appliedMove_25 : decode cX9_appliedMove 25 = .ok (.new 372, 3) := by decide +kernel
theorem dX9_appliedMove_28 : decode cX9_appliedMove 28 = .ok (.dup, 1) := by decide +kernel
theorem dX9_appliedMove_29 : decode cX9_appliedMove 29 = .ok (.ldc_w 389, 3) := by decide +kernel
theorem dX9_appliedMove_32 : decode cX9_appliedMove 32 = .ok (.invokespecial 376, 3) := by decide +kernel
theorem dX9_appliedMove_35 : decode cX9_appliedMove 35 = .ok (.athrow, 1) := by decide +kernel
theorem dX9_appliedMove_36 : decode cX9_appliedMove 36 = .ok (.iload_n 3, 1) := by decide +kernel
theorem dX9_appliedMove_37 : decode cX9_appliedMove 37 = .ok (.ireturn, 1) := by decide +kernel
theorem dX9_at_0 : decode cX9_at 0 = .ok (.iload_n 1, 1) := by decide +kernel
theorem dX9_at_1 : decode cX9_at 1 = .ok (.ifCond .lt 15, 3) := by decide +kernel
theorem dX9_at_4 : decode cX9_at 4 = .ok (.iload_n 1, 1) := by decide +kernel
theorem dX9_at_5 : decode cX9_at 5 = .ok (.aload_n 0, 1) := by decide +kernel
theorem dX9_at_6 : decode cX9_at 6 = .ok (.arraylength, 1) := by decide +kernel
theorem dX9_at_7 : decode cX9_at 7 = .ok (.if_icmp .ge 9, 3) := by decide +kernel
theorem dX9_at_10 : decode cX9_at 10 = .ok (.aload_n 0, 1) := by decide +kernel
theorem dX9_at_11 : decode cX9_at 11 = .ok (.iload_n 1, 1) := by decide +kernel
theorem dX9_at_12 : decode cX9_at 12 = .ok (.iaload, 1) := by decide +kernel
theorem dX9_at_13 : decode cX9_at 13 = .ok (.goto 4, 3) := by decide +kernel
theorem dX9_at_16 : decode cX9_at 16 = .ok (.iconst (-1), 1) := by decide +kernel
theorem dX9_at_17 : decode cX9_at 17 = .ok (.ireturn, 1) := by decide +kernel
theorem dX9_put_0 : decode cX9_put 0 = .ok (.iload_n 1, 1) := by decide +kernel
theorem dX9_put_1 : decode cX9_put 1 = .ok (.ifCond .lt 13, 3) := by decide +kernel
theorem dX9_put_4 : decode cX9_put 4 = .ok (.iload_n 1, 1) := by decide +kernel
theorem dX9_put_5 : decode cX9_put 5 = .ok (.aload_n 0, 1) := by decide +kernel
theorem dX9_put_6 : decode cX9_put 6 = .ok (.arraylength, 1) := by decide +kernel
theorem dX9_put_7 : decode cX9_put 7 = .ok (.if_icmp .ge 7, 3) := by decide +kernel
theorem dX9_put_10 : decode cX9_put 10 = .ok (.aload_n 0, 1) := by decide +kernel
theorem dX9_put_11 : decode cX9_put 11 = .ok (.iload_n 1, 1) := by decide +kernel
theorem dX9_put_12 : decode cX9_put 12 = .ok (.iload_n 2, 1) := by decide +kernel
theorem dX9_put_13 : decode cX9_put 13 = .ok (.iastore, 1) := by decide +kernel
theorem dX9_put_14 : decode cX9_put 14 = .ok (.return_, 1) := by decide +kernel
theorem dX9_copyRow_0 : decode cX9_copyRow 0 = .ok (.aload_n 0, 1) := by decide +kernel
theorem dX9_copyRow_1 : decode cX9_copyRow 1 = .ok (.iconst 0, 1) := by decide +kernel
theorem dX9_copyRow_2 : decode cX9_copyRow 2 = .ok (.aload_n 1, 1) := by decide +kernel
theorem dX9_copyRow_3 : decode cX9_copyRow 3 = .ok (.iconst 0, 1) := by decide +kernel
theorem dX9_copyRow_4 : decode cX9_copyRow 4 = .ok (.aload_n 0, 1) := by decide +kernel
theorem dX9_copyRow_5 : decode cX9_copyRow 5 = .ok (.arraylength, 1) := by decide +kernel
theorem dX9_copyRow_6 : decode cX9_copyRow 6 = .ok (.aload_n 1, 1) := by decide +kernel
theorem dX9_copyRow_7 : decode cX9_copyRow 7 = .ok (.arraylength, 1) := by decide +kernel
theorem dX9_copyRow_8 : decode cX9_copyRow 8 = .ok (.invokestatic 391, 3) := by decide +kernel
theorem dX9_copyRow_11 : decode cX9_copyRow 11 = .ok (.invokestatic 396, 3) := by decide +kernel
theorem dX9_copyRow_14 : decode cX9_copyRow 14 = .ok (.return_, 1) := by decide +kernel
theorem dX9_isPlayer_0 : decode cX9_isPlayer 0 = .ok (.iload_n 0, 1) := by decide +kernel
theorem dX9_isPlayer_1 : decode cX9_isPlayer 1 = .ok (.ifCond .eq 8, 3) := by decide +kernel
theorem dX9_isPlayer_4 : decode cX9_isPlayer 4 = .ok (.iload_n 0, 1) := by decide +kernel
theorem dX9_isPlayer_5 : decode cX9_isPlayer 5 = .ok (.iconst 1, 1) := by decide +kernel
theorem dX9_isPlayer_6 : decode cX9_isPlayer 6 = .ok (.if_icmp .ne 7, 3) := by decide +kernel
theorem dX9_isPlayer_9 : decode cX9_isPlayer 9 = .ok (.iconst 1, 1) := by decide +kernel
theorem dX9_isPlayer_10 : decode cX9_isPlayer 10 = .ok (.goto 4, 3) := by decide +kernel
theorem dX9_isPlayer_13 : decode cX9_isPlayer 13 = .ok (.iconst 0, 1) := by decide +kernel
theorem dX9_isPlayer_14 : decode cX9_isPlayer 14 = .ok (.ireturn, 1) := by decide +kernel
theorem dX9_isMonth_0 : decode cX9_isMonth 0 = .ok (.iload_n 0, 1) := by decide +kernel
theorem dX9_isMonth_1 : decode cX9_isMonth 1 = .ok (.ifCond .lt 13, 3) := by decide +kernel
theorem dX9_isMonth_4 : decode cX9_isMonth 4 = .ok (.iload_n 0, 1) := by decide +kernel
theorem dX9_isMonth_5 : decode cX9_isMonth 5 = .ok (.bipush 12, 2) := by decide +kernel
theorem dX9_isMonth_7 : decode cX9_isMonth 7 = .ok (.if_icmp .ge 7, 3) := by decide +kernel
theorem dX9_isMonth_10 : decode cX9_isMonth 10 = .ok (.iconst 1, 1) := by decide +kernel
theorem dX9_isMonth_11 : decode cX9_isMonth 11 = .ok (.goto 4, 3) := by decide +kernel
theorem dX9_isMonth_14 : decode cX9_isMonth 14 = .ok (.iconst 0, 1) := by decide +kernel
theorem dX9_isMonth_15 : decode cX9_isMonth 15 = .ok (.ireturn, 1) := by decide +kernel
theorem dX9_isSlot_0 : decode cX9_isSlot 0 = .ok (.iload_n 0, 1) := by decide +kernel
theorem dX9_isSlot_1 : decode cX9_isSlot 1 = .ok (.ifCond .eq 8, 3) := by decide +kernel
theorem dX9_isSlot_4 : decode cX9_isSlot 4 = .ok (.iload_n 0, 1) := by decide +kernel
theorem dX9_isSlot_5 : decode cX9_isSlot 5 = .ok (.iconst 1, 1) := by decide +kernel
theorem dX9_isSlot_6 : decode cX9_isSlot 6 = .ok (.if_icmp .ne 7, 3) := by decide +kernel
theorem dX9_isSlot_9 : decode cX9_isSlot 9 = .ok (.iconst 1, 1) := by decide +kernel
theorem dX9_isSlot_10 : decode cX9_isSlot 10 = .ok (.goto 4, 3) := by decide +kernel
theorem dX9_isSlot_13 : decode cX9_isSlot 13 = .ok (.iconst 0, 1) := by decide +kernel
theorem dX9_isSlot_14 : decode cX9_isSlot 14 = .ok (.ireturn, 1) := by decide +kernel
theorem dX9_monthOf_0 : decode cX9_monthOf 0 = .ok (.iload_n 0, 1) := by decide +kernel
theorem dX9_monthOf_1 : decode cX9_monthOf 1 = .ok (.bipush 30, 2) := by decide +kernel
theorem dX9_monthOf_3 : decode cX9_monthOf 3 = .ok (.idiv, 1) := by decide +kernel
theorem dX9_monthOf_4 : decode cX9_monthOf 4 = .ok (.bipush 12, 2) := by decide +kernel
theorem dX9_monthOf_6 : decode cX9_monthOf 6 = .ok (.irem, 1) := by decide +kernel
theorem dX9_monthOf_7 : decode cX9_monthOf 7 = .ok (.ireturn, 1) := by decide +kernel
theorem dX9_moverOf_0 : decode cX9_moverOf 0 = .ok (.iload_n 0, 1) := by decide +kernel
theorem dX9_moverOf_1 : decode cX9_moverOf 1 = .ok (.iconst 2, 1) := by decide +kernel
theorem dX9_moverOf_2 : decode cX9_moverOf 2 = .ok (.irem, 1) := by decide +kernel
theorem dX9_moverOf_3 : decode cX9_moverOf 3 = .ok (.iconst 1, 1) := by decide +kernel
theorem dX9_moverOf_4 : decode cX9_moverOf 4 = .ok (.if_icmp .ne 7, 3) := by decide +kernel
theorem dX9_moverOf_7 : decode cX9_moverOf 7 = .ok (.iconst 0, 1) := by decide +kernel
theorem dX9_moverOf_8 : decode cX9_moverOf 8 = .ok (.goto 4, 3) := by decide +kernel
theorem dX9_moverOf_11 : decode cX9_moverOf 11 = .ok (.iconst 1, 1) := by decide +kernel
theorem dX9_moverOf_12 : decode cX9_moverOf 12 = .ok (.ireturn, 1) := by decide +kernel
theorem dX9_moveOf_0 : decode cX9_moveOf 0 = .ok (.iload_n 0, 1) := by decide +kernel
theorem dX9_moveOf_1 : decode cX9_moveOf 1 = .ok (.bipush 64, 2) := by decide +kernel
theorem dX9_moveOf_3 : decode cX9_moveOf 3 = .ok (.imul, 1) := by decide +kernel
theorem dX9_moveOf_4 : decode cX9_moveOf 4 = .ok (.iload_n 1, 1) := by decide +kernel
theorem dX9_moveOf_5 : decode cX9_moveOf 5 = .ok (.iadd, 1) := by decide +kernel
theorem dX9_moveOf_6 : decode cX9_moveOf 6 = .ok (.ireturn, 1) := by decide +kernel
theorem dX9_startOf_0 : decode cX9_startOf 0 = .ok (.iload_n 0, 1) := by decide +kernel
theorem dX9_startOf_1 : decode cX9_startOf 1 = .ok (.bipush 64, 2) := by decide +kernel
theorem dX9_startOf_3 : decode cX9_startOf 3 = .ok (.idiv, 1) := by decide +kernel
theorem dX9_startOf_4 : decode cX9_startOf 4 = .ok (.ireturn, 1) := by decide +kernel
theorem dX9_endOf_0 : decode cX9_endOf 0 = .ok (.iload_n 0, 1) := by decide +kernel
theorem dX9_endOf_1 : decode cX9_endOf 1 = .ok (.bipush 64, 2) := by decide +kernel
theorem dX9_endOf_3 : decode cX9_endOf 3 = .ok (.irem, 1) := by decide +kernel
theorem dX9_endOf_4 : decode cX9_endOf 4 = .ok (.ireturn, 1) := by decide +kernel
theorem dX9_slotOf_0 : decode cX9_slotOf 0 = .ok (.iload_n 1, 1) := by decide +kernel
theorem dX9_slotOf_1 : decode cX9_slotOf 1 = .ok (.ifCond .ne 10, 3) := by decide +kernel
theorem dX9_slotOf_4 : decode cX9_slotOf 4 = .ok (.aload_n 0, 1) := by decide +kernel
theorem dX9_slotOf_5 : decode cX9_slotOf 5 = .ok (.getfield 47, 3) := by decide +kernel
theorem dX9_slotOf_8 : decode cX9_slotOf 8 = .ok (.goto 7, 3) := by decide +kernel
theorem dX9_slotOf_11 : decode cX9_slotOf 11 = .ok (.aload_n 0, 1) := by decide +kernel
theorem dX9_slotOf_12 : decode cX9_slotOf 12 = .ok (.getfield 50, 3) := by decide +kernel
theorem dX9_slotOf_15 : decode cX9_slotOf 15 = .ok (.areturn, 1) := by decide +kernel
theorem dX9_bytesIn_0 : decode cX9_bytesIn 0 = .ok (.iconst 0, 1) := by decide +kernel
theorem dX9_bytesIn_1 : decode cX9_bytesIn 1 = .ok (.istore_n 1, 1) := by decide +kernel
theorem dX9_bytesIn_2 : decode cX9_bytesIn 2 = .ok (.bipush 24, 2) := by decide +kernel
theorem dX9_bytesIn_4 : decode cX9_bytesIn 4 = .ok (.istore_n 2, 1) := by decide +kernel
theorem dX9_bytesIn_5 : decode cX9_bytesIn 5 = .ok (.iload_n 2, 1) := by decide +kernel
theorem dX9_bytesIn_6 : decode cX9_bytesIn 6 = .ok (.ifCond .lt 22, 3) := by decide +kernel
theorem dX9_bytesIn_9 : decode cX9_bytesIn 9 = .ok (.iload_n 0, 1) := by decide +kernel
theorem dX9_bytesIn_10 : decode cX9_bytesIn 10 = .ok (.iload_n 2, 1) := by decide +kernel
theorem dX9_bytesIn_11 : decode cX9_bytesIn 11 = .ok (.iushr, 1) := by decide +kernel
theorem dX9_bytesIn_12 : decode cX9_bytesIn 12 = .ok (.sipush 255, 3) := by decide +kernel
theorem dX9_bytesIn_15 : decode cX9_bytesIn 15 = .ok (.iand, 1) := by decide +kernel
theorem dX9_bytesIn_16 : decode cX9_bytesIn 16 = .ok (.ifCond .eq 6, 3) := by decide +kernel
theorem dX9_bytesIn_19 : decode cX9_bytesIn 19 = .ok (.iinc 1 1, 3) := by decide +kernel
theorem dX9_bytesIn_22 : decode cX9_bytesIn 22 = .ok (.iinc 2 (-8), 3) := by decide +kernel
theorem dX9_bytesIn_25 : decode cX9_bytesIn 25 = .ok (.goto (-20), 3) := by decide +kernel
theorem dX9_bytesIn_28 : decode cX9_bytesIn 28 = .ok (.iload_n 1, 1) := by decide +kernel
theorem dX9_bytesIn_29 : decode cX9_bytesIn 29 = .ok (.ireturn, 1) := by decide +kernel
theorem dX9_addBytes_0 : decode cX9_addBytes 0 = .ok (.bipush 24, 2) := by decide +kernel
theorem dX9_addBytes_2 : decode cX9_addBytes 2 = .ok (.istore_n 2, 1) := by decide +kernel
theorem dX9_addBytes_3 : decode cX9_addBytes 3 = .ok (.iload_n 2, 1) := by decide +kernel
theorem dX9_addBytes_4 : decode cX9_addBytes 4 = .ok (.ifCond .lt 29, 3) := by decide +kernel
theorem dX9_addBytes_7 : decode cX9_addBytes 7 = .ok (.iload_n 1, 1) := by decide +kernel
theorem dX9_addBytes_8 : decode cX9_addBytes 8 = .ok (.iload_n 2, 1) := by decide +kernel
theorem dX9_addBytes_9 : decode cX9_addBytes 9 = .ok (.iushr, 1) := by decide +kernel
theorem dX9_addBytes_10 : decode cX9_addBytes 10 = .ok (.sipush 255, 3) := by decide +kernel
theorem dX9_addBytes_13 : decode cX9_addBytes 13 = .ok (.iand, 1) := by decide +kernel
theorem dX9_addBytes_14 : decode cX9_addBytes 14 = .ok (.istore_n 3, 1) := by decide +kernel
theorem dX9_addBytes_15 : decode cX9_addBytes 15 = .ok (.iload_n 3, 1) := by decide +kernel
theorem dX9_addBytes_16 : decode cX9_addBytes 16 = .ok (.ifCond .eq 11, 3) := by decide +kernel
theorem dX9_addBytes_19 : decode cX9_addBytes 19 = .ok (.aload_n 0, 1) := by decide +kernel
theorem dX9_addBytes_20 : decode cX9_addBytes 20 = .ok (.getfield 12, 3) := by decide +kernel
theorem dX9_addBytes_23 : decode cX9_addBytes 23 = .ok (.iload_n 3, 1) := by decide +kernel
theorem dX9_addBytes_24 : decode cX9_addBytes 24 = .ok (.invokevirtual 69, 3) := by decide +kernel
theorem dX9_addBytes_27 : decode cX9_addBytes 27 = .ok (.iinc 2 (-8), 3) := by decide +kernel
theorem dX9_addBytes_30 : decode cX9_addBytes 30 = .ok (.goto (-27), 3) := by decide +kernel
theorem dX9_addBytes_33 : decode cX9_addBytes 33 = .ok (.return_, 1) := by decide +kernel
theorem dX9_noteError_0 : decode cX9_noteError 0 = .ok (.aload_n 0, 1) := by decide +kernel
theorem dX9_noteError_1 : decode cX9_noteError 1 = .ok (.aload_n 0, 1) := by decide +kernel
theorem dX9_noteError_2 : decode cX9_noteError 2 = .ok (.getfield 12, 3) := by decide +kernel
theorem dX9_noteError_5 : decode cX9_noteError 5 = .ok (.invokevirtual 402, 3) := by decide +kernel
theorem dX9_noteError_8 : decode cX9_noteError 8 = .ok (.putfield 109, 3) := by decide +kernel
theorem dX9_noteError_11 : decode cX9_noteError 11 = .ok (.aload_n 0, 1) := by decide +kernel
theorem dX9_noteError_12 : decode cX9_noteError 12 = .ok (.aload_n 0, 1) := by decide +kernel
theorem dX9_noteError_13 : decode cX9_noteError 13 = .ok (.getfield 12, 3) := by decide +kernel
theorem dX9_noteError_16 : decode cX9_noteError 16 = .ok (.invokevirtual 405, 3) := by decide +kernel
theorem dX9_noteError_19 : decode cX9_noteError 19 = .ok (.putfield 53, 3) := by decide +kernel
theorem dX9_noteError_22 : decode cX9_noteError 22 = .ok (.return_, 1) := by decide +kernel
theorem dX9_readSetup_0 : decode cX9_readSetup 0 = .ok (.aload_n 0, 1) := by decide +kernel
theorem dX9_readSetup_1 : decode cX9_readSetup 1 = .ok (.getfield 12, 3) := by decide +kernel
theorem dX9_readSetup_4 : decode cX9_readSetup 4 = .ok (.invokevirtual 408, 3) := by decide +kernel
theorem dX9_readSetup_7 : decode cX9_readSetup 7 = .ok (.aload_n 0, 1) := by decide +kernel
theorem dX9_readSetup_8 : decode cX9_readSetup 8 = .ok (.getfield 12, 3) := by decide +kernel
theorem dX9_readSetup_11 : decode cX9_readSetup 11 = .ok (.ldc_w 411, 3) := by decide +kernel
theorem dX9_readSetup_14 : decode cX9_readSetup 14 = .ok (.invokevirtual 412, 3) := by decide +kernel
theorem dX9_readSetup_17 : decode cX9_readSetup 17 = .ok (.aload_n 0, 1) := by decide +kernel
theorem dX9_readSetup_18 : decode cX9_readSetup 18 = .ok (.getfield 12, 3) := by decide +kernel
theorem dX9_readSetup_21 : decode cX9_readSetup 21 = .ok (.iconst 4, 1) := by decide +kernel
theorem dX9_readSetup_22 : decode cX9_readSetup 22 = .ok (.bipush 8, 2) := by decide +kernel
theorem dX9_readSetup_24 : decode cX9_readSetup 24 = .ok (.invokevirtual 415, 3) := by decide +kernel
theorem dX9_readSetup_27 : decode cX9_readSetup 27 = .ok (.istore_n 1, 1) := by decide +kernel
theorem dX9_readSetup_28 : decode cX9_readSetup 28 = .ok (.aload_n 0, 1) := by decide +kernel
theorem dX9_readSetup_29 : decode cX9_readSetup 29 = .ok (.getfield 12, 3) := by decide +kernel
theorem dX9_readSetup_32 : decode cX9_readSetup 32 = .ok (.iconst 1, 1) := by decide +kernel
theorem dX9_readSetup_33 : decode cX9_readSetup 33 = .ok (.bipush 60, 2) := by decide +kernel
theorem dX9_readSetup_35 : decode cX9_readSetup 35 = .ok (.invokevirtual 415, 3) := by decide +kernel
theorem dX9_readSetup_38 : decode cX9_readSetup 38 = .ok (.istore_n 2, 1) := by decide +kernel
theorem dX9_readSetup_39 : decode cX9_readSetup 39 = .ok (.aload_n 0, 1) := by decide +kernel
theorem dX9_readSetup_40 : decode cX9_readSetup 40 = .ok (.getfield 12, 3) := by decide +kernel
theorem dX9_readSetup_43 : decode cX9_readSetup 43 = .ok (.bipush 59, 2) := by decide +kernel
theorem dX9_readSetup_45 : decode cX9_readSetup 45 = .ok (.invokevirtual 418, 3) := by decide +kernel
theorem dX9_readSetup_48 : decode cX9_readSetup 48 = .ok (.aload_n 0, 1) := by decide +kernel
theorem dX9_readSetup_49 : decode cX9_readSetup 49 = .ok (.getfield 37, 3) := by decide +kernel
theorem dX9_readSetup_52 : decode cX9_readSetup 52 = .ok (.iload_n 1, 1) := by decide +kernel
theorem dX9_readSetup_53 : decode cX9_readSetup 53 = .ok (.iload_n 2, 1) := by decide +kernel
theorem dX9_readSetup_54 : decode cX9_readSetup 54 = .ok (.invokevirtual 422, 3) := by decide +kernel
theorem dX9_readSetup_57 : decode cX9_readSetup 57 = .ok (.iconst 0, 1) := by decide +kernel
theorem dX9_readSetup_58 : decode cX9_readSetup 58 = .ok (.istore_n 3, 1) := by decide +kernel
theorem dX9_readSetup_59 : decode cX9_readSetup 59 = .ok (.iload_n 3, 1) := by decide +kernel
theorem dX9_readSetup_60 : decode cX9_readSetup 60 = .ok (.sipush 800, 3) := by decide +kernel
theorem dX9_readSetup_63 : decode cX9_readSetup 63 = .ok (.if_icmp .ge 27, 3) := by decide +kernel
theorem dX9_readSetup_66 : decode cX9_readSetup 66 = .ok (.aload_n 0, 1) := by decide +kernel
theorem dX9_readSetup_67 : decode cX9_readSetup 67 = .ok (.getfield 12, 3) := by decide +kernel
theorem dX9_readSetup_70 : decode cX9_readSetup 70 = .ok (.ldc_w 425, 3) := by decide +kernel
theorem dX9_readSetup_73 : decode cX9_readSetup 73 = .ok (.invokevirtual 427, 3) := by decide +kernel
theorem dX9_readSetup_76 : decode cX9_readSetup 76 = .ok (.ifCond .eq 14, 3) := by decide +kernel
theorem dX9_readSetup_79 : decode cX9_readSetup 79 = .ok (.aload_n 0, 1) := by decide +kernel
theorem dX9_readSetup_80 : decode cX9_readSetup 80 = .ok (.iload_n 1, 1) := by decide +kernel
theorem dX9_readSetup_81 : decode cX9_readSetup 81 = .ok (.invokevirtual 431, 3) := by decide +kernel
theorem dX9_readSetup_84 : decode cX9_readSetup 84 = .ok (.iinc 3 1, 3) := by decide +kernel
theorem dX9_readSetup_87 : decode cX9_readSetup 87 = .ok (.goto (-28), 3) := by decide +kernel
theorem dX9_readSetup_90 : decode cX9_readSetup 90 = .ok (.aload_n 0, 1) := by decide +kernel
theorem dX9_readSetup_91 : decode cX9_readSetup 91 = .ok (.getfield 12, 3) := by decide +kernel
theorem dX9_readSetup_94 : decode cX9_readSetup 94 = .ok (.ldc_w 434, 3) := by decide +kernel
theorem dX9_readSetup_97 : decode cX9_readSetup 97 = .ok (.invokevirtual 412, 3) := by decide +kernel
theorem dX9_readSetup_100 : decode cX9_readSetup 100 = .ok (.aload_n 0, 1) := by decide +kernel
theorem dX9_readSetup_101 : decode cX9_readSetup 101 = .ok (.invokevirtual 436, 3) := by decide +kernel
theorem dX9_readSetup_104 : decode cX9_readSetup 104 = .ok (.iconst 0, 1) := by decide +kernel
theorem dX9_readSetup_105 : decode cX9_readSetup 105 = .ok (.istore_n 3, 1) := by decide +kernel
theorem dX9_readSetup_106 : decode cX9_readSetup 106 = .ok (.iload_n 3, 1) := by decide +kernel
theorem dX9_readSetup_107 : decode cX9_readSetup 107 = .ok (.sipush 800, 3) := by decide +kernel
theorem dX9_readSetup_110 : decode cX9_readSetup 110 = .ok (.if_icmp .ge 59, 3) := by decide +kernel
theorem dX9_readSetup_113 : decode cX9_readSetup 113 = .ok (.aload_n 0, 1) := by decide +kernel
theorem dX9_readSetup_114 : decode cX9_readSetup 114 = .ok (.getfield 12, 3) := by decide +kernel
theorem dX9_readSetup_117 : decode cX9_readSetup 117 = .ok (.ldc_w 434, 3) := by decide +kernel
theorem dX9_readSetup_120 : decode cX9_readSetup 120 = .ok (.invokevirtual 439, 3) := by decide +kernel
theorem dX9_readSetup_123 : decode cX9_readSetup 123 = .ok (.ifCond .eq 46, 3) := by decide +kernel
theorem dX9_readSetup_126 : decode cX9_readSetup 126 = .ok (.aload_n 0, 1) := by decide +kernel
theorem dX9_readSetup_127 : decode cX9_readSetup 127 = .ok (.getfield 37, 3) := by decide +kernel
theorem dX9_readSetup_130 : decode cX9_readSetup 130 = .ok (.invokevirtual 213, 3) := by decide +kernel
theorem dX9_readSetup_133 : decode cX9_readSetup 133 = .ok (.invokevirtual 217, 3) := by decide +kernel
theorem dX9_readSetup_136 : decode cX9_readSetup 136 = .ok (.iconst 4, 1) := by decide +kernel
theorem dX9_readSetup_137 : decode cX9_readSetup 137 = .ok (.if_icmp .lt 11, 3) := by decide +kernel
theorem dX9_readSetup_140 : decode cX9_readSetup 140 = .ok (.aload_n 0, 1) := by decide +kernel
theorem dX9_readSetup_141 : decode cX9_readSetup 141 = .ok (.getfield 12, 3) := by decide +kernel
theorem dX9_readSetup_144 : decode cX9_readSetup 144 = .ok (.iconst 4, 1) := by decide +kernel
theorem dX9_readSetup_145 : decode cX9_readSetup 145 = .ok (.invokevirtual 442, 3) := by decide +kernel
theorem dX9_readSetup_148 : decode cX9_readSetup 148 = .ok (.aload_n 0, 1) := by decide +kernel
theorem dX9_readSetup_149 : decode cX9_readSetup 149 = .ok (.getfield 12, 3) := by decide +kernel
theorem dX9_readSetup_152 : decode cX9_readSetup 152 = .ok (.ldc_w 434, 3) := by decide +kernel
theorem dX9_readSetup_155 : decode cX9_readSetup 155 = .ok (.invokevirtual 427, 3) := by decide +kernel
theorem dX9_readSetup_158 : decode cX9_readSetup 158 = .ok (.pop, 1) := by decide +kernel
theorem dX9_readSetup_159 : decode cX9_readSetup 159 = .ok (.aload_n 0, 1) := by decide +kernel
theorem dX9_readSetup_160 : decode cX9_readSetup 160 = .ok (.invokevirtual 436, 3) := by decide +kernel
theorem dX9_readSetup_163 : decode cX9_readSetup 163 = .ok (.iinc 3 1, 3) := by decide +kernel
theorem dX9_readSetup_166 : decode cX9_readSetup 166 = .ok (.goto (-60), 3) := by decide +kernel
theorem dX9_readSetup_169 : decode cX9_readSetup 169 = .ok (.iconst 0, 1) := by decide +kernel
theorem dX9_readSetup_170 : decode cX9_readSetup 170 = .ok (.istore_n 3, 1) := by decide +kernel
theorem dX9_readSetup_171 : decode cX9_readSetup 171 = .ok (.iload_n 3, 1) := by decide +kernel
theorem dX9_readSetup_172 : decode cX9_readSetup 172 = .ok (.sipush 800, 3) := by decide +kernel
theorem dX9_readSetup_175 : decode cX9_readSetup 175 = .ok (.if_icmp .ge 26, 3) := by decide +kernel
theorem dX9_readSetup_178 : decode cX9_readSetup 178 = .ok (.aload_n 0, 1) := by decide +kernel
theorem dX9_readSetup_179 : decode cX9_readSetup 179 = .ok (.getfield 12, 3) := by decide +kernel
theorem dX9_readSetup_182 : decode cX9_readSetup 182 = .ok (.ldc_w 445, 3) := by decide +kernel
theorem dX9_readSetup_185 : decode cX9_readSetup 185 = .ok (.invokevirtual 427, 3) := by decide +kernel
theorem dX9_readSetup_188 : decode cX9_readSetup 188 = .ok (.ifCond .eq 13, 3) := by decide +kernel
theorem dX9_readSetup_191 : decode cX9_readSetup 191 = .ok (.aload_n 0, 1) := by decide +kernel
theorem dX9_readSetup_192 : decode cX9_readSetup 192 = .ok (.invokevirtual 447, 3) := by decide +kernel
theorem dX9_readSetup_195 : decode cX9_readSetup 195 = .ok (.iinc 3 1, 3) := by decide +kernel
theorem dX9_readSetup_198 : decode cX9_readSetup 198 = .ok (.goto (-27), 3) := by decide +kernel
theorem dX9_readSetup_201 : decode cX9_readSetup 201 = .ok (.aload_n 0, 1) := by decide +kernel
theorem dX9_readSetup_202 : decode cX9_readSetup 202 = .ok (.getfield 12, 3) := by decide +kernel
theorem dX9_readSetup_205 : decode cX9_readSetup 205 = .ok (.invokevirtual 450, 3) := by decide +kernel
theorem dX9_readSetup_208 : decode cX9_readSetup 208 = .ok (.return_, 1) := by decide +kernel
theorem dX9_readBishop_0 : decode cX9_readBishop 0 = .ok (.aload_n 0, 1) := by decide +kernel
theorem dX9_readBishop_1 : decode cX9_readBishop 1 = .ok (.getfield 12, 3) := by decide +kernel
theorem dX9_readBishop_4 : decode cX9_readBishop 4 = .ok (.iconst 0, 1) := by decide +kernel
theorem dX9_readBishop_5 : decode cX9_readBishop 5 = .ok (.iconst 1, 1) := by decide +kernel
theorem dX9_readBishop_6 : decode cX9_readBishop 6 = .ok (.invokevirtual 415, 3) := by decide +kernel
theorem dX9_readBishop_9 : decode cX9_readBishop 9 = .ok (.istore_n 2, 1) := by decide +kernel
theorem dX9_readBishop_10 : decode cX9_readBishop 10 = .ok (.aload_n 0, 1) := by decide +kernel
theorem dX9_readBishop_11 : decode cX9_readBishop 11 = .ok (.getfield 37, 3) := by decide +kernel
theorem dX9_readBishop_14 : decode cX9_readBishop 14 = .ok (.iconst 0, 1) := by decide +kernel
theorem dX9_readBishop_15 : decode cX9_readBishop 15 = .ok (.invokevirtual 140, 3) := by decide +kernel
theorem dX9_readBishop_18 : decode cX9_readBishop 18 = .ok (.iload_n 2, 1) := by decide +kernel
theorem dX9_readBishop_19 : decode cX9_readBishop 19 = .ok (.invokevirtual 171, 3) := by decide +kernel
theorem dX9_readBishop_22 : decode cX9_readBishop 22 = .ok (.bipush 8, 2) := by decide +kernel
theorem dX9_readBishop_24 : decode cX9_readBishop 24 = .ok (.if_icmp .lt 11, 3) := by decide +kernel
theorem dX9_readBishop_27 : decode cX9_readBishop 27 = .ok (.aload_n 0, 1) := by decide +kernel
theorem dX9_readBishop_28 : decode cX9_readBishop 28 = .ok (.getfield 12, 3) := by decide +kernel
theorem dX9_readBishop_31 : decode cX9_readBishop 31 = .ok (.iconst 4, 1) := by decide +kernel
theorem dX9_readBishop_32 : decode cX9_readBishop 32 = .ok (.invokevirtual 453, 3) := by decide +kernel
theorem dX9_readBishop_35 : decode cX9_readBishop 35 = .ok (.aload_n 0, 1) := by decide +kernel
theorem dX9_readBishop_36 : decode cX9_readBishop 36 = .ok (.getfield 12, 3) := by decide +kernel
theorem dX9_readBishop_39 : decode cX9_readBishop 39 = .ok (.iconst 0, 1) := by decide +kernel
theorem dX9_readBishop_40 : decode cX9_readBishop 40 = .ok (.iload_n 1, 1) := by decide +kernel
theorem dX9_readBishop_41 : decode cX9_readBishop 41 = .ok (.iconst 1, 1) := by decide +kernel
theorem dX9_readBishop_42 : decode cX9_readBishop 42 = .ok (.isub, 1) := by decide +kernel
theorem dX9_readBishop_43 : decode cX9_readBishop 43 = .ok (.invokevirtual 415, 3) := by decide +kernel
theorem dX9_readBishop_46 : decode cX9_readBishop 46 = .ok (.istore_n 3, 1) := by decide +kernel
theorem dX9_readBishop_47 : decode cX9_readBishop 47 = .ok (.aload_n 0, 1) := by decide +kernel
theorem dX9_readBishop_48 : decode cX9_readBishop 48 = .ok (.getfield 12, 3) := by decide +kernel
theorem dX9_readBishop_51 : decode cX9_readBishop 51 = .ok (.iconst 0, 1) := by decide +kernel
theorem dX9_readBishop_52 : decode cX9_readBishop 52 = .ok (.iload_n 1, 1) := by decide +kernel
theorem dX9_readBishop_53 : decode cX9_readBishop 53 = .ok (.iconst 1, 1) := by decide +kernel
theorem dX9_readBishop_54 : decode cX9_readBishop 54 = .ok (.isub, 1) := by decide +kernel
theorem dX9_readBishop_55 : decode cX9_readBishop 55 = .ok (.invokevirtual 415, 3) := by decide +kernel
theorem dX9_readBishop_58 : decode cX9_readBishop 58 = .ok (.istore 4, 2) := by decide +kernel
theorem dX9_readBishop_60 : decode cX9_readBishop 60 = .ok (.iload_n 3, 1) := by decide +kernel
theorem dX9_readBishop_61 : decode cX9_readBishop 61 = .ok (.iload_n 1, 1) := by decide +kernel
theorem dX9_readBishop_62 : decode cX9_readBishop 62 = .ok (.imul, 1) := by decide +kernel
theorem dX9_readBishop_63 : decode cX9_readBishop 63 = .ok (.iload 4, 2) := by decide +kernel
theorem dX9_readBishop_65 : decode cX9_readBishop 65 = .ok (.iadd, 1) := by decide +kernel
theorem dX9_readBishop_66 : decode cX9_readBishop 66 = .ok (.istore 5, 2) := by decide +kernel
theorem dX9_readBishop_68 : decode cX9_readBishop 68 = .ok (.aload_n 0, 1) := by decide +kernel
theorem dX9_readBishop_69 : decode cX9_readBishop 69 = .ok (.getfield 37, 3) := by decide +kernel
theorem dX9_readBishop_72 : decode cX9_readBishop 72 = .ok (.iconst 0, 1) := by decide +kernel
theorem dX9_readBishop_73 : decode cX9_readBishop 73 = .ok (.invokevirtual 140, 3) := by decide +kernel
theorem dX9_readBishop_76 : decode cX9_readBishop 76 = .ok (.iload 5, 2) := by decide +kernel
theorem dX9_readBishop_78 : decode cX9_readBishop 78 = .ok (.invokevirtual 168, 3) := by decide +kernel
theorem dX9_readBishop_81 : decode cX9_readBishop 81 = .ok (.iconst (-1), 1) := by decide +kernel
theorem dX9_readBishop_82 : decode cX9_readBishop 82 = .ok (.if_icmp .eq 11, 3) := by decide +kernel
theorem dX9_readBishop_85 : decode cX9_readBishop 85 = .ok (.aload_n 0, 1) := by decide +kernel
theorem dX9_readBishop_86 : decode cX9_readBishop 86 = .ok (.getfield 12, 3) := by decide +kernel
theorem dX9_readBishop_89 : decode cX9_readBishop 89 = .ok (.iconst 3, 1) := by decide +kernel
theorem dX9_readBishop_90 : decode cX9_readBishop 90 = .ok (.invokevirtual 453, 3) := by decide +kernel
theorem dX9_readBishop_93 : decode cX9_readBishop 93 = .ok (.aload_n 0, 1) := by decide +kernel
theorem dX9_readBishop_94 : decode cX9_readBishop 94 = .ok (.getfield 12, 3) := by decide +kernel
theorem dX9_readBishop_97 : decode cX9_readBishop 97 = .ok (.bipush 59, 2) := by decide +kernel
theorem dX9_readBishop_99 : decode cX9_readBishop 99 = .ok (.invokevirtual 418, 3) := by decide +kernel
theorem dX9_readBishop_102 : decode cX9_readBishop 102 = .ok (.aload_n 0, 1) := by decide +kernel
theorem dX9_readBishop_103 : decode cX9_readBishop 103 = .ok (.getfield 12, 3) := by decide +kernel
theorem dX9_readBishop_106 : decode cX9_readBishop 106 = .ok (.invokevirtual 456, 3) := by decide +kernel
theorem dX9_readBishop_109 : decode cX9_readBishop 109 = .ok (.ifCond .ne 31, 3) := by decide +kernel
theorem dX9_readBishop_112 : decode cX9_readBishop 112 = .ok (.aload_n 0, 1) := by decide +kernel
theorem dX9_readBishop_113 : decode cX9_readBishop 113 = .ok (.getfield 37, 3) := by decide +kernel
theorem dX9_readBishop_116 : decode cX9_readBishop 116 = .ok (.iconst 0, 1) := by decide +kernel
theorem dX9_readBishop_117 : decode cX9_readBishop 117 = .ok (.invokevirtual 140, 3) := by decide +kernel
theorem dX9_readBishop_120 : decode cX9_readBishop 120 = .ok (.iload_n 2, 1) := by decide +kernel
theorem dX9_readBishop_121 : decode cX9_readBishop 121 = .ok (.iload 5, 2) := by decide +kernel
theorem dX9_readBishop_123 : decode cX9_readBishop 123 = .ok (.invokevirtual 459, 3) := by decide +kernel
theorem dX9_readBishop_126 : decode cX9_readBishop 126 = .ok (.aload_n 0, 1) := by decide +kernel
theorem dX9_readBishop_127 : decode cX9_readBishop 127 = .ok (.getfield 37, 3) := by decide +kernel
theorem dX9_readBishop_130 : decode cX9_readBishop 130 = .ok (.iconst 1, 1) := by decide +kernel
theorem dX9_readBishop_131 : decode cX9_readBishop 131 = .ok (.invokevirtual 140, 3) := by decide +kernel
theorem dX9_readBishop_134 : decode cX9_readBishop 134 = .ok (.iload_n 2, 1) := by decide +kernel
theorem dX9_readBishop_135 : decode cX9_readBishop 135 = .ok (.iload 5, 2) := by decide +kernel
theorem dX9_readBishop_137 : decode cX9_readBishop 137 = .ok (.invokevirtual 459, 3) := by decide +kernel
theorem dX9_readBishop_140 : decode cX9_readBishop 140 = .ok (.return_, 1) := by decide +kernel
theorem dX9_readPass_0 : decode cX9_readPass 0 = .ok (.aload_n 0, 1) := by decide +kernel
theorem dX9_readPass_1 : decode cX9_readPass 1 = .ok (.getfield 12, 3) := by decide +kernel
theorem dX9_readPass_4 : decode cX9_readPass 4 = .ok (.iconst 1, 1) := by decide +kernel
theorem dX9_readPass_5 : decode cX9_readPass 5 = .ok (.bipush 9, 2) := by decide +kernel
theorem dX9_readPass_7 : decode cX9_readPass 7 = .ok (.invokevirtual 415, 3) := by decide +kernel
theorem dX9_readPass_10 : decode cX9_readPass 10 = .ok (.istore_n 1, 1) := by decide +kernel
theorem dX9_readPass_11 : decode cX9_readPass 11 = .ok (.aload_n 0, 1) := by decide +kernel
theorem dX9_readPass_12 : decode cX9_readPass 12 = .ok (.getfield 12, 3) := by decide +kernel
theorem dX9_readPass_15 : decode cX9_readPass 15 = .ok (.iconst 0, 1) := by decide +kernel
theorem dX9_readPass_16 : decode cX9_readPass 16 = .ok (.bipush 9, 2) := by decide +kernel
theorem dX9_readPass_18 : decode cX9_readPass 18 = .ok (.invokevirtual 415, 3) := by decide +kernel
theorem dX9_readPass_21 : decode cX9_readPass 21 = .ok (.istore_n 2, 1) := by decide +kernel
theorem dX9_readPass_22 : decode cX9_readPass 22 = .ok (.aload_n 0, 1) := by decide +kernel
theorem dX9_readPass_23 : decode cX9_readPass 23 = .ok (.getfield 12, 3) := by decide +kernel
theorem dX9_readPass_26 : decode cX9_readPass 26 = .ok (.iconst 0, 1) := by decide +kernel
theorem dX9_readPass_27 : decode cX9_readPass 27 = .ok (.bipush 9, 2) := by decide +kernel
theorem dX9_readPass_29 : decode cX9_readPass 29 = .ok (.invokevirtual 415, 3) := by decide +kernel
theorem dX9_readPass_32 : decode cX9_readPass 32 = .ok (.istore_n 3, 1) := by decide +kernel
theorem dX9_readPass_33 : decode cX9_readPass 33 = .ok (.aload_n 0, 1) := by decide +kernel
theorem dX9_readPass_34 : decode cX9_readPass 34 = .ok (.getfield 12, 3) := by decide +kernel
theorem dX9_readPass_37 : decode cX9_readPass 37 = .ok (.bipush 59, 2) := by decide +kernel
theorem dX9_readPass_39 : decode cX9_readPass 39 = .ok (.invokevirtual 418, 3) := by decide +kernel
theorem dX9_readPass_42 : decode cX9_readPass 42 = .ok (.aload_n 0, 1) := by decide +kernel
theorem dX9_readPass_43 : decode cX9_readPass 43 = .ok (.getfield 12, 3) := by decide +kernel
theorem dX9_readPass_46 : decode cX9_readPass 46 = .ok (.invokevirtual 456, 3) := by decide +kernel
theorem dX9_readPass_49 : decode cX9_readPass 49 = .ok (.ifCond .ne 16, 3) := by decide +kernel
theorem dX9_readPass_52 : decode cX9_readPass 52 = .ok (.aload_n 0, 1) := by decide +kernel
theorem dX9_readPass_53 : decode cX9_readPass 53 = .ok (.getfield 37, 3) := by decide +kernel
theorem dX9_readPass_56 : decode cX9_readPass 56 = .ok (.invokevirtual 213, 3) := by decide +kernel
theorem dX9_readPass_59 : decode cX9_readPass 59 = .ok (.iload_n 1, 1) := by decide +kernel
theorem dX9_readPass_60 : decode cX9_readPass 60 = .ok (.iload_n 2, 1) := by decide +kernel
theorem dX9_readPass_61 : decode cX9_readPass 61 = .ok (.iload_n 3, 1) := by decide +kernel
theorem dX9_readPass_62 : decode cX9_readPass 62 = .ok (.invokevirtual 462, 3) := by decide +kernel
theorem dX9_readPass_65 : decode cX9_readPass 65 = .ok (.return_, 1) := by decide +kernel
theorem dX9_readSnow_0 : decode cX9_readSnow 0 = .ok (.aload_n 0, 1) := by decide +kernel
theorem dX9_readSnow_1 : decode cX9_readSnow 1 = .ok (.getfield 12, 3) := by decide +kernel
theorem dX9_readSnow_4 : decode cX9_readSnow 4 = .ok (.iconst 0, 1) := by decide +kernel
theorem dX9_readSnow_5 : decode cX9_readSnow 5 = .ok (.aload_n 0, 1) := by decide +kernel
theorem dX9_readSnow_6 : decode cX9_readSnow 6 = .ok (.getfield 37, 3) := by decide +kernel
theorem dX9_readSnow_9 : decode cX9_readSnow 9 = .ok (.invokevirtual 213, 3) := by decide +kernel
theorem dX9_readSnow_12 : decode cX9_readSnow 12 = .ok (.invokevirtual 217, 3) := by decide +kernel
theorem dX9_readSnow_15 : decode cX9_readSnow 15 = .ok (.iconst 1, 1) := by decide +kernel
theorem dX9_readSnow_16 : decode cX9_readSnow 16 = .ok (.isub, 1) := by decide +kernel
theorem dX9_readSnow_17 : decode cX9_readSnow 17 = .ok (.invokevirtual 415, 3) := by decide +kernel
theorem dX9_readSnow_20 : decode cX9_readSnow 20 = .ok (.istore_n 1, 1) := by decide +kernel
theorem dX9_readSnow_21 : decode cX9_readSnow 21 = .ok (.aload_n 0, 1) := by decide +kernel
theorem dX9_readSnow_22 : decode cX9_readSnow 22 = .ok (.getfield 12, 3) := by decide +kernel
theorem dX9_readSnow_25 : decode cX9_readSnow 25 = .ok (.iconst 0, 1) := by decide +kernel
theorem dX9_readSnow_26 : decode cX9_readSnow 26 = .ok (.bipush 11, 2) := by decide +kernel
theorem dX9_readSnow_28 : decode cX9_readSnow 28 = .ok (.invokevirtual 415, 3) := by decide +kernel
theorem dX9_readSnow_31 : decode cX9_readSnow 31 = .ok (.istore_n 2, 1) := by decide +kernel
theorem dX9_readSnow_32 : decode cX9_readSnow 32 = .ok (.aload_n 0, 1) := by decide +kernel
theorem dX9_readSnow_33 : decode cX9_readSnow 33 = .ok (.getfield 12, 3) := by decide +kernel
theorem dX9_readSnow_36 : decode cX9_readSnow 36 = .ok (.iconst 0, 1) := by decide +kernel
theorem dX9_readSnow_37 : decode cX9_readSnow 37 = .ok (.bipush 9, 2) := by decide +kernel
theorem dX9_readSnow_39 : decode cX9_readSnow 39 = .ok (.invokevirtual 415, 3) := by decide +kernel
theorem dX9_readSnow_42 : decode cX9_readSnow 42 = .ok (.istore_n 3, 1) := by decide +kernel
theorem dX9_readSnow_43 : decode cX9_readSnow 43 = .ok (.aload_n 0, 1) := by decide +kernel
theorem dX9_readSnow_44 : decode cX9_readSnow 44 = .ok (.getfield 12, 3) := by decide +kernel
theorem dX9_readSnow_47 : decode cX9_readSnow 47 = .ok (.bipush 59, 2) := by decide +kernel
theorem dX9_readSnow_49 : decode cX9_readSnow 49 = .ok (.invokevirtual 418, 3) := by decide +kernel
theorem dX9_readSnow_52 : decode cX9_readSnow 52 = .ok (.aload_n 0, 1) := by decide +kernel
theorem dX9_readSnow_53 : decode cX9_readSnow 53 = .ok (.getfield 12, 3) := by decide +kernel
theorem dX9_readSnow_56 : decode cX9_readSnow 56 = .ok (.invokevirtual 456, 3) := by decide +kernel
theorem dX9_readSnow_59 : decode cX9_readSnow 59 = .ok (.ifCond .ne 17, 3) := by decide +kernel
theorem dX9_readSnow_62 : decode cX9_readSnow 62 = .ok (.aload_n 0, 1) := by decide +kernel
theorem dX9_readSnow_63 : decode cX9_readSnow 63 = .ok (.getfield 37, 3) := by decide +kernel
theorem dX9_readSnow_66 : decode cX9_readSnow 66 = .ok (.invokevirtual 213, 3) := by decide +kernel
theorem dX9_readSnow_69 : decode cX9_readSnow 69 = .ok (.iload_n 1, 1) := by decide +kernel
theorem dX9_readSnow_70 : decode cX9_readSnow 70 = .ok (.iload_n 2, 1) := by decide +kernel
theorem dX9_readSnow_71 : decode cX9_readSnow 71 = .ok (.iload_n 3, 1) := by decide +kernel
theorem dX9_readSnow_72 : decode cX9_readSnow 72 = .ok (.invokevirtual 345, 3) := by decide +kernel
theorem dX9_readSnow_75 : decode cX9_readSnow 75 = .ok (.pop, 1) := by decide +kernel
theorem dX9_readSnow_76 : decode cX9_readSnow 76 = .ok (.return_, 1) := by decide +kernel
theorem dX9_perform_0 : decode cX9_perform 0 = .ok (.aload_n 0, 1) := by decide +kernel
theorem dX9_perform_1 : decode cX9_perform 1 = .ok (.getfield 19, 3) := by decide +kernel
theorem dX9_perform_4 : decode cX9_perform 4 = .ok (.iload_n 1, 1) := by decide +kernel
theorem dX9_perform_5 : decode cX9_perform 5 = .ok (.iconst 0, 1) := by decide +kernel
theorem dX9_perform_6 : decode cX9_perform 6 = .ok (.invokevirtual 466, 3) := by decide +kernel
theorem dX9_perform_9 : decode cX9_perform 9 = .ok (.istore_n 2, 1) := by decide +kernel
theorem dX9_perform_10 : decode cX9_perform 10 = .ok (.aload_n 0, 1) := by decide +kernel
theorem dX9_perform_11 : decode cX9_perform 11 = .ok (.getfield 19, 3) := by decide +kernel
theorem dX9_perform_14 : decode cX9_perform 14 = .ok (.iload_n 1, 1) := by decide +kernel
theorem dX9_perform_15 : decode cX9_perform 15 = .ok (.iconst 1, 1) := by decide +kernel
theorem dX9_perform_16 : decode cX9_perform 16 = .ok (.invokevirtual 466, 3) := by decide +kernel
theorem dX9_perform_19 : decode cX9_perform 19 = .ok (.istore_n 3, 1) := by decide +kernel
theorem dX9_perform_20 : decode cX9_perform 20 = .ok (.aload_n 0, 1) := by decide +kernel
theorem dX9_perform_21 : decode cX9_perform 21 = .ok (.getfield 19, 3) := by decide +kernel
theorem dX9_perform_24 : decode cX9_perform 24 = .ok (.iload_n 1, 1) := by decide +kernel
theorem dX9_perform_25 : decode cX9_perform 25 = .ok (.iconst 2, 1) := by decide +kernel
theorem dX9_perform_26 : decode cX9_perform 26 = .ok (.invokevirtual 466, 3) := by decide +kernel
theorem dX9_perform_29 : decode cX9_perform 29 = .ok (.istore 4, 2) := by decide +kernel
theorem dX9_perform_31 : decode cX9_perform 31 = .ok (.aload_n 0, 1) := by decide +kernel
theorem dX9_perform_32 : decode cX9_perform 32 = .ok (.getfield 19, 3) := by decide +kernel
theorem dX9_perform_35 : decode cX9_perform 35 = .ok (.iload_n 1, 1) := by decide +kernel
theorem dX9_perform_36 : decode cX9_perform 36 = .ok (.iconst 3, 1) := by decide +kernel
theorem dX9_perform_37 : decode cX9_perform 37 = .ok (.invokevirtual 466, 3) := by decide +kernel
theorem dX9_perform_40 : decode cX9_perform 40 = .ok (.istore 5, 2) := by decide +kernel
theorem dX9_perform_42 : decode cX9_perform 42 = .ok (.aload_n 0, 1) := by decide +kernel
theorem dX9_perform_43 : decode cX9_perform 43 = .ok (.getfield 19, 3) := by decide +kernel
theorem dX9_perform_46 : decode cX9_perform 46 = .ok (.iload_n 1, 1) := by decide +kernel
theorem dX9_perform_47 : decode cX9_perform 47 = .ok (.invokevirtual 469, 3) := by decide +kernel
theorem dX9_perform_50 : decode cX9_perform 50 = .ok (.tableswitch 190 1 6 #[38, 72, 78, 104, 128, 157], 38) := by decide +kernel
theorem dX9_perform_88 : decode cX9_perform 88 = .ok (.aload_n 0, 1) := by decide +kernel
theorem dX9_perform_89 : decode cX9_perform 89 = .ok (.getfield 33, 3) := by decide +kernel
theorem dX9_perform_92 : decode cX9_perform 92 = .ok (.iload_n 2, 1) := by decide +kernel
theorem dX9_perform_93 : decode cX9_perform 93 = .ok (.iload_n 3, 1) := by decide +kernel
theorem dX9_perform_94 : decode cX9_perform 94 = .ok (.iload 4, 2) := by decide +kernel
theorem dX9_perform_96 : decode cX9_perform 96 = .ok (.iload 5, 2) := by decide +kernel
theorem dX9_perform_98 : decode cX9_perform 98 = .ok (.invokevirtual 304, 3) := by decide +kernel
theorem dX9_perform_101 : decode cX9_perform 101 = .ok (.ifCond .eq 5, 3) := by decide +kernel
theorem dX9_perform_104 : decode cX9_perform 104 = .ok (.iconst 0, 1) := by decide +kernel
theorem dX9_perform_105 : decode cX9_perform 105 = .ok (.ireturn, 1) := by decide +kernel
theorem dX9_perform_106 : decode cX9_perform 106 = .ok (.aload_n 0, 1) := by decide +kernel
theorem dX9_perform_107 : decode cX9_perform 107 = .ok (.getfield 33, 3) := by decide +kernel
theorem dX9_perform_110 : decode cX9_perform 110 = .ok (.iload_n 2, 1) := by decide +kernel
theorem dX9_perform_111 : decode cX9_perform 111 = .ok (.iload_n 3, 1) := by decide +kernel
theorem dX9_perform_112 : decode cX9_perform 112 = .ok (.iload 4, 2) := by decide +kernel
theorem dX9_perform_114 : decode cX9_perform 114 = .ok (.iload 5, 2) := by decide +kernel
theorem dX9_perform_116 : decode cX9_perform 116 = .ok (.invokevirtual 311, 3) := by decide +kernel
theorem dX9_perform_119 : decode cX9_perform 119 = .ok (.pop, 1) := by decide +kernel
theorem dX9_perform_120 : decode cX9_perform 120 = .ok (.iconst 1, 1) := by decide +kernel
theorem dX9_perform_121 : decode cX9_perform 121 = .ok (.ireturn, 1) := by decide +kernel
theorem dX9_perform_122 : decode cX9_perform 122 = .ok (.aload_n 0, 1) := by decide +kernel
theorem dX9_perform_123 : decode cX9_perform 123 = .ok (.iload_n 1, 1) := by decide +kernel
theorem dX9_perform_124 : decode cX9_perform 124 = .ok (.invokevirtual 472, 3) := by decide +kernel
theorem dX9_perform_127 : decode cX9_perform 127 = .ok (.ireturn, 1) := by decide +kernel
theorem dX9_perform_128 : decode cX9_perform 128 = .ok (.aload_n 0, 1) := by decide +kernel
theorem dX9_perform_129 : decode cX9_perform 129 = .ok (.getfield 33, 3) := by decide +kernel
theorem dX9_perform_132 : decode cX9_perform 132 = .ok (.iload_n 2, 1) := by decide +kernel
theorem dX9_perform_133 : decode cX9_perform 133 = .ok (.iload_n 3, 1) := by decide +kernel
theorem dX9_perform_134 : decode cX9_perform 134 = .ok (.invokevirtual 323, 3) := by decide +kernel
theorem dX9_perform_137 : decode cX9_perform 137 = .ok (.ifCond .eq 5, 3) := by decide +kernel
theorem dX9_perform_140 : decode cX9_perform 140 = .ok (.iconst 0, 1) := by decide +kernel
theorem dX9_perform_141 : decode cX9_perform 141 = .ok (.ireturn, 1) := by decide +kernel
theorem dX9_perform_142 : decode cX9_perform 142 = .ok (.aload_n 0, 1) := by decide +kernel
theorem dX9_perform_143 : decode cX9_perform 143 = .ok (.getfield 33, 3) := by decide +kernel
theorem dX9_perform_146 : decode cX9_perform 146 = .ok (.iload_n 2, 1) := by decide +kernel
theorem dX9_perform_147 : decode cX9_perform 147 = .ok (.iload_n 3, 1) := by decide +kernel
theorem dX9_perform_148 : decode cX9_perform 148 = .ok (.invokevirtual 326, 3) := by decide +kernel
theorem dX9_perform_151 : decode cX9_perform 151 = .ok (.pop, 1) := by decide +kernel
theorem dX9_perform_152 : decode cX9_perform 152 = .ok (.iconst 1, 1) := by decide +kernel
theorem dX9_perform_153 : decode cX9_perform 153 = .ok (.ireturn, 1) := by decide +kernel
theorem dX9_perform_154 : decode cX9_perform 154 = .ok (.aload_n 0, 1) := by decide +kernel
theorem dX9_perform_155 : decode cX9_perform 155 = .ok (.getfield 33, 3) := by decide +kernel
theorem dX9_perform_158 : decode cX9_perform 158 = .ok (.iload_n 2, 1) := by decide +kernel
theorem dX9_perform_159 : decode cX9_perform 159 = .ok (.invokevirtual 329, 3) := by decide +kernel
theorem dX9_perform_162 : decode cX9_perform 162 = .ok (.ifCond .eq 5, 3) := by decide +kernel
theorem dX9_perform_165 : decode cX9_perform 165 = .ok (.iconst 0, 1) := by decide +kernel
theorem dX9_perform_166 : decode cX9_perform 166 = .ok (.ireturn, 1) := by decide +kernel
theorem dX9_perform_167 : decode cX9_perform 167 = .ok (.aload_n 0, 1) := by decide +kernel
theorem dX9_perform_168 : decode cX9_perform 168 = .ok (.getfield 33, 3) := by decide +kernel
theorem dX9_perform_171 : decode cX9_perform 171 = .ok (.iload_n 2, 1) := by decide +kernel
theorem dX9_perform_172 : decode cX9_perform 172 = .ok (.invokevirtual 332, 3) := by decide +kernel
theorem dX9_perform_175 : decode cX9_perform 175 = .ok (.pop, 1) := by decide +kernel
theorem dX9_perform_176 : decode cX9_perform 176 = .ok (.iconst 1, 1) := by decide +kernel
theorem dX9_perform_177 : decode cX9_perform 177 = .ok (.ireturn, 1) := by decide +kernel
theorem dX9_perform_178 : decode cX9_perform 178 = .ok (.aload_n 0, 1) := by decide +kernel
theorem dX9_perform_179 : decode cX9_perform 179 = .ok (.getfield 33, 3) := by decide +kernel
theorem dX9_perform_182 : decode cX9_perform 182 = .ok (.iload_n 2, 1) := by decide +kernel
theorem dX9_perform_183 : decode cX9_perform 183 = .ok (.iload_n 3, 1) := by decide +kernel
theorem dX9_perform_184 : decode cX9_perform 184 = .ok (.invokevirtual 335, 3) := by decide +kernel
theorem dX9_perform_187 : decode cX9_perform 187 = .ok (.ifCond .eq 5, 3) := by decide +kernel
theorem dX9_perform_190 : decode cX9_perform 190 = .ok (.iconst 0, 1) := by decide +kernel
theorem dX9_perform_191 : decode cX9_perform 191 = .ok (.ireturn, 1) := by decide +kernel
theorem dX9_perform_192 : decode cX9_perform 192 = .ok (.aload_n 0, 1) := by decide +kernel
theorem dX9_perform_193 : decode cX9_perform 193 = .ok (.getfield 33, 3) := by decide +kernel
theorem dX9_perform_196 : decode cX9_perform 196 = .ok (.invokevirtual 213, 3) := by decide +kernel
theorem dX9_perform_199 : decode cX9_perform 199 = .ok (.iload_n 2, 1) := by decide +kernel
theorem dX9_perform_200 : decode cX9_perform 200 = .ok (.iload_n 3, 1) := by decide +kernel
theorem dX9_perform_201 : decode cX9_perform 201 = .ok (.invokevirtual 338, 3) := by decide +kernel
theorem dX9_perform_204 : decode cX9_perform 204 = .ok (.pop, 1) := by decide +kernel
theorem dX9_perform_205 : decode cX9_perform 205 = .ok (.iconst 1, 1) := by decide +kernel
theorem dX9_perform_206 : decode cX9_perform 206 = .ok (.ireturn, 1) := by decide +kernel
theorem dX9_perform_207 : decode cX9_perform 207 = .ok (.aload_n 0, 1) := by decide +kernel
theorem dX9_perform_208 : decode cX9_perform 208 = .ok (.getfield 33, 3) := by decide +kernel
theorem dX9_perform_211 : decode cX9_perform 211 = .ok (.iload_n 2, 1) := by decide +kernel
theorem dX9_perform_212 : decode cX9_perform 212 = .ok (.iload_n 3, 1) := by decide +kernel
theorem dX9_perform_213 : decode cX9_perform 213 = .ok (.iload 4, 2) := by decide +kernel
theorem dX9_perform_215 : decode cX9_perform 215 = .ok (.invokevirtual 341, 3) := by decide +kernel
theorem dX9_perform_218 : decode cX9_perform 218 = .ok (.ifCond .eq 5, 3) := by decide +kernel
theorem dX9_perform_221 : decode cX9_perform 221 = .ok (.iconst 0, 1) := by decide +kernel
theorem dX9_perform_222 : decode cX9_perform 222 = .ok (.ireturn, 1) := by decide +kernel
theorem dX9_perform_223 : decode cX9_perform 223 = .ok (.aload_n 0, 1) := by decide +kernel
theorem dX9_perform_224 : decode cX9_perform 224 = .ok (.getfield 33, 3) := by decide +kernel
theorem dX9_perform_227 : decode cX9_perform 227 = .ok (.invokevirtual 213, 3) := by decide +kernel
theorem dX9_perform_230 : decode cX9_perform 230 = .ok (.iload_n 2, 1) := by decide +kernel
theorem dX9_perform_231 : decode cX9_perform 231 = .ok (.iload_n 3, 1) := by decide +kernel
theorem dX9_perform_232 : decode cX9_perform 232 = .ok (.iload 4, 2) := by decide +kernel
theorem dX9_perform_234 : decode cX9_perform 234 = .ok (.invokevirtual 345, 3) := by decide +kernel
theorem dX9_perform_237 : decode cX9_perform 237 = .ok (.pop, 1) := by decide +kernel
theorem dX9_perform_238 : decode cX9_perform 238 = .ok (.iconst 1, 1) := by decide +kernel
theorem dX9_perform_239 : decode cX9_perform 239 = .ok (.ireturn, 1) := by decide +kernel
theorem dX9_perform_240 : decode cX9_perform 240 = .ok (.iconst 0, 1) := by decide +kernel
theorem dX9_perform_241 : decode cX9_perform 241 = .ok (.ireturn, 1) := by decide +kernel
theorem dX9_performPromise_0 : decode cX9_performPromise 0 = .ok (.aload_n 0, 1) := by decide +kernel
theorem dX9_performPromise_1 : decode cX9_performPromise 1 = .ok (.getfield 19, 3) := by decide +kernel
theorem dX9_performPromise_4 : decode cX9_performPromise 4 = .ok (.iload_n 1, 1) := by decide +kernel
theorem dX9_performPromise_5 : decode cX9_performPromise 5 = .ok (.iconst 0, 1) := by decide +kernel
theorem dX9_performPromise_6 : decode cX9_performPromise 6 = .ok (.invokevirtual 466, 3) := by decide +kernel
theorem dX9_performPromise_9 : decode cX9_performPromise 9 = .ok (.istore_n 2, 1) := by decide +kernel
theorem dX9_performPromise_10 : decode cX9_performPromise 10 = .ok (.aload_n 0, 1) := by decide +kernel
theorem dX9_performPromise_11 : decode cX9_performPromise 11 = .ok (.getfield 19, 3) := by decide +kernel
theorem dX9_performPromise_14 : decode cX9_performPromise 14 = .ok (.iload_n 1, 1) := by decide +kernel
theorem dX9_performPromise_15 : decode cX9_performPromise 15 = .ok (.iconst 1, 1) := by decide +kernel
theorem dX9_performPromise_16 : decode cX9_performPromise 16 = .ok (.invokevirtual 466, 3) := by decide +kernel
theorem dX9_performPromise_19 : decode cX9_performPromise 19 = .ok (.istore_n 3, 1) := by decide +kernel
theorem dX9_performPromise_20 : decode cX9_performPromise 20 = .ok (.aload_n 0, 1) := by decide +kernel
theorem dX9_performPromise_21 : decode cX9_performPromise 21 = .ok (.getfield 19, 3) := by decide +kernel
theorem dX9_performPromise_24 : decode cX9_performPromise 24 = .ok (.iload_n 1, 1) := by decide +kernel
theorem dX9_performPromise_25 : decode cX9_performPromise 25 = .ok (.iconst 2, 1) := by decide +kernel
theorem dX9_performPromise_26 : decode cX9_performPromise 26 = .ok (.invokevirtual 466, 3) := by decide +kernel
theorem dX9_performPromise_29 : decode cX9_performPromise 29 = .ok (.istore 4, 2) := by decide +kernel
theorem dX9_performPromise_31 : decode cX9_performPromise 31 = .ok (.aload_n 0, 1) := by decide +kernel
theorem dX9_performPromise_32 : decode cX9_performPromise 32 = .ok (.getfield 19, 3) := by decide +kernel
theorem dX9_performPromise_35 : decode cX9_performPromise 35 = .ok (.iload_n 1, 1) := by decide +kernel
theorem dX9_performPromise_36 : decode cX9_performPromise 36 = .ok (.iconst 3, 1) := by decide +kernel
theorem dX9_performPromise_37 : decode cX9_performPromise 37 = .ok (.invokevirtual 466, 3) := by decide +kernel
theorem dX9_performPromise_40 : decode cX9_performPromise 40 = .ok (.istore 5, 2) := by decide +kernel
theorem dX9_performPromise_42 : decode cX9_performPromise 42 = .ok (.aload_n 0, 1) := by decide +kernel
theorem dX9_performPromise_43 : decode cX9_performPromise 43 = .ok (.getfield 19, 3) := by decide +kernel
theorem dX9_performPromise_46 : decode cX9_performPromise 46 = .ok (.iload_n 1, 1) := by decide +kernel
theorem dX9_performPromise_47 : decode cX9_performPromise 47 = .ok (.iconst 4, 1) := by decide +kernel
theorem dX9_performPromise_48 : decode cX9_performPromise 48 = .ok (.invokevirtual 466, 3) := by decide +kernel
theorem dX9_performPromise_51 : decode cX9_performPromise 51 = .ok (.istore 6, 2) := by decide +kernel
theorem dX9_performPromise_53 : decode cX9_performPromise 53 = .ok (.aload_n 0, 1) := by decide +kernel
theorem dX9_performPromise_54 : decode cX9_performPromise 54 = .ok (.getfield 19, 3) := by decide +kernel
theorem dX9_performPromise_57 : decode cX9_performPromise 57 = .ok (.iload_n 1, 1) := by decide +kernel
theorem dX9_performPromise_58 : decode cX9_performPromise 58 = .ok (.iconst 5, 1) := by decide +kernel
theorem dX9_performPromise_59 : decode cX9_performPromise 59 = .ok (.invokevirtual 466, 3) := by decide +kernel
theorem dX9_performPromise_62 : decode cX9_performPromise 62 = .ok (.istore 7, 2) := by decide +kernel
theorem dX9_performPromise_64 : decode cX9_performPromise 64 = .ok (.aload_n 0, 1) := by decide +kernel
theorem dX9_performPromise_65 : decode cX9_performPromise 65 = .ok (.getfield 33, 3) := by decide +kernel
theorem dX9_performPromise_68 : decode cX9_performPromise 68 = .ok (.iload_n 2, 1) := by decide +kernel
theorem dX9_performPromise_69 : decode cX9_performPromise 69 = .ok (.iload_n 3, 1) := by decide +kernel
theorem dX9_performPromise_70 : decode cX9_performPromise 70 = .ok (.iload 4, 2) := by decide +kernel
theorem dX9_performPromise_72 : decode cX9_performPromise 72 = .ok (.iload 5, 2) := by decide +kernel
theorem dX9_performPromise_74 : decode cX9_performPromise 74 = .ok (.iload 6, 2) := by decide +kernel
theorem dX9_performPromise_76 : decode cX9_performPromise 76 = .ok (.iload 7, 2) := by decide +kernel
theorem dX9_performPromise_78 : decode cX9_performPromise 78 = .ok (.invokevirtual 314, 3) := by decide +kernel
theorem dX9_performPromise_81 : decode cX9_performPromise 81 = .ok (.ifCond .eq 5, 3) := by decide +kernel
theorem dX9_performPromise_84 : decode cX9_performPromise 84 = .ok (.iconst 0, 1) := by decide +kernel
theorem dX9_performPromise_85 : decode cX9_performPromise 85 = .ok (.ireturn, 1) := by decide +kernel
theorem dX9_performPromise_86 : decode cX9_performPromise 86 = .ok (.aload_n 0, 1) := by decide +kernel
theorem dX9_performPromise_87 : decode cX9_performPromise 87 = .ok (.getfield 33, 3) := by decide +kernel
theorem dX9_performPromise_90 : decode cX9_performPromise 90 = .ok (.iload_n 2, 1) := by decide +kernel
theorem dX9_performPromise_91 : decode cX9_performPromise 91 = .ok (.iload_n 3, 1) := by decide +kernel
theorem dX9_performPromise_92 : decode cX9_performPromise 92 = .ok (.iload 4, 2) := by decide +kernel
theorem dX9_performPromise_94 : decode cX9_performPromise 94 = .ok (.iload 5, 2) := by decide +kernel
theorem dX9_performPromise_96 : decode cX9_performPromise 96 = .ok (.invokestatic 317, 3) := by decide +kernel
theorem dX9_performPromise_99 : decode cX9_performPromise 99 = .ok (.iload 6, 2) := by decide +kernel
theorem dX9_performPromise_101 : decode cX9_performPromise 101 = .ok (.iload 7, 2) := by decide +kernel
theorem dX9_performPromise_103 : decode cX9_performPromise 103 = .ok (.invokestatic 317, 3) := by decide +kernel
theorem dX9_performPromise_106 : decode cX9_performPromise 106 = .ok (.invokevirtual 320, 3) := by decide +kernel
theorem dX9_performPromise_109 : decode cX9_performPromise 109 = .ok (.pop, 1) := by decide +kernel
theorem dX9_performPromise_110 : decode cX9_performPromise 110 = .ok (.iconst 1, 1) := by decide +kernel
theorem dX9_performPromise_111 : decode cX9_performPromise 111 = .ok (.ireturn, 1) := by decide +kernel
theorem dX10_init_0 : decode cX10_init 0 = .ok (.aload_n 0, 1) := by decide +kernel
theorem dX10_init_1 : decode cX10_init 1 = .ok (.invokespecial 1, 3) := by decide +kernel
theorem dX10_init_4 : decode cX10_init 4 = .ok (.aload_n 0, 1) := by decide +kernel
theorem dX10_init_5 : decode cX10_init 5 = .ok (.sipush 2091, 3) := by decide +kernel
theorem dX10_init_8 : decode cX10_init 8 = .ok (.newarray .int, 2) := by decide +kernel
theorem dX10_init_10 : decode cX10_init 10 = .ok (.putfield 7, 3) := by decide +kernel
theorem dX10_init_13 : decode cX10_init 13 = .ok (.aload_n 0, 1) := by decide +kernel
theorem dX10_init_14 : decode cX10_init 14 = .ok (.sipush 2091, 3) := by decide +kernel
theorem dX10_init_17 : decode cX10_init 17 = .ok (.newarray .int, 2) := by decide +kernel
theorem dX10_init_19 : decode cX10_init 19 = .ok (.putfield 13, 3) := by decide +kernel
theorem dX10_init_22 : decode cX10_init 22 = .ok (.aload_n 0, 1) := by decide +kernel
theorem dX10_init_23 : decode cX10_init 23 = .ok (.sipush 2091, 3) := by decide +kernel
theorem dX10_init_26 : decode cX10_init 26 = .ok (.newarray .int, 2) := by decide +kernel
theorem dX10_init_28 : decode cX10_init 28 = .ok (.putfield 16, 3) := by decide +kernel
theorem dX10_init_31 : decode cX10_init 31 = .ok (.aload_n 0, 1) := by decide +kernel
theorem dX10_init_32 : decode cX10_init 32 = .ok (.sipush 16728, 3) := by decide +kernel
theorem dX10_init_35 : decode cX10_init 35 = .ok (.newarray .int, 2) := by decide +kernel
theorem dX10_init_37 : decode cX10_init 37 = .ok (.putfield 19, 3) := by decide +kernel
theorem dX10_init_40 : decode cX10_init 40 = .ok (.aload_n 0, 1) := by decide +kernel
theorem dX10_init_41 : decode cX10_init 41 = .ok (.sipush 4182, 3) := by decide +kernel
theorem dX10_init_44 : decode cX10_init 44 = .ok (.newarray .int, 2) := by decide +kernel
theorem dX10_init_46 : decode cX10_init 46 = .ok (.putfield 22, 3) := by decide +kernel
theorem dX10_init_49 : decode cX10_init 49 = .ok (.aload_n 0, 1) := by decide +kernel
theorem dX10_init_50 : decode cX10_init 50 = .ok (.iconst 2, 1) := by decide +kernel
theorem dX10_init_51 : decode cX10_init 51 = .ok (.newarray .boolean, 2) := by decide +kernel
theorem dX10_init_53 : decode cX10_init 53 = .ok (.putfield 25, 3) := by decide +kernel
theorem dX10_init_56 : decode cX10_init 56 = .ok (.aload_n 0, 1) := by decide +kernel
theorem dX10_init_57 : decode cX10_init 57 = .ok (.iconst (-1), 1) := by decide +kernel
theorem dX10_init_58 : decode cX10_init 58 = .ok (.putfield 29, 3) := by decide +kernel
theorem dX10_init_61 : decode cX10_init 61 = .ok (.aload_n 0, 1) := by decide +kernel
theorem dX10_init_62 : decode cX10_init 62 = .ok (.sipush 800, 3) := by decide +kernel
theorem dX10_init_65 : decode cX10_init 65 = .ok (.newarray .int, 2) := by decide +kernel
theorem dX10_init_67 : decode cX10_init 67 = .ok (.putfield 33, 3) := by decide +kernel
theorem dX10_init_70 : decode cX10_init 70 = .ok (.aload_n 0, 1) := by decide +kernel
theorem dX10_init_71 : decode cX10_init 71 = .ok (.iconst (-1), 1) := by decide +kernel
theorem dX10_init_72 : decode cX10_init 72 = .ok (.putfield 36, 3) := by decide +kernel
theorem dX10_init_75 : decode cX10_init 75 = .ok (.aload_n 0, 1) := by decide +kernel
theorem dX10_init_76 : decode cX10_init 76 = .ok (.bipush 30, 2) := by decide +kernel
theorem dX10_init_78 : decode cX10_init 78 = .ok (.newarray .int, 2) := by decide +kernel
theorem dX10_init_80 : decode cX10_init 80 = .ok (.putfield 39, 3) := by decide +kernel
theorem dX10_init_83 : decode cX10_init 83 = .ok (.aload_n 0, 1) := by decide +kernel
theorem dX10_init_84 : decode cX10_init 84 = .ok (.sipush 180, 3) := by decide +kernel
theorem dX10_init_87 : decode cX10_init 87 = .ok (.newarray .int, 2) := by decide +kernel
theorem dX10_init_89 : decode cX10_init 89 = .ok (.putfield 42, 3) := by decide +kernel
theorem dX10_init_92 : decode cX10_init 92 = .ok (.aload_n 0, 1) := by decide +kernel
theorem dX10_init_93 : decode cX10_init 93 = .ok (.sipush 500, 3) := by decide +kernel
theorem dX10_init_96 : decode cX10_init 96 = .ok (.newarray .int, 2) := by decide +kernel
theorem dX10_init_98 : decode cX10_init 98 = .ok (.putfield 45, 3) := by decide +kernel
theorem dX10_init_101 : decode cX10_init 101 = .ok (.aload_n 0, 1) := by decide +kernel
theorem dX10_init_102 : decode cX10_init 102 = .ok (.ldc 48, 2) := by decide +kernel
theorem dX10_init_104 : decode cX10_init 104 = .ok (.invokevirtual 50, 3) := by decide +kernel
theorem dX10_init_107 : decode cX10_init 107 = .ok (.return_, 1) := by decide +kernel
theorem dX10_takesText_0 : decode cX10_takesText 0 = .ok (.iconst 0, 1) := by decide +kernel
theorem dX10_takesText_1 : decode cX10_takesText 1 = .ok (.istore_n 2, 1) := by decide +kernel
theorem dX10_takesText_2 : decode cX10_takesText 2 = .ok (.iload_n 2, 1) := by decide +kernel
theorem dX10_takesText_3 : decode cX10_takesText 3 = .ok (.aload_n 1, 1) := by decide +kernel
theorem dX10_takesText_4 : decode cX10_takesText 4 = .ok (.invokevirtual 54, 3) := by decide +kernel
theorem dX10_takesText_7 : decode cX10_takesText 7 = .ok (.if_icmp .ge 20, 3) := by decide +kernel
theorem dX10_takesText_10 : decode cX10_takesText 10 = .ok (.aload_n 0, 1) := by decide +kernel
theorem dX10_takesText_11 : decode cX10_takesText 11 = .ok (.getfield 33, 3) := by decide +kernel
theorem dX10_takesText_14 : decode cX10_takesText 14 = .ok (.iload_n 2, 1) := by decide +kernel
theorem dX10_takesText_15 : decode cX10_takesText 15 = .ok (.aload_n 1, 1) := by decide +kernel
theorem dX10_takesText_16 : decode cX10_takesText 16 = .ok (.iload_n 2, 1) := by decide +kernel
theorem dX10_takesText_17 : decode cX10_takesText 17 = .ok (.invokevirtual 60, 3) := by decide +kernel
theorem dX10_takesText_20 : decode cX10_takesText 20 = .ok (.iastore, 1) := by decide +kernel
theorem dX10_takesText_21 : decode cX10_takesText 21 = .ok (.iinc 2 1, 3) := by decide +kernel
theorem dX10_takesText_24 : decode cX10_takesText 24 = .ok (.goto (-22), 3) := by decide +kernel
theorem dX10_takesText_27 : decode cX10_takesText 27 = .ok (.aload_n 0, 1) := by decide +kernel
theorem dX10_takesText_28 : decode cX10_takesText 28 = .ok (.aload_n 1, 1) := by decide +kernel
theorem dX10_takesText_29 : decode cX10_takesText 29 = .ok (.invokevirtual 54, 3) := by decide +kernel
theorem dX10_takesText_32 : decode cX10_takesText 32 = .ok (.putfield 64, 3) := by decide +kernel
theorem dX10_takesText_35 : decode cX10_takesText 35 = .ok (.aload_n 0, 1) := by decide +kernel
theorem dX10_takesText_36 : decode cX10_takesText 36 = .ok (.invokevirtual 67, 3) := by decide +kernel
theorem dX10_takesText_39 : decode cX10_takesText 39 = .ok (.aload_n 0, 1) := by decide +kernel
theorem dX10_takesText_40 : decode cX10_takesText 40 = .ok (.invokevirtual 70, 3) := by decide +kernel
theorem dX10_takesText_43 : decode cX10_takesText 43 = .ok (.aload_n 0, 1) := by decide +kernel
theorem dX10_takesText_44 : decode cX10_takesText 44 = .ok (.invokevirtual 73, 3) := by decide +kernel
theorem dX10_takesText_47 : decode cX10_takesText 47 = .ok (.aload_n 0, 1) := by decide +kernel
theorem dX10_takesText_48 : decode cX10_takesText 48 = .ok (.iconst 0, 1) := by decide +kernel
theorem dX10_takesText_49 : decode cX10_takesText 49 = .ok (.putfield 64, 3) := by decide +kernel
theorem dX10_takesText_52 : decode cX10_takesText 52 = .ok (.return_, 1) := by decide +kernel
theorem dX10_begins_0 : decode cX10_begins 0 = .ok (.iconst 0, 1) := by decide +kernel
theorem dX10_begins_1 : decode cX10_begins 1 = .ok (.istore_n 1, 1) := by decide +kernel
theorem dX10_begins_2 : decode cX10_begins 2 = .ok (.iload_n 1, 1) := by decide +kernel
theorem dX10_begins_3 : decode cX10_begins 3 = .ok (.sipush 2091, 3) := by decide +kernel
theorem dX10_begins_6 : decode cX10_begins 6 = .ok (.if_icmp .ge 16, 3) := by decide +kernel
theorem dX10_begins_9 : decode cX10_begins 9 = .ok (.aload_n 0, 1) := by decide +kernel
theorem dX10_begins_10 : decode cX10_begins 10 = .ok (.getfield 7, 3) := by decide +kernel
theorem dX10_begins_13 : decode cX10_begins 13 = .ok (.iload_n 1, 1) := by decide +kernel
theorem dX10_begins_14 : decode cX10_begins 14 = .ok (.iconst 0, 1) := by decide +kernel
theorem dX10_begins_15 : decode cX10_begins 15 = .ok (.iastore, 1) := by decide +kernel
theorem dX10_begins_16 : decode cX10_begins 16 = .ok (.iinc 1 1, 3) := by decide +kernel
theorem dX10_begins_19 : decode cX10_begins 19 = .ok (.goto (-17), 3) := by decide +kernel
theorem dX10_begins_22 : decode cX10_begins 22 = .ok (.iconst 0, 1) := by decide +kernel
theorem dX10_begins_23 : decode cX10_begins 23 = .ok (.istore_n 1, 1) := by decide +kernel
theorem dX10_begins_24 : decode cX10_begins 24 = .ok (.iload_n 1, 1) := by decide +kernel
theorem dX10_begins_25 : decode cX10_begins 25 = .ok (.sipush 128, 3) := by decide +kernel
theorem dX10_begins_28 : decode cX10_begins 28 = .ok (.if_icmp .ge 19, 3) := by decide +kernel
theorem dX10_begins_31 : decode cX10_begins 31 = .ok (.aload_n 0, 1) := by decide +kernel
theorem dX10_begins_32 : decode cX10_begins 32 = .ok (.getfield 7, 3) := by decide +kernel
theorem dX10_begins_35 : decode cX10_begins 35 = .ok (.bipush 26, 2) := by decide +kernel
theorem dX10_begins_37 : decode cX10_begins 37 = .ok (.iload_n 1, 1) := by decide +kernel
theorem dX10_begins_38 : decode cX10_begins 38 = .ok (.iadd, 1) := by decide +kernel
theorem dX10_begins_39 : decode cX10_begins 39 = .ok (.iconst (-1), 1) := by decide +kernel
theorem dX10_begins_40 : decode cX10_begins 40 = .ok (.iastore, 1) := by decide +kernel
theorem dX10_begins_41 : decode cX10_begins 41 = .ok (.iinc 1 1, 3) := by decide +kernel
theorem dX10_begins_44 : decode cX10_begins 44 = .ok (.goto (-20), 3) := by decide +kernel
theorem dX10_begins_47 : decode cX10_begins 47 = .ok (.iconst 0, 1) := by decide +kernel
theorem dX10_begins_48 : decode cX10_begins 48 = .ok (.istore_n 1, 1) := by decide +kernel
theorem dX10_begins_49 : decode cX10_begins 49 = .ok (.iload_n 1, 1) := by decide +kernel
theorem dX10_begins_50 : decode cX10_begins 50 = .ok (.sipush 248, 3) := by decide +kernel
theorem dX10_begins_53 : decode cX10_begins 53 = .ok (.if_icmp .ge 20, 3) := by decide +kernel
theorem dX10_begins_56 : decode cX10_begins 56 = .ok (.aload_n 0, 1) := by decide +kernel
theorem dX10_begins_57 : decode cX10_begins 57 = .ok (.getfield 7, 3) := by decide +kernel
theorem dX10_begins_60 : decode cX10_begins 60 = .ok (.sipush 514, 3) := by decide +kernel
theorem dX10_begins_63 : decode cX10_begins 63 = .ok (.iload_n 1, 1) := by decide +kernel
theorem dX10_begins_64 : decode cX10_begins 64 = .ok (.iadd, 1) := by decide +kernel
theorem dX10_begins_65 : decode cX10_begins 65 = .ok (.iconst (-1), 1) := by decide +kernel
theorem dX10_begins_66 : decode cX10_begins 66 = .ok (.iastore, 1) := by decide +kernel
theorem dX10_begins_67 : decode cX10_begins 67 = .ok (.iinc 1 1, 3) := by decide +kernel
theorem dX10_begins_70 : decode cX10_begins 70 = .ok (.goto (-21), 3) := by decide +kernel
theorem dX10_begins_73 : decode cX10_begins 73 = .ok (.aload_n 0, 1) := by decide +kernel
theorem dX10_begins_74 : decode cX10_begins 74 = .ok (.iconst 0, 1) := by decide +kernel
theorem dX10_begins_75 : decode cX10_begins 75 = .ok (.iconst 2, 1) := by decide +kernel
theorem dX10_begins_76 : decode cX10_begins 76 = .ok (.iconst (-1), 1) := by decide +kernel
theorem dX10_begins_77 : decode cX10_begins 77 = .ok (.invokevirtual 76, 3) := by decide +kernel
theorem dX10_begins_80 : decode cX10_begins 80 = .ok (.aload_n 0, 1) := by decide +kernel
theorem dX10_begins_81 : decode cX10_begins 81 = .ok (.iconst 1, 1) := by decide +kernel
theorem dX10_begins_82 : decode cX10_begins 82 = .ok (.iconst 2, 1) := by decide +kernel
theorem dX10_begins_83 : decode cX10_begins 83 = .ok (.iconst (-1), 1) := by decide +kernel
theorem dX10_begins_84 : decode cX10_begins 84 = .ok (.invokevirtual 76, 3) := by decide +kernel
theorem dX10_begins_87 : decode cX10_begins 87 = .ok (.return_, 1) := by decide +kernel
theorem dX10_thrown_0 : decode cX10_thrown 0 = .ok (.aload_n 0, 1) := by decide +kernel
theorem dX10_thrown_1 : decode cX10_thrown 1 = .ok (.getfield 80, 3) := by decide +kernel
theorem dX10_thrown_4 : decode cX10_thrown 4 = .ok (.ireturn, 1) := by decide +kernel
theorem dX10_in_0 : decode cX10_in 0 = .ok (.iload_n 1, 1) := by decide +kernel
theorem dX10_in_1 : decode cX10_in 1 = .ok (.iload_n 0, 1) := by decide +kernel
theorem dX10_in_2 : decode cX10_in 2 = .ok (.if_icmp .gt 12, 3) := by decide +kernel
theorem dX10_in_5 : decode cX10_in 5 = .ok (.iload_n 0, 1) := by decide +kernel
theorem dX10_in_6 : decode cX10_in 6 = .ok (.iload_n 2, 1) := by decide +kernel
theorem dX10_in_7 : decode cX10_in 7 = .ok (.if_icmp .gt 7, 3) := by decide +kernel
theorem dX10_in_10 : decode cX10_in 10 = .ok (.iconst 1, 1) := by decide +kernel
theorem dX10_in_11 : decode cX10_in 11 = .ok (.goto 4, 3) := by decide +kernel
theorem dX10_in_14 : decode cX10_in 14 = .ok (.iconst 0, 1) := by decide +kernel
theorem dX10_in_15 : decode cX10_in 15 = .ok (.ireturn, 1) := by decide +kernel
theorem dX10_right_0 : decode cX10_right 0 = .ok (.aload_n 0, 1) := by decide +kernel
theorem dX10_right_1 : decode cX10_right 1 = .ok (.getfield 80, 3) := by decide +kernel
theorem dX10_right_4 : decode cX10_right 4 = .ok (.ifCond .ne 12, 3) := by decide +kernel
theorem dX10_right_7 : decode cX10_right 7 = .ok (.iload_n 1, 1) := by decide +kernel
theorem dX10_right_8 : decode cX10_right 8 = .ok (.ifCond .ne 8, 3) := by decide +kernel
theorem dX10_right_11 : decode cX10_right 11 = .ok (.aload_n 0, 1) := by decide +kernel
theorem dX10_right_12 : decode cX10_right 12 = .ok (.iload_n 2, 1) := by decide +kernel
theorem dX10_right_13 : decode cX10_right 13 = .ok (.putfield 80, 3) := by decide +kernel
theorem dX10_right_16 : decode cX10_right 16 = .ok (.aload_n 0, 1) := by decide +kernel
theorem dX10_right_17 : decode cX10_right 17 = .ok (.getfield 80, 3) := by decide +kernel
theorem dX10_right_20 : decode cX10_right 20 = .ok (.ifCond .ne 7, 3) := by decide +kernel
theorem dX10_right_23 : decode cX10_right 23 = .ok (.iconst 1, 1) := by decide +kernel
theorem dX10_right_24 : decode cX10_right 24 = .ok (.goto 4, 3) := by decide +kernel
theorem dX10_right_27 : decode cX10_right 27 = .ok (.iconst 0, 1) := by decide +kernel
theorem dX10_right_28 : decode cX10_right 28 = .ok (.ireturn, 1) := by decide +kernel
theorem dX10_ofP_0 : decode cX10_ofP 0 = .ok (.aload_n 0, 1) := by decide +kernel
theorem dX10_ofP_1 : decode cX10_ofP 1 = .ok (.getfield 7, 3) := by decide +kernel
theorem dX10_ofP_4 : decode cX10_ofP 4 = .ok (.bipush 12, 2) := by decide +kernel
theorem dX10_ofP_6 : decode cX10_ofP 6 = .ok (.bipush 7, 2) := by decide +kernel
theorem dX10_ofP_8 : decode cX10_ofP 8 = .ok (.iload_n 1, 1) := by decide +kernel
theorem dX10_ofP_9 : decode cX10_ofP 9 = .ok (.imul, 1) := by decide +kernel
theorem dX10_ofP_10 : decode cX10_ofP 10 = .ok (.iadd, 1) := by decide +kernel
