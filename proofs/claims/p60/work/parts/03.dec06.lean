theorem dJ2_newBytesLength_0f7a4_25 : decode cJ2_newBytesLength_0f7a4 25 = .ok (.dup, 1) := by decide +kernel
theorem dJ2_newBytesLength_0f7a4_26 : decode cJ2_newBytesLength_0f7a4 26 = .ok (.invokespecial 25, 3) := by decide +kernel
theorem dJ2_newBytesLength_0f7a4_29 : decode cJ2_newBytesLength_0f7a4 29 = .ok (.ldc 26, 2) := by decide +kernel
theorem dJ2_newBytesLength_0f7a4_31 : decode cJ2_newBytesLength_0f7a4 31 = .ok (.invokevirtual 28, 3) := by decide +kernel
theorem dJ2_newBytesLength_0f7a4_34 : decode cJ2_newBytesLength_0f7a4 34 = .ok (.iload_n 0, 1) := by decide +kernel
theorem dJ2_newBytesLength_0f7a4_35 : decode cJ2_newBytesLength_0f7a4 35 = .ok (.invokevirtual 32, 3) := by decide +kernel
theorem dJ2_newBytesLength_0f7a4_38 : decode cJ2_newBytesLength_0f7a4 38 = .ok (.ldc 35, 2) := by decide +kernel
theorem dJ2_newBytesLength_0f7a4_40 : decode cJ2_newBytesLength_0f7a4 40 = .ok (.invokevirtual 28, 3) := by decide +kernel
theorem dJ2_newBytesLength_0f7a4_43 : decode cJ2_newBytesLength_0f7a4 43 = .ok (.ldc 20, 2) := by decide +kernel
theorem dJ2_newBytesLength_0f7a4_45 : decode cJ2_newBytesLength_0f7a4 45 = .ok (.invokevirtual 32, 3) := by decide +kernel
theorem dJ2_newBytesLength_0f7a4_48 : decode cJ2_newBytesLength_0f7a4 48 = .ok (.invokevirtual 37, 3) := by decide +kernel
theorem dJ2_newBytesLength_0f7a4_51 : decode cJ2_newBytesLength_0f7a4 51 = .ok (.invokespecial 41, 3) := by decide +kernel
theorem dJ2_newBytesLength_0f7a4_54 : decode cJ2_newBytesLength_0f7a4 54 = .ok (.athrow, 1) := by decide +kernel
theorem dJ2_newBytesLength_0f7a4_55 : decode cJ2_newBytesLength_0f7a4 55 = .ok (.iload_n 0, 1) := by decide +kernel
theorem dJ2_newBytesLength_0f7a4_56 : decode cJ2_newBytesLength_0f7a4 56 = .ok (.iconst 1, 1) := by decide +kernel
theorem dJ2_newBytesLength_0f7a4_57 : decode cJ2_newBytesLength_0f7a4 57 = .ok (.ishl, 1) := by decide +kernel
theorem dJ2_newBytesLength_0f7a4_58 : decode cJ2_newBytesLength_0f7a4 58 = .ok (.ireturn, 1) := by decide +kernel
theorem dJ2_putChar_b72d1_0 : decode cJ2_putChar_b72d1 0 = .ok (.getstatic 44, 3) := by decide +kernel
theorem dJ2_putChar_b72d1_3 : decode cJ2_putChar_b72d1 3 = .ok (.ifCond .ne 25, 3) := by decide +kernel
theorem dJ2_putChar_b72d1_6 : decode cJ2_putChar_b72d1 6 = .ok (.iload_n 1, 1) := by decide +kernel
theorem dJ2_putChar_b72d1_7 : decode cJ2_putChar_b72d1 7 = .ok (.ifCond .lt 11, 3) := by decide +kernel
theorem dJ2_putChar_b72d1_10 : decode cJ2_putChar_b72d1 10 = .ok (.iload_n 1, 1) := by decide +kernel
theorem dJ2_putChar_b72d1_11 : decode cJ2_putChar_b72d1 11 = .ok (.aload_n 0, 1) := by decide +kernel
theorem dJ2_putChar_b72d1_12 : decode cJ2_putChar_b72d1 12 = .ok (.invokestatic 48, 3) := by decide +kernel
theorem dJ2_putChar_b72d1_15 : decode cJ2_putChar_b72d1 15 = .ok (.if_icmp .lt 13, 3) := by decide +kernel
theorem dJ2_putChar_b72d1_18 : decode cJ2_putChar_b72d1 18 = .ok (.new 52, 3) := by decide +kernel
theorem dJ2_putChar_b72d1_21 : decode cJ2_putChar_b72d1 21 = .ok (.dup, 1) := by decide +kernel
theorem dJ2_putChar_b72d1_22 : decode cJ2_putChar_b72d1 22 = .ok (.ldc 54, 2) := by decide +kernel
theorem dJ2_putChar_b72d1_24 : decode cJ2_putChar_b72d1 24 = .ok (.invokespecial 56, 3) := by decide +kernel
theorem dJ2_putChar_b72d1_27 : decode cJ2_putChar_b72d1 27 = .ok (.athrow, 1) := by decide +kernel
theorem dJ2_putChar_b72d1_28 : decode cJ2_putChar_b72d1 28 = .ok (.iload_n 1, 1) := by decide +kernel
theorem dJ2_putChar_b72d1_29 : decode cJ2_putChar_b72d1 29 = .ok (.iconst 1, 1) := by decide +kernel
theorem dJ2_putChar_b72d1_30 : decode cJ2_putChar_b72d1 30 = .ok (.ishl, 1) := by decide +kernel
theorem dJ2_putChar_b72d1_31 : decode cJ2_putChar_b72d1 31 = .ok (.istore_n 1, 1) := by decide +kernel
theorem dJ2_putChar_b72d1_32 : decode cJ2_putChar_b72d1 32 = .ok (.aload_n 0, 1) := by decide +kernel
theorem dJ2_putChar_b72d1_33 : decode cJ2_putChar_b72d1 33 = .ok (.iload_n 1, 1) := by decide +kernel
theorem dJ2_putChar_b72d1_34 : decode cJ2_putChar_b72d1 34 = .ok (.iinc 1 1, 3) := by decide +kernel
theorem dJ2_putChar_b72d1_37 : decode cJ2_putChar_b72d1 37 = .ok (.iload_n 2, 1) := by decide +kernel
theorem dJ2_putChar_b72d1_38 : decode cJ2_putChar_b72d1 38 = .ok (.getstatic 59, 3) := by decide +kernel
theorem dJ2_putChar_b72d1_41 : decode cJ2_putChar_b72d1 41 = .ok (.ishr, 1) := by decide +kernel
theorem dJ2_putChar_b72d1_42 : decode cJ2_putChar_b72d1 42 = .ok (.i2b, 1) := by decide +kernel
theorem dJ2_putChar_b72d1_43 : decode cJ2_putChar_b72d1 43 = .ok (.bastore, 1) := by decide +kernel
theorem dJ2_putChar_b72d1_44 : decode cJ2_putChar_b72d1 44 = .ok (.aload_n 0, 1) := by decide +kernel
theorem dJ2_putChar_b72d1_45 : decode cJ2_putChar_b72d1 45 = .ok (.iload_n 1, 1) := by decide +kernel
theorem dJ2_putChar_b72d1_46 : decode cJ2_putChar_b72d1 46 = .ok (.iload_n 2, 1) := by decide +kernel
theorem dJ2_putChar_b72d1_47 : decode cJ2_putChar_b72d1 47 = .ok (.getstatic 63, 3) := by decide +kernel
theorem dJ2_putChar_b72d1_50 : decode cJ2_putChar_b72d1 50 = .ok (.ishr, 1) := by decide +kernel
theorem dJ2_putChar_b72d1_51 : decode cJ2_putChar_b72d1 51 = .ok (.i2b, 1) := by decide +kernel
theorem dJ2_putChar_b72d1_52 : decode cJ2_putChar_b72d1 52 = .ok (.bastore, 1) := by decide +kernel
theorem dJ2_putChar_b72d1_53 : decode cJ2_putChar_b72d1 53 = .ok (.return_, 1) := by decide +kernel
theorem dJ2_getChar_3b067_0 : decode cJ2_getChar_3b067 0 = .ok (.getstatic 44, 3) := by decide +kernel
theorem dJ2_getChar_3b067_3 : decode cJ2_getChar_3b067 3 = .ok (.ifCond .ne 25, 3) := by decide +kernel
theorem dJ2_getChar_3b067_6 : decode cJ2_getChar_3b067 6 = .ok (.iload_n 1, 1) := by decide +kernel
theorem dJ2_getChar_3b067_7 : decode cJ2_getChar_3b067 7 = .ok (.ifCond .lt 11, 3) := by decide +kernel
theorem dJ2_getChar_3b067_10 : decode cJ2_getChar_3b067 10 = .ok (.iload_n 1, 1) := by decide +kernel
theorem dJ2_getChar_3b067_11 : decode cJ2_getChar_3b067 11 = .ok (.aload_n 0, 1) := by decide +kernel
theorem dJ2_getChar_3b067_12 : decode cJ2_getChar_3b067 12 = .ok (.invokestatic 48, 3) := by decide +kernel
theorem dJ2_getChar_3b067_15 : decode cJ2_getChar_3b067 15 = .ok (.if_icmp .lt 13, 3) := by decide +kernel
theorem dJ2_getChar_3b067_18 : decode cJ2_getChar_3b067 18 = .ok (.new 52, 3) := by decide +kernel
theorem dJ2_getChar_3b067_21 : decode cJ2_getChar_3b067 21 = .ok (.dup, 1) := by decide +kernel
theorem dJ2_getChar_3b067_22 : decode cJ2_getChar_3b067 22 = .ok (.ldc 54, 2) := by decide +kernel
theorem dJ2_getChar_3b067_24 : decode cJ2_getChar_3b067 24 = .ok (.invokespecial 56, 3) := by decide +kernel
theorem dJ2_getChar_3b067_27 : decode cJ2_getChar_3b067 27 = .ok (.athrow, 1) := by decide +kernel
theorem dJ2_getChar_3b067_28 : decode cJ2_getChar_3b067 28 = .ok (.iload_n 1, 1) := by decide +kernel
theorem dJ2_getChar_3b067_29 : decode cJ2_getChar_3b067 29 = .ok (.iconst 1, 1) := by decide +kernel
theorem dJ2_getChar_3b067_30 : decode cJ2_getChar_3b067 30 = .ok (.ishl, 1) := by decide +kernel
theorem dJ2_getChar_3b067_31 : decode cJ2_getChar_3b067 31 = .ok (.istore_n 1, 1) := by decide +kernel
theorem dJ2_getChar_3b067_32 : decode cJ2_getChar_3b067 32 = .ok (.aload_n 0, 1) := by decide +kernel
theorem dJ2_getChar_3b067_33 : decode cJ2_getChar_3b067 33 = .ok (.iload_n 1, 1) := by decide +kernel
theorem dJ2_getChar_3b067_34 : decode cJ2_getChar_3b067 34 = .ok (.iinc 1 1, 3) := by decide +kernel
theorem dJ2_getChar_3b067_37 : decode cJ2_getChar_3b067 37 = .ok (.baload, 1) := by decide +kernel
theorem dJ2_getChar_3b067_38 : decode cJ2_getChar_3b067 38 = .ok (.sipush 255, 3) := by decide +kernel
theorem dJ2_getChar_3b067_41 : decode cJ2_getChar_3b067 41 = .ok (.iand, 1) := by decide +kernel
theorem dJ2_getChar_3b067_42 : decode cJ2_getChar_3b067 42 = .ok (.getstatic 59, 3) := by decide +kernel
theorem dJ2_getChar_3b067_45 : decode cJ2_getChar_3b067 45 = .ok (.ishl, 1) := by decide +kernel
theorem dJ2_getChar_3b067_46 : decode cJ2_getChar_3b067 46 = .ok (.aload_n 0, 1) := by decide +kernel
theorem dJ2_getChar_3b067_47 : decode cJ2_getChar_3b067 47 = .ok (.iload_n 1, 1) := by decide +kernel
theorem dJ2_getChar_3b067_48 : decode cJ2_getChar_3b067 48 = .ok (.baload, 1) := by decide +kernel
theorem dJ2_getChar_3b067_49 : decode cJ2_getChar_3b067 49 = .ok (.sipush 255, 3) := by decide +kernel
theorem dJ2_getChar_3b067_52 : decode cJ2_getChar_3b067 52 = .ok (.iand, 1) := by decide +kernel
theorem dJ2_getChar_3b067_53 : decode cJ2_getChar_3b067 53 = .ok (.getstatic 63, 3) := by decide +kernel
theorem dJ2_getChar_3b067_56 : decode cJ2_getChar_3b067 56 = .ok (.ishl, 1) := by decide +kernel
theorem dJ2_getChar_3b067_57 : decode cJ2_getChar_3b067 57 = .ok (.ior, 1) := by decide +kernel
theorem dJ2_getChar_3b067_58 : decode cJ2_getChar_3b067 58 = .ok (.i2c, 1) := by decide +kernel
theorem dJ2_getChar_3b067_59 : decode cJ2_getChar_3b067 59 = .ok (.ireturn, 1) := by decide +kernel
theorem dJ2_length_9d52b_0 : decode cJ2_length_9d52b 0 = .ok (.aload_n 0, 1) := by decide +kernel
theorem dJ2_length_9d52b_1 : decode cJ2_length_9d52b 1 = .ok (.arraylength, 1) := by decide +kernel
theorem dJ2_length_9d52b_2 : decode cJ2_length_9d52b 2 = .ok (.iconst 1, 1) := by decide +kernel
theorem dJ2_length_9d52b_3 : decode cJ2_length_9d52b 3 = .ok (.ishr, 1) := by decide +kernel
theorem dJ2_length_9d52b_4 : decode cJ2_length_9d52b 4 = .ok (.ireturn, 1) := by decide +kernel
theorem dJ2_coderFromArrayLen_85cad_0 : decode cJ2_coderFromArrayLen_85cad 0 = .ok (.iload_n 1, 1) := by decide +kernel
theorem dJ2_coderFromArrayLen_85cad_1 : decode cJ2_coderFromArrayLen_85cad 1 = .ok (.aload_n 0, 1) := by decide +kernel
theorem dJ2_coderFromArrayLen_85cad_2 : decode cJ2_coderFromArrayLen_85cad 2 = .ok (.arraylength, 1) := by decide +kernel
theorem dJ2_coderFromArrayLen_85cad_3 : decode cJ2_coderFromArrayLen_85cad 3 = .ok (.isub, 1) := by decide +kernel
theorem dJ2_coderFromArrayLen_85cad_4 : decode cJ2_coderFromArrayLen_85cad 4 = .ok (.bipush 31, 2) := by decide +kernel
theorem dJ2_coderFromArrayLen_85cad_6 : decode cJ2_coderFromArrayLen_85cad 6 = .ok (.iushr, 1) := by decide +kernel
theorem dJ2_coderFromArrayLen_85cad_7 : decode cJ2_coderFromArrayLen_85cad 7 = .ok (.i2b, 1) := by decide +kernel
theorem dJ2_coderFromArrayLen_85cad_8 : decode cJ2_coderFromArrayLen_85cad 8 = .ok (.ireturn, 1) := by decide +kernel
theorem dJ2_compress_39247_0 : decode cJ2_compress_39247 0 = .ok (.iload_n 2, 1) := by decide +kernel
theorem dJ2_compress_39247_1 : decode cJ2_compress_39247 1 = .ok (.newarray .byte, 2) := by decide +kernel
theorem dJ2_compress_39247_3 : decode cJ2_compress_39247 3 = .ok (.astore_n 3, 1) := by decide +kernel
theorem dJ2_compress_39247_4 : decode cJ2_compress_39247 4 = .ok (.aload_n 0, 1) := by decide +kernel
theorem dJ2_compress_39247_5 : decode cJ2_compress_39247 5 = .ok (.iload_n 1, 1) := by decide +kernel
theorem dJ2_compress_39247_6 : decode cJ2_compress_39247 6 = .ok (.aload_n 3, 1) := by decide +kernel
theorem dJ2_compress_39247_7 : decode cJ2_compress_39247 7 = .ok (.iconst 0, 1) := by decide +kernel
theorem dJ2_compress_39247_8 : decode cJ2_compress_39247 8 = .ok (.iload_n 2, 1) := by decide +kernel
theorem dJ2_compress_39247_9 : decode cJ2_compress_39247 9 = .ok (.invokestatic 123, 3) := by decide +kernel
theorem dJ2_compress_39247_12 : decode cJ2_compress_39247 12 = .ok (.istore 4, 2) := by decide +kernel
theorem dJ2_compress_39247_14 : decode cJ2_compress_39247 14 = .ok (.iload 4, 2) := by decide +kernel
theorem dJ2_compress_39247_16 : decode cJ2_compress_39247 16 = .ok (.iload_n 2, 1) := by decide +kernel
theorem dJ2_compress_39247_17 : decode cJ2_compress_39247 17 = .ok (.if_icmp .eq 47, 3) := by decide +kernel
theorem dJ2_compress_39247_20 : decode cJ2_compress_39247 20 = .ok (.aload_n 0, 1) := by decide +kernel
theorem dJ2_compress_39247_21 : decode cJ2_compress_39247 21 = .ok (.iload_n 1, 1) := by decide +kernel
theorem dJ2_compress_39247_22 : decode cJ2_compress_39247 22 = .ok (.iconst 1, 1) := by decide +kernel
theorem dJ2_compress_39247_23 : decode cJ2_compress_39247 23 = .ok (.ishl, 1) := by decide +kernel
theorem dJ2_compress_39247_24 : decode cJ2_compress_39247 24 = .ok (.iload_n 1, 1) := by decide +kernel
theorem dJ2_compress_39247_25 : decode cJ2_compress_39247 25 = .ok (.iload_n 2, 1) := by decide +kernel
theorem dJ2_compress_39247_26 : decode cJ2_compress_39247 26 = .ok (.iadd, 1) := by decide +kernel
theorem dJ2_compress_39247_27 : decode cJ2_compress_39247 27 = .ok (.invokestatic 11, 3) := by decide +kernel
theorem dJ2_compress_39247_30 : decode cJ2_compress_39247 30 = .ok (.invokestatic 126, 3) := by decide +kernel
theorem dJ2_compress_39247_33 : decode cJ2_compress_39247 33 = .ok (.astore 5, 2) := by decide +kernel
theorem dJ2_compress_39247_35 : decode cJ2_compress_39247 35 = .ok (.aload 5, 2) := by decide +kernel
theorem dJ2_compress_39247_37 : decode cJ2_compress_39247 37 = .ok (.iload 4, 2) := by decide +kernel
theorem dJ2_compress_39247_39 : decode cJ2_compress_39247 39 = .ok (.invokestatic 71, 3) := by decide +kernel
theorem dJ2_compress_39247_42 : decode cJ2_compress_39247 42 = .ok (.sipush 255, 3) := by decide +kernel
theorem dJ2_compress_39247_45 : decode cJ2_compress_39247 45 = .ok (.if_icmp .gt 16, 3) := by decide +kernel
theorem dJ2_compress_39247_48 : decode cJ2_compress_39247 48 = .ok (.aload 5, 2) := by decide +kernel
theorem dJ2_compress_39247_50 : decode cJ2_compress_39247 50 = .ok (.iconst 0, 1) := by decide +kernel
theorem dJ2_compress_39247_51 : decode cJ2_compress_39247 51 = .ok (.aload_n 3, 1) := by decide +kernel
theorem dJ2_compress_39247_52 : decode cJ2_compress_39247 52 = .ok (.iconst 0, 1) := by decide +kernel
theorem dJ2_compress_39247_53 : decode cJ2_compress_39247 53 = .ok (.iload_n 2, 1) := by decide +kernel
theorem dJ2_compress_39247_54 : decode cJ2_compress_39247 54 = .ok (.invokestatic 123, 3) := by decide +kernel
theorem dJ2_compress_39247_57 : decode cJ2_compress_39247 57 = .ok (.iload_n 2, 1) := by decide +kernel
theorem dJ2_compress_39247_58 : decode cJ2_compress_39247 58 = .ok (.if_icmp .eq 6, 3) := by decide +kernel
theorem dJ2_compress_39247_61 : decode cJ2_compress_39247 61 = .ok (.aload 5, 2) := by decide +kernel
theorem dJ2_compress_39247_63 : decode cJ2_compress_39247 63 = .ok (.areturn, 1) := by decide +kernel
theorem dJ2_compress_39247_64 : decode cJ2_compress_39247 64 = .ok (.aload_n 3, 1) := by decide +kernel
theorem dJ2_compress_39247_65 : decode cJ2_compress_39247 65 = .ok (.areturn, 1) := by decide +kernel
theorem dJ2_compress_5af95_0 : decode cJ2_compress_5af95 0 = .ok (.iload_n 1, 1) := by decide +kernel
theorem dJ2_compress_5af95_1 : decode cJ2_compress_5af95 1 = .ok (.iload 4, 2) := by decide +kernel
theorem dJ2_compress_5af95_3 : decode cJ2_compress_5af95 3 = .ok (.aload_n 0, 1) := by decide +kernel
theorem dJ2_compress_5af95_4 : decode cJ2_compress_5af95 4 = .ok (.invokestatic 173, 3) := by decide +kernel
theorem dJ2_compress_5af95_7 : decode cJ2_compress_5af95 7 = .ok (.iconst 0, 1) := by decide +kernel
theorem dJ2_compress_5af95_8 : decode cJ2_compress_5af95 8 = .ok (.istore 5, 2) := by decide +kernel
theorem dJ2_compress_5af95_10 : decode cJ2_compress_5af95 10 = .ok (.iload 5, 2) := by decide +kernel
theorem dJ2_compress_5af95_12 : decode cJ2_compress_5af95 12 = .ok (.iload 4, 2) := by decide +kernel
theorem dJ2_compress_5af95_14 : decode cJ2_compress_5af95 14 = .ok (.if_icmp .ge 39, 3) := by decide +kernel
theorem dJ2_compress_5af95_17 : decode cJ2_compress_5af95 17 = .ok (.aload_n 0, 1) := by decide +kernel
theorem dJ2_compress_5af95_18 : decode cJ2_compress_5af95 18 = .ok (.iload_n 1, 1) := by decide +kernel
theorem dJ2_compress_5af95_19 : decode cJ2_compress_5af95 19 = .ok (.invokestatic 71, 3) := by decide +kernel
theorem dJ2_compress_5af95_22 : decode cJ2_compress_5af95 22 = .ok (.istore 6, 2) := by decide +kernel
theorem dJ2_compress_5af95_24 : decode cJ2_compress_5af95 24 = .ok (.iload 6, 2) := by decide +kernel
theorem dJ2_compress_5af95_26 : decode cJ2_compress_5af95 26 = .ok (.sipush 255, 3) := by decide +kernel
theorem dJ2_compress_5af95_29 : decode cJ2_compress_5af95 29 = .ok (.if_icmp .le 6, 3) := by decide +kernel
theorem dJ2_compress_5af95_32 : decode cJ2_compress_5af95 32 = .ok (.iload 5, 2) := by decide +kernel
theorem dJ2_compress_5af95_34 : decode cJ2_compress_5af95 34 = .ok (.ireturn, 1) := by decide +kernel
theorem dJ2_compress_5af95_35 : decode cJ2_compress_5af95 35 = .ok (.aload_n 2, 1) := by decide +kernel
theorem dJ2_compress_5af95_36 : decode cJ2_compress_5af95 36 = .ok (.iload_n 3, 1) := by decide +kernel
theorem dJ2_compress_5af95_37 : decode cJ2_compress_5af95 37 = .ok (.iload 6, 2) := by decide +kernel
theorem dJ2_compress_5af95_39 : decode cJ2_compress_5af95 39 = .ok (.i2b, 1) := by decide +kernel
theorem dJ2_compress_5af95_40 : decode cJ2_compress_5af95 40 = .ok (.bastore, 1) := by decide +kernel
theorem dJ2_compress_5af95_41 : decode cJ2_compress_5af95 41 = .ok (.iinc 1 1, 3) := by decide +kernel
theorem dJ2_compress_5af95_44 : decode cJ2_compress_5af95 44 = .ok (.iinc 3 1, 3) := by decide +kernel
theorem dJ2_compress_5af95_47 : decode cJ2_compress_5af95 47 = .ok (.iinc 5 1, 3) := by decide +kernel
theorem dJ2_compress_5af95_50 : decode cJ2_compress_5af95 50 = .ok (.goto (-40), 3) := by decide +kernel
theorem dJ2_compress_5af95_53 : decode cJ2_compress_5af95 53 = .ok (.iload 4, 2) := by decide +kernel
theorem dJ2_compress_5af95_55 : decode cJ2_compress_5af95 55 = .ok (.ireturn, 1) := by decide +kernel
theorem dJ2_putCharSB_b72d1_0 : decode cJ2_putCharSB_b72d1 0 = .ok (.iload_n 1, 1) := by decide +kernel
theorem dJ2_putCharSB_b72d1_1 : decode cJ2_putCharSB_b72d1 1 = .ok (.aload_n 0, 1) := by decide +kernel
theorem dJ2_putCharSB_b72d1_2 : decode cJ2_putCharSB_b72d1 2 = .ok (.invokestatic 67, 3) := by decide +kernel
theorem dJ2_putCharSB_b72d1_5 : decode cJ2_putCharSB_b72d1 5 = .ok (.aload_n 0, 1) := by decide +kernel
theorem dJ2_putCharSB_b72d1_6 : decode cJ2_putCharSB_b72d1 6 = .ok (.iload_n 1, 1) := by decide +kernel
theorem dJ2_putCharSB_b72d1_7 : decode cJ2_putCharSB_b72d1 7 = .ok (.iload_n 2, 1) := by decide +kernel
theorem dJ2_putCharSB_b72d1_8 : decode cJ2_putCharSB_b72d1 8 = .ok (.invokestatic 111, 3) := by decide +kernel
theorem dJ2_putCharSB_b72d1_11 : decode cJ2_putCharSB_b72d1 11 = .ok (.return_, 1) := by decide +kernel
theorem dJ2_getChars_46870_0 : decode cJ2_getChars_46870 0 = .ok (.iload_n 1, 1) := by decide +kernel
theorem dJ2_getChars_46870_1 : decode cJ2_getChars_46870 1 = .ok (.iload_n 2, 1) := by decide +kernel
theorem dJ2_getChars_46870_2 : decode cJ2_getChars_46870 2 = .ok (.aload_n 3, 1) := by decide +kernel
theorem dJ2_getChars_46870_3 : decode cJ2_getChars_46870 3 = .ok (.invokestatic 96, 3) := by decide +kernel
theorem dJ2_getChars_46870_6 : decode cJ2_getChars_46870 6 = .ok (.iload_n 0, 1) := by decide +kernel
theorem dJ2_getChars_46870_7 : decode cJ2_getChars_46870 7 = .ok (.iload_n 2, 1) := by decide +kernel
theorem dJ2_getChars_46870_8 : decode cJ2_getChars_46870 8 = .ok (.aload_n 3, 1) := by decide +kernel
theorem dJ2_getChars_46870_9 : decode cJ2_getChars_46870 9 = .ok (.invokestatic 393, 3) := by decide +kernel
theorem dJ2_getChars_46870_12 : decode cJ2_getChars_46870 12 = .ok (.istore 4, 2) := by decide +kernel
theorem dJ2_getChars_46870_14 : decode cJ2_getChars_46870 14 = .ok (.getstatic 44, 3) := by decide +kernel
theorem dJ2_getChars_46870_17 : decode cJ2_getChars_46870 17 = .ok (.ifCond .ne 17, 3) := by decide +kernel
theorem dJ2_getChars_46870_20 : decode cJ2_getChars_46870 20 = .ok (.iload_n 1, 1) := by decide +kernel
theorem dJ2_getChars_46870_21 : decode cJ2_getChars_46870 21 = .ok (.iload 4, 2) := by decide +kernel
theorem dJ2_getChars_46870_23 : decode cJ2_getChars_46870 23 = .ok (.if_icmp .eq 11, 3) := by decide +kernel
theorem dJ2_getChars_46870_26 : decode cJ2_getChars_46870 26 = .ok (.new 52, 3) := by decide +kernel
theorem dJ2_getChars_46870_29 : decode cJ2_getChars_46870 29 = .ok (.dup, 1) := by decide +kernel
theorem dJ2_getChars_46870_30 : decode cJ2_getChars_46870 30 = .ok (.invokespecial 66, 3) := by decide +kernel
theorem dJ2_getChars_46870_33 : decode cJ2_getChars_46870 33 = .ok (.athrow, 1) := by decide +kernel
theorem dJ2_getChars_46870_34 : decode cJ2_getChars_46870 34 = .ok (.iload 4, 2) := by decide +kernel
theorem dJ2_getChars_46870_36 : decode cJ2_getChars_46870 36 = .ok (.ireturn, 1) := by decide +kernel
theorem dJ2_putCharsAt_cd4e5_0 : decode cJ2_putCharsAt_cd4e5 0 = .ok (.iload_n 1, 1) := by decide +kernel
theorem dJ2_putCharsAt_cd4e5_1 : decode cJ2_putCharsAt_cd4e5 1 = .ok (.iconst 4, 1) := by decide +kernel
theorem dJ2_putCharsAt_cd4e5_2 : decode cJ2_putCharsAt_cd4e5 2 = .ok (.iadd, 1) := by decide +kernel
theorem dJ2_putCharsAt_cd4e5_3 : decode cJ2_putCharsAt_cd4e5 3 = .ok (.istore 6, 2) := by decide +kernel
theorem dJ2_putCharsAt_cd4e5_5 : decode cJ2_putCharsAt_cd4e5 5 = .ok (.iload_n 1, 1) := by decide +kernel
theorem dJ2_putCharsAt_cd4e5_6 : decode cJ2_putCharsAt_cd4e5 6 = .ok (.iload 6, 2) := by decide +kernel
theorem dJ2_putCharsAt_cd4e5_8 : decode cJ2_putCharsAt_cd4e5 8 = .ok (.aload_n 0, 1) := by decide +kernel
theorem dJ2_putCharsAt_cd4e5_9 : decode cJ2_putCharsAt_cd4e5 9 = .ok (.invokestatic 96, 3) := by decide +kernel
theorem dJ2_putCharsAt_cd4e5_12 : decode cJ2_putCharsAt_cd4e5 12 = .ok (.aload_n 0, 1) := by decide +kernel
theorem dJ2_putCharsAt_cd4e5_13 : decode cJ2_putCharsAt_cd4e5 13 = .ok (.iload_n 1, 1) := by decide +kernel
theorem dJ2_putCharsAt_cd4e5_14 : decode cJ2_putCharsAt_cd4e5 14 = .ok (.iinc 1 1, 3) := by decide +kernel
theorem dJ2_putCharsAt_cd4e5_17 : decode cJ2_putCharsAt_cd4e5 17 = .ok (.iload_n 2, 1) := by decide +kernel
theorem dJ2_putCharsAt_cd4e5_18 : decode cJ2_putCharsAt_cd4e5 18 = .ok (.invokestatic 111, 3) := by decide +kernel
theorem dJ2_putCharsAt_cd4e5_21 : decode cJ2_putCharsAt_cd4e5 21 = .ok (.aload_n 0, 1) := by decide +kernel
theorem dJ2_putCharsAt_cd4e5_22 : decode cJ2_putCharsAt_cd4e5 22 = .ok (.iload_n 1, 1) := by decide +kernel
theorem dJ2_putCharsAt_cd4e5_23 : decode cJ2_putCharsAt_cd4e5 23 = .ok (.iinc 1 1, 3) := by decide +kernel
theorem dJ2_putCharsAt_cd4e5_26 : decode cJ2_putCharsAt_cd4e5 26 = .ok (.iload_n 3, 1) := by decide +kernel
theorem dJ2_putCharsAt_cd4e5_27 : decode cJ2_putCharsAt_cd4e5 27 = .ok (.invokestatic 111, 3) := by decide +kernel
theorem dJ2_putCharsAt_cd4e5_30 : decode cJ2_putCharsAt_cd4e5 30 = .ok (.aload_n 0, 1) := by decide +kernel
theorem dJ2_putCharsAt_cd4e5_31 : decode cJ2_putCharsAt_cd4e5 31 = .ok (.iload_n 1, 1) := by decide +kernel
theorem dJ2_putCharsAt_cd4e5_32 : decode cJ2_putCharsAt_cd4e5 32 = .ok (.iinc 1 1, 3) := by decide +kernel
theorem dJ2_putCharsAt_cd4e5_35 : decode cJ2_putCharsAt_cd4e5 35 = .ok (.iload 4, 2) := by decide +kernel
theorem dJ2_putCharsAt_cd4e5_37 : decode cJ2_putCharsAt_cd4e5 37 = .ok (.invokestatic 111, 3) := by decide +kernel
theorem dJ2_putCharsAt_cd4e5_40 : decode cJ2_putCharsAt_cd4e5 40 = .ok (.aload_n 0, 1) := by decide +kernel
theorem dJ2_putCharsAt_cd4e5_41 : decode cJ2_putCharsAt_cd4e5 41 = .ok (.iload_n 1, 1) := by decide +kernel
theorem dJ2_putCharsAt_cd4e5_42 : decode cJ2_putCharsAt_cd4e5 42 = .ok (.iinc 1 1, 3) := by decide +kernel
theorem dJ2_putCharsAt_cd4e5_45 : decode cJ2_putCharsAt_cd4e5 45 = .ok (.iload 5, 2) := by decide +kernel
theorem dJ2_putCharsAt_cd4e5_47 : decode cJ2_putCharsAt_cd4e5 47 = .ok (.invokestatic 111, 3) := by decide +kernel
theorem dJ2_putCharsAt_cd4e5_50 : decode cJ2_putCharsAt_cd4e5 50 = .ok (.getstatic 44, 3) := by decide +kernel
theorem dJ2_putCharsAt_cd4e5_53 : decode cJ2_putCharsAt_cd4e5 53 = .ok (.ifCond .ne 17, 3) := by decide +kernel
theorem dJ2_putCharsAt_cd4e5_56 : decode cJ2_putCharsAt_cd4e5 56 = .ok (.iload_n 1, 1) := by decide +kernel
theorem dJ2_putCharsAt_cd4e5_57 : decode cJ2_putCharsAt_cd4e5 57 = .ok (.iload 6, 2) := by decide +kernel
theorem dJ2_putCharsAt_cd4e5_59 : decode cJ2_putCharsAt_cd4e5 59 = .ok (.if_icmp .eq 11, 3) := by decide +kernel
theorem dJ2_putCharsAt_cd4e5_62 : decode cJ2_putCharsAt_cd4e5 62 = .ok (.new 52, 3) := by decide +kernel
theorem dJ2_putCharsAt_cd4e5_65 : decode cJ2_putCharsAt_cd4e5 65 = .ok (.dup, 1) := by decide +kernel
theorem dJ2_putCharsAt_cd4e5_66 : decode cJ2_putCharsAt_cd4e5 66 = .ok (.invokespecial 66, 3) := by decide +kernel
theorem dJ2_putCharsAt_cd4e5_69 : decode cJ2_putCharsAt_cd4e5 69 = .ok (.athrow, 1) := by decide +kernel
theorem dJ2_putCharsAt_cd4e5_70 : decode cJ2_putCharsAt_cd4e5 70 = .ok (.iload 6, 2) := by decide +kernel
theorem dJ2_putCharsAt_cd4e5_72 : decode cJ2_putCharsAt_cd4e5 72 = .ok (.ireturn, 1) := by decide +kernel
theorem dJ2_charAt_3b067_0 : decode cJ2_charAt_3b067 0 = .ok (.iload_n 1, 1) := by decide +kernel
theorem dJ2_charAt_3b067_1 : decode cJ2_charAt_3b067 1 = .ok (.aload_n 0, 1) := by decide +kernel
theorem dJ2_charAt_3b067_2 : decode cJ2_charAt_3b067 2 = .ok (.invokestatic 67, 3) := by decide +kernel
theorem dJ2_charAt_3b067_5 : decode cJ2_charAt_3b067 5 = .ok (.aload_n 0, 1) := by decide +kernel
theorem dJ2_charAt_3b067_6 : decode cJ2_charAt_3b067 6 = .ok (.iload_n 1, 1) := by decide +kernel
theorem dJ2_charAt_3b067_7 : decode cJ2_charAt_3b067 7 = .ok (.invokestatic 71, 3) := by decide +kernel
theorem dJ2_charAt_3b067_10 : decode cJ2_charAt_3b067 10 = .ok (.ireturn, 1) := by decide +kernel
theorem dJ2_inflate_0e8fd_0 : decode cJ2_inflate_0e8fd 0 = .ok (.iload_n 3, 1) := by decide +kernel
theorem dJ2_inflate_0e8fd_1 : decode cJ2_inflate_0e8fd 1 = .ok (.iload 4, 2) := by decide +kernel
theorem dJ2_inflate_0e8fd_3 : decode cJ2_inflate_0e8fd 3 = .ok (.aload_n 2, 1) := by decide +kernel
theorem dJ2_inflate_0e8fd_4 : decode cJ2_inflate_0e8fd 4 = .ok (.invokestatic 173, 3) := by decide +kernel
theorem dJ2_inflate_0e8fd_7 : decode cJ2_inflate_0e8fd 7 = .ok (.iconst 0, 1) := by decide +kernel
theorem dJ2_inflate_0e8fd_8 : decode cJ2_inflate_0e8fd 8 = .ok (.istore 5, 2) := by decide +kernel
theorem dJ2_inflate_0e8fd_10 : decode cJ2_inflate_0e8fd 10 = .ok (.iload 5, 2) := by decide +kernel
theorem dJ2_inflate_0e8fd_12 : decode cJ2_inflate_0e8fd 12 = .ok (.iload 4, 2) := by decide +kernel
theorem dJ2_inflate_0e8fd_14 : decode cJ2_inflate_0e8fd 14 = .ok (.if_icmp .ge 27, 3) := by decide +kernel
theorem dJ2_inflate_0e8fd_17 : decode cJ2_inflate_0e8fd 17 = .ok (.aload_n 2, 1) := by decide +kernel
theorem dJ2_inflate_0e8fd_18 : decode cJ2_inflate_0e8fd 18 = .ok (.iload_n 3, 1) := by decide +kernel
theorem dJ2_inflate_0e8fd_19 : decode cJ2_inflate_0e8fd 19 = .ok (.iinc 3 1, 3) := by decide +kernel
theorem dJ2_inflate_0e8fd_22 : decode cJ2_inflate_0e8fd 22 = .ok (.aload_n 0, 1) := by decide +kernel
theorem dJ2_inflate_0e8fd_23 : decode cJ2_inflate_0e8fd 23 = .ok (.iload_n 1, 1) := by decide +kernel
theorem dJ2_inflate_0e8fd_24 : decode cJ2_inflate_0e8fd 24 = .ok (.iinc 1 1, 3) := by decide +kernel
theorem dJ2_inflate_0e8fd_27 : decode cJ2_inflate_0e8fd 27 = .ok (.baload, 1) := by decide +kernel
theorem dJ2_inflate_0e8fd_28 : decode cJ2_inflate_0e8fd 28 = .ok (.sipush 255, 3) := by decide +kernel
theorem dJ2_inflate_0e8fd_31 : decode cJ2_inflate_0e8fd 31 = .ok (.iand, 1) := by decide +kernel
theorem dJ2_inflate_0e8fd_32 : decode cJ2_inflate_0e8fd 32 = .ok (.invokestatic 111, 3) := by decide +kernel
theorem dJ2_inflate_0e8fd_35 : decode cJ2_inflate_0e8fd 35 = .ok (.iinc 5 1, 3) := by decide +kernel
theorem dJ2_inflate_0e8fd_38 : decode cJ2_inflate_0e8fd 38 = .ok (.goto (-28), 3) := by decide +kernel
theorem dJ2_inflate_0e8fd_41 : decode cJ2_inflate_0e8fd 41 = .ok (.return_, 1) := by decide +kernel
theorem dJ2_getChars_ba4f3_0 : decode cJ2_getChars_ba4f3 0 = .ok (.iload_n 1, 1) := by decide +kernel
theorem dJ2_getChars_ba4f3_1 : decode cJ2_getChars_ba4f3 1 = .ok (.istore 5, 2) := by decide +kernel
theorem dJ2_getChars_ba4f3_3 : decode cJ2_getChars_ba4f3 3 = .ok (.iload_n 0, 1) := by decide +kernel
theorem dJ2_getChars_ba4f3_4 : decode cJ2_getChars_ba4f3 4 = .ok (.ifCond .ge 7, 3) := by decide +kernel
theorem dJ2_getChars_ba4f3_7 : decode cJ2_getChars_ba4f3 7 = .ok (.iconst 1, 1) := by decide +kernel
theorem dJ2_getChars_ba4f3_8 : decode cJ2_getChars_ba4f3 8 = .ok (.goto 4, 3) := by decide +kernel
theorem dJ2_getChars_ba4f3_11 : decode cJ2_getChars_ba4f3 11 = .ok (.iconst 0, 1) := by decide +kernel
theorem dJ2_getChars_ba4f3_12 : decode cJ2_getChars_ba4f3 12 = .ok (.istore 6, 2) := by decide +kernel
theorem dJ2_getChars_ba4f3_14 : decode cJ2_getChars_ba4f3 14 = .ok (.iload 6, 2) := by decide +kernel
theorem dJ2_getChars_ba4f3_16 : decode cJ2_getChars_ba4f3 16 = .ok (.ifCond .ne 6, 3) := by decide +kernel
theorem dJ2_getChars_ba4f3_19 : decode cJ2_getChars_ba4f3 19 = .ok (.iload_n 0, 1) := by decide +kernel
theorem dJ2_getChars_ba4f3_20 : decode cJ2_getChars_ba4f3 20 = .ok (.ineg, 1) := by decide +kernel
theorem dJ2_getChars_ba4f3_21 : decode cJ2_getChars_ba4f3 21 = .ok (.istore_n 0, 1) := by decide +kernel
theorem dJ2_getChars_ba4f3_22 : decode cJ2_getChars_ba4f3 22 = .ok (.iload_n 0, 1) := by decide +kernel
theorem dJ2_getChars_ba4f3_23 : decode cJ2_getChars_ba4f3 23 = .ok (.bipush (-100), 2) := by decide +kernel
theorem dJ2_getChars_ba4f3_25 : decode cJ2_getChars_ba4f3 25 = .ok (.if_icmp .gt 51, 3) := by decide +kernel
theorem dJ2_getChars_ba4f3_28 : decode cJ2_getChars_ba4f3 28 = .ok (.iload_n 0, 1) := by decide +kernel
theorem dJ2_getChars_ba4f3_29 : decode cJ2_getChars_ba4f3 29 = .ok (.bipush 100, 2) := by decide +kernel
theorem dJ2_getChars_ba4f3_31 : decode cJ2_getChars_ba4f3 31 = .ok (.idiv, 1) := by decide +kernel
theorem dJ2_getChars_ba4f3_32 : decode cJ2_getChars_ba4f3 32 = .ok (.istore_n 3, 1) := by decide +kernel
theorem dJ2_getChars_ba4f3_33 : decode cJ2_getChars_ba4f3 33 = .ok (.iload_n 3, 1) := by decide +kernel
theorem dJ2_getChars_ba4f3_34 : decode cJ2_getChars_ba4f3 34 = .ok (.bipush 100, 2) := by decide +kernel
theorem dJ2_getChars_ba4f3_36 : decode cJ2_getChars_ba4f3 36 = .ok (.imul, 1) := by decide +kernel
theorem dJ2_getChars_ba4f3_37 : decode cJ2_getChars_ba4f3 37 = .ok (.iload_n 0, 1) := by decide +kernel
theorem dJ2_getChars_ba4f3_38 : decode cJ2_getChars_ba4f3 38 = .ok (.isub, 1) := by decide +kernel
theorem dJ2_getChars_ba4f3_39 : decode cJ2_getChars_ba4f3 39 = .ok (.istore 4, 2) := by decide +kernel
theorem dJ2_getChars_ba4f3_41 : decode cJ2_getChars_ba4f3 41 = .ok (.iload_n 3, 1) := by decide +kernel
theorem dJ2_getChars_ba4f3_42 : decode cJ2_getChars_ba4f3 42 = .ok (.istore_n 0, 1) := by decide +kernel
theorem dJ2_getChars_ba4f3_43 : decode cJ2_getChars_ba4f3 43 = .ok (.aload_n 2, 1) := by decide +kernel
theorem dJ2_getChars_ba4f3_44 : decode cJ2_getChars_ba4f3 44 = .ok (.iinc 5 (-1), 3) := by decide +kernel
theorem dJ2_getChars_ba4f3_47 : decode cJ2_getChars_ba4f3 47 = .ok (.iload 5, 2) := by decide +kernel
theorem dJ2_getChars_ba4f3_49 : decode cJ2_getChars_ba4f3 49 = .ok (.getstatic 403, 3) := by decide +kernel
theorem dJ2_getChars_ba4f3_52 : decode cJ2_getChars_ba4f3 52 = .ok (.iload 4, 2) := by decide +kernel
theorem dJ2_getChars_ba4f3_54 : decode cJ2_getChars_ba4f3 54 = .ok (.baload, 1) := by decide +kernel
theorem dJ2_getChars_ba4f3_55 : decode cJ2_getChars_ba4f3 55 = .ok (.invokestatic 111, 3) := by decide +kernel
theorem dJ2_getChars_ba4f3_58 : decode cJ2_getChars_ba4f3 58 = .ok (.aload_n 2, 1) := by decide +kernel
theorem dJ2_getChars_ba4f3_59 : decode cJ2_getChars_ba4f3 59 = .ok (.iinc 5 (-1), 3) := by decide +kernel
theorem dJ2_getChars_ba4f3_62 : decode cJ2_getChars_ba4f3 62 = .ok (.iload 5, 2) := by decide +kernel
theorem dJ2_getChars_ba4f3_64 : decode cJ2_getChars_ba4f3 64 = .ok (.getstatic 407, 3) := by decide +kernel
theorem dJ2_getChars_ba4f3_67 : decode cJ2_getChars_ba4f3 67 = .ok (.iload 4, 2) := by decide +kernel
theorem dJ2_getChars_ba4f3_69 : decode cJ2_getChars_ba4f3 69 = .ok (.baload, 1) := by decide +kernel
theorem dJ2_getChars_ba4f3_70 : decode cJ2_getChars_ba4f3 70 = .ok (.invokestatic 111, 3) := by decide +kernel
theorem dJ2_getChars_ba4f3_73 : decode cJ2_getChars_ba4f3 73 = .ok (.goto (-51), 3) := by decide +kernel
theorem dJ2_getChars_ba4f3_76 : decode cJ2_getChars_ba4f3 76 = .ok (.aload_n 2, 1) := by decide +kernel
theorem dJ2_getChars_ba4f3_77 : decode cJ2_getChars_ba4f3 77 = .ok (.iinc 5 (-1), 3) := by decide +kernel
theorem dJ2_getChars_ba4f3_80 : decode cJ2_getChars_ba4f3 80 = .ok (.iload 5, 2) := by decide +kernel
theorem dJ2_getChars_ba4f3_82 : decode cJ2_getChars_ba4f3 82 = .ok (.getstatic 403, 3) := by decide +kernel
theorem dJ2_getChars_ba4f3_85 : decode cJ2_getChars_ba4f3 85 = .ok (.iload_n 0, 1) := by decide +kernel
theorem dJ2_getChars_ba4f3_86 : decode cJ2_getChars_ba4f3 86 = .ok (.ineg, 1) := by decide +kernel
theorem dJ2_getChars_ba4f3_87 : decode cJ2_getChars_ba4f3 87 = .ok (.baload, 1) := by decide +kernel
theorem dJ2_getChars_ba4f3_88 : decode cJ2_getChars_ba4f3 88 = .ok (.invokestatic 111, 3) := by decide +kernel
theorem dJ2_getChars_ba4f3_91 : decode cJ2_getChars_ba4f3 91 = .ok (.iload_n 0, 1) := by decide +kernel
theorem dJ2_getChars_ba4f3_92 : decode cJ2_getChars_ba4f3 92 = .ok (.bipush (-9), 2) := by decide +kernel
theorem dJ2_getChars_ba4f3_94 : decode cJ2_getChars_ba4f3 94 = .ok (.if_icmp .ge 18, 3) := by decide +kernel
theorem dJ2_getChars_ba4f3_97 : decode cJ2_getChars_ba4f3 97 = .ok (.aload_n 2, 1) := by decide +kernel
theorem dJ2_getChars_ba4f3_98 : decode cJ2_getChars_ba4f3 98 = .ok (.iinc 5 (-1), 3) := by decide +kernel
theorem dJ2_getChars_ba4f3_101 : decode cJ2_getChars_ba4f3 101 = .ok (.iload 5, 2) := by decide +kernel
theorem dJ2_getChars_ba4f3_103 : decode cJ2_getChars_ba4f3 103 = .ok (.getstatic 407, 3) := by decide +kernel
theorem dJ2_getChars_ba4f3_106 : decode cJ2_getChars_ba4f3 106 = .ok (.iload_n 0, 1) := by decide +kernel
theorem dJ2_getChars_ba4f3_107 : decode cJ2_getChars_ba4f3 107 = .ok (.ineg, 1) := by decide +kernel
theorem dJ2_getChars_ba4f3_108 : decode cJ2_getChars_ba4f3 108 = .ok (.baload, 1) := by decide +kernel
theorem dJ2_getChars_ba4f3_109 : decode cJ2_getChars_ba4f3 109 = .ok (.invokestatic 111, 3) := by decide +kernel
theorem dJ2_getChars_ba4f3_112 : decode cJ2_getChars_ba4f3 112 = .ok (.iload 6, 2) := by decide +kernel
theorem dJ2_getChars_ba4f3_114 : decode cJ2_getChars_ba4f3 114 = .ok (.ifCond .eq 14, 3) := by decide +kernel
theorem dJ2_getChars_ba4f3_117 : decode cJ2_getChars_ba4f3 117 = .ok (.aload_n 2, 1) := by decide +kernel
theorem dJ2_getChars_ba4f3_118 : decode cJ2_getChars_ba4f3 118 = .ok (.iinc 5 (-1), 3) := by decide +kernel
theorem dJ2_getChars_ba4f3_121 : decode cJ2_getChars_ba4f3 121 = .ok (.iload 5, 2) := by decide +kernel
theorem dJ2_getChars_ba4f3_123 : decode cJ2_getChars_ba4f3 123 = .ok (.bipush 45, 2) := by decide +kernel
theorem dJ2_getChars_ba4f3_125 : decode cJ2_getChars_ba4f3 125 = .ok (.invokestatic 111, 3) := by decide +kernel
theorem dJ2_getChars_ba4f3_128 : decode cJ2_getChars_ba4f3 128 = .ok (.iload 5, 2) := by decide +kernel
theorem dJ2_getChars_ba4f3_130 : decode cJ2_getChars_ba4f3 130 = .ok (.ireturn, 1) := by decide +kernel
theorem dJ2_checkIndex_2214a_0 : decode cJ2_checkIndex_2214a 0 = .ok (.iload_n 0, 1) := by decide +kernel
theorem dJ2_checkIndex_2214a_1 : decode cJ2_checkIndex_2214a 1 = .ok (.aload_n 1, 1) := by decide +kernel
theorem dJ2_checkIndex_2214a_2 : decode cJ2_checkIndex_2214a 2 = .ok (.invokestatic 48, 3) := by decide +kernel
theorem dJ2_checkIndex_2214a_5 : decode cJ2_checkIndex_2214a 5 = .ok (.invokestatic 414, 3) := by decide +kernel
theorem dJ2_checkIndex_2214a_8 : decode cJ2_checkIndex_2214a 8 = .ok (.return_, 1) := by decide +kernel
theorem dJ2_checkBoundsBeginEnd_d044e_0 : decode cJ2_checkBoundsBeginEnd_d044e 0 = .ok (.iload_n 0, 1) := by decide +kernel
theorem dJ2_checkBoundsBeginEnd_d044e_1 : decode cJ2_checkBoundsBeginEnd_d044e 1 = .ok (.iload_n 1, 1) := by decide +kernel
theorem dJ2_checkBoundsBeginEnd_d044e_2 : decode cJ2_checkBoundsBeginEnd_d044e 2 = .ok (.aload_n 2, 1) := by decide +kernel
theorem dJ2_checkBoundsBeginEnd_d044e_3 : decode cJ2_checkBoundsBeginEnd_d044e 3 = .ok (.invokestatic 48, 3) := by decide +kernel
theorem dJ2_checkBoundsBeginEnd_d044e_6 : decode cJ2_checkBoundsBeginEnd_d044e 6 = .ok (.invokestatic 241, 3) := by decide +kernel
theorem dJ2_checkBoundsBeginEnd_d044e_9 : decode cJ2_checkBoundsBeginEnd_d044e 9 = .ok (.return_, 1) := by decide +kernel
theorem dJ2_checkBoundsOffCount_d044e_0 : decode cJ2_checkBoundsOffCount_d044e 0 = .ok (.iload_n 0, 1) := by decide +kernel
theorem dJ2_checkBoundsOffCount_d044e_1 : decode cJ2_checkBoundsOffCount_d044e 1 = .ok (.iload_n 1, 1) := by decide +kernel
theorem dJ2_checkBoundsOffCount_d044e_2 : decode cJ2_checkBoundsOffCount_d044e 2 = .ok (.aload_n 2, 1) := by decide +kernel
theorem dJ2_checkBoundsOffCount_d044e_3 : decode cJ2_checkBoundsOffCount_d044e 3 = .ok (.invokestatic 48, 3) := by decide +kernel
theorem dJ2_checkBoundsOffCount_d044e_6 : decode cJ2_checkBoundsOffCount_d044e 6 = .ok (.invokestatic 419, 3) := by decide +kernel
theorem dJ2_checkBoundsOffCount_d044e_9 : decode cJ2_checkBoundsOffCount_d044e 9 = .ok (.pop, 1) := by decide +kernel
theorem dJ2_checkBoundsOffCount_d044e_10 : decode cJ2_checkBoundsOffCount_d044e 10 = .ok (.return_, 1) := by decide +kernel
theorem dJ7_fill_53178_0 : decode cJ7_fill_53178 0 = .ok (.iconst 0, 1) := by decide +kernel
theorem dJ7_fill_53178_1 : decode cJ7_fill_53178 1 = .ok (.istore_n 2, 1) := by decide +kernel
theorem dJ7_fill_53178_2 : decode cJ7_fill_53178 2 = .ok (.aload_n 0, 1) := by decide +kernel
theorem dJ7_fill_53178_3 : decode cJ7_fill_53178 3 = .ok (.arraylength, 1) := by decide +kernel
theorem dJ7_fill_53178_4 : decode cJ7_fill_53178 4 = .ok (.istore_n 3, 1) := by decide +kernel
theorem dJ7_fill_53178_5 : decode cJ7_fill_53178 5 = .ok (.iload_n 2, 1) := by decide +kernel
theorem dJ7_fill_53178_6 : decode cJ7_fill_53178 6 = .ok (.iload_n 3, 1) := by decide +kernel
theorem dJ7_fill_53178_7 : decode cJ7_fill_53178 7 = .ok (.if_icmp .ge 13, 3) := by decide +kernel
theorem dJ7_fill_53178_10 : decode cJ7_fill_53178 10 = .ok (.aload_n 0, 1) := by decide +kernel
theorem dJ7_fill_53178_11 : decode cJ7_fill_53178 11 = .ok (.iload_n 2, 1) := by decide +kernel
theorem dJ7_fill_53178_12 : decode cJ7_fill_53178 12 = .ok (.iload_n 1, 1) := by decide +kernel
theorem dJ7_fill_53178_13 : decode cJ7_fill_53178 13 = .ok (.iastore, 1) := by decide +kernel
theorem dJ7_fill_53178_14 : decode cJ7_fill_53178 14 = .ok (.iinc 2 1, 3) := by decide +kernel
theorem dJ7_fill_53178_17 : decode cJ7_fill_53178 17 = .ok (.goto (-12), 3) := by decide +kernel
theorem dJ7_fill_53178_20 : decode cJ7_fill_53178 20 = .ok (.return_, 1) := by decide +kernel
theorem dJ7_copyOf_9075b_0 : decode cJ7_copyOf_9075b 0 = .ok (.iload_n 1, 1) := by decide +kernel
theorem dJ7_copyOf_9075b_1 : decode cJ7_copyOf_9075b 1 = .ok (.aload_n 0, 1) := by decide +kernel
theorem dJ7_copyOf_9075b_2 : decode cJ7_copyOf_9075b 2 = .ok (.arraylength, 1) := by decide +kernel
theorem dJ7_copyOf_9075b_3 : decode cJ7_copyOf_9075b 3 = .ok (.if_icmp .ne 11, 3) := by decide +kernel
theorem dJ7_copyOf_9075b_6 : decode cJ7_copyOf_9075b 6 = .ok (.aload_n 0, 1) := by decide +kernel
theorem dJ7_copyOf_9075b_7 : decode cJ7_copyOf_9075b 7 = .ok (.invokevirtual 310, 3) := by decide +kernel
theorem dJ7_copyOf_9075b_10 : decode cJ7_copyOf_9075b 10 = .ok (.checkcast 311, 3) := by decide +kernel
theorem dJ7_copyOf_9075b_13 : decode cJ7_copyOf_9075b 13 = .ok (.areturn, 1) := by decide +kernel
theorem dJ7_copyOf_9075b_14 : decode cJ7_copyOf_9075b 14 = .ok (.iload_n 1, 1) := by decide +kernel
theorem dJ7_copyOf_9075b_15 : decode cJ7_copyOf_9075b 15 = .ok (.newarray .byte, 2) := by decide +kernel
theorem dJ7_copyOf_9075b_17 : decode cJ7_copyOf_9075b 17 = .ok (.astore_n 2, 1) := by decide +kernel
theorem dJ7_copyOf_9075b_18 : decode cJ7_copyOf_9075b 18 = .ok (.aload_n 0, 1) := by decide +kernel
theorem dJ7_copyOf_9075b_19 : decode cJ7_copyOf_9075b 19 = .ok (.iconst 0, 1) := by decide +kernel
theorem dJ7_copyOf_9075b_20 : decode cJ7_copyOf_9075b 20 = .ok (.aload_n 2, 1) := by decide +kernel
theorem dJ7_copyOf_9075b_21 : decode cJ7_copyOf_9075b 21 = .ok (.iconst 0, 1) := by decide +kernel
theorem dJ7_copyOf_9075b_22 : decode cJ7_copyOf_9075b 22 = .ok (.aload_n 0, 1) := by decide +kernel
theorem dJ7_copyOf_9075b_23 : decode cJ7_copyOf_9075b 23 = .ok (.arraylength, 1) := by decide +kernel
theorem dJ7_copyOf_9075b_24 : decode cJ7_copyOf_9075b 24 = .ok (.iload_n 1, 1) := by decide +kernel
theorem dJ7_copyOf_9075b_25 : decode cJ7_copyOf_9075b 25 = .ok (.invokestatic 304, 3) := by decide +kernel
theorem dJ7_copyOf_9075b_28 : decode cJ7_copyOf_9075b 28 = .ok (.invokestatic 150, 3) := by decide +kernel
theorem dJ7_copyOf_9075b_31 : decode cJ7_copyOf_9075b 31 = .ok (.aload_n 2, 1) := by decide +kernel
theorem dJ7_copyOf_9075b_32 : decode cJ7_copyOf_9075b 32 = .ok (.areturn, 1) := by decide +kernel
theorem dJ7_checkLength_df160_0 : decode cJ7_checkLength_df160 0 = .ok (.iload_n 1, 1) := by decide +kernel
theorem dJ7_checkLength_df160_1 : decode cJ7_checkLength_df160 1 = .ok (.iload_n 0, 1) := by decide +kernel
theorem dJ7_checkLength_df160_2 : decode cJ7_checkLength_df160 2 = .ok (.if_icmp .ge 35, 3) := by decide +kernel
theorem dJ7_checkLength_df160_5 : decode cJ7_checkLength_df160 5 = .ok (.new 43, 3) := by decide +kernel
theorem dJ7_checkLength_df160_8 : decode cJ7_checkLength_df160 8 = .ok (.dup, 1) := by decide +kernel
theorem dJ7_checkLength_df160_9 : decode cJ7_checkLength_df160 9 = .ok (.new 45, 3) := by decide +kernel
theorem dJ7_checkLength_df160_12 : decode cJ7_checkLength_df160 12 = .ok (.dup, 1) := by decide +kernel
theorem dJ7_checkLength_df160_13 : decode cJ7_checkLength_df160 13 = .ok (.invokespecial 47, 3) := by decide +kernel
theorem dJ7_checkLength_df160_16 : decode cJ7_checkLength_df160 16 = .ok (.iload_n 0, 1) := by decide +kernel
theorem dJ7_checkLength_df160_17 : decode cJ7_checkLength_df160 17 = .ok (.invokevirtual 54, 3) := by decide +kernel
theorem dJ7_checkLength_df160_20 : decode cJ7_checkLength_df160 20 = .ok (.ldc_w 337, 3) := by decide +kernel
theorem dJ7_checkLength_df160_23 : decode cJ7_checkLength_df160 23 = .ok (.invokevirtual 50, 3) := by decide +kernel
theorem dJ7_checkLength_df160_26 : decode cJ7_checkLength_df160 26 = .ok (.iload_n 1, 1) := by decide +kernel
theorem dJ7_checkLength_df160_27 : decode cJ7_checkLength_df160 27 = .ok (.invokevirtual 54, 3) := by decide +kernel
theorem dJ7_checkLength_df160_30 : decode cJ7_checkLength_df160 30 = .ok (.invokevirtual 61, 3) := by decide +kernel
theorem dJ7_checkLength_df160_33 : decode cJ7_checkLength_df160 33 = .ok (.invokespecial 65, 3) := by decide +kernel
theorem dJ7_checkLength_df160_36 : decode cJ7_checkLength_df160 36 = .ok (.athrow, 1) := by decide +kernel
theorem dJ7_checkLength_df160_37 : decode cJ7_checkLength_df160 37 = .ok (.return_, 1) := by decide +kernel
theorem dJ7_copyOfRange_39247_0 : decode cJ7_copyOfRange_39247 0 = .ok (.iload_n 1, 1) := by decide +kernel
theorem dJ7_copyOfRange_39247_1 : decode cJ7_copyOfRange_39247 1 = .ok (.ifCond .ne 9, 3) := by decide +kernel
theorem dJ7_copyOfRange_39247_4 : decode cJ7_copyOfRange_39247 4 = .ok (.iload_n 2, 1) := by decide +kernel
theorem dJ7_copyOfRange_39247_5 : decode cJ7_copyOfRange_39247 5 = .ok (.aload_n 0, 1) := by decide +kernel
theorem dJ7_copyOfRange_39247_6 : decode cJ7_copyOfRange_39247 6 = .ok (.arraylength, 1) := by decide +kernel
theorem dJ7_copyOfRange_39247_7 : decode cJ7_copyOfRange_39247 7 = .ok (.if_icmp .eq 10, 3) := by decide +kernel
theorem dJ7_copyOfRange_39247_10 : decode cJ7_copyOfRange_39247 10 = .ok (.aload_n 0, 1) := by decide +kernel
theorem dJ7_copyOfRange_39247_11 : decode cJ7_copyOfRange_39247 11 = .ok (.iload_n 1, 1) := by decide +kernel
theorem dJ7_copyOfRange_39247_12 : decode cJ7_copyOfRange_39247 12 = .ok (.iload_n 2, 1) := by decide +kernel
theorem dJ7_copyOfRange_39247_13 : decode cJ7_copyOfRange_39247 13 = .ok (.invokestatic 339, 3) := by decide +kernel
theorem dJ7_copyOfRange_39247_16 : decode cJ7_copyOfRange_39247 16 = .ok (.areturn, 1) := by decide +kernel
theorem dJ7_copyOfRange_39247_17 : decode cJ7_copyOfRange_39247 17 = .ok (.aload_n 0, 1) := by decide +kernel
theorem dJ7_copyOfRange_39247_18 : decode cJ7_copyOfRange_39247 18 = .ok (.invokevirtual 310, 3) := by decide +kernel
theorem dJ7_copyOfRange_39247_21 : decode cJ7_copyOfRange_39247 21 = .ok (.checkcast 311, 3) := by decide +kernel
theorem dJ7_copyOfRange_39247_24 : decode cJ7_copyOfRange_39247 24 = .ok (.areturn, 1) := by decide +kernel
theorem dJ7_copyOfRangeByte_39247_0 : decode cJ7_copyOfRangeByte_39247 0 = .ok (.iload_n 1, 1) := by decide +kernel
theorem dJ7_copyOfRangeByte_39247_1 : decode cJ7_copyOfRangeByte_39247 1 = .ok (.iload_n 2, 1) := by decide +kernel
theorem dJ7_copyOfRangeByte_39247_2 : decode cJ7_copyOfRangeByte_39247 2 = .ok (.invokestatic 343, 3) := by decide +kernel
theorem dJ7_copyOfRangeByte_39247_5 : decode cJ7_copyOfRangeByte_39247 5 = .ok (.iload_n 2, 1) := by decide +kernel
theorem dJ7_copyOfRangeByte_39247_6 : decode cJ7_copyOfRangeByte_39247 6 = .ok (.iload_n 1, 1) := by decide +kernel
theorem dJ7_copyOfRangeByte_39247_7 : decode cJ7_copyOfRangeByte_39247 7 = .ok (.isub, 1) := by decide +kernel
theorem dJ7_copyOfRangeByte_39247_8 : decode cJ7_copyOfRangeByte_39247 8 = .ok (.istore_n 3, 1) := by decide +kernel
theorem dJ7_copyOfRangeByte_39247_9 : decode cJ7_copyOfRangeByte_39247 9 = .ok (.iload_n 3, 1) := by decide +kernel
theorem dJ7_copyOfRangeByte_39247_10 : decode cJ7_copyOfRangeByte_39247 10 = .ok (.newarray .byte, 2) := by decide +kernel
theorem dJ7_copyOfRangeByte_39247_12 : decode cJ7_copyOfRangeByte_39247 12 = .ok (.astore 4, 2) := by decide +kernel
theorem dJ7_copyOfRangeByte_39247_14 : decode cJ7_copyOfRangeByte_39247 14 = .ok (.aload_n 0, 1) := by decide +kernel
theorem dJ7_copyOfRangeByte_39247_15 : decode cJ7_copyOfRangeByte_39247 15 = .ok (.iload_n 1, 1) := by decide +kernel
theorem dJ7_copyOfRangeByte_39247_16 : decode cJ7_copyOfRangeByte_39247 16 = .ok (.aload 4, 2) := by decide +kernel
theorem dJ7_copyOfRangeByte_39247_18 : decode cJ7_copyOfRangeByte_39247 18 = .ok (.iconst 0, 1) := by decide +kernel
theorem dJ7_copyOfRangeByte_39247_19 : decode cJ7_copyOfRangeByte_39247 19 = .ok (.aload_n 0, 1) := by decide +kernel
theorem dJ7_copyOfRangeByte_39247_20 : decode cJ7_copyOfRangeByte_39247 20 = .ok (.arraylength, 1) := by decide +kernel
theorem dJ7_copyOfRangeByte_39247_21 : decode cJ7_copyOfRangeByte_39247 21 = .ok (.iload_n 1, 1) := by decide +kernel
theorem dJ7_copyOfRangeByte_39247_22 : decode cJ7_copyOfRangeByte_39247 22 = .ok (.isub, 1) := by decide +kernel
theorem dJ7_copyOfRangeByte_39247_23 : decode cJ7_copyOfRangeByte_39247 23 = .ok (.iload_n 3, 1) := by decide +kernel
theorem dJ7_copyOfRangeByte_39247_24 : decode cJ7_copyOfRangeByte_39247 24 = .ok (.invokestatic 304, 3) := by decide +kernel
theorem dJ7_copyOfRangeByte_39247_27 : decode cJ7_copyOfRangeByte_39247 27 = .ok (.invokestatic 150, 3) := by decide +kernel
theorem dJ7_copyOfRangeByte_39247_30 : decode cJ7_copyOfRangeByte_39247 30 = .ok (.aload 4, 2) := by decide +kernel
theorem dJ7_copyOfRangeByte_39247_32 : decode cJ7_copyOfRangeByte_39247 32 = .ok (.areturn, 1) := by decide +kernel
theorem dJ8_newLength_cabcc_0 : decode cJ8_newLength_cabcc 0 = .ok (.iload_n 0, 1) := by decide +kernel
theorem dJ8_newLength_cabcc_1 : decode cJ8_newLength_cabcc 1 = .ok (.iload_n 1, 1) := by decide +kernel
theorem dJ8_newLength_cabcc_2 : decode cJ8_newLength_cabcc 2 = .ok (.iload_n 2, 1) := by decide +kernel
theorem dJ8_newLength_cabcc_3 : decode cJ8_newLength_cabcc 3 = .ok (.invokestatic 194, 3) := by decide +kernel
theorem dJ8_newLength_cabcc_6 : decode cJ8_newLength_cabcc 6 = .ok (.iadd, 1) := by decide +kernel
theorem dJ8_newLength_cabcc_7 : decode cJ8_newLength_cabcc 7 = .ok (.istore_n 3, 1) := by decide +kernel
theorem dJ8_newLength_cabcc_8 : decode cJ8_newLength_cabcc 8 = .ok (.iconst 0, 1) := by decide +kernel
theorem dJ8_newLength_cabcc_9 : decode cJ8_newLength_cabcc 9 = .ok (.iload_n 3, 1) := by decide +kernel
theorem dJ8_newLength_cabcc_10 : decode cJ8_newLength_cabcc 10 = .ok (.if_icmp .ge 11, 3) := by decide +kernel
theorem dJ8_newLength_cabcc_13 : decode cJ8_newLength_cabcc 13 = .ok (.iload_n 3, 1) := by decide +kernel
theorem dJ8_newLength_cabcc_14 : decode cJ8_newLength_cabcc 14 = .ok (.ldc 200, 2) := by decide +kernel
theorem dJ8_newLength_cabcc_16 : decode cJ8_newLength_cabcc 16 = .ok (.if_icmp .gt 5, 3) := by decide +kernel
theorem dJ8_newLength_cabcc_19 : decode cJ8_newLength_cabcc 19 = .ok (.iload_n 3, 1) := by decide +kernel
theorem dJ8_newLength_cabcc_20 : decode cJ8_newLength_cabcc 20 = .ok (.ireturn, 1) := by decide +kernel
theorem dJ8_newLength_cabcc_21 : decode cJ8_newLength_cabcc 21 = .ok (.iload_n 0, 1) := by decide +kernel
theorem dJ8_newLength_cabcc_22 : decode cJ8_newLength_cabcc 22 = .ok (.iload_n 1, 1) := by decide +kernel
theorem dJ8_newLength_cabcc_23 : decode cJ8_newLength_cabcc 23 = .ok (.invokestatic 201, 3) := by decide +kernel
theorem dJ8_newLength_cabcc_26 : decode cJ8_newLength_cabcc 26 = .ok (.ireturn, 1) := by decide +kernel
theorem dJ8_hugeLength_7cf53_0 : decode cJ8_hugeLength_7cf53 0 = .ok (.iload_n 0, 1) := by decide +kernel
theorem dJ8_hugeLength_7cf53_1 : decode cJ8_hugeLength_7cf53 1 = .ok (.iload_n 1, 1) := by decide +kernel
theorem dJ8_hugeLength_7cf53_2 : decode cJ8_hugeLength_7cf53 2 = .ok (.iadd, 1) := by decide +kernel
theorem dJ8_hugeLength_7cf53_3 : decode cJ8_hugeLength_7cf53 3 = .ok (.istore_n 2, 1) := by decide +kernel
theorem dJ8_hugeLength_7cf53_4 : decode cJ8_hugeLength_7cf53 4 = .ok (.iload_n 2, 1) := by decide +kernel
theorem dJ8_hugeLength_7cf53_5 : decode cJ8_hugeLength_7cf53 5 = .ok (.ifCond .ge 44, 3) := by decide +kernel
theorem dJ8_hugeLength_7cf53_8 : decode cJ8_hugeLength_7cf53 8 = .ok (.new 204, 3) := by decide +kernel
theorem dJ8_hugeLength_7cf53_11 : decode cJ8_hugeLength_7cf53 11 = .ok (.dup, 1) := by decide +kernel
theorem dJ8_hugeLength_7cf53_12 : decode cJ8_hugeLength_7cf53 12 = .ok (.new 89, 3) := by decide +kernel
theorem dJ8_hugeLength_7cf53_15 : decode cJ8_hugeLength_7cf53 15 = .ok (.dup, 1) := by decide +kernel
theorem dJ8_hugeLength_7cf53_16 : decode cJ8_hugeLength_7cf53 16 = .ok (.invokespecial 91, 3) := by decide +kernel
theorem dJ8_hugeLength_7cf53_19 : decode cJ8_hugeLength_7cf53 19 = .ok (.ldc 206, 2) := by decide +kernel
theorem dJ8_hugeLength_7cf53_21 : decode cJ8_hugeLength_7cf53 21 = .ok (.invokevirtual 94, 3) := by decide +kernel
theorem dJ8_hugeLength_7cf53_24 : decode cJ8_hugeLength_7cf53 24 = .ok (.iload_n 0, 1) := by decide +kernel
theorem dJ8_hugeLength_7cf53_25 : decode cJ8_hugeLength_7cf53 25 = .ok (.invokevirtual 98, 3) := by decide +kernel
theorem dJ8_hugeLength_7cf53_28 : decode cJ8_hugeLength_7cf53 28 = .ok (.ldc 208, 2) := by decide +kernel
theorem dJ8_hugeLength_7cf53_30 : decode cJ8_hugeLength_7cf53 30 = .ok (.invokevirtual 94, 3) := by decide +kernel
theorem dJ8_hugeLength_7cf53_33 : decode cJ8_hugeLength_7cf53 33 = .ok (.iload_n 1, 1) := by decide +kernel
theorem dJ8_hugeLength_7cf53_34 : decode cJ8_hugeLength_7cf53 34 = .ok (.invokevirtual 98, 3) := by decide +kernel
theorem dJ8_hugeLength_7cf53_37 : decode cJ8_hugeLength_7cf53 37 = .ok (.ldc 210, 2) := by decide +kernel
theorem dJ8_hugeLength_7cf53_39 : decode cJ8_hugeLength_7cf53 39 = .ok (.invokevirtual 94, 3) := by decide +kernel
theorem dJ8_hugeLength_7cf53_42 : decode cJ8_hugeLength_7cf53 42 = .ok (.invokevirtual 101, 3) := by decide +kernel
theorem dJ8_hugeLength_7cf53_45 : decode cJ8_hugeLength_7cf53 45 = .ok (.invokespecial 212, 3) := by decide +kernel
theorem dJ8_hugeLength_7cf53_48 : decode cJ8_hugeLength_7cf53 48 = .ok (.athrow, 1) := by decide +kernel
theorem dJ8_hugeLength_7cf53_49 : decode cJ8_hugeLength_7cf53 49 = .ok (.iload_n 2, 1) := by decide +kernel
theorem dJ8_hugeLength_7cf53_50 : decode cJ8_hugeLength_7cf53 50 = .ok (.ldc 200, 2) := by decide +kernel
theorem dJ8_hugeLength_7cf53_52 : decode cJ8_hugeLength_7cf53 52 = .ok (.if_icmp .gt 6, 3) := by decide +kernel
theorem dJ8_hugeLength_7cf53_55 : decode cJ8_hugeLength_7cf53 55 = .ok (.ldc 200, 2) := by decide +kernel
theorem dJ8_hugeLength_7cf53_57 : decode cJ8_hugeLength_7cf53 57 = .ok (.ireturn, 1) := by decide +kernel
theorem dJ8_hugeLength_7cf53_58 : decode cJ8_hugeLength_7cf53 58 = .ok (.iload_n 2, 1) := by decide +kernel
theorem dJ8_hugeLength_7cf53_59 : decode cJ8_hugeLength_7cf53 59 = .ok (.ireturn, 1) := by decide +kernel
theorem dJ3_checkIndex_8e157_0 : decode cJ3_checkIndex_8e157 0 = .ok (.iload_n 0, 1) := by decide +kernel
theorem dJ3_checkIndex_8e157_1 : decode cJ3_checkIndex_8e157 1 = .ok (.ifCond .lt 8, 3) := by decide +kernel
theorem dJ3_checkIndex_8e157_4 : decode cJ3_checkIndex_8e157 4 = .ok (.iload_n 0, 1) := by decide +kernel
theorem dJ3_checkIndex_8e157_5 : decode cJ3_checkIndex_8e157 5 = .ok (.iload_n 1, 1) := by decide +kernel
theorem dJ3_checkIndex_8e157_6 : decode cJ3_checkIndex_8e157 6 = .ok (.if_icmp .lt 10, 3) := by decide +kernel
theorem dJ3_checkIndex_8e157_9 : decode cJ3_checkIndex_8e157 9 = .ok (.aload_n 2, 1) := by decide +kernel
theorem dJ3_checkIndex_8e157_10 : decode cJ3_checkIndex_8e157 10 = .ok (.iload_n 0, 1) := by decide +kernel
theorem dJ3_checkIndex_8e157_11 : decode cJ3_checkIndex_8e157 11 = .ok (.iload_n 1, 1) := by decide +kernel
theorem dJ3_checkIndex_8e157_12 : decode cJ3_checkIndex_8e157 12 = .ok (.invokestatic 95, 3) := by decide +kernel
theorem dJ3_checkIndex_8e157_15 : decode cJ3_checkIndex_8e157 15 = .ok (.athrow, 1) := by decide +kernel
theorem dJ3_checkIndex_8e157_16 : decode cJ3_checkIndex_8e157 16 = .ok (.iload_n 0, 1) := by decide +kernel
theorem dJ3_checkIndex_8e157_17 : decode cJ3_checkIndex_8e157 17 = .ok (.ireturn, 1) := by decide +kernel
theorem dJ3_checkFromToIndex_8c36e_0 : decode cJ3_checkFromToIndex_8c36e 0 = .ok (.iload_n 0, 1) := by decide +kernel
theorem dJ3_checkFromToIndex_8c36e_1 : decode cJ3_checkFromToIndex_8c36e 1 = .ok (.ifCond .lt 13, 3) := by decide +kernel
theorem dJ3_checkFromToIndex_8c36e_4 : decode cJ3_checkFromToIndex_8c36e 4 = .ok (.iload_n 0, 1) := by decide +kernel
theorem dJ3_checkFromToIndex_8c36e_5 : decode cJ3_checkFromToIndex_8c36e 5 = .ok (.iload_n 1, 1) := by decide +kernel
theorem dJ3_checkFromToIndex_8c36e_6 : decode cJ3_checkFromToIndex_8c36e 6 = .ok (.if_icmp .gt 8, 3) := by decide +kernel
theorem dJ3_checkFromToIndex_8c36e_9 : decode cJ3_checkFromToIndex_8c36e 9 = .ok (.iload_n 1, 1) := by decide +kernel
theorem dJ3_checkFromToIndex_8c36e_10 : decode cJ3_checkFromToIndex_8c36e 10 = .ok (.iload_n 2, 1) := by decide +kernel
theorem dJ3_checkFromToIndex_8c36e_11 : decode cJ3_checkFromToIndex_8c36e 11 = .ok (.if_icmp .le 11, 3) := by decide +kernel
theorem dJ3_checkFromToIndex_8c36e_14 : decode cJ3_checkFromToIndex_8c36e 14 = .ok (.aload_n 3, 1) := by decide +kernel
theorem dJ3_checkFromToIndex_8c36e_15 : decode cJ3_checkFromToIndex_8c36e 15 = .ok (.iload_n 0, 1) := by decide +kernel
theorem dJ3_checkFromToIndex_8c36e_16 : decode cJ3_checkFromToIndex_8c36e 16 = .ok (.iload_n 1, 1) := by decide +kernel
theorem dJ3_checkFromToIndex_8c36e_17 : decode cJ3_checkFromToIndex_8c36e 17 = .ok (.iload_n 2, 1) := by decide +kernel
theorem dJ3_checkFromToIndex_8c36e_18 : decode cJ3_checkFromToIndex_8c36e 18 = .ok (.invokestatic 99, 3) := by decide +kernel
theorem dJ3_checkFromToIndex_8c36e_21 : decode cJ3_checkFromToIndex_8c36e 21 = .ok (.athrow, 1) := by decide +kernel
theorem dJ3_checkFromToIndex_8c36e_22 : decode cJ3_checkFromToIndex_8c36e 22 = .ok (.iload_n 0, 1) := by decide +kernel
theorem dJ3_checkFromToIndex_8c36e_23 : decode cJ3_checkFromToIndex_8c36e 23 = .ok (.ireturn, 1) := by decide +kernel
theorem dJ3_checkFromIndexSize_8c36e_0 : decode cJ3_checkFromIndexSize_8c36e 0 = .ok (.iload_n 2, 1) := by decide +kernel
theorem dJ3_checkFromIndexSize_8c36e_1 : decode cJ3_checkFromIndexSize_8c36e 1 = .ok (.iload_n 0, 1) := by decide +kernel
theorem dJ3_checkFromIndexSize_8c36e_2 : decode cJ3_checkFromIndexSize_8c36e 2 = .ok (.ior, 1) := by decide +kernel
theorem dJ3_checkFromIndexSize_8c36e_3 : decode cJ3_checkFromIndexSize_8c36e 3 = .ok (.iload_n 1, 1) := by decide +kernel
theorem dJ3_checkFromIndexSize_8c36e_4 : decode cJ3_checkFromIndexSize_8c36e 4 = .ok (.ior, 1) := by decide +kernel
theorem dJ3_checkFromIndexSize_8c36e_5 : decode cJ3_checkFromIndexSize_8c36e 5 = .ok (.ifCond .lt 10, 3) := by decide +kernel
theorem dJ3_checkFromIndexSize_8c36e_8 : decode cJ3_checkFromIndexSize_8c36e 8 = .ok (.iload_n 1, 1) := by decide +kernel
theorem dJ3_checkFromIndexSize_8c36e_9 : decode cJ3_checkFromIndexSize_8c36e 9 = .ok (.iload_n 2, 1) := by decide +kernel
theorem dJ3_checkFromIndexSize_8c36e_10 : decode cJ3_checkFromIndexSize_8c36e 10 = .ok (.iload_n 0, 1) := by decide +kernel
theorem dJ3_checkFromIndexSize_8c36e_11 : decode cJ3_checkFromIndexSize_8c36e 11 = .ok (.isub, 1) := by decide +kernel
theorem dJ3_checkFromIndexSize_8c36e_12 : decode cJ3_checkFromIndexSize_8c36e 12 = .ok (.if_icmp .le 11, 3) := by decide +kernel
theorem dJ3_checkFromIndexSize_8c36e_15 : decode cJ3_checkFromIndexSize_8c36e 15 = .ok (.aload_n 3, 1) := by decide +kernel
theorem dJ3_checkFromIndexSize_8c36e_16 : decode cJ3_checkFromIndexSize_8c36e 16 = .ok (.iload_n 0, 1) := by decide +kernel
theorem dJ3_checkFromIndexSize_8c36e_17 : decode cJ3_checkFromIndexSize_8c36e 17 = .ok (.iload_n 1, 1) := by decide +kernel
theorem dJ3_checkFromIndexSize_8c36e_18 : decode cJ3_checkFromIndexSize_8c36e 18 = .ok (.iload_n 2, 1) := by decide +kernel
theorem dJ3_checkFromIndexSize_8c36e_19 : decode cJ3_checkFromIndexSize_8c36e 19 = .ok (.invokestatic 103, 3) := by decide +kernel
theorem dJ3_checkFromIndexSize_8c36e_22 : decode cJ3_checkFromIndexSize_8c36e 22 = .ok (.athrow, 1) := by decide +kernel
theorem dJ3_checkFromIndexSize_8c36e_23 : decode cJ3_checkFromIndexSize_8c36e 23 = .ok (.iload_n 0, 1) := by decide +kernel
theorem dJ3_checkFromIndexSize_8c36e_24 : decode cJ3_checkFromIndexSize_8c36e 24 = .ok (.ireturn, 1) := by decide +kernel
theorem dL_cell_0 : decode cL_cell 0 = .ok (.aload_n 0, 1) := by decide +kernel
theorem dL_cell_1 : decode cL_cell 1 = .ok (.arraylength, 1) := by decide +kernel
theorem dL_cell_2 : decode cL_cell 2 = .ok (.ifCond .ne 7, 3) := by decide +kernel
theorem dL_cell_5 : decode cL_cell 5 = .ok (.iconst 0, 1) := by decide +kernel
theorem dL_cell_6 : decode cL_cell 6 = .ok (.goto 17, 3) := by decide +kernel
theorem dL_cell_9 : decode cL_cell 9 = .ok (.aload_n 0, 1) := by decide +kernel
theorem dL_cell_10 : decode cL_cell 10 = .ok (.iload_n 1, 1) := by decide +kernel
theorem dL_cell_11 : decode cL_cell 11 = .ok (.aload_n 0, 1) := by decide +kernel
theorem dL_cell_12 : decode cL_cell 12 = .ok (.arraylength, 1) := by decide +kernel
theorem dL_cell_13 : decode cL_cell 13 = .ok (.irem, 1) := by decide +kernel
theorem dL_cell_14 : decode cL_cell 14 = .ok (.iaload, 1) := by decide +kernel
theorem dL_cell_15 : decode cL_cell 15 = .ok (.ldc 7, 2) := by decide +kernel
theorem dL_cell_17 : decode cL_cell 17 = .ok (.iload_n 1, 1) := by decide +kernel
theorem dL_cell_18 : decode cL_cell 18 = .ok (.aload_n 0, 1) := by decide +kernel
theorem dL_cell_19 : decode cL_cell 19 = .ok (.arraylength, 1) := by decide +kernel
theorem dL_cell_20 : decode cL_cell 20 = .ok (.idiv, 1) := by decide +kernel
theorem dL_cell_21 : decode cL_cell 21 = .ok (.imul, 1) := by decide +kernel
theorem dL_cell_22 : decode cL_cell 22 = .ok (.ixor, 1) := by decide +kernel
theorem dL_cell_23 : decode cL_cell 23 = .ok (.ireturn, 1) := by decide +kernel
theorem dL_pick_0 : decode cL_pick 0 = .ok (.aload_n 0, 1) := by decide +kernel
theorem dL_pick_1 : decode cL_pick 1 = .ok (.iload_n 1, 1) := by decide +kernel
theorem dL_pick_2 : decode cL_pick 2 = .ok (.invokestatic 8, 3) := by decide +kernel
theorem dL_pick_5 : decode cL_pick 5 = .ok (.ldc 14, 2) := by decide +kernel
theorem dL_pick_7 : decode cL_pick 7 = .ok (.iand, 1) := by decide +kernel
theorem dL_pick_8 : decode cL_pick 8 = .ok (.iload_n 2, 1) := by decide +kernel
theorem dL_pick_9 : decode cL_pick 9 = .ok (.irem, 1) := by decide +kernel
theorem dL_pick_10 : decode cL_pick 10 = .ok (.ireturn, 1) := by decide +kernel
theorem dL_four_0 : decode cL_four 0 = .ok (.iconst 0, 1) := by decide +kernel
theorem dL_four_1 : decode cL_four 1 = .ok (.istore_n 2, 1) := by decide +kernel
theorem dL_four_2 : decode cL_four 2 = .ok (.iload_n 1, 1) := by decide +kernel
theorem dL_four_3 : decode cL_four 3 = .ok (.istore_n 3, 1) := by decide +kernel
theorem dL_four_4 : decode cL_four 4 = .ok (.iload_n 3, 1) := by decide +kernel
theorem dL_four_5 : decode cL_four 5 = .ok (.iload_n 1, 1) := by decide +kernel
theorem dL_four_6 : decode cL_four 6 = .ok (.iconst 4, 1) := by decide +kernel
theorem dL_four_7 : decode cL_four 7 = .ok (.iadd, 1) := by decide +kernel
theorem dL_four_8 : decode cL_four 8 = .ok (.if_icmp .ge 32, 3) := by decide +kernel
theorem dL_four_11 : decode cL_four 11 = .ok (.iload_n 2, 1) := by decide +kernel
theorem dL_four_12 : decode cL_four 12 = .ok (.bipush 8, 2) := by decide +kernel
theorem dL_four_14 : decode cL_four 14 = .ok (.ishl, 1) := by decide +kernel
theorem dL_four_15 : decode cL_four 15 = .ok (.iload_n 3, 1) := by decide +kernel
theorem dL_four_16 : decode cL_four 16 = .ok (.aload_n 0, 1) := by decide +kernel
theorem dL_four_17 : decode cL_four 17 = .ok (.invokevirtual 15, 3) := by decide +kernel
theorem dL_four_20 : decode cL_four 20 = .ok (.if_icmp .ge 11, 3) := by decide +kernel
theorem dL_four_23 : decode cL_four 23 = .ok (.aload_n 0, 1) := by decide +kernel
theorem dL_four_24 : decode cL_four 24 = .ok (.iload_n 3, 1) := by decide +kernel
theorem dL_four_25 : decode cL_four 25 = .ok (.invokevirtual 21, 3) := by decide +kernel
theorem dL_four_28 : decode cL_four 28 = .ok (.goto 4, 3) := by decide +kernel
theorem dL_four_31 : decode cL_four 31 = .ok (.iconst 0, 1) := by decide +kernel
theorem dL_four_32 : decode cL_four 32 = .ok (.ior, 1) := by decide +kernel
theorem dL_four_33 : decode cL_four 33 = .ok (.istore_n 2, 1) := by decide +kernel
theorem dL_four_34 : decode cL_four 34 = .ok (.iinc 3 1, 3) := by decide +kernel
theorem dL_four_37 : decode cL_four 37 = .ok (.goto (-33), 3) := by decide +kernel
theorem dL_four_40 : decode cL_four 40 = .ok (.iload_n 2, 1) := by decide +kernel
theorem dL_four_41 : decode cL_four 41 = .ok (.ireturn, 1) := by decide +kernel
theorem dL_feeds_0 : decode cL_feeds 0 = .ok (.iconst 0, 1) := by decide +kernel
theorem dL_feeds_1 : decode cL_feeds 1 = .ok (.istore_n 2, 1) := by decide +kernel
theorem dL_feeds_2 : decode cL_feeds 2 = .ok (.iconst 0, 1) := by decide +kernel
theorem dL_feeds_3 : decode cL_feeds 3 = .ok (.istore_n 3, 1) := by decide +kernel
theorem dL_feeds_4 : decode cL_feeds 4 = .ok (.iload_n 3, 1) := by decide +kernel
theorem dL_feeds_5 : decode cL_feeds 5 = .ok (.aload_n 1, 1) := by decide +kernel
theorem dL_feeds_6 : decode cL_feeds 6 = .ok (.invokevirtual 15, 3) := by decide +kernel
theorem dL_feeds_9 : decode cL_feeds 9 = .ok (.if_icmp .ge 50, 3) := by decide +kernel
theorem dL_feeds_12 : decode cL_feeds 12 = .ok (.aload_n 0, 1) := by decide +kernel
theorem dL_feeds_13 : decode cL_feeds 13 = .ok (.aload_n 1, 1) := by decide +kernel
theorem dL_feeds_14 : decode cL_feeds 14 = .ok (.iload_n 3, 1) := by decide +kernel
theorem dL_feeds_15 : decode cL_feeds 15 = .ok (.invokestatic 25, 3) := by decide +kernel
theorem dL_feeds_18 : decode cL_feeds 18 = .ok (.aload_n 1, 1) := by decide +kernel
theorem dL_feeds_19 : decode cL_feeds 19 = .ok (.iload_n 3, 1) := by decide +kernel
theorem dL_feeds_20 : decode cL_feeds 20 = .ok (.iconst 4, 1) := by decide +kernel
theorem dL_feeds_21 : decode cL_feeds 21 = .ok (.iadd, 1) := by decide +kernel
theorem dL_feeds_22 : decode cL_feeds 22 = .ok (.invokestatic 25, 3) := by decide +kernel
theorem dL_feeds_25 : decode cL_feeds 25 = .ok (.aload_n 1, 1) := by decide +kernel
theorem dL_feeds_26 : decode cL_feeds 26 = .ok (.iload_n 3, 1) := by decide +kernel
theorem dL_feeds_27 : decode cL_feeds 27 = .ok (.bipush 8, 2) := by decide +kernel
theorem dL_feeds_29 : decode cL_feeds 29 = .ok (.iadd, 1) := by decide +kernel
theorem dL_feeds_30 : decode cL_feeds 30 = .ok (.invokestatic 25, 3) := by decide +kernel
theorem dL_feeds_33 : decode cL_feeds 33 = .ok (.aload_n 1, 1) := by decide +kernel
theorem dL_feeds_34 : decode cL_feeds 34 = .ok (.iload_n 3, 1) := by decide +kernel
theorem dL_feeds_35 : decode cL_feeds 35 = .ok (.bipush 12, 2) := by decide +kernel
theorem dL_feeds_37 : decode cL_feeds 37 = .ok (.iadd, 1) := by decide +kernel
theorem dL_feeds_38 : decode cL_feeds 38 = .ok (.invokestatic 25, 3) := by decide +kernel
theorem dL_feeds_41 : decode cL_feeds 41 = .ok (.aload_n 1, 1) := by decide +kernel
theorem dL_feeds_42 : decode cL_feeds 42 = .ok (.iload_n 3, 1) := by decide +kernel
theorem dL_feeds_43 : decode cL_feeds 43 = .ok (.bipush 16, 2) := by decide +kernel
theorem dL_feeds_45 : decode cL_feeds 45 = .ok (.iadd, 1) := by decide +kernel
theorem dL_feeds_46 : decode cL_feeds 46 = .ok (.invokestatic 25, 3) := by decide +kernel
theorem dL_feeds_49 : decode cL_feeds 49 = .ok (.invokevirtual 29, 3) := by decide +kernel
theorem dL_feeds_52 : decode cL_feeds 52 = .ok (.istore_n 2, 1) := by decide +kernel
theorem dL_feeds_53 : decode cL_feeds 53 = .ok (.iinc 3 20, 3) := by decide +kernel
theorem dL_feeds_56 : decode cL_feeds 56 = .ok (.goto (-52), 3) := by decide +kernel
theorem dL_feeds_59 : decode cL_feeds 59 = .ok (.iload_n 2, 1) := by decide +kernel
theorem dL_feeds_60 : decode cL_feeds 60 = .ok (.aload_n 1, 1) := by decide +kernel
theorem dL_feeds_61 : decode cL_feeds 61 = .ok (.invokevirtual 15, 3) := by decide +kernel
theorem dL_feeds_64 : decode cL_feeds 64 = .ok (.if_icmp .ne 7, 3) := by decide +kernel
theorem dL_feeds_67 : decode cL_feeds 67 = .ok (.iconst 1, 1) := by decide +kernel
theorem dL_feeds_68 : decode cL_feeds 68 = .ok (.goto 4, 3) := by decide +kernel
theorem dL_feeds_71 : decode cL_feeds 71 = .ok (.iconst 0, 1) := by decide +kernel
theorem dL_feeds_72 : decode cL_feeds 72 = .ok (.ireturn, 1) := by decide +kernel
theorem dL_isBoard_0 : decode cL_isBoard 0 = .ok (.aload_n 1, 1) := by decide +kernel
theorem dL_isBoard_1 : decode cL_isBoard 1 = .ok (.getfield 35, 3) := by decide +kernel
theorem dL_isBoard_4 : decode cL_isBoard 4 = .ok (.iload_n 2, 1) := by decide +kernel
theorem dL_isBoard_5 : decode cL_isBoard 5 = .ok (.aaload, 1) := by decide +kernel
theorem dL_isBoard_6 : decode cL_isBoard 6 = .ok (.astore_n 3, 1) := by decide +kernel
theorem dL_isBoard_7 : decode cL_isBoard 7 = .ok (.iconst 0, 1) := by decide +kernel
theorem dL_isBoard_8 : decode cL_isBoard 8 = .ok (.istore 4, 2) := by decide +kernel
theorem dL_isBoard_10 : decode cL_isBoard 10 = .ok (.iconst 0, 1) := by decide +kernel
theorem dL_isBoard_11 : decode cL_isBoard 11 = .ok (.istore 5, 2) := by decide +kernel
theorem dL_isBoard_13 : decode cL_isBoard 13 = .ok (.iload 5, 2) := by decide +kernel
theorem dL_isBoard_15 : decode cL_isBoard 15 = .ok (.aload_n 1, 1) := by decide +kernel
theorem dL_isBoard_16 : decode cL_isBoard 16 = .ok (.getfield 41, 3) := by decide +kernel
theorem dL_isBoard_19 : decode cL_isBoard 19 = .ok (.aload_n 1, 1) := by decide +kernel
theorem dL_isBoard_20 : decode cL_isBoard 20 = .ok (.getfield 41, 3) := by decide +kernel
theorem dL_isBoard_23 : decode cL_isBoard 23 = .ok (.imul, 1) := by decide +kernel
theorem dL_isBoard_24 : decode cL_isBoard 24 = .ok (.if_icmp .ge 28, 3) := by decide +kernel
theorem dL_isBoard_27 : decode cL_isBoard 27 = .ok (.aload_n 0, 1) := by decide +kernel
theorem dL_isBoard_28 : decode cL_isBoard 28 = .ok (.iload_n 2, 1) := by decide +kernel
theorem dL_isBoard_29 : decode cL_isBoard 29 = .ok (.iload 5, 2) := by decide +kernel
theorem dL_isBoard_31 : decode cL_isBoard 31 = .ok (.invokevirtual 45, 3) := by decide +kernel
theorem dL_isBoard_34 : decode cL_isBoard 34 = .ok (.aload_n 3, 1) := by decide +kernel
theorem dL_isBoard_35 : decode cL_isBoard 35 = .ok (.getfield 49, 3) := by decide +kernel
theorem dL_isBoard_38 : decode cL_isBoard 38 = .ok (.iload 5, 2) := by decide +kernel
theorem dL_isBoard_40 : decode cL_isBoard 40 = .ok (.iaload, 1) := by decide +kernel
theorem dL_isBoard_41 : decode cL_isBoard 41 = .ok (.if_icmp .eq 5, 3) := by decide +kernel
theorem dL_isBoard_44 : decode cL_isBoard 44 = .ok (.iconst 0, 1) := by decide +kernel
theorem dL_isBoard_45 : decode cL_isBoard 45 = .ok (.ireturn, 1) := by decide +kernel
theorem dL_isBoard_46 : decode cL_isBoard 46 = .ok (.iinc 5 1, 3) := by decide +kernel
theorem dL_isBoard_49 : decode cL_isBoard 49 = .ok (.goto (-36), 3) := by decide +kernel
theorem dL_isBoard_52 : decode cL_isBoard 52 = .ok (.iconst 1, 1) := by decide +kernel
theorem dL_isBoard_53 : decode cL_isBoard 53 = .ok (.istore 5, 2) := by decide +kernel
theorem dL_isBoard_55 : decode cL_isBoard 55 = .ok (.iload 5, 2) := by decide +kernel
theorem dL_isBoard_57 : decode cL_isBoard 57 = .ok (.aload_n 1, 1) := by decide +kernel
theorem dL_isBoard_58 : decode cL_isBoard 58 = .ok (.getfield 55, 3) := by decide +kernel
theorem dL_isBoard_61 : decode cL_isBoard 61 = .ok (.if_icmp .gt 29, 3) := by decide +kernel
theorem dL_isBoard_64 : decode cL_isBoard 64 = .ok (.iload 4, 2) := by decide +kernel
theorem dL_isBoard_66 : decode cL_isBoard 66 = .ok (.aload_n 3, 1) := by decide +kernel
theorem dL_isBoard_67 : decode cL_isBoard 67 = .ok (.getfield 58, 3) := by decide +kernel
theorem dL_isBoard_70 : decode cL_isBoard 70 = .ok (.iload 5, 2) := by decide +kernel
theorem dL_isBoard_72 : decode cL_isBoard 72 = .ok (.iaload, 1) := by decide +kernel
theorem dL_isBoard_73 : decode cL_isBoard 73 = .ok (.ifCond .lt 7, 3) := by decide +kernel
theorem dL_isBoard_76 : decode cL_isBoard 76 = .ok (.iconst 1, 1) := by decide +kernel
theorem dL_isBoard_77 : decode cL_isBoard 77 = .ok (.goto 4, 3) := by decide +kernel
theorem dL_isBoard_80 : decode cL_isBoard 80 = .ok (.iconst 0, 1) := by decide +kernel
theorem dL_isBoard_81 : decode cL_isBoard 81 = .ok (.iadd, 1) := by decide +kernel
theorem dL_isBoard_82 : decode cL_isBoard 82 = .ok (.istore 4, 2) := by decide +kernel
theorem dL_isBoard_84 : decode cL_isBoard 84 = .ok (.iinc 5 1, 3) := by decide +kernel
theorem dL_isBoard_87 : decode cL_isBoard 87 = .ok (.goto (-32), 3) := by decide +kernel
theorem dL_isBoard_90 : decode cL_isBoard 90 = .ok (.iconst 1, 1) := by decide +kernel
theorem dL_isBoard_91 : decode cL_isBoard 91 = .ok (.istore 5, 2) := by decide +kernel
theorem dL_isBoard_93 : decode cL_isBoard 93 = .ok (.iload 5, 2) := by decide +kernel
theorem dL_isBoard_95 : decode cL_isBoard 95 = .ok (.aload_n 3, 1) := by decide +kernel
theorem dL_isBoard_96 : decode cL_isBoard 96 = .ok (.getfield 61, 3) := by decide +kernel
theorem dL_isBoard_99 : decode cL_isBoard 99 = .ok (.if_icmp .gt 45, 3) := by decide +kernel
theorem dL_isBoard_102 : decode cL_isBoard 102 = .ok (.aload_n 0, 1) := by decide +kernel
theorem dL_isBoard_103 : decode cL_isBoard 103 = .ok (.iload_n 2, 1) := by decide +kernel
theorem dL_isBoard_104 : decode cL_isBoard 104 = .ok (.iload 5, 2) := by decide +kernel
theorem dL_isBoard_106 : decode cL_isBoard 106 = .ok (.invokevirtual 64, 3) := by decide +kernel
theorem dL_isBoard_109 : decode cL_isBoard 109 = .ok (.aload_n 3, 1) := by decide +kernel
theorem dL_isBoard_110 : decode cL_isBoard 110 = .ok (.getfield 67, 3) := by decide +kernel
theorem dL_isBoard_113 : decode cL_isBoard 113 = .ok (.iload 5, 2) := by decide +kernel
theorem dL_isBoard_115 : decode cL_isBoard 115 = .ok (.iaload, 1) := by decide +kernel
theorem dL_isBoard_116 : decode cL_isBoard 116 = .ok (.if_icmp .ne 20, 3) := by decide +kernel
theorem dL_isBoard_119 : decode cL_isBoard 119 = .ok (.aload_n 0, 1) := by decide +kernel
theorem dL_isBoard_120 : decode cL_isBoard 120 = .ok (.iload_n 2, 1) := by decide +kernel
theorem dL_isBoard_121 : decode cL_isBoard 121 = .ok (.iload 5, 2) := by decide +kernel
theorem dL_isBoard_123 : decode cL_isBoard 123 = .ok (.invokevirtual 70, 3) := by decide +kernel
theorem dL_isBoard_126 : decode cL_isBoard 126 = .ok (.aload_n 3, 1) := by decide +kernel
theorem dL_isBoard_127 : decode cL_isBoard 127 = .ok (.getfield 73, 3) := by decide +kernel
theorem dL_isBoard_130 : decode cL_isBoard 130 = .ok (.iload 5, 2) := by decide +kernel
theorem dL_isBoard_132 : decode cL_isBoard 132 = .ok (.iaload, 1) := by decide +kernel
theorem dL_isBoard_133 : decode cL_isBoard 133 = .ok (.if_icmp .eq 5, 3) := by decide +kernel
theorem dL_isBoard_136 : decode cL_isBoard 136 = .ok (.iconst 0, 1) := by decide +kernel
theorem dL_isBoard_137 : decode cL_isBoard 137 = .ok (.ireturn, 1) := by decide +kernel
theorem dL_isBoard_138 : decode cL_isBoard 138 = .ok (.iinc 5 1, 3) := by decide +kernel
theorem dL_isBoard_141 : decode cL_isBoard 141 = .ok (.goto (-48), 3) := by decide +kernel
theorem dL_isBoard_144 : decode cL_isBoard 144 = .ok (.aload_n 3, 1) := by decide +kernel
theorem dL_isBoard_145 : decode cL_isBoard 145 = .ok (.iconst 0, 1) := by decide +kernel
theorem dL_isBoard_146 : decode cL_isBoard 146 = .ok (.invokevirtual 76, 3) := by decide +kernel
theorem dL_isBoard_149 : decode cL_isBoard 149 = .ok (.aload_n 3, 1) := by decide +kernel
theorem dL_isBoard_150 : decode cL_isBoard 150 = .ok (.iconst 1, 1) := by decide +kernel
theorem dL_isBoard_151 : decode cL_isBoard 151 = .ok (.invokevirtual 76, 3) := by decide +kernel
theorem dL_isBoard_154 : decode cL_isBoard 154 = .ok (.isub, 1) := by decide +kernel
theorem dL_isBoard_155 : decode cL_isBoard 155 = .ok (.istore 5, 2) := by decide +kernel
theorem dL_isBoard_157 : decode cL_isBoard 157 = .ok (.aload_n 1, 1) := by decide +kernel
theorem dL_isBoard_158 : decode cL_isBoard 158 = .ok (.iload_n 2, 1) := by decide +kernel
theorem dL_isBoard_159 : decode cL_isBoard 159 = .ok (.invokevirtual 80, 3) := by decide +kernel
theorem dL_isBoard_162 : decode cL_isBoard 162 = .ok (.istore 6, 2) := by decide +kernel
theorem dL_isBoard_164 : decode cL_isBoard 164 = .ok (.aload_n 1, 1) := by decide +kernel
theorem dL_isBoard_165 : decode cL_isBoard 165 = .ok (.iload_n 2, 1) := by decide +kernel
theorem dL_isBoard_166 : decode cL_isBoard 166 = .ok (.invokevirtual 83, 3) := by decide +kernel
theorem dL_isBoard_169 : decode cL_isBoard 169 = .ok (.ifCond .eq 7, 3) := by decide +kernel
theorem dL_isBoard_172 : decode cL_isBoard 172 = .ok (.iconst 0, 1) := by decide +kernel
theorem dL_isBoard_173 : decode cL_isBoard 173 = .ok (.goto 33, 3) := by decide +kernel
theorem dL_isBoard_176 : decode cL_isBoard 176 = .ok (.aload_n 1, 1) := by decide +kernel
theorem dL_isBoard_177 : decode cL_isBoard 177 = .ok (.iload_n 2, 1) := by decide +kernel
theorem dL_isBoard_178 : decode cL_isBoard 178 = .ok (.invokevirtual 87, 3) := by decide +kernel
theorem dL_isBoard_181 : decode cL_isBoard 181 = .ok (.ifCond .eq 7, 3) := by decide +kernel
theorem dL_isBoard_184 : decode cL_isBoard 184 = .ok (.iconst 1, 1) := by decide +kernel
theorem dL_isBoard_185 : decode cL_isBoard 185 = .ok (.goto 21, 3) := by decide +kernel
theorem dL_isBoard_188 : decode cL_isBoard 188 = .ok (.iload 6, 2) := by decide +kernel
theorem dL_isBoard_190 : decode cL_isBoard 190 = .ok (.ifCond .ge 7, 3) := by decide +kernel
theorem dL_isBoard_193 : decode cL_isBoard 193 = .ok (.iconst 2, 1) := by decide +kernel
theorem dL_isBoard_194 : decode cL_isBoard 194 = .ok (.goto 12, 3) := by decide +kernel
theorem dL_isBoard_197 : decode cL_isBoard 197 = .ok (.iconst 3, 1) := by decide +kernel
theorem dL_isBoard_198 : decode cL_isBoard 198 = .ok (.aload_n 1, 1) := by decide +kernel
theorem dL_isBoard_199 : decode cL_isBoard 199 = .ok (.getfield 90, 3) := by decide +kernel
theorem dL_isBoard_202 : decode cL_isBoard 202 = .ok (.iload 6, 2) := by decide +kernel
theorem dL_isBoard_204 : decode cL_isBoard 204 = .ok (.iaload, 1) := by decide +kernel
theorem dL_isBoard_205 : decode cL_isBoard 205 = .ok (.iadd, 1) := by decide +kernel
theorem dL_isBoard_206 : decode cL_isBoard 206 = .ok (.istore 7, 2) := by decide +kernel
theorem dL_isBoard_208 : decode cL_isBoard 208 = .ok (.aload_n 0, 1) := by decide +kernel
theorem dL_isBoard_209 : decode cL_isBoard 209 = .ok (.iload_n 2, 1) := by decide +kernel
theorem dL_isBoard_210 : decode cL_isBoard 210 = .ok (.iconst 0, 1) := by decide +kernel
theorem dL_isBoard_211 : decode cL_isBoard 211 = .ok (.invokevirtual 93, 3) := by decide +kernel
theorem dL_isBoard_214 : decode cL_isBoard 214 = .ok (.aload_n 3, 1) := by decide +kernel
theorem dL_isBoard_215 : decode cL_isBoard 215 = .ok (.iconst 0, 1) := by decide +kernel
theorem dL_isBoard_216 : decode cL_isBoard 216 = .ok (.invokevirtual 76, 3) := by decide +kernel
theorem dL_isBoard_219 : decode cL_isBoard 219 = .ok (.if_icmp .ne 104, 3) := by decide +kernel
theorem dL_isBoard_222 : decode cL_isBoard 222 = .ok (.aload_n 0, 1) := by decide +kernel
theorem dL_isBoard_223 : decode cL_isBoard 223 = .ok (.iload_n 2, 1) := by decide +kernel
theorem dL_isBoard_224 : decode cL_isBoard 224 = .ok (.iconst 1, 1) := by decide +kernel
theorem dL_isBoard_225 : decode cL_isBoard 225 = .ok (.invokevirtual 93, 3) := by decide +kernel
theorem dL_isBoard_228 : decode cL_isBoard 228 = .ok (.aload_n 3, 1) := by decide +kernel
theorem dL_isBoard_229 : decode cL_isBoard 229 = .ok (.iconst 1, 1) := by decide +kernel
theorem dL_isBoard_230 : decode cL_isBoard 230 = .ok (.invokevirtual 76, 3) := by decide +kernel
theorem dL_isBoard_233 : decode cL_isBoard 233 = .ok (.if_icmp .ne 90, 3) := by decide +kernel
theorem dL_isBoard_236 : decode cL_isBoard 236 = .ok (.aload_n 0, 1) := by decide +kernel
theorem dL_isBoard_237 : decode cL_isBoard 237 = .ok (.iload_n 2, 1) := by decide +kernel
theorem dL_isBoard_238 : decode cL_isBoard 238 = .ok (.invokevirtual 96, 3) := by decide +kernel
theorem dL_isBoard_241 : decode cL_isBoard 241 = .ok (.aload_n 3, 1) := by decide +kernel
theorem dL_isBoard_242 : decode cL_isBoard 242 = .ok (.getfield 61, 3) := by decide +kernel
theorem dL_isBoard_245 : decode cL_isBoard 245 = .ok (.if_icmp .ne 78, 3) := by decide +kernel
theorem dL_isBoard_248 : decode cL_isBoard 248 = .ok (.aload_n 0, 1) := by decide +kernel
theorem dL_isBoard_249 : decode cL_isBoard 249 = .ok (.iload_n 2, 1) := by decide +kernel
theorem dL_isBoard_250 : decode cL_isBoard 250 = .ok (.invokevirtual 99, 3) := by decide +kernel
theorem dL_isBoard_253 : decode cL_isBoard 253 = .ok (.aload_n 1, 1) := by decide +kernel
theorem dL_isBoard_254 : decode cL_isBoard 254 = .ok (.iload_n 2, 1) := by decide +kernel
theorem dL_isBoard_255 : decode cL_isBoard 255 = .ok (.invokevirtual 83, 3) := by decide +kernel
theorem dL_isBoard_258 : decode cL_isBoard 258 = .ok (.if_icmp .ne 65, 3) := by decide +kernel
theorem dL_isBoard_261 : decode cL_isBoard 261 = .ok (.aload_n 0, 1) := by decide +kernel
theorem dL_isBoard_262 : decode cL_isBoard 262 = .ok (.iload_n 2, 1) := by decide +kernel
theorem dL_isBoard_263 : decode cL_isBoard 263 = .ok (.invokevirtual 100, 3) := by decide +kernel
theorem dL_isBoard_266 : decode cL_isBoard 266 = .ok (.aload_n 1, 1) := by decide +kernel
theorem dL_isBoard_267 : decode cL_isBoard 267 = .ok (.iload_n 2, 1) := by decide +kernel
theorem dL_isBoard_268 : decode cL_isBoard 268 = .ok (.invokevirtual 87, 3) := by decide +kernel
theorem dL_isBoard_271 : decode cL_isBoard 271 = .ok (.if_icmp .ne 52, 3) := by decide +kernel
theorem dL_isBoard_274 : decode cL_isBoard 274 = .ok (.aload_n 0, 1) := by decide +kernel
theorem dL_isBoard_275 : decode cL_isBoard 275 = .ok (.iload_n 2, 1) := by decide +kernel
theorem dL_isBoard_276 : decode cL_isBoard 276 = .ok (.invokevirtual 101, 3) := by decide +kernel
theorem dL_isBoard_279 : decode cL_isBoard 279 = .ok (.aload_n 1, 1) := by decide +kernel
theorem dL_isBoard_280 : decode cL_isBoard 280 = .ok (.iload_n 2, 1) := by decide +kernel
theorem dL_isBoard_281 : decode cL_isBoard 281 = .ok (.invokevirtual 87, 3) := by decide +kernel
theorem dL_isBoard_284 : decode cL_isBoard 284 = .ok (.ifCond .eq 8, 3) := by decide +kernel
theorem dL_isBoard_287 : decode cL_isBoard 287 = .ok (.iload 5, 2) := by decide +kernel
theorem dL_isBoard_289 : decode cL_isBoard 289 = .ok (.ifCond .ne 7, 3) := by decide +kernel
theorem dL_isBoard_292 : decode cL_isBoard 292 = .ok (.iconst (-1), 1) := by decide +kernel
theorem dL_isBoard_293 : decode cL_isBoard 293 = .ok (.goto 13, 3) := by decide +kernel
theorem dL_isBoard_296 : decode cL_isBoard 296 = .ok (.iload 5, 2) := by decide +kernel
theorem dL_isBoard_298 : decode cL_isBoard 298 = .ok (.ifCond .le 7, 3) := by decide +kernel
theorem dL_isBoard_301 : decode cL_isBoard 301 = .ok (.iconst 0, 1) := by decide +kernel
theorem dL_isBoard_302 : decode cL_isBoard 302 = .ok (.goto 4, 3) := by decide +kernel
theorem dL_isBoard_305 : decode cL_isBoard 305 = .ok (.iconst 1, 1) := by decide +kernel
theorem dL_isBoard_306 : decode cL_isBoard 306 = .ok (.if_icmp .ne 17, 3) := by decide +kernel
theorem dL_isBoard_309 : decode cL_isBoard 309 = .ok (.aload_n 0, 1) := by decide +kernel
theorem dL_isBoard_310 : decode cL_isBoard 310 = .ok (.iload_n 2, 1) := by decide +kernel
theorem dL_isBoard_311 : decode cL_isBoard 311 = .ok (.invokevirtual 104, 3) := by decide +kernel
theorem dL_isBoard_314 : decode cL_isBoard 314 = .ok (.iload 4, 2) := by decide +kernel
theorem dL_isBoard_316 : decode cL_isBoard 316 = .ok (.if_icmp .ne 7, 3) := by decide +kernel
theorem dL_isBoard_319 : decode cL_isBoard 319 = .ok (.iconst 1, 1) := by decide +kernel
theorem dL_isBoard_320 : decode cL_isBoard 320 = .ok (.goto 4, 3) := by decide +kernel
theorem dL_isBoard_323 : decode cL_isBoard 323 = .ok (.iconst 0, 1) := by decide +kernel
theorem dL_isBoard_324 : decode cL_isBoard 324 = .ok (.istore 8, 2) := by decide +kernel
theorem dL_isBoard_326 : decode cL_isBoard 326 = .ok (.iload 8, 2) := by decide +kernel
theorem dL_isBoard_328 : decode cL_isBoard 328 = .ok (.ifCond .eq 82, 3) := by decide +kernel
theorem dL_isBoard_331 : decode cL_isBoard 331 = .ok (.aload_n 0, 1) := by decide +kernel
theorem dL_isBoard_332 : decode cL_isBoard 332 = .ok (.iload_n 2, 1) := by decide +kernel
theorem dL_isBoard_333 : decode cL_isBoard 333 = .ok (.invokevirtual 107, 3) := by decide +kernel
theorem dL_isBoard_336 : decode cL_isBoard 336 = .ok (.iload 6, 2) := by decide +kernel
theorem dL_isBoard_338 : decode cL_isBoard 338 = .ok (.if_icmp .ne 72, 3) := by decide +kernel
theorem dL_isBoard_341 : decode cL_isBoard 341 = .ok (.aload_n 0, 1) := by decide +kernel
theorem dL_isBoard_342 : decode cL_isBoard 342 = .ok (.iload_n 2, 1) := by decide +kernel
theorem dL_isBoard_343 : decode cL_isBoard 343 = .ok (.invokevirtual 110, 3) := by decide +kernel
theorem dL_isBoard_346 : decode cL_isBoard 346 = .ok (.iload 7, 2) := by decide +kernel
theorem dL_isBoard_348 : decode cL_isBoard 348 = .ok (.if_icmp .ne 62, 3) := by decide +kernel
theorem dL_isBoard_351 : decode cL_isBoard 351 = .ok (.aload_n 0, 1) := by decide +kernel
theorem dL_isBoard_352 : decode cL_isBoard 352 = .ok (.iload_n 2, 1) := by decide +kernel
theorem dL_isBoard_353 : decode cL_isBoard 353 = .ok (.invokevirtual 113, 3) := by decide +kernel
theorem dL_isBoard_356 : decode cL_isBoard 356 = .ok (.aload_n 3, 1) := by decide +kernel
theorem dL_isBoard_357 : decode cL_isBoard 357 = .ok (.getfield 116, 3) := by decide +kernel
theorem dL_isBoard_360 : decode cL_isBoard 360 = .ok (.if_icmp .ne 50, 3) := by decide +kernel
theorem dL_isBoard_363 : decode cL_isBoard 363 = .ok (.aload_n 0, 1) := by decide +kernel
theorem dL_isBoard_364 : decode cL_isBoard 364 = .ok (.iload_n 2, 1) := by decide +kernel
theorem dL_isBoard_365 : decode cL_isBoard 365 = .ok (.invokevirtual 119, 3) := by decide +kernel
theorem dL_isBoard_368 : decode cL_isBoard 368 = .ok (.aload_n 3, 1) := by decide +kernel
theorem dL_isBoard_369 : decode cL_isBoard 369 = .ok (.getfield 122, 3) := by decide +kernel
theorem dL_isBoard_372 : decode cL_isBoard 372 = .ok (.if_icmp .ne 38, 3) := by decide +kernel
theorem dL_isBoard_375 : decode cL_isBoard 375 = .ok (.aload_n 0, 1) := by decide +kernel
theorem dL_isBoard_376 : decode cL_isBoard 376 = .ok (.iload_n 2, 1) := by decide +kernel
theorem dL_isBoard_377 : decode cL_isBoard 377 = .ok (.invokevirtual 125, 3) := by decide +kernel
theorem dL_isBoard_380 : decode cL_isBoard 380 = .ok (.aload_n 3, 1) := by decide +kernel
theorem dL_isBoard_381 : decode cL_isBoard 381 = .ok (.getfield 129, 3) := by decide +kernel
theorem dL_isBoard_384 : decode cL_isBoard 384 = .ok (.ifCond .ne 7, 3) := by decide +kernel
theorem dL_isBoard_387 : decode cL_isBoard 387 = .ok (.dconst 0, 1) := by decide +kernel
theorem dL_isBoard_388 : decode cL_isBoard 388 = .ok (.goto 14, 3) := by decide +kernel
theorem dL_isBoard_391 : decode cL_isBoard 391 = .ok (.aload_n 3, 1) := by decide +kernel
theorem dL_isBoard_392 : decode cL_isBoard 392 = .ok (.getfield 132, 3) := by decide +kernel
theorem dL_isBoard_395 : decode cL_isBoard 395 = .ok (.i2d, 1) := by decide +kernel
theorem dL_isBoard_396 : decode cL_isBoard 396 = .ok (.aload_n 3, 1) := by decide +kernel
theorem dL_isBoard_397 : decode cL_isBoard 397 = .ok (.getfield 129, 3) := by decide +kernel
theorem dL_isBoard_400 : decode cL_isBoard 400 = .ok (.i2d, 1) := by decide +kernel
theorem dL_isBoard_401 : decode cL_isBoard 401 = .ok (.ddiv, 1) := by decide +kernel
theorem dL_isBoard_402 : decode cL_isBoard 402 = .ok (.dcmp .l, 1) := by decide +kernel
theorem dL_isBoard_403 : decode cL_isBoard 403 = .ok (.ifCond .ne 7, 3) := by decide +kernel
theorem dL_isBoard_406 : decode cL_isBoard 406 = .ok (.iconst 1, 1) := by decide +kernel
theorem dL_isBoard_407 : decode cL_isBoard 407 = .ok (.goto 4, 3) := by decide +kernel
theorem dL_isBoard_410 : decode cL_isBoard 410 = .ok (.iconst 0, 1) := by decide +kernel
theorem dL_isBoard_411 : decode cL_isBoard 411 = .ok (.ireturn, 1) := by decide +kernel
theorem dL_isAs_0 : decode cL_isAs 0 = .ok (.aload_n 0, 1) := by decide +kernel
theorem dL_isAs_1 : decode cL_isAs 1 = .ok (.aload_n 1, 1) := by decide +kernel
theorem dL_isAs_2 : decode cL_isAs 2 = .ok (.iconst 0, 1) := by decide +kernel
theorem dL_isAs_3 : decode cL_isAs 3 = .ok (.invokestatic 135, 3) := by decide +kernel
theorem dL_isAs_6 : decode cL_isAs 6 = .ok (.ifCond .eq 12, 3) := by decide +kernel
theorem dL_isAs_9 : decode cL_isAs 9 = .ok (.aload_n 0, 1) := by decide +kernel
theorem dL_isAs_10 : decode cL_isAs 10 = .ok (.aload_n 1, 1) := by decide +kernel
theorem dL_isAs_11 : decode cL_isAs 11 = .ok (.iconst 1, 1) := by decide +kernel
theorem dL_isAs_12 : decode cL_isAs 12 = .ok (.invokestatic 135, 3) := by decide +kernel
theorem dL_isAs_15 : decode cL_isAs 15 = .ok (.ifCond .ne 5, 3) := by decide +kernel
theorem dL_isAs_18 : decode cL_isAs 18 = .ok (.iconst 0, 1) := by decide +kernel
theorem dL_isAs_19 : decode cL_isAs 19 = .ok (.ireturn, 1) := by decide +kernel
theorem dL_isAs_20 : decode cL_isAs 20 = .ok (.iconst 0, 1) := by decide +kernel
theorem dL_isAs_21 : decode cL_isAs 21 = .ok (.istore_n 2, 1) := by decide +kernel
theorem dL_isAs_22 : decode cL_isAs 22 = .ok (.iload_n 2, 1) := by decide +kernel
theorem dL_isAs_23 : decode cL_isAs 23 = .ok (.aload_n 1, 1) := by decide +kernel
theorem dL_isAs_24 : decode cL_isAs 24 = .ok (.getfield 139, 3) := by decide +kernel
theorem dL_isAs_27 : decode cL_isAs 27 = .ok (.if_icmp .ge 130, 3) := by decide +kernel
theorem dL_isAs_30 : decode cL_isAs 30 = .ok (.iconst 0, 1) := by decide +kernel
theorem dL_isAs_31 : decode cL_isAs 31 = .ok (.istore_n 3, 1) := by decide +kernel
theorem dL_isAs_32 : decode cL_isAs 32 = .ok (.iload_n 3, 1) := by decide +kernel
theorem dL_isAs_33 : decode cL_isAs 33 = .ok (.bipush 12, 2) := by decide +kernel
theorem dL_isAs_35 : decode cL_isAs 35 = .ok (.if_icmp .ge 31, 3) := by decide +kernel
theorem dL_isAs_38 : decode cL_isAs 38 = .ok (.aload_n 0, 1) := by decide +kernel
theorem dL_isAs_39 : decode cL_isAs 39 = .ok (.iload_n 2, 1) := by decide +kernel
theorem dL_isAs_40 : decode cL_isAs 40 = .ok (.iload_n 3, 1) := by decide +kernel
theorem dL_isAs_41 : decode cL_isAs 41 = .ok (.invokevirtual 142, 3) := by decide +kernel
theorem dL_isAs_44 : decode cL_isAs 44 = .ok (.aload_n 1, 1) := by decide +kernel
theorem dL_isAs_45 : decode cL_isAs 45 = .ok (.getfield 145, 3) := by decide +kernel
theorem dL_isAs_48 : decode cL_isAs 48 = .ok (.bipush 12, 2) := by decide +kernel
theorem dL_isAs_50 : decode cL_isAs 50 = .ok (.iload_n 2, 1) := by decide +kernel
theorem dL_isAs_51 : decode cL_isAs 51 = .ok (.imul, 1) := by decide +kernel
theorem dL_isAs_52 : decode cL_isAs 52 = .ok (.iload_n 3, 1) := by decide +kernel
theorem dL_isAs_53 : decode cL_isAs 53 = .ok (.iadd, 1) := by decide +kernel
theorem dL_isAs_54 : decode cL_isAs 54 = .ok (.iaload, 1) := by decide +kernel
theorem dL_isAs_55 : decode cL_isAs 55 = .ok (.if_icmp .eq 5, 3) := by decide +kernel
theorem dL_isAs_58 : decode cL_isAs 58 = .ok (.iconst 0, 1) := by decide +kernel
theorem dL_isAs_59 : decode cL_isAs 59 = .ok (.ireturn, 1) := by decide +kernel
theorem dL_isAs_60 : decode cL_isAs 60 = .ok (.iinc 3 1, 3) := by decide +kernel
theorem dL_isAs_63 : decode cL_isAs 63 = .ok (.goto (-31), 3) := by decide +kernel
theorem dL_isAs_66 : decode cL_isAs 66 = .ok (.aload_n 0, 1) := by decide +kernel
theorem dL_isAs_67 : decode cL_isAs 67 = .ok (.iload_n 2, 1) := by decide +kernel
theorem dL_isAs_68 : decode cL_isAs 68 = .ok (.invokevirtual 148, 3) := by decide +kernel
theorem dL_isAs_71 : decode cL_isAs 71 = .ok (.aload_n 1, 1) := by decide +kernel
theorem dL_isAs_72 : decode cL_isAs 72 = .ok (.iload_n 2, 1) := by decide +kernel
theorem dL_isAs_73 : decode cL_isAs 73 = .ok (.invokevirtual 151, 3) := by decide +kernel
theorem dL_isAs_76 : decode cL_isAs 76 = .ok (.bipush 9, 2) := by decide +kernel
theorem dL_isAs_78 : decode cL_isAs 78 = .ok (.if_icmp .ne 7, 3) := by decide +kernel
theorem dL_isAs_81 : decode cL_isAs 81 = .ok (.iconst (-1), 1) := by decide +kernel
theorem dL_isAs_82 : decode cL_isAs 82 = .ok (.goto 15, 3) := by decide +kernel
theorem dL_isAs_85 : decode cL_isAs 85 = .ok (.aload_n 1, 1) := by decide +kernel
theorem dL_isAs_86 : decode cL_isAs 86 = .ok (.getfield 154, 3) := by decide +kernel
theorem dL_isAs_89 : decode cL_isAs 89 = .ok (.iload_n 2, 1) := by decide +kernel
theorem dL_isAs_90 : decode cL_isAs 90 = .ok (.iaload, 1) := by decide +kernel
theorem dL_isAs_91 : decode cL_isAs 91 = .ok (.aload_n 1, 1) := by decide +kernel
theorem dL_isAs_92 : decode cL_isAs 92 = .ok (.iload_n 2, 1) := by decide +kernel
theorem dL_isAs_93 : decode cL_isAs 93 = .ok (.invokevirtual 151, 3) := by decide +kernel
theorem dL_isAs_96 : decode cL_isAs 96 = .ok (.iadd, 1) := by decide +kernel
theorem dL_isAs_97 : decode cL_isAs 97 = .ok (.if_icmp .eq 5, 3) := by decide +kernel
theorem dL_isAs_100 : decode cL_isAs 100 = .ok (.iconst 0, 1) := by decide +kernel
theorem dL_isAs_101 : decode cL_isAs 101 = .ok (.ireturn, 1) := by decide +kernel
theorem dL_isAs_102 : decode cL_isAs 102 = .ok (.iconst 0, 1) := by decide +kernel
theorem dL_isAs_103 : decode cL_isAs 103 = .ok (.istore_n 3, 1) := by decide +kernel
theorem dL_isAs_104 : decode cL_isAs 104 = .ok (.iload_n 3, 1) := by decide +kernel
theorem dL_isAs_105 : decode cL_isAs 105 = .ok (.iconst 2, 1) := by decide +kernel
theorem dL_isAs_106 : decode cL_isAs 106 = .ok (.if_icmp .ge 45, 3) := by decide +kernel
theorem dL_isAs_109 : decode cL_isAs 109 = .ok (.aload_n 0, 1) := by decide +kernel
theorem dL_isAs_110 : decode cL_isAs 110 = .ok (.iload_n 2, 1) := by decide +kernel
theorem dL_isAs_111 : decode cL_isAs 111 = .ok (.iload_n 3, 1) := by decide +kernel
theorem dL_isAs_112 : decode cL_isAs 112 = .ok (.invokevirtual 157, 3) := by decide +kernel
theorem dL_isAs_115 : decode cL_isAs 115 = .ok (.aload_n 1, 1) := by decide +kernel
theorem dL_isAs_116 : decode cL_isAs 116 = .ok (.getfield 160, 3) := by decide +kernel
theorem dL_isAs_119 : decode cL_isAs 119 = .ok (.iconst 2, 1) := by decide +kernel
theorem dL_isAs_120 : decode cL_isAs 120 = .ok (.iload_n 2, 1) := by decide +kernel
theorem dL_isAs_121 : decode cL_isAs 121 = .ok (.imul, 1) := by decide +kernel
theorem dL_isAs_122 : decode cL_isAs 122 = .ok (.iload_n 3, 1) := by decide +kernel
theorem dL_isAs_123 : decode cL_isAs 123 = .ok (.iadd, 1) := by decide +kernel
theorem dL_isAs_124 : decode cL_isAs 124 = .ok (.iaload, 1) := by decide +kernel
theorem dL_isAs_125 : decode cL_isAs 125 = .ok (.if_icmp .ne 18, 3) := by decide +kernel
theorem dL_isAs_128 : decode cL_isAs 128 = .ok (.aload_n 0, 1) := by decide +kernel
theorem dL_isAs_129 : decode cL_isAs 129 = .ok (.iload_n 2, 1) := by decide +kernel
theorem dL_isAs_130 : decode cL_isAs 130 = .ok (.iload_n 3, 1) := by decide +kernel
theorem dL_isAs_131 : decode cL_isAs 131 = .ok (.invokevirtual 163, 3) := by decide +kernel
theorem dL_isAs_134 : decode cL_isAs 134 = .ok (.aload_n 1, 1) := by decide +kernel
theorem dL_isAs_135 : decode cL_isAs 135 = .ok (.iload_n 2, 1) := by decide +kernel
theorem dL_isAs_136 : decode cL_isAs 136 = .ok (.iload_n 3, 1) := by decide +kernel
theorem dL_isAs_137 : decode cL_isAs 137 = .ok (.invokevirtual 166, 3) := by decide +kernel
theorem dL_isAs_140 : decode cL_isAs 140 = .ok (.if_icmp .eq 5, 3) := by decide +kernel
theorem dL_isAs_143 : decode cL_isAs 143 = .ok (.iconst 0, 1) := by decide +kernel
theorem dL_isAs_144 : decode cL_isAs 144 = .ok (.ireturn, 1) := by decide +kernel
theorem dL_isAs_145 : decode cL_isAs 145 = .ok (.iinc 3 1, 3) := by decide +kernel
theorem dL_isAs_148 : decode cL_isAs 148 = .ok (.goto (-44), 3) := by decide +kernel
theorem dL_isAs_151 : decode cL_isAs 151 = .ok (.iinc 2 1, 3) := by decide +kernel
theorem dL_isAs_154 : decode cL_isAs 154 = .ok (.goto (-132), 3) := by decide +kernel
theorem dL_isAs_157 : decode cL_isAs 157 = .ok (.iconst 0, 1) := by decide +kernel
theorem dL_isAs_158 : decode cL_isAs 158 = .ok (.istore_n 2, 1) := by decide +kernel
theorem dL_isAs_159 : decode cL_isAs 159 = .ok (.iload_n 2, 1) := by decide +kernel
theorem dL_isAs_160 : decode cL_isAs 160 = .ok (.aload_n 1, 1) := by decide +kernel
theorem dL_isAs_161 : decode cL_isAs 161 = .ok (.getfield 169, 3) := by decide +kernel
theorem dL_isAs_164 : decode cL_isAs 164 = .ok (.if_icmp .ge 67, 3) := by decide +kernel
theorem dL_isAs_167 : decode cL_isAs 167 = .ok (.aload_n 0, 1) := by decide +kernel
theorem dL_isAs_168 : decode cL_isAs 168 = .ok (.iload_n 2, 1) := by decide +kernel
theorem dL_isAs_169 : decode cL_isAs 169 = .ok (.invokevirtual 172, 3) := by decide +kernel
theorem dL_isAs_172 : decode cL_isAs 172 = .ok (.aload_n 1, 1) := by decide +kernel
theorem dL_isAs_173 : decode cL_isAs 173 = .ok (.getfield 175, 3) := by decide +kernel
theorem dL_isAs_176 : decode cL_isAs 176 = .ok (.iload_n 2, 1) := by decide +kernel
theorem dL_isAs_177 : decode cL_isAs 177 = .ok (.iaload, 1) := by decide +kernel
theorem dL_isAs_178 : decode cL_isAs 178 = .ok (.if_icmp .ne 45, 3) := by decide +kernel
theorem dL_isAs_181 : decode cL_isAs 181 = .ok (.aload_n 0, 1) := by decide +kernel
theorem dL_isAs_182 : decode cL_isAs 182 = .ok (.iload_n 2, 1) := by decide +kernel
theorem dL_isAs_183 : decode cL_isAs 183 = .ok (.invokevirtual 178, 3) := by decide +kernel
theorem dL_isAs_186 : decode cL_isAs 186 = .ok (.aload_n 1, 1) := by decide +kernel
theorem dL_isAs_187 : decode cL_isAs 187 = .ok (.getfield 181, 3) := by decide +kernel
theorem dL_isAs_190 : decode cL_isAs 190 = .ok (.iload_n 2, 1) := by decide +kernel
theorem dL_isAs_191 : decode cL_isAs 191 = .ok (.iaload, 1) := by decide +kernel
theorem dL_isAs_192 : decode cL_isAs 192 = .ok (.if_icmp .ne 31, 3) := by decide +kernel
theorem dL_isAs_195 : decode cL_isAs 195 = .ok (.aload_n 0, 1) := by decide +kernel
theorem dL_isAs_196 : decode cL_isAs 196 = .ok (.iload_n 2, 1) := by decide +kernel
theorem dL_isAs_197 : decode cL_isAs 197 = .ok (.invokevirtual 184, 3) := by decide +kernel
theorem dL_isAs_200 : decode cL_isAs 200 = .ok (.aload_n 1, 1) := by decide +kernel
theorem dL_isAs_201 : decode cL_isAs 201 = .ok (.getfield 187, 3) := by decide +kernel
theorem dL_isAs_204 : decode cL_isAs 204 = .ok (.iload_n 2, 1) := by decide +kernel
theorem dL_isAs_205 : decode cL_isAs 205 = .ok (.baload, 1) := by decide +kernel
theorem dL_isAs_206 : decode cL_isAs 206 = .ok (.if_icmp .ne 17, 3) := by decide +kernel
theorem dL_isAs_209 : decode cL_isAs 209 = .ok (.aload_n 0, 1) := by decide +kernel
theorem dL_isAs_210 : decode cL_isAs 210 = .ok (.iload_n 2, 1) := by decide +kernel
theorem dL_isAs_211 : decode cL_isAs 211 = .ok (.invokevirtual 190, 3) := by decide +kernel
theorem dL_isAs_214 : decode cL_isAs 214 = .ok (.aload_n 1, 1) := by decide +kernel
theorem dL_isAs_215 : decode cL_isAs 215 = .ok (.getfield 90, 3) := by decide +kernel
theorem dL_isAs_218 : decode cL_isAs 218 = .ok (.iload_n 2, 1) := by decide +kernel
theorem dL_isAs_219 : decode cL_isAs 219 = .ok (.iaload, 1) := by decide +kernel
theorem dL_isAs_220 : decode cL_isAs 220 = .ok (.if_icmp .eq 5, 3) := by decide +kernel
theorem dL_isAs_223 : decode cL_isAs 223 = .ok (.iconst 0, 1) := by decide +kernel
theorem dL_isAs_224 : decode cL_isAs 224 = .ok (.ireturn, 1) := by decide +kernel
theorem dL_isAs_225 : decode cL_isAs 225 = .ok (.iinc 2 1, 3) := by decide +kernel
theorem dL_isAs_228 : decode cL_isAs 228 = .ok (.goto (-69), 3) := by decide +kernel
theorem dL_isAs_231 : decode cL_isAs 231 = .ok (.aload_n 0, 1) := by decide +kernel
theorem dL_isAs_232 : decode cL_isAs 232 = .ok (.invokevirtual 193, 3) := by decide +kernel
theorem dL_isAs_235 : decode cL_isAs 235 = .ok (.aload_n 1, 1) := by decide +kernel
theorem dL_isAs_236 : decode cL_isAs 236 = .ok (.getfield 41, 3) := by decide +kernel
theorem dL_isAs_239 : decode cL_isAs 239 = .ok (.if_icmp .ne 84, 3) := by decide +kernel
theorem dL_isAs_242 : decode cL_isAs 242 = .ok (.aload_n 0, 1) := by decide +kernel
theorem dL_isAs_243 : decode cL_isAs 243 = .ok (.invokevirtual 196, 3) := by decide +kernel
