theorem dX0_init_0 : decode cX0_init 0 = .ok (.aload_n 0, 1) := by decide +kernel
theorem dX0_init_1 : decode cX0_init 1 = .ok (.invokespecial 1, 3) := by decide +kernel
theorem dX0_init_4 : decode cX0_init 4 = .ok (.aload_n 0, 1) := by decide +kernel
theorem dX0_init_5 : decode cX0_init 5 = .ok (.iload_n 1, 1) := by decide +kernel
theorem dX0_init_6 : decode cX0_init 6 = .ok (.iconst 0, 1) := by decide +kernel
theorem dX0_init_7 : decode cX0_init 7 = .ok (.invokestatic 7, 3) := by decide +kernel
theorem dX0_init_10 : decode cX0_init 10 = .ok (.newarray .byte, 2) := by decide +kernel
theorem dX0_init_12 : decode cX0_init 12 = .ok (.putfield 13, 3) := by decide +kernel
theorem dX0_init_15 : decode cX0_init 15 = .ok (.return_, 1) := by decide +kernel
theorem dX0_holds_0 : decode cX0_holds 0 = .ok (.iload_n 1, 1) := by decide +kernel
theorem dX0_holds_1 : decode cX0_holds 1 = .ok (.ifCond .lt 31, 3) := by decide +kernel
theorem dX0_holds_4 : decode cX0_holds 4 = .ok (.iload_n 2, 1) := by decide +kernel
theorem dX0_holds_5 : decode cX0_holds 5 = .ok (.ifCond .lt 27, 3) := by decide +kernel
theorem dX0_holds_8 : decode cX0_holds 8 = .ok (.iload_n 2, 1) := by decide +kernel
theorem dX0_holds_9 : decode cX0_holds 9 = .ok (.aload_n 0, 1) := by decide +kernel
theorem dX0_holds_10 : decode cX0_holds 10 = .ok (.getfield 13, 3) := by decide +kernel
theorem dX0_holds_13 : decode cX0_holds 13 = .ok (.arraylength, 1) := by decide +kernel
theorem dX0_holds_14 : decode cX0_holds 14 = .ok (.if_icmp .gt 18, 3) := by decide +kernel
theorem dX0_holds_17 : decode cX0_holds 17 = .ok (.iload_n 1, 1) := by decide +kernel
theorem dX0_holds_18 : decode cX0_holds 18 = .ok (.aload_n 0, 1) := by decide +kernel
theorem dX0_holds_19 : decode cX0_holds 19 = .ok (.getfield 13, 3) := by decide +kernel
theorem dX0_holds_22 : decode cX0_holds 22 = .ok (.arraylength, 1) := by decide +kernel
theorem dX0_holds_23 : decode cX0_holds 23 = .ok (.iload_n 2, 1) := by decide +kernel
theorem dX0_holds_24 : decode cX0_holds 24 = .ok (.isub, 1) := by decide +kernel
theorem dX0_holds_25 : decode cX0_holds 25 = .ok (.if_icmp .gt 7, 3) := by decide +kernel
theorem dX0_holds_28 : decode cX0_holds 28 = .ok (.iconst 1, 1) := by decide +kernel
theorem dX0_holds_29 : decode cX0_holds 29 = .ok (.goto 4, 3) := by decide +kernel
theorem dX0_holds_32 : decode cX0_holds 32 = .ok (.iconst 0, 1) := by decide +kernel
theorem dX0_holds_33 : decode cX0_holds 33 = .ok (.ireturn, 1) := by decide +kernel
theorem dX0_byteAt_0 : decode cX0_byteAt 0 = .ok (.iload_n 1, 1) := by decide +kernel
theorem dX0_byteAt_1 : decode cX0_byteAt 1 = .ok (.ifCond .lt 25, 3) := by decide +kernel
theorem dX0_byteAt_4 : decode cX0_byteAt 4 = .ok (.iload_n 1, 1) := by decide +kernel
theorem dX0_byteAt_5 : decode cX0_byteAt 5 = .ok (.aload_n 0, 1) := by decide +kernel
theorem dX0_byteAt_6 : decode cX0_byteAt 6 = .ok (.getfield 13, 3) := by decide +kernel
theorem dX0_byteAt_9 : decode cX0_byteAt 9 = .ok (.arraylength, 1) := by decide +kernel
theorem dX0_byteAt_10 : decode cX0_byteAt 10 = .ok (.if_icmp .ge 16, 3) := by decide +kernel
theorem dX0_byteAt_13 : decode cX0_byteAt 13 = .ok (.aload_n 0, 1) := by decide +kernel
theorem dX0_byteAt_14 : decode cX0_byteAt 14 = .ok (.getfield 13, 3) := by decide +kernel
theorem dX0_byteAt_17 : decode cX0_byteAt 17 = .ok (.iload_n 1, 1) := by decide +kernel
theorem dX0_byteAt_18 : decode cX0_byteAt 18 = .ok (.baload, 1) := by decide +kernel
theorem dX0_byteAt_19 : decode cX0_byteAt 19 = .ok (.sipush 255, 3) := by decide +kernel
theorem dX0_byteAt_22 : decode cX0_byteAt 22 = .ok (.iand, 1) := by decide +kernel
theorem dX0_byteAt_23 : decode cX0_byteAt 23 = .ok (.goto 4, 3) := by decide +kernel
theorem dX0_byteAt_26 : decode cX0_byteAt 26 = .ok (.iconst 0, 1) := by decide +kernel
theorem dX0_byteAt_27 : decode cX0_byteAt 27 = .ok (.ireturn, 1) := by decide +kernel
theorem dX0_putByte_0 : decode cX0_putByte 0 = .ok (.iload_n 1, 1) := by decide +kernel
theorem dX0_putByte_1 : decode cX0_putByte 1 = .ok (.ifCond .lt 20, 3) := by decide +kernel
theorem dX0_putByte_4 : decode cX0_putByte 4 = .ok (.iload_n 1, 1) := by decide +kernel
theorem dX0_putByte_5 : decode cX0_putByte 5 = .ok (.aload_n 0, 1) := by decide +kernel
theorem dX0_putByte_6 : decode cX0_putByte 6 = .ok (.getfield 13, 3) := by decide +kernel
theorem dX0_putByte_9 : decode cX0_putByte 9 = .ok (.arraylength, 1) := by decide +kernel
theorem dX0_putByte_10 : decode cX0_putByte 10 = .ok (.if_icmp .ge 11, 3) := by decide +kernel
theorem dX0_putByte_13 : decode cX0_putByte 13 = .ok (.aload_n 0, 1) := by decide +kernel
theorem dX0_putByte_14 : decode cX0_putByte 14 = .ok (.getfield 13, 3) := by decide +kernel
theorem dX0_putByte_17 : decode cX0_putByte 17 = .ok (.iload_n 1, 1) := by decide +kernel
theorem dX0_putByte_18 : decode cX0_putByte 18 = .ok (.iload_n 2, 1) := by decide +kernel
theorem dX0_putByte_19 : decode cX0_putByte 19 = .ok (.i2b, 1) := by decide +kernel
theorem dX0_putByte_20 : decode cX0_putByte 20 = .ok (.bastore, 1) := by decide +kernel
theorem dX0_putByte_21 : decode cX0_putByte 21 = .ok (.return_, 1) := by decide +kernel
theorem dX0_number_0 : decode cX0_number 0 = .ok (.iconst 0, 1) := by decide +kernel
theorem dX0_number_1 : decode cX0_number 1 = .ok (.istore_n 3, 1) := by decide +kernel
theorem dX0_number_2 : decode cX0_number 2 = .ok (.iconst 0, 1) := by decide +kernel
theorem dX0_number_3 : decode cX0_number 3 = .ok (.istore 4, 2) := by decide +kernel
theorem dX0_number_5 : decode cX0_number 5 = .ok (.iload 4, 2) := by decide +kernel
theorem dX0_number_7 : decode cX0_number 7 = .ok (.iload_n 2, 1) := by decide +kernel
theorem dX0_number_8 : decode cX0_number 8 = .ok (.if_icmp .ge 23, 3) := by decide +kernel
theorem dX0_number_11 : decode cX0_number 11 = .ok (.iload_n 3, 1) := by decide +kernel
theorem dX0_number_12 : decode cX0_number 12 = .ok (.bipush 8, 2) := by decide +kernel
theorem dX0_number_14 : decode cX0_number 14 = .ok (.ishl, 1) := by decide +kernel
theorem dX0_number_15 : decode cX0_number 15 = .ok (.aload_n 0, 1) := by decide +kernel
theorem dX0_number_16 : decode cX0_number 16 = .ok (.iload_n 1, 1) := by decide +kernel
theorem dX0_number_17 : decode cX0_number 17 = .ok (.iload 4, 2) := by decide +kernel
theorem dX0_number_19 : decode cX0_number 19 = .ok (.iadd, 1) := by decide +kernel
theorem dX0_number_20 : decode cX0_number 20 = .ok (.invokevirtual 19, 3) := by decide +kernel
theorem dX0_number_23 : decode cX0_number 23 = .ok (.ior, 1) := by decide +kernel
theorem dX0_number_24 : decode cX0_number 24 = .ok (.istore_n 3, 1) := by decide +kernel
theorem dX0_number_25 : decode cX0_number 25 = .ok (.iinc 4 1, 3) := by decide +kernel
theorem dX0_number_28 : decode cX0_number 28 = .ok (.goto (-23), 3) := by decide +kernel
theorem dX0_number_31 : decode cX0_number 31 = .ok (.iload_n 3, 1) := by decide +kernel
theorem dX0_number_32 : decode cX0_number 32 = .ok (.ireturn, 1) := by decide +kernel
theorem dX0_put_0 : decode cX0_put 0 = .ok (.lload_n 3, 1) := by decide +kernel
theorem dX0_put_1 : decode cX0_put 1 = .ok (.lstore 5, 2) := by decide +kernel
theorem dX0_put_3 : decode cX0_put 3 = .ok (.iload_n 2, 1) := by decide +kernel
theorem dX0_put_4 : decode cX0_put 4 = .ok (.iconst 1, 1) := by decide +kernel
theorem dX0_put_5 : decode cX0_put 5 = .ok (.isub, 1) := by decide +kernel
theorem dX0_put_6 : decode cX0_put 6 = .ok (.istore 7, 2) := by decide +kernel
theorem dX0_put_8 : decode cX0_put 8 = .ok (.iload 7, 2) := by decide +kernel
theorem dX0_put_10 : decode cX0_put 10 = .ok (.ifCond .lt 48, 3) := by decide +kernel
theorem dX0_put_13 : decode cX0_put 13 = .ok (.iload_n 1, 1) := by decide +kernel
theorem dX0_put_14 : decode cX0_put 14 = .ok (.iload 7, 2) := by decide +kernel
theorem dX0_put_16 : decode cX0_put 16 = .ok (.iadd, 1) := by decide +kernel
theorem dX0_put_17 : decode cX0_put 17 = .ok (.istore 8, 2) := by decide +kernel
theorem dX0_put_19 : decode cX0_put 19 = .ok (.iload 8, 2) := by decide +kernel
theorem dX0_put_21 : decode cX0_put 21 = .ok (.ifCond .lt 24, 3) := by decide +kernel
theorem dX0_put_24 : decode cX0_put 24 = .ok (.iload 8, 2) := by decide +kernel
theorem dX0_put_26 : decode cX0_put 26 = .ok (.aload_n 0, 1) := by decide +kernel
theorem dX0_put_27 : decode cX0_put 27 = .ok (.getfield 13, 3) := by decide +kernel
theorem dX0_put_30 : decode cX0_put 30 = .ok (.arraylength, 1) := by decide +kernel
theorem dX0_put_31 : decode cX0_put 31 = .ok (.if_icmp .ge 14, 3) := by decide +kernel
theorem dX0_put_34 : decode cX0_put 34 = .ok (.aload_n 0, 1) := by decide +kernel
theorem dX0_put_35 : decode cX0_put 35 = .ok (.getfield 13, 3) := by decide +kernel
theorem dX0_put_38 : decode cX0_put 38 = .ok (.iload 8, 2) := by decide +kernel
theorem dX0_put_40 : decode cX0_put 40 = .ok (.lload 5, 2) := by decide +kernel
theorem dX0_put_42 : decode cX0_put 42 = .ok (.l2i, 1) := by decide +kernel
theorem dX0_put_43 : decode cX0_put 43 = .ok (.i2b, 1) := by decide +kernel
theorem dX0_put_44 : decode cX0_put 44 = .ok (.bastore, 1) := by decide +kernel
theorem dX0_put_45 : decode cX0_put 45 = .ok (.lload 5, 2) := by decide +kernel
theorem dX0_put_47 : decode cX0_put 47 = .ok (.bipush 8, 2) := by decide +kernel
theorem dX0_put_49 : decode cX0_put 49 = .ok (.lushr, 1) := by decide +kernel
theorem dX0_put_50 : decode cX0_put 50 = .ok (.lstore 5, 2) := by decide +kernel
theorem dX0_put_52 : decode cX0_put 52 = .ok (.iinc 7 (-1), 3) := by decide +kernel
theorem dX0_put_55 : decode cX0_put 55 = .ok (.goto (-47), 3) := by decide +kernel
theorem dX0_put_58 : decode cX0_put 58 = .ok (.return_, 1) := by decide +kernel
theorem dX0_zero_0 : decode cX0_zero 0 = .ok (.aload_n 0, 1) := by decide +kernel
theorem dX0_zero_1 : decode cX0_zero 1 = .ok (.iload_n 1, 1) := by decide +kernel
theorem dX0_zero_2 : decode cX0_zero 2 = .ok (.iload_n 2, 1) := by decide +kernel
theorem dX0_zero_3 : decode cX0_zero 3 = .ok (.invokevirtual 23, 3) := by decide +kernel
theorem dX0_zero_6 : decode cX0_zero 6 = .ok (.ifCond .eq 24, 3) := by decide +kernel
theorem dX0_zero_9 : decode cX0_zero 9 = .ok (.iconst 0, 1) := by decide +kernel
theorem dX0_zero_10 : decode cX0_zero 10 = .ok (.istore_n 3, 1) := by decide +kernel
theorem dX0_zero_11 : decode cX0_zero 11 = .ok (.iload_n 3, 1) := by decide +kernel
theorem dX0_zero_12 : decode cX0_zero 12 = .ok (.iload_n 2, 1) := by decide +kernel
theorem dX0_zero_13 : decode cX0_zero 13 = .ok (.if_icmp .ge 17, 3) := by decide +kernel
theorem dX0_zero_16 : decode cX0_zero 16 = .ok (.aload_n 0, 1) := by decide +kernel
theorem dX0_zero_17 : decode cX0_zero 17 = .ok (.iload_n 1, 1) := by decide +kernel
theorem dX0_zero_18 : decode cX0_zero 18 = .ok (.iload_n 3, 1) := by decide +kernel
theorem dX0_zero_19 : decode cX0_zero 19 = .ok (.iadd, 1) := by decide +kernel
theorem dX0_zero_20 : decode cX0_zero 20 = .ok (.iconst 0, 1) := by decide +kernel
theorem dX0_zero_21 : decode cX0_zero 21 = .ok (.invokevirtual 27, 3) := by decide +kernel
theorem dX0_zero_24 : decode cX0_zero 24 = .ok (.iinc 3 1, 3) := by decide +kernel
theorem dX0_zero_27 : decode cX0_zero 27 = .ok (.goto (-16), 3) := by decide +kernel
theorem dX0_zero_30 : decode cX0_zero 30 = .ok (.return_, 1) := by decide +kernel
theorem dX0_move_0 : decode cX0_move 0 = .ok (.aload_n 0, 1) := by decide +kernel
theorem dX0_move_1 : decode cX0_move 1 = .ok (.iload_n 1, 1) := by decide +kernel
theorem dX0_move_2 : decode cX0_move 2 = .ok (.iload_n 3, 1) := by decide +kernel
theorem dX0_move_3 : decode cX0_move 3 = .ok (.invokevirtual 23, 3) := by decide +kernel
theorem dX0_move_6 : decode cX0_move 6 = .ok (.ifCond .eq 26, 3) := by decide +kernel
theorem dX0_move_9 : decode cX0_move 9 = .ok (.aload_n 0, 1) := by decide +kernel
theorem dX0_move_10 : decode cX0_move 10 = .ok (.iload_n 2, 1) := by decide +kernel
theorem dX0_move_11 : decode cX0_move 11 = .ok (.iload_n 3, 1) := by decide +kernel
theorem dX0_move_12 : decode cX0_move 12 = .ok (.invokevirtual 23, 3) := by decide +kernel
theorem dX0_move_15 : decode cX0_move 15 = .ok (.ifCond .eq 17, 3) := by decide +kernel
theorem dX0_move_18 : decode cX0_move 18 = .ok (.aload_n 0, 1) := by decide +kernel
theorem dX0_move_19 : decode cX0_move 19 = .ok (.getfield 13, 3) := by decide +kernel
theorem dX0_move_22 : decode cX0_move 22 = .ok (.iload_n 1, 1) := by decide +kernel
theorem dX0_move_23 : decode cX0_move 23 = .ok (.aload_n 0, 1) := by decide +kernel
theorem dX0_move_24 : decode cX0_move 24 = .ok (.getfield 13, 3) := by decide +kernel
theorem dX0_move_27 : decode cX0_move 27 = .ok (.iload_n 2, 1) := by decide +kernel
theorem dX0_move_28 : decode cX0_move 28 = .ok (.iload_n 3, 1) := by decide +kernel
theorem dX0_move_29 : decode cX0_move 29 = .ok (.invokestatic 31, 3) := by decide +kernel
theorem dX0_move_32 : decode cX0_move 32 = .ok (.return_, 1) := by decide +kernel
theorem dX1_init_0 : decode cX1_init 0 = .ok (.aload_n 0, 1) := by decide +kernel
theorem dX1_init_1 : decode cX1_init 1 = .ok (.invokespecial 3, 3) := by decide +kernel
theorem dX1_init_4 : decode cX1_init 4 = .ok (.aload_n 0, 1) := by decide +kernel
theorem dX1_init_5 : decode cX1_init 5 = .ok (.bipush 8, 2) := by decide +kernel
theorem dX1_init_7 : decode cX1_init 7 = .ok (.newarray .int, 2) := by decide +kernel
theorem dX1_init_9 : decode cX1_init 9 = .ok (.putfield 9, 3) := by decide +kernel
theorem dX1_init_12 : decode cX1_init 12 = .ok (.aload_n 0, 1) := by decide +kernel
theorem dX1_init_13 : decode cX1_init 13 = .ok (.bipush 8, 2) := by decide +kernel
theorem dX1_init_15 : decode cX1_init 15 = .ok (.newarray .int, 2) := by decide +kernel
theorem dX1_init_17 : decode cX1_init 17 = .ok (.putfield 15, 3) := by decide +kernel
theorem dX1_init_20 : decode cX1_init 20 = .ok (.return_, 1) := by decide +kernel
theorem dX1_modeOf_0 : decode cX1_modeOf 0 = .ok (.iload_n 1, 1) := by decide +kernel
theorem dX1_modeOf_1 : decode cX1_modeOf 1 = .ok (.ifCond .lt 21, 3) := by decide +kernel
theorem dX1_modeOf_4 : decode cX1_modeOf 4 = .ok (.iload_n 1, 1) := by decide +kernel
theorem dX1_modeOf_5 : decode cX1_modeOf 5 = .ok (.aload_n 0, 1) := by decide +kernel
theorem dX1_modeOf_6 : decode cX1_modeOf 6 = .ok (.getfield 9, 3) := by decide +kernel
theorem dX1_modeOf_9 : decode cX1_modeOf 9 = .ok (.arraylength, 1) := by decide +kernel
theorem dX1_modeOf_10 : decode cX1_modeOf 10 = .ok (.if_icmp .ge 12, 3) := by decide +kernel
theorem dX1_modeOf_13 : decode cX1_modeOf 13 = .ok (.aload_n 0, 1) := by decide +kernel
theorem dX1_modeOf_14 : decode cX1_modeOf 14 = .ok (.getfield 9, 3) := by decide +kernel
theorem dX1_modeOf_17 : decode cX1_modeOf 17 = .ok (.iload_n 1, 1) := by decide +kernel
theorem dX1_modeOf_18 : decode cX1_modeOf 18 = .ok (.iaload, 1) := by decide +kernel
theorem dX1_modeOf_19 : decode cX1_modeOf 19 = .ok (.goto 4, 3) := by decide +kernel
theorem dX1_modeOf_22 : decode cX1_modeOf 22 = .ok (.iconst 0, 1) := by decide +kernel
theorem dX1_modeOf_23 : decode cX1_modeOf 23 = .ok (.ireturn, 1) := by decide +kernel
theorem dX1_numberOf_0 : decode cX1_numberOf 0 = .ok (.iload_n 1, 1) := by decide +kernel
theorem dX1_numberOf_1 : decode cX1_numberOf 1 = .ok (.ifCond .lt 21, 3) := by decide +kernel
theorem dX1_numberOf_4 : decode cX1_numberOf 4 = .ok (.iload_n 1, 1) := by decide +kernel
theorem dX1_numberOf_5 : decode cX1_numberOf 5 = .ok (.aload_n 0, 1) := by decide +kernel
theorem dX1_numberOf_6 : decode cX1_numberOf 6 = .ok (.getfield 15, 3) := by decide +kernel
theorem dX1_numberOf_9 : decode cX1_numberOf 9 = .ok (.arraylength, 1) := by decide +kernel
theorem dX1_numberOf_10 : decode cX1_numberOf 10 = .ok (.if_icmp .ge 12, 3) := by decide +kernel
theorem dX1_numberOf_13 : decode cX1_numberOf 13 = .ok (.aload_n 0, 1) := by decide +kernel
theorem dX1_numberOf_14 : decode cX1_numberOf 14 = .ok (.getfield 15, 3) := by decide +kernel
theorem dX1_numberOf_17 : decode cX1_numberOf 17 = .ok (.iload_n 1, 1) := by decide +kernel
theorem dX1_numberOf_18 : decode cX1_numberOf 18 = .ok (.iaload, 1) := by decide +kernel
theorem dX1_numberOf_19 : decode cX1_numberOf 19 = .ok (.goto 4, 3) := by decide +kernel
theorem dX1_numberOf_22 : decode cX1_numberOf 22 = .ok (.iconst 0, 1) := by decide +kernel
theorem dX1_numberOf_23 : decode cX1_numberOf 23 = .ok (.ireturn, 1) := by decide +kernel
theorem dX1_decode_0 : decode cX1_decode 0 = .ok (.aload_n 1, 1) := by decide +kernel
theorem dX1_decode_1 : decode cX1_decode 1 = .ok (.iload_n 2, 1) := by decide +kernel
theorem dX1_decode_2 : decode cX1_decode 2 = .ok (.invokevirtual 18, 3) := by decide +kernel
theorem dX1_decode_5 : decode cX1_decode 5 = .ok (.invokestatic 24, 3) := by decide +kernel
theorem dX1_decode_8 : decode cX1_decode 8 = .ok (.istore_n 3, 1) := by decide +kernel
theorem dX1_decode_9 : decode cX1_decode 9 = .ok (.aload_n 1, 1) := by decide +kernel
theorem dX1_decode_10 : decode cX1_decode 10 = .ok (.iload_n 2, 1) := by decide +kernel
theorem dX1_decode_11 : decode cX1_decode 11 = .ok (.iload_n 3, 1) := by decide +kernel
theorem dX1_decode_12 : decode cX1_decode 12 = .ok (.invokevirtual 27, 3) := by decide +kernel
theorem dX1_decode_15 : decode cX1_decode 15 = .ok (.ifCond .ne 5, 3) := by decide +kernel
theorem dX1_decode_18 : decode cX1_decode 18 = .ok (.iconst 1, 1) := by decide +kernel
theorem dX1_decode_19 : decode cX1_decode 19 = .ok (.ireturn, 1) := by decide +kernel
theorem dX1_decode_20 : decode cX1_decode 20 = .ok (.aload_n 0, 1) := by decide +kernel
theorem dX1_decode_21 : decode cX1_decode 21 = .ok (.aload_n 1, 1) := by decide +kernel
theorem dX1_decode_22 : decode cX1_decode 22 = .ok (.iload_n 2, 1) := by decide +kernel
theorem dX1_decode_23 : decode cX1_decode 23 = .ok (.iload_n 3, 1) := by decide +kernel
theorem dX1_decode_24 : decode cX1_decode 24 = .ok (.invokevirtual 31, 3) := by decide +kernel
theorem dX1_decode_27 : decode cX1_decode 27 = .ok (.iload_n 3, 1) := by decide +kernel
theorem dX1_decode_28 : decode cX1_decode 28 = .ok (.invokestatic 35, 3) := by decide +kernel
theorem dX1_decode_31 : decode cX1_decode 31 = .ok (.putfield 38, 3) := by decide +kernel
theorem dX1_decode_34 : decode cX1_decode 34 = .ok (.aload_n 0, 1) := by decide +kernel
theorem dX1_decode_35 : decode cX1_decode 35 = .ok (.aload_n 0, 1) := by decide +kernel
theorem dX1_decode_36 : decode cX1_decode 36 = .ok (.getfield 38, 3) := by decide +kernel
theorem dX1_decode_39 : decode cX1_decode 39 = .ok (.invokestatic 42, 3) := by decide +kernel
theorem dX1_decode_42 : decode cX1_decode 42 = .ok (.putfield 47, 3) := by decide +kernel
theorem dX1_decode_45 : decode cX1_decode 45 = .ok (.aload_n 0, 1) := by decide +kernel
theorem dX1_decode_46 : decode cX1_decode 46 = .ok (.getfield 47, 3) := by decide +kernel
theorem dX1_decode_49 : decode cX1_decode 49 = .ok (.ifCond .ge 5, 3) := by decide +kernel
theorem dX1_decode_52 : decode cX1_decode 52 = .ok (.iconst 3, 1) := by decide +kernel
theorem dX1_decode_53 : decode cX1_decode 53 = .ok (.ireturn, 1) := by decide +kernel
theorem dX1_decode_54 : decode cX1_decode 54 = .ok (.aload_n 0, 1) := by decide +kernel
theorem dX1_decode_55 : decode cX1_decode 55 = .ok (.aload_n 0, 1) := by decide +kernel
theorem dX1_decode_56 : decode cX1_decode 56 = .ok (.getfield 38, 3) := by decide +kernel
theorem dX1_decode_59 : decode cX1_decode 59 = .ok (.invokestatic 50, 3) := by decide +kernel
theorem dX1_decode_62 : decode cX1_decode 62 = .ok (.ifCond .eq 12, 3) := by decide +kernel
theorem dX1_decode_65 : decode cX1_decode 65 = .ok (.aload_n 0, 1) := by decide +kernel
theorem dX1_decode_66 : decode cX1_decode 66 = .ok (.getfield 47, 3) := by decide +kernel
theorem dX1_decode_69 : decode cX1_decode 69 = .ok (.iconst 1, 1) := by decide +kernel
theorem dX1_decode_70 : decode cX1_decode 70 = .ok (.iadd, 1) := by decide +kernel
theorem dX1_decode_71 : decode cX1_decode 71 = .ok (.goto 7, 3) := by decide +kernel
theorem dX1_decode_74 : decode cX1_decode 74 = .ok (.aload_n 0, 1) := by decide +kernel
theorem dX1_decode_75 : decode cX1_decode 75 = .ok (.getfield 47, 3) := by decide +kernel
theorem dX1_decode_78 : decode cX1_decode 78 = .ok (.putfield 54, 3) := by decide +kernel
theorem dX1_decode_81 : decode cX1_decode 81 = .ok (.aload_n 0, 1) := by decide +kernel
theorem dX1_decode_82 : decode cX1_decode 82 = .ok (.getfield 54, 3) := by decide +kernel
theorem dX1_decode_85 : decode cX1_decode 85 = .ok (.iconst 1, 1) := by decide +kernel
theorem dX1_decode_86 : decode cX1_decode 86 = .ok (.iadd, 1) := by decide +kernel
theorem dX1_decode_87 : decode cX1_decode 87 = .ok (.iconst 2, 1) := by decide +kernel
theorem dX1_decode_88 : decode cX1_decode 88 = .ok (.idiv, 1) := by decide +kernel
theorem dX1_decode_89 : decode cX1_decode 89 = .ok (.istore 4, 2) := by decide +kernel
theorem dX1_decode_91 : decode cX1_decode 91 = .ok (.aload_n 1, 1) := by decide +kernel
theorem dX1_decode_92 : decode cX1_decode 92 = .ok (.iload_n 2, 1) := by decide +kernel
theorem dX1_decode_93 : decode cX1_decode 93 = .ok (.iload_n 3, 1) := by decide +kernel
theorem dX1_decode_94 : decode cX1_decode 94 = .ok (.iadd, 1) := by decide +kernel
theorem dX1_decode_95 : decode cX1_decode 95 = .ok (.iload 4, 2) := by decide +kernel
theorem dX1_decode_97 : decode cX1_decode 97 = .ok (.invokevirtual 27, 3) := by decide +kernel
theorem dX1_decode_100 : decode cX1_decode 100 = .ok (.ifCond .ne 5, 3) := by decide +kernel
theorem dX1_decode_103 : decode cX1_decode 103 = .ok (.iconst 1, 1) := by decide +kernel
theorem dX1_decode_104 : decode cX1_decode 104 = .ok (.ireturn, 1) := by decide +kernel
theorem dX1_decode_105 : decode cX1_decode 105 = .ok (.aload_n 0, 1) := by decide +kernel
theorem dX1_decode_106 : decode cX1_decode 106 = .ok (.aload_n 1, 1) := by decide +kernel
theorem dX1_decode_107 : decode cX1_decode 107 = .ok (.iload_n 2, 1) := by decide +kernel
theorem dX1_decode_108 : decode cX1_decode 108 = .ok (.iload_n 3, 1) := by decide +kernel
theorem dX1_decode_109 : decode cX1_decode 109 = .ok (.iadd, 1) := by decide +kernel
theorem dX1_decode_110 : decode cX1_decode 110 = .ok (.invokevirtual 57, 3) := by decide +kernel
theorem dX1_decode_113 : decode cX1_decode 113 = .ok (.aload_n 0, 1) := by decide +kernel
theorem dX1_decode_114 : decode cX1_decode 114 = .ok (.aload_n 1, 1) := by decide +kernel
theorem dX1_decode_115 : decode cX1_decode 115 = .ok (.iload_n 2, 1) := by decide +kernel
theorem dX1_decode_116 : decode cX1_decode 116 = .ok (.iload_n 3, 1) := by decide +kernel
theorem dX1_decode_117 : decode cX1_decode 117 = .ok (.iadd, 1) := by decide +kernel
theorem dX1_decode_118 : decode cX1_decode 118 = .ok (.iload 4, 2) := by decide +kernel
theorem dX1_decode_120 : decode cX1_decode 120 = .ok (.iadd, 1) := by decide +kernel
theorem dX1_decode_121 : decode cX1_decode 121 = .ok (.invokevirtual 61, 3) := by decide +kernel
theorem dX1_decode_124 : decode cX1_decode 124 = .ok (.istore 5, 2) := by decide +kernel
theorem dX1_decode_126 : decode cX1_decode 126 = .ok (.iload 5, 2) := by decide +kernel
theorem dX1_decode_128 : decode cX1_decode 128 = .ok (.ifCond .ge 5, 3) := by decide +kernel
theorem dX1_decode_131 : decode cX1_decode 131 = .ok (.iconst 1, 1) := by decide +kernel
theorem dX1_decode_132 : decode cX1_decode 132 = .ok (.ireturn, 1) := by decide +kernel
theorem dX1_decode_133 : decode cX1_decode 133 = .ok (.aload_n 0, 1) := by decide +kernel
theorem dX1_decode_134 : decode cX1_decode 134 = .ok (.iload 5, 2) := by decide +kernel
theorem dX1_decode_136 : decode cX1_decode 136 = .ok (.iload_n 2, 1) := by decide +kernel
theorem dX1_decode_137 : decode cX1_decode 137 = .ok (.isub, 1) := by decide +kernel
theorem dX1_decode_138 : decode cX1_decode 138 = .ok (.putfield 65, 3) := by decide +kernel
theorem dX1_decode_141 : decode cX1_decode 141 = .ok (.aload_n 0, 1) := by decide +kernel
theorem dX1_decode_142 : decode cX1_decode 142 = .ok (.invokevirtual 68, 3) := by decide +kernel
theorem dX1_decode_145 : decode cX1_decode 145 = .ok (.ifCond .eq 7, 3) := by decide +kernel
theorem dX1_decode_148 : decode cX1_decode 148 = .ok (.iconst 0, 1) := by decide +kernel
theorem dX1_decode_149 : decode cX1_decode 149 = .ok (.goto 4, 3) := by decide +kernel
theorem dX1_decode_152 : decode cX1_decode 152 = .ok (.iconst 2, 1) := by decide +kernel
theorem dX1_decode_153 : decode cX1_decode 153 = .ok (.ireturn, 1) := by decide +kernel
theorem dX1_operationWidth_0 : decode cX1_operationWidth 0 = .ok (.iload_n 0, 1) := by decide +kernel
theorem dX1_operationWidth_1 : decode cX1_operationWidth 1 = .ok (.sipush 128, 3) := by decide +kernel
theorem dX1_operationWidth_4 : decode cX1_operationWidth 4 = .ok (.if_icmp .ge 5, 3) := by decide +kernel
theorem dX1_operationWidth_7 : decode cX1_operationWidth 7 = .ok (.iconst 1, 1) := by decide +kernel
theorem dX1_operationWidth_8 : decode cX1_operationWidth 8 = .ok (.ireturn, 1) := by decide +kernel
theorem dX1_operationWidth_9 : decode cX1_operationWidth 9 = .ok (.iload_n 0, 1) := by decide +kernel
theorem dX1_operationWidth_10 : decode cX1_operationWidth 10 = .ok (.sipush 192, 3) := by decide +kernel
theorem dX1_operationWidth_13 : decode cX1_operationWidth 13 = .ok (.if_icmp .ge 7, 3) := by decide +kernel
theorem dX1_operationWidth_16 : decode cX1_operationWidth 16 = .ok (.iconst 2, 1) := by decide +kernel
theorem dX1_operationWidth_17 : decode cX1_operationWidth 17 = .ok (.goto 4, 3) := by decide +kernel
theorem dX1_operationWidth_20 : decode cX1_operationWidth 20 = .ok (.iconst 4, 1) := by decide +kernel
theorem dX1_operationWidth_21 : decode cX1_operationWidth 21 = .ok (.ireturn, 1) := by decide +kernel
theorem dX1_operationOf_0 : decode cX1_operationOf 0 = .ok (.iload_n 1, 1) := by decide +kernel
theorem dX1_operationOf_1 : decode cX1_operationOf 1 = .ok (.iconst 1, 1) := by decide +kernel
theorem dX1_operationOf_2 : decode cX1_operationOf 2 = .ok (.if_icmp .ne 5, 3) := by decide +kernel
theorem dX1_operationOf_5 : decode cX1_operationOf 5 = .ok (.iload_n 0, 1) := by decide +kernel
theorem dX1_operationOf_6 : decode cX1_operationOf 6 = .ok (.ireturn, 1) := by decide +kernel
theorem dX1_operationOf_7 : decode cX1_operationOf 7 = .ok (.iload_n 1, 1) := by decide +kernel
theorem dX1_operationOf_8 : decode cX1_operationOf 8 = .ok (.iconst 2, 1) := by decide +kernel
theorem dX1_operationOf_9 : decode cX1_operationOf 9 = .ok (.if_icmp .ne 11, 3) := by decide +kernel
theorem dX1_operationOf_12 : decode cX1_operationOf 12 = .ok (.iload_n 0, 1) := by decide +kernel
theorem dX1_operationOf_13 : decode cX1_operationOf 13 = .ok (.sipush 16383, 3) := by decide +kernel
theorem dX1_operationOf_16 : decode cX1_operationOf 16 = .ok (.iand, 1) := by decide +kernel
theorem dX1_operationOf_17 : decode cX1_operationOf 17 = .ok (.goto 7, 3) := by decide +kernel
theorem dX1_operationOf_20 : decode cX1_operationOf 20 = .ok (.iload_n 0, 1) := by decide +kernel
theorem dX1_operationOf_21 : decode cX1_operationOf 21 = .ok (.ldc 72, 2) := by decide +kernel
theorem dX1_operationOf_23 : decode cX1_operationOf 23 = .ok (.iand, 1) := by decide +kernel
theorem dX1_operationOf_24 : decode cX1_operationOf 24 = .ok (.ireturn, 1) := by decide +kernel
theorem dX1_decodeModes_0 : decode cX1_decodeModes 0 = .ok (.iconst 0, 1) := by decide +kernel
theorem dX1_decodeModes_1 : decode cX1_decodeModes 1 = .ok (.istore_n 3, 1) := by decide +kernel
theorem dX1_decodeModes_2 : decode cX1_decodeModes 2 = .ok (.iload_n 3, 1) := by decide +kernel
theorem dX1_decodeModes_3 : decode cX1_decodeModes 3 = .ok (.aload_n 0, 1) := by decide +kernel
theorem dX1_decodeModes_4 : decode cX1_decodeModes 4 = .ok (.getfield 54, 3) := by decide +kernel
theorem dX1_decodeModes_7 : decode cX1_decodeModes 7 = .ok (.if_icmp .ge 53, 3) := by decide +kernel
theorem dX1_decodeModes_10 : decode cX1_decodeModes 10 = .ok (.iload_n 3, 1) := by decide +kernel
theorem dX1_decodeModes_11 : decode cX1_decodeModes 11 = .ok (.aload_n 0, 1) := by decide +kernel
theorem dX1_decodeModes_12 : decode cX1_decodeModes 12 = .ok (.getfield 9, 3) := by decide +kernel
theorem dX1_decodeModes_15 : decode cX1_decodeModes 15 = .ok (.arraylength, 1) := by decide +kernel
theorem dX1_decodeModes_16 : decode cX1_decodeModes 16 = .ok (.if_icmp .ge 44, 3) := by decide +kernel
theorem dX1_decodeModes_19 : decode cX1_decodeModes 19 = .ok (.aload_n 1, 1) := by decide +kernel
theorem dX1_decodeModes_20 : decode cX1_decodeModes 20 = .ok (.iload_n 2, 1) := by decide +kernel
theorem dX1_decodeModes_21 : decode cX1_decodeModes 21 = .ok (.iload_n 3, 1) := by decide +kernel
theorem dX1_decodeModes_22 : decode cX1_decodeModes 22 = .ok (.iconst 2, 1) := by decide +kernel
theorem dX1_decodeModes_23 : decode cX1_decodeModes 23 = .ok (.idiv, 1) := by decide +kernel
theorem dX1_decodeModes_24 : decode cX1_decodeModes 24 = .ok (.iadd, 1) := by decide +kernel
theorem dX1_decodeModes_25 : decode cX1_decodeModes 25 = .ok (.invokevirtual 18, 3) := by decide +kernel
theorem dX1_decodeModes_28 : decode cX1_decodeModes 28 = .ok (.istore 4, 2) := by decide +kernel
theorem dX1_decodeModes_30 : decode cX1_decodeModes 30 = .ok (.aload_n 0, 1) := by decide +kernel
theorem dX1_decodeModes_31 : decode cX1_decodeModes 31 = .ok (.getfield 9, 3) := by decide +kernel
theorem dX1_decodeModes_34 : decode cX1_decodeModes 34 = .ok (.iload_n 3, 1) := by decide +kernel
theorem dX1_decodeModes_35 : decode cX1_decodeModes 35 = .ok (.iload_n 3, 1) := by decide +kernel
theorem dX1_decodeModes_36 : decode cX1_decodeModes 36 = .ok (.iconst 2, 1) := by decide +kernel
theorem dX1_decodeModes_37 : decode cX1_decodeModes 37 = .ok (.irem, 1) := by decide +kernel
theorem dX1_decodeModes_38 : decode cX1_decodeModes 38 = .ok (.ifCond .ne 11, 3) := by decide +kernel
theorem dX1_decodeModes_41 : decode cX1_decodeModes 41 = .ok (.iload 4, 2) := by decide +kernel
theorem dX1_decodeModes_43 : decode cX1_decodeModes 43 = .ok (.bipush 15, 2) := by decide +kernel
theorem dX1_decodeModes_45 : decode cX1_decodeModes 45 = .ok (.iand, 1) := by decide +kernel
theorem dX1_decodeModes_46 : decode cX1_decodeModes 46 = .ok (.goto 7, 3) := by decide +kernel
theorem dX1_decodeModes_49 : decode cX1_decodeModes 49 = .ok (.iload 4, 2) := by decide +kernel
theorem dX1_decodeModes_51 : decode cX1_decodeModes 51 = .ok (.iconst 4, 1) := by decide +kernel
theorem dX1_decodeModes_52 : decode cX1_decodeModes 52 = .ok (.ishr, 1) := by decide +kernel
theorem dX1_decodeModes_53 : decode cX1_decodeModes 53 = .ok (.iastore, 1) := by decide +kernel
theorem dX1_decodeModes_54 : decode cX1_decodeModes 54 = .ok (.iinc 3 1, 3) := by decide +kernel
theorem dX1_decodeModes_57 : decode cX1_decodeModes 57 = .ok (.goto (-55), 3) := by decide +kernel
theorem dX1_decodeModes_60 : decode cX1_decodeModes 60 = .ok (.return_, 1) := by decide +kernel
theorem dX1_decodeNumbers_0 : decode cX1_decodeNumbers 0 = .ok (.iload_n 2, 1) := by decide +kernel
theorem dX1_decodeNumbers_1 : decode cX1_decodeNumbers 1 = .ok (.istore_n 3, 1) := by decide +kernel
theorem dX1_decodeNumbers_2 : decode cX1_decodeNumbers 2 = .ok (.iconst 0, 1) := by decide +kernel
theorem dX1_decodeNumbers_3 : decode cX1_decodeNumbers 3 = .ok (.istore 4, 2) := by decide +kernel
theorem dX1_decodeNumbers_5 : decode cX1_decodeNumbers 5 = .ok (.iload 4, 2) := by decide +kernel
theorem dX1_decodeNumbers_7 : decode cX1_decodeNumbers 7 = .ok (.aload_n 0, 1) := by decide +kernel
theorem dX1_decodeNumbers_8 : decode cX1_decodeNumbers 8 = .ok (.getfield 54, 3) := by decide +kernel
theorem dX1_decodeNumbers_11 : decode cX1_decodeNumbers 11 = .ok (.if_icmp .ge 85, 3) := by decide +kernel
theorem dX1_decodeNumbers_14 : decode cX1_decodeNumbers 14 = .ok (.iload 4, 2) := by decide +kernel
theorem dX1_decodeNumbers_16 : decode cX1_decodeNumbers 16 = .ok (.aload_n 0, 1) := by decide +kernel
theorem dX1_decodeNumbers_17 : decode cX1_decodeNumbers 17 = .ok (.getfield 15, 3) := by decide +kernel
theorem dX1_decodeNumbers_20 : decode cX1_decodeNumbers 20 = .ok (.arraylength, 1) := by decide +kernel
theorem dX1_decodeNumbers_21 : decode cX1_decodeNumbers 21 = .ok (.if_icmp .ge 75, 3) := by decide +kernel
theorem dX1_decodeNumbers_24 : decode cX1_decodeNumbers 24 = .ok (.aload_n 0, 1) := by decide +kernel
theorem dX1_decodeNumbers_25 : decode cX1_decodeNumbers 25 = .ok (.iload 4, 2) := by decide +kernel
theorem dX1_decodeNumbers_27 : decode cX1_decodeNumbers 27 = .ok (.invokevirtual 73, 3) := by decide +kernel
theorem dX1_decodeNumbers_30 : decode cX1_decodeNumbers 30 = .ok (.invokestatic 76, 3) := by decide +kernel
theorem dX1_decodeNumbers_33 : decode cX1_decodeNumbers 33 = .ok (.istore 5, 2) := by decide +kernel
theorem dX1_decodeNumbers_35 : decode cX1_decodeNumbers 35 = .ok (.aload_n 1, 1) := by decide +kernel
theorem dX1_decodeNumbers_36 : decode cX1_decodeNumbers 36 = .ok (.iload_n 3, 1) := by decide +kernel
theorem dX1_decodeNumbers_37 : decode cX1_decodeNumbers 37 = .ok (.iload 5, 2) := by decide +kernel
theorem dX1_decodeNumbers_39 : decode cX1_decodeNumbers 39 = .ok (.invokevirtual 27, 3) := by decide +kernel
theorem dX1_decodeNumbers_42 : decode cX1_decodeNumbers 42 = .ok (.ifCond .ne 5, 3) := by decide +kernel
theorem dX1_decodeNumbers_45 : decode cX1_decodeNumbers 45 = .ok (.iconst (-1), 1) := by decide +kernel
theorem dX1_decodeNumbers_46 : decode cX1_decodeNumbers 46 = .ok (.ireturn, 1) := by decide +kernel
theorem dX1_decodeNumbers_47 : decode cX1_decodeNumbers 47 = .ok (.aload_n 1, 1) := by decide +kernel
theorem dX1_decodeNumbers_48 : decode cX1_decodeNumbers 48 = .ok (.iload_n 3, 1) := by decide +kernel
theorem dX1_decodeNumbers_49 : decode cX1_decodeNumbers 49 = .ok (.iload 5, 2) := by decide +kernel
theorem dX1_decodeNumbers_51 : decode cX1_decodeNumbers 51 = .ok (.invokevirtual 31, 3) := by decide +kernel
theorem dX1_decodeNumbers_54 : decode cX1_decodeNumbers 54 = .ok (.istore 6, 2) := by decide +kernel
theorem dX1_decodeNumbers_56 : decode cX1_decodeNumbers 56 = .ok (.aload_n 0, 1) := by decide +kernel
theorem dX1_decodeNumbers_57 : decode cX1_decodeNumbers 57 = .ok (.getfield 15, 3) := by decide +kernel
theorem dX1_decodeNumbers_60 : decode cX1_decodeNumbers 60 = .ok (.iload 4, 2) := by decide +kernel
theorem dX1_decodeNumbers_62 : decode cX1_decodeNumbers 62 = .ok (.aload_n 0, 1) := by decide +kernel
theorem dX1_decodeNumbers_63 : decode cX1_decodeNumbers 63 = .ok (.iload 4, 2) := by decide +kernel
theorem dX1_decodeNumbers_65 : decode cX1_decodeNumbers 65 = .ok (.invokevirtual 73, 3) := by decide +kernel
theorem dX1_decodeNumbers_68 : decode cX1_decodeNumbers 68 = .ok (.iconst 4, 1) := by decide +kernel
theorem dX1_decodeNumbers_69 : decode cX1_decodeNumbers 69 = .ok (.if_icmp .ge 13, 3) := by decide +kernel
theorem dX1_decodeNumbers_72 : decode cX1_decodeNumbers 72 = .ok (.iload 6, 2) := by decide +kernel
theorem dX1_decodeNumbers_74 : decode cX1_decodeNumbers 74 = .ok (.iload 5, 2) := by decide +kernel
theorem dX1_decodeNumbers_76 : decode cX1_decodeNumbers 76 = .ok (.invokestatic 79, 3) := by decide +kernel
theorem dX1_decodeNumbers_79 : decode cX1_decodeNumbers 79 = .ok (.goto 5, 3) := by decide +kernel
theorem dX1_decodeNumbers_82 : decode cX1_decodeNumbers 82 = .ok (.iload 6, 2) := by decide +kernel
theorem dX1_decodeNumbers_84 : decode cX1_decodeNumbers 84 = .ok (.iastore, 1) := by decide +kernel
theorem dX1_decodeNumbers_85 : decode cX1_decodeNumbers 85 = .ok (.iload_n 3, 1) := by decide +kernel
theorem dX1_decodeNumbers_86 : decode cX1_decodeNumbers 86 = .ok (.iload 5, 2) := by decide +kernel
theorem dX1_decodeNumbers_88 : decode cX1_decodeNumbers 88 = .ok (.iadd, 1) := by decide +kernel
theorem dX1_decodeNumbers_89 : decode cX1_decodeNumbers 89 = .ok (.istore_n 3, 1) := by decide +kernel
theorem dX1_decodeNumbers_90 : decode cX1_decodeNumbers 90 = .ok (.iinc 4 1, 3) := by decide +kernel
theorem dX1_decodeNumbers_93 : decode cX1_decodeNumbers 93 = .ok (.goto (-88), 3) := by decide +kernel
theorem dX1_decodeNumbers_96 : decode cX1_decodeNumbers 96 = .ok (.iload_n 3, 1) := by decide +kernel
theorem dX1_decodeNumbers_97 : decode cX1_decodeNumbers 97 = .ok (.ireturn, 1) := by decide +kernel
theorem dX1_numberWidth_0 : decode cX1_numberWidth 0 = .ok (.iload_n 0, 1) := by decide +kernel
theorem dX1_numberWidth_1 : decode cX1_numberWidth 1 = .ok (.iconst 3, 1) := by decide +kernel
theorem dX1_numberWidth_2 : decode cX1_numberWidth 2 = .ok (.iand, 1) := by decide +kernel
theorem dX1_numberWidth_3 : decode cX1_numberWidth 3 = .ok (.istore_n 1, 1) := by decide +kernel
theorem dX1_numberWidth_4 : decode cX1_numberWidth 4 = .ok (.iload_n 1, 1) := by decide +kernel
theorem dX1_numberWidth_5 : decode cX1_numberWidth 5 = .ok (.iconst 3, 1) := by decide +kernel
theorem dX1_numberWidth_6 : decode cX1_numberWidth 6 = .ok (.if_icmp .ne 7, 3) := by decide +kernel
theorem dX1_numberWidth_9 : decode cX1_numberWidth 9 = .ok (.iconst 4, 1) := by decide +kernel
theorem dX1_numberWidth_10 : decode cX1_numberWidth 10 = .ok (.goto 4, 3) := by decide +kernel
theorem dX1_numberWidth_13 : decode cX1_numberWidth 13 = .ok (.iload_n 1, 1) := by decide +kernel
theorem dX1_numberWidth_14 : decode cX1_numberWidth 14 = .ok (.ireturn, 1) := by decide +kernel
theorem dX1_signed_0 : decode cX1_signed 0 = .ok (.iload_n 1, 1) := by decide +kernel
theorem dX1_signed_1 : decode cX1_signed 1 = .ok (.iconst 1, 1) := by decide +kernel
theorem dX1_signed_2 : decode cX1_signed 2 = .ok (.if_icmp .ne 6, 3) := by decide +kernel
theorem dX1_signed_5 : decode cX1_signed 5 = .ok (.iload_n 0, 1) := by decide +kernel
theorem dX1_signed_6 : decode cX1_signed 6 = .ok (.i2b, 1) := by decide +kernel
theorem dX1_signed_7 : decode cX1_signed 7 = .ok (.ireturn, 1) := by decide +kernel
theorem dX1_signed_8 : decode cX1_signed 8 = .ok (.iload_n 1, 1) := by decide +kernel
theorem dX1_signed_9 : decode cX1_signed 9 = .ok (.iconst 2, 1) := by decide +kernel
theorem dX1_signed_10 : decode cX1_signed 10 = .ok (.if_icmp .ne 8, 3) := by decide +kernel
theorem dX1_signed_13 : decode cX1_signed 13 = .ok (.iload_n 0, 1) := by decide +kernel
theorem dX1_signed_14 : decode cX1_signed 14 = .ok (.i2s, 1) := by decide +kernel
theorem dX1_signed_15 : decode cX1_signed 15 = .ok (.goto 4, 3) := by decide +kernel
theorem dX1_signed_18 : decode cX1_signed 18 = .ok (.iload_n 0, 1) := by decide +kernel
theorem dX1_signed_19 : decode cX1_signed 19 = .ok (.ireturn, 1) := by decide +kernel
theorem dX1_modesAreFit_0 : decode cX1_modesAreFit 0 = .ok (.iconst 0, 1) := by decide +kernel
theorem dX1_modesAreFit_1 : decode cX1_modesAreFit 1 = .ok (.istore_n 1, 1) := by decide +kernel
theorem dX1_modesAreFit_2 : decode cX1_modesAreFit 2 = .ok (.iload_n 1, 1) := by decide +kernel
theorem dX1_modesAreFit_3 : decode cX1_modesAreFit 3 = .ok (.aload_n 0, 1) := by decide +kernel
theorem dX1_modesAreFit_4 : decode cX1_modesAreFit 4 = .ok (.getfield 54, 3) := by decide +kernel
theorem dX1_modesAreFit_7 : decode cX1_modesAreFit 7 = .ok (.if_icmp .ge 56, 3) := by decide +kernel
theorem dX1_modesAreFit_10 : decode cX1_modesAreFit 10 = .ok (.aload_n 0, 1) := by decide +kernel
theorem dX1_modesAreFit_11 : decode cX1_modesAreFit 11 = .ok (.iload_n 1, 1) := by decide +kernel
theorem dX1_modesAreFit_12 : decode cX1_modesAreFit 12 = .ok (.invokevirtual 73, 3) := by decide +kernel
theorem dX1_modesAreFit_15 : decode cX1_modesAreFit 15 = .ok (.istore_n 2, 1) := by decide +kernel
theorem dX1_modesAreFit_16 : decode cX1_modesAreFit 16 = .ok (.iload_n 1, 1) := by decide +kernel
theorem dX1_modesAreFit_17 : decode cX1_modesAreFit 17 = .ok (.aload_n 0, 1) := by decide +kernel
theorem dX1_modesAreFit_18 : decode cX1_modesAreFit 18 = .ok (.getfield 47, 3) := by decide +kernel
theorem dX1_modesAreFit_21 : decode cX1_modesAreFit 21 = .ok (.if_icmp .lt 7, 3) := by decide +kernel
theorem dX1_modesAreFit_24 : decode cX1_modesAreFit 24 = .ok (.iconst 1, 1) := by decide +kernel
theorem dX1_modesAreFit_25 : decode cX1_modesAreFit 25 = .ok (.goto 4, 3) := by decide +kernel
theorem dX1_modesAreFit_28 : decode cX1_modesAreFit 28 = .ok (.iconst 0, 1) := by decide +kernel
theorem dX1_modesAreFit_29 : decode cX1_modesAreFit 29 = .ok (.istore_n 3, 1) := by decide +kernel
theorem dX1_modesAreFit_30 : decode cX1_modesAreFit 30 = .ok (.iload_n 2, 1) := by decide +kernel
theorem dX1_modesAreFit_31 : decode cX1_modesAreFit 31 = .ok (.iconst 4, 1) := by decide +kernel
theorem dX1_modesAreFit_32 : decode cX1_modesAreFit 32 = .ok (.if_icmp .eq 23, 3) := by decide +kernel
theorem dX1_modesAreFit_35 : decode cX1_modesAreFit 35 = .ok (.iload_n 2, 1) := by decide +kernel
theorem dX1_modesAreFit_36 : decode cX1_modesAreFit 36 = .ok (.bipush 12, 2) := by decide +kernel
theorem dX1_modesAreFit_38 : decode cX1_modesAreFit 38 = .ok (.if_icmp .eq 17, 3) := by decide +kernel
theorem dX1_modesAreFit_41 : decode cX1_modesAreFit 41 = .ok (.iload_n 3, 1) := by decide +kernel
theorem dX1_modesAreFit_42 : decode cX1_modesAreFit 42 = .ok (.ifCond .eq 15, 3) := by decide +kernel
theorem dX1_modesAreFit_45 : decode cX1_modesAreFit 45 = .ok (.iload_n 2, 1) := by decide +kernel
theorem dX1_modesAreFit_46 : decode cX1_modesAreFit 46 = .ok (.iconst 1, 1) := by decide +kernel
theorem dX1_modesAreFit_47 : decode cX1_modesAreFit 47 = .ok (.if_icmp .lt 10, 3) := by decide +kernel
theorem dX1_modesAreFit_50 : decode cX1_modesAreFit 50 = .ok (.iload_n 2, 1) := by decide +kernel
theorem dX1_modesAreFit_51 : decode cX1_modesAreFit 51 = .ok (.iconst 3, 1) := by decide +kernel
theorem dX1_modesAreFit_52 : decode cX1_modesAreFit 52 = .ok (.if_icmp .gt 5, 3) := by decide +kernel
theorem dX1_modesAreFit_55 : decode cX1_modesAreFit 55 = .ok (.iconst 0, 1) := by decide +kernel
theorem dX1_modesAreFit_56 : decode cX1_modesAreFit 56 = .ok (.ireturn, 1) := by decide +kernel
theorem dX1_modesAreFit_57 : decode cX1_modesAreFit 57 = .ok (.iinc 1 1, 3) := by decide +kernel
theorem dX1_modesAreFit_60 : decode cX1_modesAreFit 60 = .ok (.goto (-58), 3) := by decide +kernel
theorem dX1_modesAreFit_63 : decode cX1_modesAreFit 63 = .ok (.iconst 1, 1) := by decide +kernel
theorem dX1_modesAreFit_64 : decode cX1_modesAreFit 64 = .ok (.ireturn, 1) := by decide +kernel
theorem dX2_init_0 : decode cX2_init 0 = .ok (.aload_n 0, 1) := by decide +kernel
theorem dX2_init_1 : decode cX2_init 1 = .ok (.invokespecial 3, 3) := by decide +kernel
theorem dX2_init_4 : decode cX2_init 4 = .ok (.aload_n 0, 1) := by decide +kernel
theorem dX2_init_5 : decode cX2_init 5 = .ok (.aload_n 1, 1) := by decide +kernel
theorem dX2_init_6 : decode cX2_init 6 = .ok (.putfield 9, 3) := by decide +kernel
theorem dX2_init_9 : decode cX2_init 9 = .ok (.aload_n 0, 1) := by decide +kernel
theorem dX2_init_10 : decode cX2_init 10 = .ok (.aload_n 2, 1) := by decide +kernel
theorem dX2_init_11 : decode cX2_init 11 = .ok (.putfield 15, 3) := by decide +kernel
theorem dX2_init_14 : decode cX2_init 14 = .ok (.aload_n 0, 1) := by decide +kernel
theorem dX2_init_15 : decode cX2_init 15 = .ok (.new 19, 3) := by decide +kernel
theorem dX2_init_18 : decode cX2_init 18 = .ok (.dup, 1) := by decide +kernel
theorem dX2_init_19 : decode cX2_init 19 = .ok (.bipush 64, 2) := by decide +kernel
theorem dX2_init_21 : decode cX2_init 21 = .ok (.invokespecial 21, 3) := by decide +kernel
theorem dX2_init_24 : decode cX2_init 24 = .ok (.putfield 24, 3) := by decide +kernel
theorem dX2_init_27 : decode cX2_init 27 = .ok (.aload_n 0, 1) := by decide +kernel
theorem dX2_init_28 : decode cX2_init 28 = .ok (.new 27, 3) := by decide +kernel
theorem dX2_init_31 : decode cX2_init 31 = .ok (.dup, 1) := by decide +kernel
theorem dX2_init_32 : decode cX2_init 32 = .ok (.invokespecial 29, 3) := by decide +kernel
theorem dX2_init_35 : decode cX2_init 35 = .ok (.putfield 30, 3) := by decide +kernel
theorem dX2_init_38 : decode cX2_init 38 = .ok (.aload_n 0, 1) := by decide +kernel
theorem dX2_init_39 : decode cX2_init 39 = .ok (.new 34, 3) := by decide +kernel
theorem dX2_init_42 : decode cX2_init 42 = .ok (.dup, 1) := by decide +kernel
theorem dX2_init_43 : decode cX2_init 43 = .ok (.invokespecial 36, 3) := by decide +kernel
theorem dX2_init_46 : decode cX2_init 46 = .ok (.putfield 37, 3) := by decide +kernel
theorem dX2_init_49 : decode cX2_init 49 = .ok (.aload_n 0, 1) := by decide +kernel
theorem dX2_init_50 : decode cX2_init 50 = .ok (.bipush 7, 2) := by decide +kernel
theorem dX2_init_52 : decode cX2_init 52 = .ok (.newarray .int, 2) := by decide +kernel
theorem dX2_init_54 : decode cX2_init 54 = .ok (.putfield 41, 3) := by decide +kernel
theorem dX2_init_57 : decode cX2_init 57 = .ok (.aload_n 0, 1) := by decide +kernel
theorem dX2_init_58 : decode cX2_init 58 = .ok (.sipush 256, 3) := by decide +kernel
theorem dX2_init_61 : decode cX2_init 61 = .ok (.putfield 45, 3) := by decide +kernel
theorem dX2_init_64 : decode cX2_init 64 = .ok (.return_, 1) := by decide +kernel
theorem dX2_doOne_0 : decode cX2_doOne 0 = .ok (.aload_n 0, 1) := by decide +kernel
theorem dX2_doOne_1 : decode cX2_doOne 1 = .ok (.aload_n 0, 1) := by decide +kernel
theorem dX2_doOne_2 : decode cX2_doOne 2 = .ok (.getfield 37, 3) := by decide +kernel
theorem dX2_doOne_5 : decode cX2_doOne 5 = .ok (.aload_n 0, 1) := by decide +kernel
theorem dX2_doOne_6 : decode cX2_doOne 6 = .ok (.getfield 9, 3) := by decide +kernel
theorem dX2_doOne_9 : decode cX2_doOne 9 = .ok (.aload_n 0, 1) := by decide +kernel
theorem dX2_doOne_10 : decode cX2_doOne 10 = .ok (.getfield 49, 3) := by decide +kernel
theorem dX2_doOne_13 : decode cX2_doOne 13 = .ok (.invokevirtual 52, 3) := by decide +kernel
theorem dX2_doOne_16 : decode cX2_doOne 16 = .ok (.putfield 56, 3) := by decide +kernel
theorem dX2_doOne_19 : decode cX2_doOne 19 = .ok (.aload_n 0, 1) := by decide +kernel
theorem dX2_doOne_20 : decode cX2_doOne 20 = .ok (.getfield 56, 3) := by decide +kernel
theorem dX2_doOne_23 : decode cX2_doOne 23 = .ok (.ifCond .eq 4, 3) := by decide +kernel
theorem dX2_doOne_26 : decode cX2_doOne 26 = .ok (.return_, 1) := by decide +kernel
theorem dX2_doOne_27 : decode cX2_doOne 27 = .ok (.aload_n 0, 1) := by decide +kernel
theorem dX2_doOne_28 : decode cX2_doOne 28 = .ok (.getfield 30, 3) := by decide +kernel
theorem dX2_doOne_31 : decode cX2_doOne 31 = .ok (.getfield 59, 3) := by decide +kernel
theorem dX2_doOne_34 : decode cX2_doOne 34 = .ok (.istore_n 1, 1) := by decide +kernel
theorem dX2_doOne_35 : decode cX2_doOne 35 = .ok (.aload_n 0, 1) := by decide +kernel
theorem dX2_doOne_36 : decode cX2_doOne 36 = .ok (.aload_n 0, 1) := by decide +kernel
theorem dX2_doOne_37 : decode cX2_doOne 37 = .ok (.getfield 49, 3) := by decide +kernel
theorem dX2_doOne_40 : decode cX2_doOne 40 = .ok (.aload_n 0, 1) := by decide +kernel
theorem dX2_doOne_41 : decode cX2_doOne 41 = .ok (.getfield 37, 3) := by decide +kernel
theorem dX2_doOne_44 : decode cX2_doOne 44 = .ok (.getfield 62, 3) := by decide +kernel
theorem dX2_doOne_47 : decode cX2_doOne 47 = .ok (.iadd, 1) := by decide +kernel
theorem dX2_doOne_48 : decode cX2_doOne 48 = .ok (.putfield 65, 3) := by decide +kernel
theorem dX2_doOne_51 : decode cX2_doOne 51 = .ok (.aload_n 0, 1) := by decide +kernel
theorem dX2_doOne_52 : decode cX2_doOne 52 = .ok (.aload_n 0, 1) := by decide +kernel
theorem dX2_doOne_53 : decode cX2_doOne 53 = .ok (.getfield 37, 3) := by decide +kernel
theorem dX2_doOne_56 : decode cX2_doOne 56 = .ok (.getfield 68, 3) := by decide +kernel
theorem dX2_doOne_59 : decode cX2_doOne 59 = .ok (.invokestatic 71, 3) := by decide +kernel
theorem dX2_doOne_62 : decode cX2_doOne 62 = .ok (.putfield 77, 3) := by decide +kernel
theorem dX2_doOne_65 : decode cX2_doOne 65 = .ok (.aload_n 0, 1) := by decide +kernel
theorem dX2_doOne_66 : decode cX2_doOne 66 = .ok (.invokevirtual 80, 3) := by decide +kernel
theorem dX2_doOne_69 : decode cX2_doOne 69 = .ok (.aload_n 0, 1) := by decide +kernel
theorem dX2_doOne_70 : decode cX2_doOne 70 = .ok (.getfield 56, 3) := by decide +kernel
theorem dX2_doOne_73 : decode cX2_doOne 73 = .ok (.ifCond .ne 17, 3) := by decide +kernel
theorem dX2_doOne_76 : decode cX2_doOne 76 = .ok (.aload_n 0, 1) := by decide +kernel
theorem dX2_doOne_77 : decode cX2_doOne 77 = .ok (.aload_n 0, 1) := by decide +kernel
theorem dX2_doOne_78 : decode cX2_doOne 78 = .ok (.getfield 37, 3) := by decide +kernel
theorem dX2_doOne_81 : decode cX2_doOne 81 = .ok (.getfield 68, 3) := by decide +kernel
theorem dX2_doOne_84 : decode cX2_doOne 84 = .ok (.invokevirtual 83, 3) := by decide +kernel
theorem dX2_doOne_87 : decode cX2_doOne 87 = .ok (.goto 4, 3) := by decide +kernel
theorem dX2_doOne_90 : decode cX2_doOne 90 = .ok (.iconst 0, 1) := by decide +kernel
theorem dX2_doOne_91 : decode cX2_doOne 91 = .ok (.istore_n 2, 1) := by decide +kernel
theorem dX2_doOne_92 : decode cX2_doOne 92 = .ok (.aload_n 0, 1) := by decide +kernel
theorem dX2_doOne_93 : decode cX2_doOne 93 = .ok (.getfield 56, 3) := by decide +kernel
theorem dX2_doOne_96 : decode cX2_doOne 96 = .ok (.ifCond .ne 32, 3) := by decide +kernel
theorem dX2_doOne_99 : decode cX2_doOne 99 = .ok (.aload_n 0, 1) := by decide +kernel
theorem dX2_doOne_100 : decode cX2_doOne 100 = .ok (.getfield 37, 3) := by decide +kernel
theorem dX2_doOne_103 : decode cX2_doOne 103 = .ok (.getfield 86, 3) := by decide +kernel
theorem dX2_doOne_106 : decode cX2_doOne 106 = .ok (.aload_n 0, 1) := by decide +kernel
theorem dX2_doOne_107 : decode cX2_doOne 107 = .ok (.getfield 37, 3) := by decide +kernel
theorem dX2_doOne_110 : decode cX2_doOne 110 = .ok (.getfield 89, 3) := by decide +kernel
theorem dX2_doOne_113 : decode cX2_doOne 113 = .ok (.if_icmp .le 15, 3) := by decide +kernel
theorem dX2_doOne_116 : decode cX2_doOne 116 = .ok (.aload_n 0, 1) := by decide +kernel
theorem dX2_doOne_117 : decode cX2_doOne 117 = .ok (.aload_n 0, 1) := by decide +kernel
theorem dX2_doOne_118 : decode cX2_doOne 118 = .ok (.getfield 37, 3) := by decide +kernel
theorem dX2_doOne_121 : decode cX2_doOne 121 = .ok (.getfield 89, 3) := by decide +kernel
theorem dX2_doOne_124 : decode cX2_doOne 124 = .ok (.iload_n 2, 1) := by decide +kernel
theorem dX2_doOne_125 : decode cX2_doOne 125 = .ok (.invokevirtual 92, 3) := by decide +kernel
theorem dX2_doOne_128 : decode cX2_doOne 128 = .ok (.aload_n 0, 1) := by decide +kernel
theorem dX2_doOne_129 : decode cX2_doOne 129 = .ok (.getfield 56, 3) := by decide +kernel
theorem dX2_doOne_132 : decode cX2_doOne 132 = .ok (.ifCond .eq 12, 3) := by decide +kernel
theorem dX2_doOne_135 : decode cX2_doOne 135 = .ok (.aload_n 0, 1) := by decide +kernel
theorem dX2_doOne_136 : decode cX2_doOne 136 = .ok (.getfield 30, 3) := by decide +kernel
theorem dX2_doOne_139 : decode cX2_doOne 139 = .ok (.iload_n 1, 1) := by decide +kernel
theorem dX2_doOne_140 : decode cX2_doOne 140 = .ok (.invokevirtual 96, 3) := by decide +kernel
theorem dX2_doOne_143 : decode cX2_doOne 143 = .ok (.return_, 1) := by decide +kernel
theorem dX2_doOne_144 : decode cX2_doOne 144 = .ok (.aload_n 0, 1) := by decide +kernel
theorem dX2_doOne_145 : decode cX2_doOne 145 = .ok (.aload_n 0, 1) := by decide +kernel
theorem dX2_doOne_146 : decode cX2_doOne 146 = .ok (.getfield 65, 3) := by decide +kernel
theorem dX2_doOne_149 : decode cX2_doOne 149 = .ok (.putfield 49, 3) := by decide +kernel
theorem dX2_doOne_152 : decode cX2_doOne 152 = .ok (.aload_n 0, 1) := by decide +kernel
theorem dX2_doOne_153 : decode cX2_doOne 153 = .ok (.dup, 1) := by decide +kernel
theorem dX2_doOne_154 : decode cX2_doOne 154 = .ok (.getfield 99, 3) := by decide +kernel
theorem dX2_doOne_157 : decode cX2_doOne 157 = .ok (.iconst 1, 1) := by decide +kernel
theorem dX2_doOne_158 : decode cX2_doOne 158 = .ok (.iadd, 1) := by decide +kernel
theorem dX2_doOne_159 : decode cX2_doOne 159 = .ok (.putfield 99, 3) := by decide +kernel
theorem dX2_doOne_162 : decode cX2_doOne 162 = .ok (.return_, 1) := by decide +kernel
theorem dX2_loadAll_0 : decode cX2_loadAll 0 = .ok (.iconst 0, 1) := by decide +kernel
theorem dX2_loadAll_1 : decode cX2_loadAll 1 = .ok (.istore_n 1, 1) := by decide +kernel
theorem dX2_loadAll_2 : decode cX2_loadAll 2 = .ok (.iload_n 1, 1) := by decide +kernel
theorem dX2_loadAll_3 : decode cX2_loadAll 3 = .ok (.aload_n 0, 1) := by decide +kernel
theorem dX2_loadAll_4 : decode cX2_loadAll 4 = .ok (.getfield 37, 3) := by decide +kernel
theorem dX2_loadAll_7 : decode cX2_loadAll 7 = .ok (.getfield 89, 3) := by decide +kernel
theorem dX2_loadAll_10 : decode cX2_loadAll 10 = .ok (.if_icmp .ge 36, 3) := by decide +kernel
theorem dX2_loadAll_13 : decode cX2_loadAll 13 = .ok (.iload_n 1, 1) := by decide +kernel
theorem dX2_loadAll_14 : decode cX2_loadAll 14 = .ok (.aload_n 0, 1) := by decide +kernel
theorem dX2_loadAll_15 : decode cX2_loadAll 15 = .ok (.getfield 41, 3) := by decide +kernel
theorem dX2_loadAll_18 : decode cX2_loadAll 18 = .ok (.arraylength, 1) := by decide +kernel
theorem dX2_loadAll_19 : decode cX2_loadAll 19 = .ok (.if_icmp .ge 27, 3) := by decide +kernel
theorem dX2_loadAll_22 : decode cX2_loadAll 22 = .ok (.aload_n 0, 1) := by decide +kernel
theorem dX2_loadAll_23 : decode cX2_loadAll 23 = .ok (.getfield 56, 3) := by decide +kernel
theorem dX2_loadAll_26 : decode cX2_loadAll 26 = .ok (.ifCond .ne 20, 3) := by decide +kernel
theorem dX2_loadAll_29 : decode cX2_loadAll 29 = .ok (.aload_n 0, 1) := by decide +kernel
theorem dX2_loadAll_30 : decode cX2_loadAll 30 = .ok (.getfield 41, 3) := by decide +kernel
theorem dX2_loadAll_33 : decode cX2_loadAll 33 = .ok (.iload_n 1, 1) := by decide +kernel
theorem dX2_loadAll_34 : decode cX2_loadAll 34 = .ok (.aload_n 0, 1) := by decide +kernel
theorem dX2_loadAll_35 : decode cX2_loadAll 35 = .ok (.iload_n 1, 1) := by decide +kernel
theorem dX2_loadAll_36 : decode cX2_loadAll 36 = .ok (.invokevirtual 102, 3) := by decide +kernel
theorem dX2_loadAll_39 : decode cX2_loadAll 39 = .ok (.iastore, 1) := by decide +kernel
theorem dX2_loadAll_40 : decode cX2_loadAll 40 = .ok (.iinc 1 1, 3) := by decide +kernel
theorem dX2_loadAll_43 : decode cX2_loadAll 43 = .ok (.goto (-41), 3) := by decide +kernel
theorem dX2_loadAll_46 : decode cX2_loadAll 46 = .ok (.return_, 1) := by decide +kernel
theorem dX2_load_0 : decode cX2_load 0 = .ok (.iload_n 1, 1) := by decide +kernel
theorem dX2_load_1 : decode cX2_load 1 = .ok (.ifCond .lt 21, 3) := by decide +kernel
theorem dX2_load_4 : decode cX2_load 4 = .ok (.iload_n 1, 1) := by decide +kernel
theorem dX2_load_5 : decode cX2_load 5 = .ok (.aload_n 0, 1) := by decide +kernel
theorem dX2_load_6 : decode cX2_load 6 = .ok (.getfield 41, 3) := by decide +kernel
theorem dX2_load_9 : decode cX2_load 9 = .ok (.arraylength, 1) := by decide +kernel
theorem dX2_load_10 : decode cX2_load 10 = .ok (.if_icmp .ge 12, 3) := by decide +kernel
theorem dX2_load_13 : decode cX2_load 13 = .ok (.aload_n 0, 1) := by decide +kernel
theorem dX2_load_14 : decode cX2_load 14 = .ok (.getfield 41, 3) := by decide +kernel
theorem dX2_load_17 : decode cX2_load 17 = .ok (.iload_n 1, 1) := by decide +kernel
theorem dX2_load_18 : decode cX2_load 18 = .ok (.iaload, 1) := by decide +kernel
theorem dX2_load_19 : decode cX2_load 19 = .ok (.goto 4, 3) := by decide +kernel
theorem dX2_load_22 : decode cX2_load 22 = .ok (.iconst 0, 1) := by decide +kernel
theorem dX2_load_23 : decode cX2_load 23 = .ok (.ireturn, 1) := by decide +kernel
theorem dX2_loadOperand_0 : decode cX2_loadOperand 0 = .ok (.aload_n 0, 1) := by decide +kernel
theorem dX2_loadOperand_1 : decode cX2_loadOperand 1 = .ok (.getfield 37, 3) := by decide +kernel
theorem dX2_loadOperand_4 : decode cX2_loadOperand 4 = .ok (.iload_n 1, 1) := by decide +kernel
theorem dX2_loadOperand_5 : decode cX2_loadOperand 5 = .ok (.invokevirtual 105, 3) := by decide +kernel
theorem dX2_loadOperand_8 : decode cX2_loadOperand 8 = .ok (.istore_n 2, 1) := by decide +kernel
theorem dX2_loadOperand_9 : decode cX2_loadOperand 9 = .ok (.aload_n 0, 1) := by decide +kernel
theorem dX2_loadOperand_10 : decode cX2_loadOperand 10 = .ok (.getfield 37, 3) := by decide +kernel
theorem dX2_loadOperand_13 : decode cX2_loadOperand 13 = .ok (.iload_n 1, 1) := by decide +kernel
theorem dX2_loadOperand_14 : decode cX2_loadOperand 14 = .ok (.invokevirtual 108, 3) := by decide +kernel
theorem dX2_loadOperand_17 : decode cX2_loadOperand 17 = .ok (.tableswitch 117 1 15 #[75, 75, 75, 117, 81, 81, 81, 91, 96, 96, 96, 117, 102, 102, 102], 75) := by decide +kernel
theorem dX2_loadOperand_92 : decode cX2_loadOperand 92 = .ok (.aload_n 0, 1) := by decide +kernel
theorem dX2_loadOperand_93 : decode cX2_loadOperand 93 = .ok (.iload_n 2, 1) := by decide +kernel
theorem dX2_loadOperand_94 : decode cX2_loadOperand 94 = .ok (.invokevirtual 111, 3) := by decide +kernel
theorem dX2_loadOperand_97 : decode cX2_loadOperand 97 = .ok (.ireturn, 1) := by decide +kernel
theorem dX2_loadOperand_98 : decode cX2_loadOperand 98 = .ok (.aload_n 0, 1) := by decide +kernel
theorem dX2_loadOperand_99 : decode cX2_loadOperand 99 = .ok (.iload_n 2, 1) := by decide +kernel
theorem dX2_loadOperand_100 : decode cX2_loadOperand 100 = .ok (.aload_n 0, 1) := by decide +kernel
theorem dX2_loadOperand_101 : decode cX2_loadOperand 101 = .ok (.getfield 77, 3) := by decide +kernel
theorem dX2_loadOperand_104 : decode cX2_loadOperand 104 = .ok (.invokevirtual 114, 3) := by decide +kernel
theorem dX2_loadOperand_107 : decode cX2_loadOperand 107 = .ok (.ireturn, 1) := by decide +kernel
theorem dX2_loadOperand_108 : decode cX2_loadOperand 108 = .ok (.aload_n 0, 1) := by decide +kernel
theorem dX2_loadOperand_109 : decode cX2_loadOperand 109 = .ok (.invokevirtual 118, 3) := by decide +kernel
theorem dX2_loadOperand_112 : decode cX2_loadOperand 112 = .ok (.ireturn, 1) := by decide +kernel
theorem dX2_loadOperand_113 : decode cX2_loadOperand 113 = .ok (.aload_n 0, 1) := by decide +kernel
theorem dX2_loadOperand_114 : decode cX2_loadOperand 114 = .ok (.iload_n 2, 1) := by decide +kernel
theorem dX2_loadOperand_115 : decode cX2_loadOperand 115 = .ok (.invokevirtual 122, 3) := by decide +kernel
theorem dX2_loadOperand_118 : decode cX2_loadOperand 118 = .ok (.ireturn, 1) := by decide +kernel
theorem dX2_loadOperand_119 : decode cX2_loadOperand 119 = .ok (.aload_n 0, 1) := by decide +kernel
theorem dX2_loadOperand_120 : decode cX2_loadOperand 120 = .ok (.aload_n 0, 1) := by decide +kernel
theorem dX2_loadOperand_121 : decode cX2_loadOperand 121 = .ok (.getfield 45, 3) := by decide +kernel
theorem dX2_loadOperand_124 : decode cX2_loadOperand 124 = .ok (.iload_n 2, 1) := by decide +kernel
theorem dX2_loadOperand_125 : decode cX2_loadOperand 125 = .ok (.iadd, 1) := by decide +kernel
theorem dX2_loadOperand_126 : decode cX2_loadOperand 126 = .ok (.aload_n 0, 1) := by decide +kernel
theorem dX2_loadOperand_127 : decode cX2_loadOperand 127 = .ok (.getfield 77, 3) := by decide +kernel
theorem dX2_loadOperand_130 : decode cX2_loadOperand 130 = .ok (.invokevirtual 114, 3) := by decide +kernel
theorem dX2_loadOperand_133 : decode cX2_loadOperand 133 = .ok (.ireturn, 1) := by decide +kernel
theorem dX2_loadOperand_134 : decode cX2_loadOperand 134 = .ok (.iconst 0, 1) := by decide +kernel
theorem dX2_loadOperand_135 : decode cX2_loadOperand 135 = .ok (.ireturn, 1) := by decide +kernel
theorem dX2_lowest_0 : decode cX2_lowest 0 = .ok (.aload_n 0, 1) := by decide +kernel
theorem dX2_lowest_1 : decode cX2_lowest 1 = .ok (.getfield 77, 3) := by decide +kernel
theorem dX2_lowest_4 : decode cX2_lowest 4 = .ok (.iconst 4, 1) := by decide +kernel
theorem dX2_lowest_5 : decode cX2_lowest 5 = .ok (.if_icmp .ne 5, 3) := by decide +kernel
theorem dX2_lowest_8 : decode cX2_lowest 8 = .ok (.iload_n 1, 1) := by decide +kernel
theorem dX2_lowest_9 : decode cX2_lowest 9 = .ok (.ireturn, 1) := by decide +kernel
theorem dX2_lowest_10 : decode cX2_lowest 10 = .ok (.aload_n 0, 1) := by decide +kernel
theorem dX2_lowest_11 : decode cX2_lowest 11 = .ok (.getfield 77, 3) := by decide +kernel
theorem dX2_lowest_14 : decode cX2_lowest 14 = .ok (.iconst 2, 1) := by decide +kernel
theorem dX2_lowest_15 : decode cX2_lowest 15 = .ok (.if_icmp .ne 10, 3) := by decide +kernel
theorem dX2_lowest_18 : decode cX2_lowest 18 = .ok (.iload_n 1, 1) := by decide +kernel
theorem dX2_lowest_19 : decode cX2_lowest 19 = .ok (.ldc 125, 2) := by decide +kernel
theorem dX2_lowest_21 : decode cX2_lowest 21 = .ok (.iand, 1) := by decide +kernel
theorem dX2_lowest_22 : decode cX2_lowest 22 = .ok (.goto 8, 3) := by decide +kernel
theorem dX2_lowest_25 : decode cX2_lowest 25 = .ok (.iload_n 1, 1) := by decide +kernel
theorem dX2_lowest_26 : decode cX2_lowest 26 = .ok (.sipush 255, 3) := by decide +kernel
theorem dX2_lowest_29 : decode cX2_lowest 29 = .ok (.iand, 1) := by decide +kernel
theorem dX2_lowest_30 : decode cX2_lowest 30 = .ok (.ireturn, 1) := by decide +kernel
theorem dX2_loadTop_0 : decode cX2_loadTop 0 = .ok (.aload_n 0, 1) := by decide +kernel
theorem dX2_loadTop_1 : decode cX2_loadTop 1 = .ok (.getfield 30, 3) := by decide +kernel
theorem dX2_loadTop_4 : decode cX2_loadTop 4 = .ok (.getfield 59, 3) := by decide +kernel
theorem dX2_loadTop_7 : decode cX2_loadTop 7 = .ok (.ifCond .ne 10, 3) := by decide +kernel
theorem dX2_loadTop_10 : decode cX2_loadTop 10 = .ok (.aload_n 0, 1) := by decide +kernel
theorem dX2_loadTop_11 : decode cX2_loadTop 11 = .ok (.iconst 4, 1) := by decide +kernel
theorem dX2_loadTop_12 : decode cX2_loadTop 12 = .ok (.putfield 56, 3) := by decide +kernel
theorem dX2_loadTop_15 : decode cX2_loadTop 15 = .ok (.iconst 0, 1) := by decide +kernel
theorem dX2_loadTop_16 : decode cX2_loadTop 16 = .ok (.ireturn, 1) := by decide +kernel
theorem dX2_loadTop_17 : decode cX2_loadTop 17 = .ok (.aload_n 0, 1) := by decide +kernel
theorem dX2_loadTop_18 : decode cX2_loadTop 18 = .ok (.aload_n 0, 1) := by decide +kernel
theorem dX2_loadTop_19 : decode cX2_loadTop 19 = .ok (.getfield 30, 3) := by decide +kernel
theorem dX2_loadTop_22 : decode cX2_loadTop 22 = .ok (.invokevirtual 126, 3) := by decide +kernel
theorem dX2_loadTop_25 : decode cX2_loadTop 25 = .ok (.invokevirtual 111, 3) := by decide +kernel
theorem dX2_loadTop_28 : decode cX2_loadTop 28 = .ok (.ireturn, 1) := by decide +kernel
theorem dX2_loadLocal_0 : decode cX2_loadLocal 0 = .ok (.aload_n 0, 1) := by decide +kernel
theorem dX2_loadLocal_1 : decode cX2_loadLocal 1 = .ok (.getfield 24, 3) := by decide +kernel
theorem dX2_loadLocal_4 : decode cX2_loadLocal 4 = .ok (.iload_n 1, 1) := by decide +kernel
theorem dX2_loadLocal_5 : decode cX2_loadLocal 5 = .ok (.aload_n 0, 1) := by decide +kernel
theorem dX2_loadLocal_6 : decode cX2_loadLocal 6 = .ok (.getfield 77, 3) := by decide +kernel
theorem dX2_loadLocal_9 : decode cX2_loadLocal 9 = .ok (.invokevirtual 129, 3) := by decide +kernel
theorem dX2_loadLocal_12 : decode cX2_loadLocal 12 = .ok (.ifCond .ne 11, 3) := by decide +kernel
theorem dX2_loadLocal_15 : decode cX2_loadLocal 15 = .ok (.aload_n 0, 1) := by decide +kernel
theorem dX2_loadLocal_16 : decode cX2_loadLocal 16 = .ok (.bipush 7, 2) := by decide +kernel
theorem dX2_loadLocal_18 : decode cX2_loadLocal 18 = .ok (.putfield 56, 3) := by decide +kernel
theorem dX2_loadLocal_21 : decode cX2_loadLocal 21 = .ok (.iconst 0, 1) := by decide +kernel
theorem dX2_loadLocal_22 : decode cX2_loadLocal 22 = .ok (.ireturn, 1) := by decide +kernel
theorem dX2_loadLocal_23 : decode cX2_loadLocal 23 = .ok (.aload_n 0, 1) := by decide +kernel
theorem dX2_loadLocal_24 : decode cX2_loadLocal 24 = .ok (.getfield 24, 3) := by decide +kernel
theorem dX2_loadLocal_27 : decode cX2_loadLocal 27 = .ok (.iload_n 1, 1) := by decide +kernel
theorem dX2_loadLocal_28 : decode cX2_loadLocal 28 = .ok (.aload_n 0, 1) := by decide +kernel
theorem dX2_loadLocal_29 : decode cX2_loadLocal 29 = .ok (.getfield 77, 3) := by decide +kernel
theorem dX2_loadLocal_32 : decode cX2_loadLocal 32 = .ok (.invokevirtual 133, 3) := by decide +kernel
theorem dX2_loadLocal_35 : decode cX2_loadLocal 35 = .ok (.ireturn, 1) := by decide +kernel
theorem dX2_fetch_0 : decode cX2_fetch 0 = .ok (.aload_n 0, 1) := by decide +kernel
theorem dX2_fetch_1 : decode cX2_fetch 1 = .ok (.getfield 9, 3) := by decide +kernel
theorem dX2_fetch_4 : decode cX2_fetch 4 = .ok (.iload_n 1, 1) := by decide +kernel
theorem dX2_fetch_5 : decode cX2_fetch 5 = .ok (.iload_n 2, 1) := by decide +kernel
theorem dX2_fetch_6 : decode cX2_fetch 6 = .ok (.invokevirtual 129, 3) := by decide +kernel
theorem dX2_fetch_9 : decode cX2_fetch 9 = .ok (.ifCond .ne 10, 3) := by decide +kernel
theorem dX2_fetch_12 : decode cX2_fetch 12 = .ok (.aload_n 0, 1) := by decide +kernel
theorem dX2_fetch_13 : decode cX2_fetch 13 = .ok (.iconst 1, 1) := by decide +kernel
theorem dX2_fetch_14 : decode cX2_fetch 14 = .ok (.putfield 56, 3) := by decide +kernel
theorem dX2_fetch_17 : decode cX2_fetch 17 = .ok (.iconst 0, 1) := by decide +kernel
theorem dX2_fetch_18 : decode cX2_fetch 18 = .ok (.ireturn, 1) := by decide +kernel
theorem dX2_fetch_19 : decode cX2_fetch 19 = .ok (.aload_n 0, 1) := by decide +kernel
theorem dX2_fetch_20 : decode cX2_fetch 20 = .ok (.getfield 9, 3) := by decide +kernel
theorem dX2_fetch_23 : decode cX2_fetch 23 = .ok (.iload_n 1, 1) := by decide +kernel
theorem dX2_fetch_24 : decode cX2_fetch 24 = .ok (.iload_n 2, 1) := by decide +kernel
theorem dX2_fetch_25 : decode cX2_fetch 25 = .ok (.invokevirtual 133, 3) := by decide +kernel
theorem dX2_fetch_28 : decode cX2_fetch 28 = .ok (.ireturn, 1) := by decide +kernel
theorem dX2_storeOperand_0 : decode cX2_storeOperand 0 = .ok (.aload_n 0, 1) := by decide +kernel
theorem dX2_storeOperand_1 : decode cX2_storeOperand 1 = .ok (.getfield 37, 3) := by decide +kernel
theorem dX2_storeOperand_4 : decode cX2_storeOperand 4 = .ok (.iload_n 1, 1) := by decide +kernel
theorem dX2_storeOperand_5 : decode cX2_storeOperand 5 = .ok (.invokevirtual 105, 3) := by decide +kernel
theorem dX2_storeOperand_8 : decode cX2_storeOperand 8 = .ok (.istore_n 3, 1) := by decide +kernel
theorem dX2_storeOperand_9 : decode cX2_storeOperand 9 = .ok (.aload_n 0, 1) := by decide +kernel
theorem dX2_storeOperand_10 : decode cX2_storeOperand 10 = .ok (.getfield 37, 3) := by decide +kernel
theorem dX2_storeOperand_13 : decode cX2_storeOperand 13 = .ok (.iload_n 1, 1) := by decide +kernel
theorem dX2_storeOperand_14 : decode cX2_storeOperand 14 = .ok (.invokevirtual 108, 3) := by decide +kernel
theorem dX2_storeOperand_17 : decode cX2_storeOperand 17 = .ok (.tableswitch 107 5 15 #[59, 59, 59, 72, 80, 80, 80, 107, 89, 89, 89], 59) := by decide +kernel
theorem dX2_storeOperand_76 : decode cX2_storeOperand 76 = .ok (.aload_n 0, 1) := by decide +kernel
theorem dX2_storeOperand_77 : decode cX2_storeOperand 77 = .ok (.iload_n 3, 1) := by decide +kernel
theorem dX2_storeOperand_78 : decode cX2_storeOperand 78 = .ok (.aload_n 0, 1) := by decide +kernel
theorem dX2_storeOperand_79 : decode cX2_storeOperand 79 = .ok (.getfield 77, 3) := by decide +kernel
theorem dX2_storeOperand_82 : decode cX2_storeOperand 82 = .ok (.iload_n 2, 1) := by decide +kernel
theorem dX2_storeOperand_83 : decode cX2_storeOperand 83 = .ok (.invokevirtual 136, 3) := by decide +kernel
theorem dX2_storeOperand_86 : decode cX2_storeOperand 86 = .ok (.goto 38, 3) := by decide +kernel
theorem dX2_storeOperand_89 : decode cX2_storeOperand 89 = .ok (.aload_n 0, 1) := by decide +kernel
theorem dX2_storeOperand_90 : decode cX2_storeOperand 90 = .ok (.iload_n 2, 1) := by decide +kernel
theorem dX2_storeOperand_91 : decode cX2_storeOperand 91 = .ok (.invokevirtual 140, 3) := by decide +kernel
theorem dX2_storeOperand_94 : decode cX2_storeOperand 94 = .ok (.goto 30, 3) := by decide +kernel
theorem dX2_storeOperand_97 : decode cX2_storeOperand 97 = .ok (.aload_n 0, 1) := by decide +kernel
theorem dX2_storeOperand_98 : decode cX2_storeOperand 98 = .ok (.iload_n 3, 1) := by decide +kernel
theorem dX2_storeOperand_99 : decode cX2_storeOperand 99 = .ok (.iload_n 2, 1) := by decide +kernel
theorem dX2_storeOperand_100 : decode cX2_storeOperand 100 = .ok (.invokevirtual 143, 3) := by decide +kernel
theorem dX2_storeOperand_103 : decode cX2_storeOperand 103 = .ok (.goto 21, 3) := by decide +kernel
theorem dX2_storeOperand_106 : decode cX2_storeOperand 106 = .ok (.aload_n 0, 1) := by decide +kernel
theorem dX2_storeOperand_107 : decode cX2_storeOperand 107 = .ok (.aload_n 0, 1) := by decide +kernel
theorem dX2_storeOperand_108 : decode cX2_storeOperand 108 = .ok (.getfield 45, 3) := by decide +kernel
theorem dX2_storeOperand_111 : decode cX2_storeOperand 111 = .ok (.iload_n 3, 1) := by decide +kernel
theorem dX2_storeOperand_112 : decode cX2_storeOperand 112 = .ok (.iadd, 1) := by decide +kernel
theorem dX2_storeOperand_113 : decode cX2_storeOperand 113 = .ok (.aload_n 0, 1) := by decide +kernel
theorem dX2_storeOperand_114 : decode cX2_storeOperand 114 = .ok (.getfield 77, 3) := by decide +kernel
theorem dX2_storeOperand_117 : decode cX2_storeOperand 117 = .ok (.iload_n 2, 1) := by decide +kernel
theorem dX2_storeOperand_118 : decode cX2_storeOperand 118 = .ok (.invokevirtual 136, 3) := by decide +kernel
theorem dX2_storeOperand_121 : decode cX2_storeOperand 121 = .ok (.goto 3, 3) := by decide +kernel
theorem dX2_storeOperand_124 : decode cX2_storeOperand 124 = .ok (.return_, 1) := by decide +kernel
theorem dX2_storeTop_0 : decode cX2_storeTop 0 = .ok (.aload_n 0, 1) := by decide +kernel
theorem dX2_storeTop_1 : decode cX2_storeTop 1 = .ok (.getfield 30, 3) := by decide +kernel
theorem dX2_storeTop_4 : decode cX2_storeTop 4 = .ok (.invokevirtual 146, 3) := by decide +kernel
theorem dX2_storeTop_7 : decode cX2_storeTop 7 = .ok (.ifCond .eq 9, 3) := by decide +kernel
theorem dX2_storeTop_10 : decode cX2_storeTop 10 = .ok (.aload_n 0, 1) := by decide +kernel
theorem dX2_storeTop_11 : decode cX2_storeTop 11 = .ok (.iconst 5, 1) := by decide +kernel
theorem dX2_storeTop_12 : decode cX2_storeTop 12 = .ok (.putfield 56, 3) := by decide +kernel
theorem dX2_storeTop_15 : decode cX2_storeTop 15 = .ok (.return_, 1) := by decide +kernel
theorem dX2_storeTop_16 : decode cX2_storeTop 16 = .ok (.aload_n 0, 1) := by decide +kernel
theorem dX2_storeTop_17 : decode cX2_storeTop 17 = .ok (.getfield 30, 3) := by decide +kernel
theorem dX2_storeTop_20 : decode cX2_storeTop 20 = .ok (.iload_n 1, 1) := by decide +kernel
theorem dX2_storeTop_21 : decode cX2_storeTop 21 = .ok (.invokevirtual 150, 3) := by decide +kernel
theorem dX2_storeTop_24 : decode cX2_storeTop 24 = .ok (.return_, 1) := by decide +kernel
theorem dX2_storeLocal_0 : decode cX2_storeLocal 0 = .ok (.aload_n 0, 1) := by decide +kernel
theorem dX2_storeLocal_1 : decode cX2_storeLocal 1 = .ok (.getfield 24, 3) := by decide +kernel
theorem dX2_storeLocal_4 : decode cX2_storeLocal 4 = .ok (.iload_n 1, 1) := by decide +kernel
theorem dX2_storeLocal_5 : decode cX2_storeLocal 5 = .ok (.aload_n 0, 1) := by decide +kernel
theorem dX2_storeLocal_6 : decode cX2_storeLocal 6 = .ok (.getfield 77, 3) := by decide +kernel
theorem dX2_storeLocal_9 : decode cX2_storeLocal 9 = .ok (.invokevirtual 129, 3) := by decide +kernel
theorem dX2_storeLocal_12 : decode cX2_storeLocal 12 = .ok (.ifCond .ne 10, 3) := by decide +kernel
theorem dX2_storeLocal_15 : decode cX2_storeLocal 15 = .ok (.aload_n 0, 1) := by decide +kernel
theorem dX2_storeLocal_16 : decode cX2_storeLocal 16 = .ok (.bipush 7, 2) := by decide +kernel
theorem dX2_storeLocal_18 : decode cX2_storeLocal 18 = .ok (.putfield 56, 3) := by decide +kernel
theorem dX2_storeLocal_21 : decode cX2_storeLocal 21 = .ok (.return_, 1) := by decide +kernel
theorem dX2_storeLocal_22 : decode cX2_storeLocal 22 = .ok (.aload_n 0, 1) := by decide +kernel
theorem dX2_storeLocal_23 : decode cX2_storeLocal 23 = .ok (.getfield 24, 3) := by decide +kernel
theorem dX2_storeLocal_26 : decode cX2_storeLocal 26 = .ok (.iload_n 1, 1) := by decide +kernel
theorem dX2_storeLocal_27 : decode cX2_storeLocal 27 = .ok (.aload_n 0, 1) := by decide +kernel
theorem dX2_storeLocal_28 : decode cX2_storeLocal 28 = .ok (.getfield 77, 3) := by decide +kernel
theorem dX2_storeLocal_31 : decode cX2_storeLocal 31 = .ok (.iload_n 2, 1) := by decide +kernel
theorem dX2_storeLocal_32 : decode cX2_storeLocal 32 = .ok (.i2l, 1) := by decide +kernel
theorem dX2_storeLocal_33 : decode cX2_storeLocal 33 = .ok (.invokevirtual 153, 3) := by decide +kernel
theorem dX2_storeLocal_36 : decode cX2_storeLocal 36 = .ok (.return_, 1) := by decide +kernel
theorem dX2_storeMemory_0 : decode cX2_storeMemory 0 = .ok (.aload_n 0, 1) := by decide +kernel
theorem dX2_storeMemory_1 : decode cX2_storeMemory 1 = .ok (.iload_n 1, 1) := by decide +kernel
theorem dX2_storeMemory_2 : decode cX2_storeMemory 2 = .ok (.iload_n 2, 1) := by decide +kernel
theorem dX2_storeMemory_3 : decode cX2_storeMemory 3 = .ok (.invokevirtual 157, 3) := by decide +kernel
theorem dX2_storeMemory_6 : decode cX2_storeMemory 6 = .ok (.ifCond .eq 14, 3) := by decide +kernel
theorem dX2_storeMemory_9 : decode cX2_storeMemory 9 = .ok (.aload_n 0, 1) := by decide +kernel
theorem dX2_storeMemory_10 : decode cX2_storeMemory 10 = .ok (.getfield 9, 3) := by decide +kernel
theorem dX2_storeMemory_13 : decode cX2_storeMemory 13 = .ok (.iload_n 1, 1) := by decide +kernel
theorem dX2_storeMemory_14 : decode cX2_storeMemory 14 = .ok (.iload_n 2, 1) := by decide +kernel
theorem dX2_storeMemory_15 : decode cX2_storeMemory 15 = .ok (.iload_n 3, 1) := by decide +kernel
theorem dX2_storeMemory_16 : decode cX2_storeMemory 16 = .ok (.i2l, 1) := by decide +kernel
theorem dX2_storeMemory_17 : decode cX2_storeMemory 17 = .ok (.invokevirtual 153, 3) := by decide +kernel
theorem dX2_storeMemory_20 : decode cX2_storeMemory 20 = .ok (.return_, 1) := by decide +kernel
theorem dX2_mayStore_0 : decode cX2_mayStore 0 = .ok (.aload_n 0, 1) := by decide +kernel
theorem dX2_mayStore_1 : decode cX2_mayStore 1 = .ok (.getfield 9, 3) := by decide +kernel
theorem dX2_mayStore_4 : decode cX2_mayStore 4 = .ok (.iload_n 1, 1) := by decide +kernel
theorem dX2_mayStore_5 : decode cX2_mayStore 5 = .ok (.iload_n 2, 1) := by decide +kernel
theorem dX2_mayStore_6 : decode cX2_mayStore 6 = .ok (.invokevirtual 129, 3) := by decide +kernel
theorem dX2_mayStore_9 : decode cX2_mayStore 9 = .ok (.ifCond .ne 11, 3) := by decide +kernel
theorem dX2_mayStore_12 : decode cX2_mayStore 12 = .ok (.aload_n 0, 1) := by decide +kernel
theorem dX2_mayStore_13 : decode cX2_mayStore 13 = .ok (.iconst 1, 1) := by decide +kernel
theorem dX2_mayStore_14 : decode cX2_mayStore 14 = .ok (.putfield 56, 3) := by decide +kernel
theorem dX2_mayStore_17 : decode cX2_mayStore 17 = .ok (.goto 17, 3) := by decide +kernel
theorem dX2_mayStore_20 : decode cX2_mayStore 20 = .ok (.iload_n 1, 1) := by decide +kernel
theorem dX2_mayStore_21 : decode cX2_mayStore 21 = .ok (.aload_n 0, 1) := by decide +kernel
theorem dX2_mayStore_22 : decode cX2_mayStore 22 = .ok (.getfield 45, 3) := by decide +kernel
theorem dX2_mayStore_25 : decode cX2_mayStore 25 = .ok (.if_icmp .ge 9, 3) := by decide +kernel
theorem dX2_mayStore_28 : decode cX2_mayStore 28 = .ok (.aload_n 0, 1) := by decide +kernel
theorem dX2_mayStore_29 : decode cX2_mayStore 29 = .ok (.bipush 8, 2) := by decide +kernel
theorem dX2_mayStore_31 : decode cX2_mayStore 31 = .ok (.putfield 56, 3) := by decide +kernel
theorem dX2_mayStore_34 : decode cX2_mayStore 34 = .ok (.aload_n 0, 1) := by decide +kernel
theorem dX2_mayStore_35 : decode cX2_mayStore 35 = .ok (.getfield 56, 3) := by decide +kernel
theorem dX2_mayStore_38 : decode cX2_mayStore 38 = .ok (.ifCond .ne 7, 3) := by decide +kernel
theorem dX2_mayStore_41 : decode cX2_mayStore 41 = .ok (.iconst 1, 1) := by decide +kernel
theorem dX2_mayStore_42 : decode cX2_mayStore 42 = .ok (.goto 4, 3) := by decide +kernel
theorem dX2_mayStore_45 : decode cX2_mayStore 45 = .ok (.iconst 0, 1) := by decide +kernel
theorem dX2_mayStore_46 : decode cX2_mayStore 46 = .ok (.ireturn, 1) := by decide +kernel
theorem dX2_perform_0 : decode cX2_perform 0 = .ok (.aload_n 0, 1) := by decide +kernel
theorem dX2_perform_1 : decode cX2_perform 1 = .ok (.iconst 0, 1) := by decide +kernel
theorem dX2_perform_2 : decode cX2_perform 2 = .ok (.invokevirtual 160, 3) := by decide +kernel
theorem dX2_perform_5 : decode cX2_perform 5 = .ok (.istore_n 2, 1) := by decide +kernel
theorem dX2_perform_6 : decode cX2_perform 6 = .ok (.aload_n 0, 1) := by decide +kernel
theorem dX2_perform_7 : decode cX2_perform 7 = .ok (.iconst 1, 1) := by decide +kernel
theorem dX2_perform_8 : decode cX2_perform 8 = .ok (.invokevirtual 160, 3) := by decide +kernel
theorem dX2_perform_11 : decode cX2_perform 11 = .ok (.istore_n 3, 1) := by decide +kernel
theorem dX2_perform_12 : decode cX2_perform 12 = .ok (.iload_n 1, 1) := by decide +kernel
theorem dX2_perform_13 : decode cX2_perform 13 = .ok (.iconst 4, 1) := by decide +kernel
theorem dX2_perform_14 : decode cX2_perform 14 = .ok (.ishr, 1) := by decide +kernel
theorem dX2_perform_15 : decode cX2_perform 15 = .ok (.tableswitch 221 1 23 #[105, 113, 124, 130, 153, 221, 221, 221, 221, 221, 221, 221, 221, 221, 221, 161, 221, 181, 221, 221, 187, 221, 193], 105) := by decide +kernel
theorem dX2_perform_120 : decode cX2_perform 120 = .ok (.aload_n 0, 1) := by decide +kernel
theorem dX2_perform_121 : decode cX2_perform 121 = .ok (.iload_n 1, 1) := by decide +kernel
theorem dX2_perform_122 : decode cX2_perform 122 = .ok (.iload_n 2, 1) := by decide +kernel
theorem dX2_perform_123 : decode cX2_perform 123 = .ok (.iload_n 3, 1) := by decide +kernel
theorem dX2_perform_124 : decode cX2_perform 124 = .ok (.invokevirtual 163, 3) := by decide +kernel
theorem dX2_perform_127 : decode cX2_perform 127 = .ok (.ireturn, 1) := by decide +kernel
theorem dX2_perform_128 : decode cX2_perform 128 = .ok (.aload_n 0, 1) := by decide +kernel
theorem dX2_perform_129 : decode cX2_perform 129 = .ok (.iload_n 1, 1) := by decide +kernel
theorem dX2_perform_130 : decode cX2_perform 130 = .ok (.iload_n 2, 1) := by decide +kernel
theorem dX2_perform_131 : decode cX2_perform 131 = .ok (.iload_n 3, 1) := by decide +kernel
theorem dX2_perform_132 : decode cX2_perform 132 = .ok (.invokestatic 167, 3) := by decide +kernel
theorem dX2_perform_135 : decode cX2_perform 135 = .ok (.invokevirtual 173, 3) := by decide +kernel
theorem dX2_perform_138 : decode cX2_perform 138 = .ok (.ireturn, 1) := by decide +kernel
theorem dX2_perform_139 : decode cX2_perform 139 = .ok (.aload_n 0, 1) := by decide +kernel
theorem dX2_perform_140 : decode cX2_perform 140 = .ok (.iload_n 2, 1) := by decide +kernel
theorem dX2_perform_141 : decode cX2_perform 141 = .ok (.invokevirtual 177, 3) := by decide +kernel
theorem dX2_perform_144 : decode cX2_perform 144 = .ok (.ireturn, 1) := by decide +kernel
theorem dX2_perform_145 : decode cX2_perform 145 = .ok (.iload_n 1, 1) := by decide +kernel
theorem dX2_perform_146 : decode cX2_perform 146 = .ok (.bipush 72, 2) := by decide +kernel
theorem dX2_perform_148 : decode cX2_perform 148 = .ok (.if_icmp .ge 12, 3) := by decide +kernel
theorem dX2_perform_151 : decode cX2_perform 151 = .ok (.iload_n 1, 1) := by decide +kernel
theorem dX2_perform_152 : decode cX2_perform 152 = .ok (.iload_n 2, 1) := by decide +kernel
theorem dX2_perform_153 : decode cX2_perform 153 = .ok (.iload_n 3, 1) := by decide +kernel
theorem dX2_perform_154 : decode cX2_perform 154 = .ok (.invokestatic 180, 3) := by decide +kernel
theorem dX2_perform_157 : decode cX2_perform 157 = .ok (.goto 10, 3) := by decide +kernel
theorem dX2_perform_160 : decode cX2_perform 160 = .ok (.aload_n 0, 1) := by decide +kernel
theorem dX2_perform_161 : decode cX2_perform 161 = .ok (.iload_n 1, 1) := by decide +kernel
theorem dX2_perform_162 : decode cX2_perform 162 = .ok (.iload_n 2, 1) := by decide +kernel
theorem dX2_perform_163 : decode cX2_perform 163 = .ok (.iload_n 3, 1) := by decide +kernel
theorem dX2_perform_164 : decode cX2_perform 164 = .ok (.invokevirtual 183, 3) := by decide +kernel
theorem dX2_perform_167 : decode cX2_perform 167 = .ok (.ireturn, 1) := by decide +kernel
theorem dX2_perform_168 : decode cX2_perform 168 = .ok (.aload_n 0, 1) := by decide +kernel
theorem dX2_perform_169 : decode cX2_perform 169 = .ok (.iload_n 1, 1) := by decide +kernel
theorem dX2_perform_170 : decode cX2_perform 170 = .ok (.iload_n 2, 1) := by decide +kernel
theorem dX2_perform_171 : decode cX2_perform 171 = .ok (.iload_n 3, 1) := by decide +kernel
theorem dX2_perform_172 : decode cX2_perform 172 = .ok (.invokevirtual 186, 3) := by decide +kernel
theorem dX2_perform_175 : decode cX2_perform 175 = .ok (.ireturn, 1) := by decide +kernel
theorem dX2_perform_176 : decode cX2_perform 176 = .ok (.iload_n 1, 1) := by decide +kernel
theorem dX2_perform_177 : decode cX2_perform 177 = .ok (.sipush 260, 3) := by decide +kernel
theorem dX2_perform_180 : decode cX2_perform 180 = .ok (.if_icmp .ne 11, 3) := by decide +kernel
theorem dX2_perform_183 : decode cX2_perform 183 = .ok (.aload_n 0, 1) := by decide +kernel
theorem dX2_perform_184 : decode cX2_perform 184 = .ok (.iload_n 2, 1) := by decide +kernel
theorem dX2_perform_185 : decode cX2_perform 185 = .ok (.invokevirtual 189, 3) := by decide +kernel
theorem dX2_perform_188 : decode cX2_perform 188 = .ok (.goto 7, 3) := by decide +kernel
theorem dX2_perform_191 : decode cX2_perform 191 = .ok (.iload_n 2, 1) := by decide +kernel
theorem dX2_perform_192 : decode cX2_perform 192 = .ok (.invokestatic 192, 3) := by decide +kernel
theorem dX2_perform_195 : decode cX2_perform 195 = .ok (.ireturn, 1) := by decide +kernel
theorem dX2_perform_196 : decode cX2_perform 196 = .ok (.aload_n 0, 1) := by decide +kernel
theorem dX2_perform_197 : decode cX2_perform 197 = .ok (.iconst 0, 1) := by decide +kernel
theorem dX2_perform_198 : decode cX2_perform 198 = .ok (.invokevirtual 177, 3) := by decide +kernel
theorem dX2_perform_201 : decode cX2_perform 201 = .ok (.ireturn, 1) := by decide +kernel
theorem dX2_perform_202 : decode cX2_perform 202 = .ok (.aload_n 0, 1) := by decide +kernel
theorem dX2_perform_203 : decode cX2_perform 203 = .ok (.iload_n 1, 1) := by decide +kernel
theorem dX2_perform_204 : decode cX2_perform 204 = .ok (.invokevirtual 195, 3) := by decide +kernel
theorem dX2_perform_207 : decode cX2_perform 207 = .ok (.ireturn, 1) := by decide +kernel
theorem dX2_perform_208 : decode cX2_perform 208 = .ok (.iload_n 1, 1) := by decide +kernel
theorem dX2_perform_209 : decode cX2_perform 209 = .ok (.sipush 368, 3) := by decide +kernel
theorem dX2_perform_212 : decode cX2_perform 212 = .ok (.if_icmp .ne 12, 3) := by decide +kernel
theorem dX2_perform_215 : decode cX2_perform 215 = .ok (.aload_n 0, 1) := by decide +kernel
theorem dX2_perform_216 : decode cX2_perform 216 = .ok (.iload_n 2, 1) := by decide +kernel
theorem dX2_perform_217 : decode cX2_perform 217 = .ok (.iload_n 3, 1) := by decide +kernel
theorem dX2_perform_218 : decode cX2_perform 218 = .ok (.invokevirtual 198, 3) := by decide +kernel
theorem dX2_perform_221 : decode cX2_perform 221 = .ok (.goto 14, 3) := by decide +kernel
theorem dX2_perform_224 : decode cX2_perform 224 = .ok (.aload_n 0, 1) := by decide +kernel
theorem dX2_perform_225 : decode cX2_perform 225 = .ok (.iload_n 2, 1) := by decide +kernel
theorem dX2_perform_226 : decode cX2_perform 226 = .ok (.iload_n 3, 1) := by decide +kernel
theorem dX2_perform_227 : decode cX2_perform 227 = .ok (.aload_n 0, 1) := by decide +kernel
theorem dX2_perform_228 : decode cX2_perform 228 = .ok (.iconst 2, 1) := by decide +kernel
theorem dX2_perform_229 : decode cX2_perform 229 = .ok (.invokevirtual 160, 3) := by decide +kernel
theorem dX2_perform_232 : decode cX2_perform 232 = .ok (.invokevirtual 201, 3) := by decide +kernel
theorem dX2_perform_235 : decode cX2_perform 235 = .ok (.ireturn, 1) := by decide +kernel
theorem dX2_perform_236 : decode cX2_perform 236 = .ok (.iconst 0, 1) := by decide +kernel
theorem dX2_perform_237 : decode cX2_perform 237 = .ok (.ireturn, 1) := by decide +kernel
theorem dX2_reckon_0 : decode cX2_reckon 0 = .ok (.iload_n 1, 1) := by decide +kernel
theorem dX2_reckon_1 : decode cX2_reckon 1 = .ok (.bipush 19, 2) := by decide +kernel
theorem dX2_reckon_3 : decode cX2_reckon 3 = .ok (.if_icmp .eq 9, 3) := by decide +kernel
theorem dX2_reckon_6 : decode cX2_reckon 6 = .ok (.iload_n 1, 1) := by decide +kernel
theorem dX2_reckon_7 : decode cX2_reckon 7 = .ok (.bipush 20, 2) := by decide +kernel
theorem dX2_reckon_9 : decode cX2_reckon 9 = .ok (.if_icmp .ne 15, 3) := by decide +kernel
theorem dX2_reckon_12 : decode cX2_reckon 12 = .ok (.iload_n 3, 1) := by decide +kernel
theorem dX2_reckon_13 : decode cX2_reckon 13 = .ok (.ifCond .ne 11, 3) := by decide +kernel
theorem dX2_reckon_16 : decode cX2_reckon 16 = .ok (.aload_n 0, 1) := by decide +kernel
theorem dX2_reckon_17 : decode cX2_reckon 17 = .ok (.bipush 6, 2) := by decide +kernel
theorem dX2_reckon_19 : decode cX2_reckon 19 = .ok (.putfield 56, 3) := by decide +kernel
theorem dX2_reckon_22 : decode cX2_reckon 22 = .ok (.iconst 0, 1) := by decide +kernel
theorem dX2_reckon_23 : decode cX2_reckon 23 = .ok (.ireturn, 1) := by decide +kernel
theorem dX2_reckon_24 : decode cX2_reckon 24 = .ok (.iload_n 1, 1) := by decide +kernel
theorem dX2_reckon_25 : decode cX2_reckon 25 = .ok (.iload_n 2, 1) := by decide +kernel
theorem dX2_reckon_26 : decode cX2_reckon 26 = .ok (.iload_n 3, 1) := by decide +kernel
theorem dX2_reckon_27 : decode cX2_reckon 27 = .ok (.invokestatic 180, 3) := by decide +kernel
theorem dX2_reckon_30 : decode cX2_reckon 30 = .ok (.ireturn, 1) := by decide +kernel
theorem dX2_branchIf_0 : decode cX2_branchIf 0 = .ok (.aload_n 0, 1) := by decide +kernel
theorem dX2_branchIf_1 : decode cX2_branchIf 1 = .ok (.aload_n 0, 1) := by decide +kernel
theorem dX2_branchIf_2 : decode cX2_branchIf 2 = .ok (.getfield 37, 3) := by decide +kernel
theorem dX2_branchIf_5 : decode cX2_branchIf 5 = .ok (.getfield 89, 3) := by decide +kernel
theorem dX2_branchIf_8 : decode cX2_branchIf 8 = .ok (.iconst 1, 1) := by decide +kernel
theorem dX2_branchIf_9 : decode cX2_branchIf 9 = .ok (.isub, 1) := by decide +kernel
theorem dX2_branchIf_10 : decode cX2_branchIf 10 = .ok (.invokevirtual 160, 3) := by decide +kernel
theorem dX2_branchIf_13 : decode cX2_branchIf 13 = .ok (.istore_n 2, 1) := by decide +kernel
theorem dX2_branchIf_14 : decode cX2_branchIf 14 = .ok (.iload_n 1, 1) := by decide +kernel
theorem dX2_branchIf_15 : decode cX2_branchIf 15 = .ok (.ifCond .ne 5, 3) := by decide +kernel
theorem dX2_branchIf_18 : decode cX2_branchIf 18 = .ok (.iconst 0, 1) := by decide +kernel
theorem dX2_branchIf_19 : decode cX2_branchIf 19 = .ok (.ireturn, 1) := by decide +kernel
theorem dX2_branchIf_20 : decode cX2_branchIf 20 = .ok (.iload_n 2, 1) := by decide +kernel
theorem dX2_branchIf_21 : decode cX2_branchIf 21 = .ok (.ifCond .eq 8, 3) := by decide +kernel
theorem dX2_branchIf_24 : decode cX2_branchIf 24 = .ok (.iload_n 2, 1) := by decide +kernel
theorem dX2_branchIf_25 : decode cX2_branchIf 25 = .ok (.iconst 1, 1) := by decide +kernel
theorem dX2_branchIf_26 : decode cX2_branchIf 26 = .ok (.if_icmp .ne 9, 3) := by decide +kernel
theorem dX2_branchIf_29 : decode cX2_branchIf 29 = .ok (.aload_n 0, 1) := by decide +kernel
theorem dX2_branchIf_30 : decode cX2_branchIf 30 = .ok (.iload_n 2, 1) := by decide +kernel
theorem dX2_branchIf_31 : decode cX2_branchIf 31 = .ok (.invokevirtual 177, 3) := by decide +kernel
theorem dX2_branchIf_34 : decode cX2_branchIf 34 = .ok (.ireturn, 1) := by decide +kernel
theorem dX2_branchIf_35 : decode cX2_branchIf 35 = .ok (.aload_n 0, 1) := by decide +kernel
theorem dX2_branchIf_36 : decode cX2_branchIf 36 = .ok (.aload_n 0, 1) := by decide +kernel
theorem dX2_branchIf_37 : decode cX2_branchIf 37 = .ok (.getfield 65, 3) := by decide +kernel
theorem dX2_branchIf_40 : decode cX2_branchIf 40 = .ok (.iload_n 2, 1) := by decide +kernel
theorem dX2_branchIf_41 : decode cX2_branchIf 41 = .ok (.iadd, 1) := by decide +kernel
theorem dX2_branchIf_42 : decode cX2_branchIf 42 = .ok (.iconst 2, 1) := by decide +kernel
theorem dX2_branchIf_43 : decode cX2_branchIf 43 = .ok (.isub, 1) := by decide +kernel
theorem dX2_branchIf_44 : decode cX2_branchIf 44 = .ok (.invokevirtual 189, 3) := by decide +kernel
theorem dX2_branchIf_47 : decode cX2_branchIf 47 = .ok (.ireturn, 1) := by decide +kernel
theorem dX2_jump_0 : decode cX2_jump 0 = .ok (.aload_n 0, 1) := by decide +kernel
theorem dX2_jump_1 : decode cX2_jump 1 = .ok (.iload_n 1, 1) := by decide +kernel
theorem dX2_jump_2 : decode cX2_jump 2 = .ok (.putfield 65, 3) := by decide +kernel
theorem dX2_jump_5 : decode cX2_jump 5 = .ok (.iconst 0, 1) := by decide +kernel
theorem dX2_jump_6 : decode cX2_jump 6 = .ok (.ireturn, 1) := by decide +kernel
theorem dX2_end_0 : decode cX2_end 0 = .ok (.aload_n 0, 1) := by decide +kernel
theorem dX2_end_1 : decode cX2_end 1 = .ok (.iconst 1, 1) := by decide +kernel
theorem dX2_end_2 : decode cX2_end 2 = .ok (.putfield 204, 3) := by decide +kernel
theorem dX2_end_5 : decode cX2_end 5 = .ok (.aload_n 0, 1) := by decide +kernel
theorem dX2_end_6 : decode cX2_end 6 = .ok (.iload_n 1, 1) := by decide +kernel
theorem dX2_end_7 : decode cX2_end 7 = .ok (.putfield 208, 3) := by decide +kernel
theorem dX2_end_10 : decode cX2_end 10 = .ok (.iconst 0, 1) := by decide +kernel
theorem dX2_end_11 : decode cX2_end 11 = .ok (.ireturn, 1) := by decide +kernel
theorem dX2_array_0 : decode cX2_array 0 = .ok (.iload_n 1, 1) := by decide +kernel
theorem dX2_array_1 : decode cX2_array 1 = .ok (.iconst 3, 1) := by decide +kernel
theorem dX2_array_2 : decode cX2_array 2 = .ok (.iand, 1) := by decide +kernel
theorem dX2_array_3 : decode cX2_array 3 = .ok (.istore 4, 2) := by decide +kernel
theorem dX2_array_5 : decode cX2_array 5 = .ok (.iload 4, 2) := by decide +kernel
theorem dX2_array_7 : decode cX2_array 7 = .ok (.iload_n 2, 1) := by decide +kernel
theorem dX2_array_8 : decode cX2_array 8 = .ok (.iload_n 3, 1) := by decide +kernel
theorem dX2_array_9 : decode cX2_array 9 = .ok (.invokestatic 211, 3) := by decide +kernel
theorem dX2_array_12 : decode cX2_array 12 = .ok (.istore 5, 2) := by decide +kernel
theorem dX2_array_14 : decode cX2_array 14 = .ok (.iload 4, 2) := by decide +kernel
theorem dX2_array_16 : decode cX2_array 16 = .ok (.invokestatic 214, 3) := by decide +kernel
theorem dX2_array_19 : decode cX2_array 19 = .ok (.istore 6, 2) := by decide +kernel
theorem dX2_array_21 : decode cX2_array 21 = .ok (.iload_n 1, 1) := by decide +kernel
theorem dX2_array_22 : decode cX2_array 22 = .ok (.bipush 76, 2) := by decide +kernel
theorem dX2_array_24 : decode cX2_array 24 = .ok (.if_icmp .ge 34, 3) := by decide +kernel
theorem dX2_array_27 : decode cX2_array 27 = .ok (.aload_n 0, 1) := by decide +kernel
theorem dX2_array_28 : decode cX2_array 28 = .ok (.iload 5, 2) := by decide +kernel
theorem dX2_array_30 : decode cX2_array 30 = .ok (.iload 6, 2) := by decide +kernel
theorem dX2_array_32 : decode cX2_array 32 = .ok (.invokevirtual 114, 3) := by decide +kernel
theorem dX2_array_35 : decode cX2_array 35 = .ok (.istore 7, 2) := by decide +kernel
theorem dX2_array_37 : decode cX2_array 37 = .ok (.iload 4, 2) := by decide +kernel
theorem dX2_array_39 : decode cX2_array 39 = .ok (.iconst 3, 1) := by decide +kernel
theorem dX2_array_40 : decode cX2_array 40 = .ok (.if_icmp .ne 15, 3) := by decide +kernel
theorem dX2_array_43 : decode cX2_array 43 = .ok (.iload 7, 2) := by decide +kernel
theorem dX2_array_45 : decode cX2_array 45 = .ok (.iload_n 3, 1) := by decide +kernel
theorem dX2_array_46 : decode cX2_array 46 = .ok (.bipush 7, 2) := by decide +kernel
theorem dX2_array_48 : decode cX2_array 48 = .ok (.iand, 1) := by decide +kernel
theorem dX2_array_49 : decode cX2_array 49 = .ok (.ishr, 1) := by decide +kernel
theorem dX2_array_50 : decode cX2_array 50 = .ok (.iconst 1, 1) := by decide +kernel
theorem dX2_array_51 : decode cX2_array 51 = .ok (.iand, 1) := by decide +kernel
theorem dX2_array_52 : decode cX2_array 52 = .ok (.goto 5, 3) := by decide +kernel
theorem dX2_array_55 : decode cX2_array 55 = .ok (.iload 7, 2) := by decide +kernel
theorem dX2_array_57 : decode cX2_array 57 = .ok (.ireturn, 1) := by decide +kernel
theorem dX2_array_58 : decode cX2_array 58 = .ok (.aload_n 0, 1) := by decide +kernel
theorem dX2_array_59 : decode cX2_array 59 = .ok (.iconst 2, 1) := by decide +kernel
theorem dX2_array_60 : decode cX2_array 60 = .ok (.invokevirtual 160, 3) := by decide +kernel
theorem dX2_array_63 : decode cX2_array 63 = .ok (.istore 7, 2) := by decide +kernel
theorem dX2_array_65 : decode cX2_array 65 = .ok (.aload_n 0, 1) := by decide +kernel
theorem dX2_array_66 : decode cX2_array 66 = .ok (.iload 5, 2) := by decide +kernel
theorem dX2_array_68 : decode cX2_array 68 = .ok (.iload 6, 2) := by decide +kernel
theorem dX2_array_70 : decode cX2_array 70 = .ok (.iload 4, 2) := by decide +kernel
theorem dX2_array_72 : decode cX2_array 72 = .ok (.iconst 3, 1) := by decide +kernel
theorem dX2_array_73 : decode cX2_array 73 = .ok (.if_icmp .ne 32, 3) := by decide +kernel
theorem dX2_array_76 : decode cX2_array 76 = .ok (.aload_n 0, 1) := by decide +kernel
theorem dX2_array_77 : decode cX2_array 77 = .ok (.getfield 9, 3) := by decide +kernel
theorem dX2_array_80 : decode cX2_array 80 = .ok (.iload 5, 2) := by decide +kernel
theorem dX2_array_82 : decode cX2_array 82 = .ok (.invokevirtual 217, 3) := by decide +kernel
theorem dX2_array_85 : decode cX2_array 85 = .ok (.iload_n 3, 1) := by decide +kernel
theorem dX2_array_86 : decode cX2_array 86 = .ok (.bipush 7, 2) := by decide +kernel
theorem dX2_array_88 : decode cX2_array 88 = .ok (.iand, 1) := by decide +kernel
theorem dX2_array_89 : decode cX2_array 89 = .ok (.iload 7, 2) := by decide +kernel
theorem dX2_array_91 : decode cX2_array 91 = .ok (.ifCond .eq 7, 3) := by decide +kernel
theorem dX2_array_94 : decode cX2_array 94 = .ok (.iconst 1, 1) := by decide +kernel
theorem dX2_array_95 : decode cX2_array 95 = .ok (.goto 4, 3) := by decide +kernel
theorem dX2_array_98 : decode cX2_array 98 = .ok (.iconst 0, 1) := by decide +kernel
theorem dX2_array_99 : decode cX2_array 99 = .ok (.invokestatic 220, 3) := by decide +kernel
theorem dX2_array_102 : decode cX2_array 102 = .ok (.goto 5, 3) := by decide +kernel
theorem dX2_array_105 : decode cX2_array 105 = .ok (.iload 7, 2) := by decide +kernel
theorem dX2_array_107 : decode cX2_array 107 = .ok (.invokevirtual 136, 3) := by decide +kernel
theorem dX2_array_110 : decode cX2_array 110 = .ok (.iconst 0, 1) := by decide +kernel
theorem dX2_array_111 : decode cX2_array 111 = .ok (.ireturn, 1) := by decide +kernel
theorem dX2_itemPlace_0 : decode cX2_itemPlace 0 = .ok (.iload_n 0, 1) := by decide +kernel
theorem dX2_itemPlace_1 : decode cX2_itemPlace 1 = .ok (.tableswitch 43 0 2 #[27, 33, 39], 27) := by decide +kernel
theorem dX2_itemPlace_28 : decode cX2_itemPlace 28 = .ok (.iload_n 1, 1) := by decide +kernel
theorem dX2_itemPlace_29 : decode cX2_itemPlace 29 = .ok (.iconst 4, 1) := by decide +kernel
theorem dX2_itemPlace_30 : decode cX2_itemPlace 30 = .ok (.iload_n 2, 1) := by decide +kernel
theorem dX2_itemPlace_31 : decode cX2_itemPlace 31 = .ok (.imul, 1) := by decide +kernel
theorem dX2_itemPlace_32 : decode cX2_itemPlace 32 = .ok (.iadd, 1) := by decide +kernel
theorem dX2_itemPlace_33 : decode cX2_itemPlace 33 = .ok (.ireturn, 1) := by decide +kernel
theorem dX2_itemPlace_34 : decode cX2_itemPlace 34 = .ok (.iload_n 1, 1) := by decide +kernel
theorem dX2_itemPlace_35 : decode cX2_itemPlace 35 = .ok (.iconst 2, 1) := by decide +kernel
theorem dX2_itemPlace_36 : decode cX2_itemPlace 36 = .ok (.iload_n 2, 1) := by decide +kernel
theorem dX2_itemPlace_37 : decode cX2_itemPlace 37 = .ok (.imul, 1) := by decide +kernel
theorem dX2_itemPlace_38 : decode cX2_itemPlace 38 = .ok (.iadd, 1) := by decide +kernel
theorem dX2_itemPlace_39 : decode cX2_itemPlace 39 = .ok (.ireturn, 1) := by decide +kernel
theorem dX2_itemPlace_40 : decode cX2_itemPlace 40 = .ok (.iload_n 1, 1) := by decide +kernel
theorem dX2_itemPlace_41 : decode cX2_itemPlace 41 = .ok (.iload_n 2, 1) := by decide +kernel
theorem dX2_itemPlace_42 : decode cX2_itemPlace 42 = .ok (.iadd, 1) := by decide +kernel
theorem dX2_itemPlace_43 : decode cX2_itemPlace 43 = .ok (.ireturn, 1) := by decide +kernel
theorem dX2_itemPlace_44 : decode cX2_itemPlace 44 = .ok (.iload_n 1, 1) := by decide +kernel
theorem dX2_itemPlace_45 : decode cX2_itemPlace 45 = .ok (.iload_n 2, 1) := by decide +kernel
theorem dX2_itemPlace_46 : decode cX2_itemPlace 46 = .ok (.iconst 3, 1) := by decide +kernel
theorem dX2_itemPlace_47 : decode cX2_itemPlace 47 = .ok (.ishr, 1) := by decide +kernel
theorem dX2_itemPlace_48 : decode cX2_itemPlace 48 = .ok (.iadd, 1) := by decide +kernel
theorem dX2_itemPlace_49 : decode cX2_itemPlace 49 = .ok (.ireturn, 1) := by decide +kernel
theorem dX2_itemWidth_0 : decode cX2_itemWidth 0 = .ok (.iload_n 0, 1) := by decide +kernel
theorem dX2_itemWidth_1 : decode cX2_itemWidth 1 = .ok (.lookupswitch 31 #[(0, 27), (1, 29)], 27) := by decide +kernel
theorem dX2_itemWidth_28 : decode cX2_itemWidth 28 = .ok (.iconst 4, 1) := by decide +kernel
theorem dX2_itemWidth_29 : decode cX2_itemWidth 29 = .ok (.ireturn, 1) := by decide +kernel
theorem dX2_itemWidth_30 : decode cX2_itemWidth 30 = .ok (.iconst 2, 1) := by decide +kernel
theorem dX2_itemWidth_31 : decode cX2_itemWidth 31 = .ok (.ireturn, 1) := by decide +kernel
theorem dX2_itemWidth_32 : decode cX2_itemWidth 32 = .ok (.iconst 1, 1) := by decide +kernel
theorem dX2_itemWidth_33 : decode cX2_itemWidth 33 = .ok (.ireturn, 1) := by decide +kernel
theorem dX2_withBit_0 : decode cX2_withBit 0 = .ok (.iload_n 0, 1) := by decide +kernel
theorem dX2_withBit_1 : decode cX2_withBit 1 = .ok (.iconst 1, 1) := by decide +kernel
theorem dX2_withBit_2 : decode cX2_withBit 2 = .ok (.iload_n 1, 1) := by decide +kernel
theorem dX2_withBit_3 : decode cX2_withBit 3 = .ok (.ishl, 1) := by decide +kernel
theorem dX2_withBit_4 : decode cX2_withBit 4 = .ok (.iconst (-1), 1) := by decide +kernel
theorem dX2_withBit_5 : decode cX2_withBit 5 = .ok (.ixor, 1) := by decide +kernel
theorem dX2_withBit_6 : decode cX2_withBit 6 = .ok (.iand, 1) := by decide +kernel
theorem dX2_withBit_7 : decode cX2_withBit 7 = .ok (.istore_n 3, 1) := by decide +kernel
theorem dX2_withBit_8 : decode cX2_withBit 8 = .ok (.iload_n 2, 1) := by decide +kernel
theorem dX2_withBit_9 : decode cX2_withBit 9 = .ok (.ifCond .eq 11, 3) := by decide +kernel
theorem dX2_withBit_12 : decode cX2_withBit 12 = .ok (.iload_n 3, 1) := by decide +kernel
theorem dX2_withBit_13 : decode cX2_withBit 13 = .ok (.iconst 1, 1) := by decide +kernel
theorem dX2_withBit_14 : decode cX2_withBit 14 = .ok (.iload_n 1, 1) := by decide +kernel
theorem dX2_withBit_15 : decode cX2_withBit 15 = .ok (.ishl, 1) := by decide +kernel
theorem dX2_withBit_16 : decode cX2_withBit 16 = .ok (.ior, 1) := by decide +kernel
theorem dX2_withBit_17 : decode cX2_withBit 17 = .ok (.goto 4, 3) := by decide +kernel
theorem dX2_withBit_20 : decode cX2_withBit 20 = .ok (.iload_n 3, 1) := by decide +kernel
theorem dX2_withBit_21 : decode cX2_withBit 21 = .ok (.ireturn, 1) := by decide +kernel
theorem dX2_onPile_0 : decode cX2_onPile 0 = .ok (.iload_n 1, 1) := by decide +kernel
theorem dX2_onPile_1 : decode cX2_onPile 1 = .ok (.tableswitch 57 80 83 #[31, 39, 45, 50], 31) := by decide +kernel
theorem dX2_onPile_32 : decode cX2_onPile 32 = .ok (.aload_n 0, 1) := by decide +kernel
theorem dX2_onPile_33 : decode cX2_onPile 33 = .ok (.getfield 30, 3) := by decide +kernel
theorem dX2_onPile_36 : decode cX2_onPile 36 = .ok (.getfield 59, 3) := by decide +kernel
theorem dX2_onPile_39 : decode cX2_onPile 39 = .ok (.ireturn, 1) := by decide +kernel
theorem dX2_onPile_40 : decode cX2_onPile 40 = .ok (.aload_n 0, 1) := by decide +kernel
theorem dX2_onPile_41 : decode cX2_onPile 41 = .ok (.iload_n 2, 1) := by decide +kernel
theorem dX2_onPile_42 : decode cX2_onPile 42 = .ok (.invokevirtual 224, 3) := by decide +kernel
theorem dX2_onPile_45 : decode cX2_onPile 45 = .ok (.ireturn, 1) := by decide +kernel
theorem dX2_onPile_46 : decode cX2_onPile 46 = .ok (.aload_n 0, 1) := by decide +kernel
theorem dX2_onPile_47 : decode cX2_onPile 47 = .ok (.invokevirtual 227, 3) := by decide +kernel
theorem dX2_onPile_50 : decode cX2_onPile 50 = .ok (.ireturn, 1) := by decide +kernel
theorem dX2_onPile_51 : decode cX2_onPile 51 = .ok (.aload_n 0, 1) := by decide +kernel
theorem dX2_onPile_52 : decode cX2_onPile 52 = .ok (.iload_n 2, 1) := by decide +kernel
theorem dX2_onPile_53 : decode cX2_onPile 53 = .ok (.iload_n 3, 1) := by decide +kernel
theorem dX2_onPile_54 : decode cX2_onPile 54 = .ok (.invokevirtual 230, 3) := by decide +kernel
theorem dX2_onPile_57 : decode cX2_onPile 57 = .ok (.ireturn, 1) := by decide +kernel
theorem dX2_onPile_58 : decode cX2_onPile 58 = .ok (.aload_n 0, 1) := by decide +kernel
theorem dX2_onPile_59 : decode cX2_onPile 59 = .ok (.iload_n 2, 1) := by decide +kernel
theorem dX2_onPile_60 : decode cX2_onPile 60 = .ok (.invokevirtual 233, 3) := by decide +kernel
theorem dX2_onPile_63 : decode cX2_onPile 63 = .ok (.ireturn, 1) := by decide +kernel
theorem dX2_peek_0 : decode cX2_peek 0 = .ok (.iload_n 1, 1) := by decide +kernel
theorem dX2_peek_1 : decode cX2_peek 1 = .ok (.ifCond .lt 14, 3) := by decide +kernel
theorem dX2_peek_4 : decode cX2_peek 4 = .ok (.iload_n 1, 1) := by decide +kernel
theorem dX2_peek_5 : decode cX2_peek 5 = .ok (.aload_n 0, 1) := by decide +kernel
theorem dX2_peek_6 : decode cX2_peek 6 = .ok (.getfield 30, 3) := by decide +kernel
theorem dX2_peek_9 : decode cX2_peek 9 = .ok (.getfield 59, 3) := by decide +kernel
theorem dX2_peek_12 : decode cX2_peek 12 = .ok (.if_icmp .lt 10, 3) := by decide +kernel
theorem dX2_peek_15 : decode cX2_peek 15 = .ok (.aload_n 0, 1) := by decide +kernel
theorem dX2_peek_16 : decode cX2_peek 16 = .ok (.iconst 4, 1) := by decide +kernel
theorem dX2_peek_17 : decode cX2_peek 17 = .ok (.putfield 56, 3) := by decide +kernel
theorem dX2_peek_20 : decode cX2_peek 20 = .ok (.iconst 0, 1) := by decide +kernel
theorem dX2_peek_21 : decode cX2_peek 21 = .ok (.ireturn, 1) := by decide +kernel
theorem dX2_peek_22 : decode cX2_peek 22 = .ok (.aload_n 0, 1) := by decide +kernel
theorem dX2_peek_23 : decode cX2_peek 23 = .ok (.getfield 30, 3) := by decide +kernel
theorem dX2_peek_26 : decode cX2_peek 26 = .ok (.iload_n 1, 1) := by decide +kernel
theorem dX2_peek_27 : decode cX2_peek 27 = .ok (.invokevirtual 236, 3) := by decide +kernel
theorem dX2_peek_30 : decode cX2_peek 30 = .ok (.ireturn, 1) := by decide +kernel
theorem dX2_swapPile_0 : decode cX2_swapPile 0 = .ok (.aload_n 0, 1) := by decide +kernel
theorem dX2_swapPile_1 : decode cX2_swapPile 1 = .ok (.getfield 30, 3) := by decide +kernel
theorem dX2_swapPile_4 : decode cX2_swapPile 4 = .ok (.iconst 2, 1) := by decide +kernel
theorem dX2_swapPile_5 : decode cX2_swapPile 5 = .ok (.invokevirtual 239, 3) := by decide +kernel
theorem dX2_swapPile_8 : decode cX2_swapPile 8 = .ok (.ifCond .eq 13, 3) := by decide +kernel
theorem dX2_swapPile_11 : decode cX2_swapPile 11 = .ok (.aload_n 0, 1) := by decide +kernel
theorem dX2_swapPile_12 : decode cX2_swapPile 12 = .ok (.getfield 30, 3) := by decide +kernel
theorem dX2_swapPile_15 : decode cX2_swapPile 15 = .ok (.invokevirtual 243, 3) := by decide +kernel
theorem dX2_swapPile_18 : decode cX2_swapPile 18 = .ok (.goto 8, 3) := by decide +kernel
theorem dX2_swapPile_21 : decode cX2_swapPile 21 = .ok (.aload_n 0, 1) := by decide +kernel
theorem dX2_swapPile_22 : decode cX2_swapPile 22 = .ok (.iconst 4, 1) := by decide +kernel
theorem dX2_swapPile_23 : decode cX2_swapPile 23 = .ok (.putfield 56, 3) := by decide +kernel
theorem dX2_swapPile_26 : decode cX2_swapPile 26 = .ok (.iconst 0, 1) := by decide +kernel
theorem dX2_swapPile_27 : decode cX2_swapPile 27 = .ok (.ireturn, 1) := by decide +kernel
theorem dX2_turnPile_0 : decode cX2_turnPile 0 = .ok (.aload_n 0, 1) := by decide +kernel
theorem dX2_turnPile_1 : decode cX2_turnPile 1 = .ok (.getfield 30, 3) := by decide +kernel
theorem dX2_turnPile_4 : decode cX2_turnPile 4 = .ok (.iload_n 1, 1) := by decide +kernel
theorem dX2_turnPile_5 : decode cX2_turnPile 5 = .ok (.invokevirtual 239, 3) := by decide +kernel
theorem dX2_turnPile_8 : decode cX2_turnPile 8 = .ok (.ifCond .eq 15, 3) := by decide +kernel
theorem dX2_turnPile_11 : decode cX2_turnPile 11 = .ok (.aload_n 0, 1) := by decide +kernel
theorem dX2_turnPile_12 : decode cX2_turnPile 12 = .ok (.getfield 30, 3) := by decide +kernel
theorem dX2_turnPile_15 : decode cX2_turnPile 15 = .ok (.iload_n 1, 1) := by decide +kernel
theorem dX2_turnPile_16 : decode cX2_turnPile 16 = .ok (.iload_n 2, 1) := by decide +kernel
theorem dX2_turnPile_17 : decode cX2_turnPile 17 = .ok (.invokevirtual 246, 3) := by decide +kernel
theorem dX2_turnPile_20 : decode cX2_turnPile 20 = .ok (.goto 8, 3) := by decide +kernel
theorem dX2_turnPile_23 : decode cX2_turnPile 23 = .ok (.aload_n 0, 1) := by decide +kernel
theorem dX2_turnPile_24 : decode cX2_turnPile 24 = .ok (.iconst 4, 1) := by decide +kernel
theorem dX2_turnPile_25 : decode cX2_turnPile 25 = .ok (.putfield 56, 3) := by decide +kernel
theorem dX2_turnPile_28 : decode cX2_turnPile 28 = .ok (.iconst 0, 1) := by decide +kernel
theorem dX2_turnPile_29 : decode cX2_turnPile 29 = .ok (.ireturn, 1) := by decide +kernel
theorem dX2_repeatPile_0 : decode cX2_repeatPile 0 = .ok (.aload_n 0, 1) := by decide +kernel
theorem dX2_repeatPile_1 : decode cX2_repeatPile 1 = .ok (.getfield 30, 3) := by decide +kernel
theorem dX2_repeatPile_4 : decode cX2_repeatPile 4 = .ok (.iload_n 1, 1) := by decide +kernel
theorem dX2_repeatPile_5 : decode cX2_repeatPile 5 = .ok (.invokevirtual 239, 3) := by decide +kernel
theorem dX2_repeatPile_8 : decode cX2_repeatPile 8 = .ok (.ifCond .ne 11, 3) := by decide +kernel
theorem dX2_repeatPile_11 : decode cX2_repeatPile 11 = .ok (.aload_n 0, 1) := by decide +kernel
theorem dX2_repeatPile_12 : decode cX2_repeatPile 12 = .ok (.iconst 4, 1) := by decide +kernel
theorem dX2_repeatPile_13 : decode cX2_repeatPile 13 = .ok (.putfield 56, 3) := by decide +kernel
theorem dX2_repeatPile_16 : decode cX2_repeatPile 16 = .ok (.goto 33, 3) := by decide +kernel
theorem dX2_repeatPile_19 : decode cX2_repeatPile 19 = .ok (.iload_n 1, 1) := by decide +kernel
theorem dX2_repeatPile_20 : decode cX2_repeatPile 20 = .ok (.bipush 40, 2) := by decide +kernel
theorem dX2_repeatPile_22 : decode cX2_repeatPile 22 = .ok (.aload_n 0, 1) := by decide +kernel
theorem dX2_repeatPile_23 : decode cX2_repeatPile 23 = .ok (.getfield 30, 3) := by decide +kernel
theorem dX2_repeatPile_26 : decode cX2_repeatPile 26 = .ok (.getfield 59, 3) := by decide +kernel
theorem dX2_repeatPile_29 : decode cX2_repeatPile 29 = .ok (.isub, 1) := by decide +kernel
theorem dX2_repeatPile_30 : decode cX2_repeatPile 30 = .ok (.if_icmp .le 11, 3) := by decide +kernel
theorem dX2_repeatPile_33 : decode cX2_repeatPile 33 = .ok (.aload_n 0, 1) := by decide +kernel
theorem dX2_repeatPile_34 : decode cX2_repeatPile 34 = .ok (.iconst 5, 1) := by decide +kernel
theorem dX2_repeatPile_35 : decode cX2_repeatPile 35 = .ok (.putfield 56, 3) := by decide +kernel
theorem dX2_repeatPile_38 : decode cX2_repeatPile 38 = .ok (.goto 11, 3) := by decide +kernel
theorem dX2_repeatPile_41 : decode cX2_repeatPile 41 = .ok (.aload_n 0, 1) := by decide +kernel
theorem dX2_repeatPile_42 : decode cX2_repeatPile 42 = .ok (.getfield 30, 3) := by decide +kernel
theorem dX2_repeatPile_45 : decode cX2_repeatPile 45 = .ok (.iload_n 1, 1) := by decide +kernel
theorem dX2_repeatPile_46 : decode cX2_repeatPile 46 = .ok (.invokevirtual 249, 3) := by decide +kernel
theorem dX2_repeatPile_49 : decode cX2_repeatPile 49 = .ok (.iconst 0, 1) := by decide +kernel
theorem dX2_repeatPile_50 : decode cX2_repeatPile 50 = .ok (.ireturn, 1) := by decide +kernel
theorem dX2_zeroBlock_0 : decode cX2_zeroBlock 0 = .ok (.iload_n 1, 1) := by decide +kernel
theorem dX2_zeroBlock_1 : decode cX2_zeroBlock 1 = .ok (.ifCond .eq 21, 3) := by decide +kernel
theorem dX2_zeroBlock_4 : decode cX2_zeroBlock 4 = .ok (.aload_n 0, 1) := by decide +kernel
theorem dX2_zeroBlock_5 : decode cX2_zeroBlock 5 = .ok (.iload_n 2, 1) := by decide +kernel
theorem dX2_zeroBlock_6 : decode cX2_zeroBlock 6 = .ok (.iload_n 1, 1) := by decide +kernel
theorem dX2_zeroBlock_7 : decode cX2_zeroBlock 7 = .ok (.invokevirtual 157, 3) := by decide +kernel
theorem dX2_zeroBlock_10 : decode cX2_zeroBlock 10 = .ok (.ifCond .eq 12, 3) := by decide +kernel
theorem dX2_zeroBlock_13 : decode cX2_zeroBlock 13 = .ok (.aload_n 0, 1) := by decide +kernel
theorem dX2_zeroBlock_14 : decode cX2_zeroBlock 14 = .ok (.getfield 9, 3) := by decide +kernel
theorem dX2_zeroBlock_17 : decode cX2_zeroBlock 17 = .ok (.iload_n 2, 1) := by decide +kernel
theorem dX2_zeroBlock_18 : decode cX2_zeroBlock 18 = .ok (.iload_n 1, 1) := by decide +kernel
theorem dX2_zeroBlock_19 : decode cX2_zeroBlock 19 = .ok (.invokevirtual 252, 3) := by decide +kernel
theorem dX2_zeroBlock_22 : decode cX2_zeroBlock 22 = .ok (.iconst 0, 1) := by decide +kernel
theorem dX2_zeroBlock_23 : decode cX2_zeroBlock 23 = .ok (.ireturn, 1) := by decide +kernel
theorem dX2_copyBlock_0 : decode cX2_copyBlock 0 = .ok (.iload_n 1, 1) := by decide +kernel
theorem dX2_copyBlock_1 : decode cX2_copyBlock 1 = .ok (.ifCond .ne 5, 3) := by decide +kernel
theorem dX2_copyBlock_4 : decode cX2_copyBlock 4 = .ok (.iconst 0, 1) := by decide +kernel
theorem dX2_copyBlock_5 : decode cX2_copyBlock 5 = .ok (.ireturn, 1) := by decide +kernel
theorem dX2_copyBlock_6 : decode cX2_copyBlock 6 = .ok (.aload_n 0, 1) := by decide +kernel
theorem dX2_copyBlock_7 : decode cX2_copyBlock 7 = .ok (.getfield 9, 3) := by decide +kernel
theorem dX2_copyBlock_10 : decode cX2_copyBlock 10 = .ok (.iload_n 2, 1) := by decide +kernel
theorem dX2_copyBlock_11 : decode cX2_copyBlock 11 = .ok (.iload_n 1, 1) := by decide +kernel
theorem dX2_copyBlock_12 : decode cX2_copyBlock 12 = .ok (.invokevirtual 129, 3) := by decide +kernel
theorem dX2_copyBlock_15 : decode cX2_copyBlock 15 = .ok (.ifCond .ne 11, 3) := by decide +kernel
theorem dX2_copyBlock_18 : decode cX2_copyBlock 18 = .ok (.aload_n 0, 1) := by decide +kernel
theorem dX2_copyBlock_19 : decode cX2_copyBlock 19 = .ok (.iconst 1, 1) := by decide +kernel
theorem dX2_copyBlock_20 : decode cX2_copyBlock 20 = .ok (.putfield 56, 3) := by decide +kernel
theorem dX2_copyBlock_23 : decode cX2_copyBlock 23 = .ok (.goto 22, 3) := by decide +kernel
theorem dX2_copyBlock_26 : decode cX2_copyBlock 26 = .ok (.aload_n 0, 1) := by decide +kernel
theorem dX2_copyBlock_27 : decode cX2_copyBlock 27 = .ok (.iload_n 3, 1) := by decide +kernel
theorem dX2_copyBlock_28 : decode cX2_copyBlock 28 = .ok (.iload_n 1, 1) := by decide +kernel
theorem dX2_copyBlock_29 : decode cX2_copyBlock 29 = .ok (.invokevirtual 157, 3) := by decide +kernel
theorem dX2_copyBlock_32 : decode cX2_copyBlock 32 = .ok (.ifCond .eq 13, 3) := by decide +kernel
theorem dX2_copyBlock_35 : decode cX2_copyBlock 35 = .ok (.aload_n 0, 1) := by decide +kernel
theorem dX2_copyBlock_36 : decode cX2_copyBlock 36 = .ok (.getfield 9, 3) := by decide +kernel
theorem dX2_copyBlock_39 : decode cX2_copyBlock 39 = .ok (.iload_n 2, 1) := by decide +kernel
theorem dX2_copyBlock_40 : decode cX2_copyBlock 40 = .ok (.iload_n 3, 1) := by decide +kernel
theorem dX2_copyBlock_41 : decode cX2_copyBlock 41 = .ok (.iload_n 1, 1) := by decide +kernel
theorem dX2_copyBlock_42 : decode cX2_copyBlock 42 = .ok (.invokevirtual 255, 3) := by decide +kernel
theorem dX2_copyBlock_45 : decode cX2_copyBlock 45 = .ok (.iconst 0, 1) := by decide +kernel
theorem dX2_copyBlock_46 : decode cX2_copyBlock 46 = .ok (.ireturn, 1) := by decide +kernel
theorem dX2_searchTable_0 : decode cX2_searchTable 0 = .ok (.aload_n 0, 1) := by decide +kernel
theorem dX2_searchTable_1 : decode cX2_searchTable 1 = .ok (.getfield 15, 3) := by decide +kernel
theorem dX2_searchTable_4 : decode cX2_searchTable 4 = .ok (.aload_n 0, 1) := by decide +kernel
theorem dX2_searchTable_5 : decode cX2_searchTable 5 = .ok (.iconst 2, 1) := by decide +kernel
theorem dX2_searchTable_6 : decode cX2_searchTable 6 = .ok (.invokevirtual 160, 3) := by decide +kernel
theorem dX2_searchTable_9 : decode cX2_searchTable 9 = .ok (.aload_n 0, 1) := by decide +kernel
theorem dX2_searchTable_10 : decode cX2_searchTable 10 = .ok (.iconst 3, 1) := by decide +kernel
theorem dX2_searchTable_11 : decode cX2_searchTable 11 = .ok (.invokevirtual 160, 3) := by decide +kernel
theorem dX2_searchTable_14 : decode cX2_searchTable 14 = .ok (.aload_n 0, 1) := by decide +kernel
theorem dX2_searchTable_15 : decode cX2_searchTable 15 = .ok (.iconst 4, 1) := by decide +kernel
theorem dX2_searchTable_16 : decode cX2_searchTable 16 = .ok (.invokevirtual 160, 3) := by decide +kernel
theorem dX2_searchTable_19 : decode cX2_searchTable 19 = .ok (.aload_n 0, 1) := by decide +kernel
theorem dX2_searchTable_20 : decode cX2_searchTable 20 = .ok (.iconst 5, 1) := by decide +kernel
theorem dX2_searchTable_21 : decode cX2_searchTable 21 = .ok (.invokevirtual 160, 3) := by decide +kernel
theorem dX2_searchTable_24 : decode cX2_searchTable 24 = .ok (.invokevirtual 258, 3) := by decide +kernel
theorem dX2_searchTable_27 : decode cX2_searchTable 27 = .ok (.aload_n 0, 1) := by decide +kernel
theorem dX2_searchTable_28 : decode cX2_searchTable 28 = .ok (.getfield 15, 3) := by decide +kernel
theorem dX2_searchTable_31 : decode cX2_searchTable 31 = .ok (.aload_n 0, 1) := by decide +kernel
theorem dX2_searchTable_32 : decode cX2_searchTable 32 = .ok (.iconst 0, 1) := by decide +kernel
theorem dX2_searchTable_33 : decode cX2_searchTable 33 = .ok (.invokevirtual 160, 3) := by decide +kernel
theorem dX2_searchTable_36 : decode cX2_searchTable 36 = .ok (.aload_n 0, 1) := by decide +kernel
theorem dX2_searchTable_37 : decode cX2_searchTable 37 = .ok (.iconst 1, 1) := by decide +kernel
theorem dX2_searchTable_38 : decode cX2_searchTable 38 = .ok (.invokevirtual 160, 3) := by decide +kernel
theorem dX2_searchTable_41 : decode cX2_searchTable 41 = .ok (.aload_n 0, 1) := by decide +kernel
theorem dX2_searchTable_42 : decode cX2_searchTable 42 = .ok (.bipush 6, 2) := by decide +kernel
theorem dX2_searchTable_44 : decode cX2_searchTable 44 = .ok (.invokevirtual 160, 3) := by decide +kernel
theorem dX2_searchTable_47 : decode cX2_searchTable 47 = .ok (.invokevirtual 264, 3) := by decide +kernel
theorem dX2_searchTable_50 : decode cX2_searchTable 50 = .ok (.iload_n 1, 1) := by decide +kernel
theorem dX2_searchTable_51 : decode cX2_searchTable 51 = .ok (.sipush 336, 3) := by decide +kernel
theorem dX2_searchTable_54 : decode cX2_searchTable 54 = .ok (.if_icmp .ne 13, 3) := by decide +kernel
theorem dX2_searchTable_57 : decode cX2_searchTable 57 = .ok (.aload_n 0, 1) := by decide +kernel
theorem dX2_searchTable_58 : decode cX2_searchTable 58 = .ok (.getfield 15, 3) := by decide +kernel
theorem dX2_searchTable_61 : decode cX2_searchTable 61 = .ok (.invokevirtual 267, 3) := by decide +kernel
theorem dX2_searchTable_64 : decode cX2_searchTable 64 = .ok (.goto 10, 3) := by decide +kernel
theorem dX2_searchTable_67 : decode cX2_searchTable 67 = .ok (.aload_n 0, 1) := by decide +kernel
theorem dX2_searchTable_68 : decode cX2_searchTable 68 = .ok (.getfield 15, 3) := by decide +kernel
theorem dX2_searchTable_71 : decode cX2_searchTable 71 = .ok (.invokevirtual 270, 3) := by decide +kernel
theorem dX2_searchTable_74 : decode cX2_searchTable 74 = .ok (.istore_n 2, 1) := by decide +kernel
theorem dX2_searchTable_75 : decode cX2_searchTable 75 = .ok (.aload_n 0, 1) := by decide +kernel
theorem dX2_searchTable_76 : decode cX2_searchTable 76 = .ok (.aload_n 0, 1) := by decide +kernel
theorem dX2_searchTable_77 : decode cX2_searchTable 77 = .ok (.getfield 15, 3) := by decide +kernel
theorem dX2_searchTable_80 : decode cX2_searchTable 80 = .ok (.getfield 273, 3) := by decide +kernel
theorem dX2_searchTable_83 : decode cX2_searchTable 83 = .ok (.putfield 56, 3) := by decide +kernel
theorem dX2_searchTable_86 : decode cX2_searchTable 86 = .ok (.iload_n 2, 1) := by decide +kernel
theorem dX2_searchTable_87 : decode cX2_searchTable 87 = .ok (.ireturn, 1) := by decide +kernel
theorem dX3_init_0 : decode cX3_init 0 = .ok (.aload_n 0, 1) := by decide +kernel
theorem dX3_init_1 : decode cX3_init 1 = .ok (.invokespecial 3, 3) := by decide +kernel
theorem dX3_init_4 : decode cX3_init 4 = .ok (.aload_n 0, 1) := by decide +kernel
theorem dX3_init_5 : decode cX3_init 5 = .ok (.bipush 40, 2) := by decide +kernel
theorem dX3_init_7 : decode cX3_init 7 = .ok (.newarray .int, 2) := by decide +kernel
theorem dX3_init_9 : decode cX3_init 9 = .ok (.putfield 9, 3) := by decide +kernel
theorem dX3_init_12 : decode cX3_init 12 = .ok (.aload_n 0, 1) := by decide +kernel
theorem dX3_init_13 : decode cX3_init 13 = .ok (.bipush 40, 2) := by decide +kernel
theorem dX3_init_15 : decode cX3_init 15 = .ok (.newarray .int, 2) := by decide +kernel
theorem dX3_init_17 : decode cX3_init 17 = .ok (.putfield 15, 3) := by decide +kernel
theorem dX3_init_20 : decode cX3_init 20 = .ok (.aload_n 0, 1) := by decide +kernel
theorem dX3_init_21 : decode cX3_init 21 = .ok (.iconst 0, 1) := by decide +kernel
theorem dX3_init_22 : decode cX3_init 22 = .ok (.putfield 18, 3) := by decide +kernel
theorem dX3_init_25 : decode cX3_init 25 = .ok (.return_, 1) := by decide +kernel
theorem dX3_isFull_0 : decode cX3_isFull 0 = .ok (.aload_n 0, 1) := by decide +kernel
theorem dX3_isFull_1 : decode cX3_isFull 1 = .ok (.getfield 18, 3) := by decide +kernel
theorem dX3_isFull_4 : decode cX3_isFull 4 = .ok (.bipush 40, 2) := by decide +kernel
theorem dX3_isFull_6 : decode cX3_isFull 6 = .ok (.if_icmp .lt 7, 3) := by decide +kernel
theorem dX3_isFull_9 : decode cX3_isFull 9 = .ok (.iconst 1, 1) := by decide +kernel
theorem dX3_isFull_10 : decode cX3_isFull 10 = .ok (.goto 4, 3) := by decide +kernel
theorem dX3_isFull_13 : decode cX3_isFull 13 = .ok (.iconst 0, 1) := by decide +kernel
theorem dX3_isFull_14 : decode cX3_isFull 14 = .ok (.ireturn, 1) := by decide +kernel
theorem dX3_cell_0 : decode cX3_cell 0 = .ok (.iload_n 1, 1) := by decide +kernel
theorem dX3_cell_1 : decode cX3_cell 1 = .ok (.ifCond .lt 21, 3) := by decide +kernel
theorem dX3_cell_4 : decode cX3_cell 4 = .ok (.iload_n 1, 1) := by decide +kernel
theorem dX3_cell_5 : decode cX3_cell 5 = .ok (.aload_n 0, 1) := by decide +kernel
theorem dX3_cell_6 : decode cX3_cell 6 = .ok (.getfield 9, 3) := by decide +kernel
theorem dX3_cell_9 : decode cX3_cell 9 = .ok (.arraylength, 1) := by decide +kernel
theorem dX3_cell_10 : decode cX3_cell 10 = .ok (.if_icmp .ge 12, 3) := by decide +kernel
theorem dX3_cell_13 : decode cX3_cell 13 = .ok (.aload_n 0, 1) := by decide +kernel
theorem dX3_cell_14 : decode cX3_cell 14 = .ok (.getfield 9, 3) := by decide +kernel
theorem dX3_cell_17 : decode cX3_cell 17 = .ok (.iload_n 1, 1) := by decide +kernel
theorem dX3_cell_18 : decode cX3_cell 18 = .ok (.iaload, 1) := by decide +kernel
theorem dX3_cell_19 : decode cX3_cell 19 = .ok (.goto 4, 3) := by decide +kernel
theorem dX3_cell_22 : decode cX3_cell 22 = .ok (.iconst 0, 1) := by decide +kernel
theorem dX3_cell_23 : decode cX3_cell 23 = .ok (.ireturn, 1) := by decide +kernel
theorem dX3_setCell_0 : decode cX3_setCell 0 = .ok (.iload_n 1, 1) := by decide +kernel
theorem dX3_setCell_1 : decode cX3_setCell 1 = .ok (.ifCond .lt 19, 3) := by decide +kernel
theorem dX3_setCell_4 : decode cX3_setCell 4 = .ok (.iload_n 1, 1) := by decide +kernel
theorem dX3_setCell_5 : decode cX3_setCell 5 = .ok (.aload_n 0, 1) := by decide +kernel
theorem dX3_setCell_6 : decode cX3_setCell 6 = .ok (.getfield 9, 3) := by decide +kernel
theorem dX3_setCell_9 : decode cX3_setCell 9 = .ok (.arraylength, 1) := by decide +kernel
theorem dX3_setCell_10 : decode cX3_setCell 10 = .ok (.if_icmp .ge 10, 3) := by decide +kernel
theorem dX3_setCell_13 : decode cX3_setCell 13 = .ok (.aload_n 0, 1) := by decide +kernel
theorem dX3_setCell_14 : decode cX3_setCell 14 = .ok (.getfield 9, 3) := by decide +kernel
theorem dX3_setCell_17 : decode cX3_setCell 17 = .ok (.iload_n 1, 1) := by decide +kernel
theorem dX3_setCell_18 : decode cX3_setCell 18 = .ok (.iload_n 2, 1) := by decide +kernel
theorem dX3_setCell_19 : decode cX3_setCell 19 = .ok (.iastore, 1) := by decide +kernel
theorem dX3_setCell_20 : decode cX3_setCell 20 = .ok (.return_, 1) := by decide +kernel
theorem dX3_hasUpper_0 : decode cX3_hasUpper 0 = .ok (.iload_n 1, 1) := by decide +kernel
theorem dX3_hasUpper_1 : decode cX3_hasUpper 1 = .ok (.ifCond .lt 15, 3) := by decide +kernel
theorem dX3_hasUpper_4 : decode cX3_hasUpper 4 = .ok (.iload_n 1, 1) := by decide +kernel
theorem dX3_hasUpper_5 : decode cX3_hasUpper 5 = .ok (.aload_n 0, 1) := by decide +kernel
theorem dX3_hasUpper_6 : decode cX3_hasUpper 6 = .ok (.getfield 18, 3) := by decide +kernel
theorem dX3_hasUpper_9 : decode cX3_hasUpper 9 = .ok (.if_icmp .gt 7, 3) := by decide +kernel
theorem dX3_hasUpper_12 : decode cX3_hasUpper 12 = .ok (.iconst 1, 1) := by decide +kernel
theorem dX3_hasUpper_13 : decode cX3_hasUpper 13 = .ok (.goto 4, 3) := by decide +kernel
theorem dX3_hasUpper_16 : decode cX3_hasUpper 16 = .ok (.iconst 0, 1) := by decide +kernel
theorem dX3_hasUpper_17 : decode cX3_hasUpper 17 = .ok (.ireturn, 1) := by decide +kernel
theorem dX3_fromTop_0 : decode cX3_fromTop 0 = .ok (.iload_n 1, 1) := by decide +kernel
theorem dX3_fromTop_1 : decode cX3_fromTop 1 = .ok (.ifCond .lt 26, 3) := by decide +kernel
theorem dX3_fromTop_4 : decode cX3_fromTop 4 = .ok (.iload_n 1, 1) := by decide +kernel
theorem dX3_fromTop_5 : decode cX3_fromTop 5 = .ok (.aload_n 0, 1) := by decide +kernel
theorem dX3_fromTop_6 : decode cX3_fromTop 6 = .ok (.getfield 18, 3) := by decide +kernel
theorem dX3_fromTop_9 : decode cX3_fromTop 9 = .ok (.if_icmp .ge 18, 3) := by decide +kernel
theorem dX3_fromTop_12 : decode cX3_fromTop 12 = .ok (.aload_n 0, 1) := by decide +kernel
theorem dX3_fromTop_13 : decode cX3_fromTop 13 = .ok (.aload_n 0, 1) := by decide +kernel
theorem dX3_fromTop_14 : decode cX3_fromTop 14 = .ok (.getfield 18, 3) := by decide +kernel
theorem dX3_fromTop_17 : decode cX3_fromTop 17 = .ok (.iconst 1, 1) := by decide +kernel
theorem dX3_fromTop_18 : decode cX3_fromTop 18 = .ok (.isub, 1) := by decide +kernel
theorem dX3_fromTop_19 : decode cX3_fromTop 19 = .ok (.iload_n 1, 1) := by decide +kernel
theorem dX3_fromTop_20 : decode cX3_fromTop 20 = .ok (.isub, 1) := by decide +kernel
theorem dX3_fromTop_21 : decode cX3_fromTop 21 = .ok (.invokevirtual 22, 3) := by decide +kernel
theorem dX3_fromTop_24 : decode cX3_fromTop 24 = .ok (.goto 4, 3) := by decide +kernel
theorem dX3_fromTop_27 : decode cX3_fromTop 27 = .ok (.iconst 0, 1) := by decide +kernel
theorem dX3_fromTop_28 : decode cX3_fromTop 28 = .ok (.ireturn, 1) := by decide +kernel
theorem dX3_add_0 : decode cX3_add 0 = .ok (.aload_n 0, 1) := by decide +kernel
theorem dX3_add_1 : decode cX3_add 1 = .ok (.invokevirtual 26, 3) := by decide +kernel
theorem dX3_add_4 : decode cX3_add 4 = .ok (.ifCond .ne 22, 3) := by decide +kernel
theorem dX3_add_7 : decode cX3_add 7 = .ok (.aload_n 0, 1) := by decide +kernel
theorem dX3_add_8 : decode cX3_add 8 = .ok (.aload_n 0, 1) := by decide +kernel
theorem dX3_add_9 : decode cX3_add 9 = .ok (.getfield 18, 3) := by decide +kernel
theorem dX3_add_12 : decode cX3_add 12 = .ok (.iload_n 1, 1) := by decide +kernel
theorem dX3_add_13 : decode cX3_add 13 = .ok (.invokevirtual 30, 3) := by decide +kernel
theorem dX3_add_16 : decode cX3_add 16 = .ok (.aload_n 0, 1) := by decide +kernel
theorem dX3_add_17 : decode cX3_add 17 = .ok (.dup, 1) := by decide +kernel
theorem dX3_add_18 : decode cX3_add 18 = .ok (.getfield 18, 3) := by decide +kernel
theorem dX3_add_21 : decode cX3_add 21 = .ok (.iconst 1, 1) := by decide +kernel
theorem dX3_add_22 : decode cX3_add 22 = .ok (.iadd, 1) := by decide +kernel
theorem dX3_add_23 : decode cX3_add 23 = .ok (.putfield 18, 3) := by decide +kernel
theorem dX3_add_26 : decode cX3_add 26 = .ok (.return_, 1) := by decide +kernel
theorem dX3_takeOff_0 : decode cX3_takeOff 0 = .ok (.aload_n 0, 1) := by decide +kernel
theorem dX3_takeOff_1 : decode cX3_takeOff 1 = .ok (.getfield 18, 3) := by decide +kernel
theorem dX3_takeOff_4 : decode cX3_takeOff 4 = .ok (.ifCond .gt 5, 3) := by decide +kernel
theorem dX3_takeOff_7 : decode cX3_takeOff 7 = .ok (.iconst 0, 1) := by decide +kernel
theorem dX3_takeOff_8 : decode cX3_takeOff 8 = .ok (.ireturn, 1) := by decide +kernel
theorem dX3_takeOff_9 : decode cX3_takeOff 9 = .ok (.aload_n 0, 1) := by decide +kernel
theorem dX3_takeOff_10 : decode cX3_takeOff 10 = .ok (.dup, 1) := by decide +kernel
theorem dX3_takeOff_11 : decode cX3_takeOff 11 = .ok (.getfield 18, 3) := by decide +kernel
theorem dX3_takeOff_14 : decode cX3_takeOff 14 = .ok (.iconst 1, 1) := by decide +kernel
theorem dX3_takeOff_15 : decode cX3_takeOff 15 = .ok (.isub, 1) := by decide +kernel
theorem dX3_takeOff_16 : decode cX3_takeOff 16 = .ok (.putfield 18, 3) := by decide +kernel
theorem dX3_takeOff_19 : decode cX3_takeOff 19 = .ok (.aload_n 0, 1) := by decide +kernel
theorem dX3_takeOff_20 : decode cX3_takeOff 20 = .ok (.aload_n 0, 1) := by decide +kernel
theorem dX3_takeOff_21 : decode cX3_takeOff 21 = .ok (.getfield 18, 3) := by decide +kernel
theorem dX3_takeOff_24 : decode cX3_takeOff 24 = .ok (.invokevirtual 22, 3) := by decide +kernel
theorem dX3_takeOff_27 : decode cX3_takeOff 27 = .ok (.ireturn, 1) := by decide +kernel
theorem dX3_shrinkTo_0 : decode cX3_shrinkTo 0 = .ok (.aload_n 0, 1) := by decide +kernel
theorem dX3_shrinkTo_1 : decode cX3_shrinkTo 1 = .ok (.iload_n 1, 1) := by decide +kernel
theorem dX3_shrinkTo_2 : decode cX3_shrinkTo 2 = .ok (.invokevirtual 34, 3) := by decide +kernel
theorem dX3_shrinkTo_5 : decode cX3_shrinkTo 5 = .ok (.ifCond .eq 8, 3) := by decide +kernel
theorem dX3_shrinkTo_8 : decode cX3_shrinkTo 8 = .ok (.aload_n 0, 1) := by decide +kernel
theorem dX3_shrinkTo_9 : decode cX3_shrinkTo 9 = .ok (.iload_n 1, 1) := by decide +kernel
theorem dX3_shrinkTo_10 : decode cX3_shrinkTo 10 = .ok (.putfield 18, 3) := by decide +kernel
theorem dX3_shrinkTo_13 : decode cX3_shrinkTo 13 = .ok (.return_, 1) := by decide +kernel
theorem dX3_growBack_0 : decode cX3_growBack 0 = .ok (.iload_n 1, 1) := by decide +kernel
theorem dX3_growBack_1 : decode cX3_growBack 1 = .ok (.aload_n 0, 1) := by decide +kernel
theorem dX3_growBack_2 : decode cX3_growBack 2 = .ok (.getfield 18, 3) := by decide +kernel
theorem dX3_growBack_5 : decode cX3_growBack 5 = .ok (.if_icmp .lt 14, 3) := by decide +kernel
theorem dX3_growBack_8 : decode cX3_growBack 8 = .ok (.iload_n 1, 1) := by decide +kernel
theorem dX3_growBack_9 : decode cX3_growBack 9 = .ok (.bipush 40, 2) := by decide +kernel
theorem dX3_growBack_11 : decode cX3_growBack 11 = .ok (.if_icmp .gt 8, 3) := by decide +kernel
theorem dX3_growBack_14 : decode cX3_growBack 14 = .ok (.aload_n 0, 1) := by decide +kernel
theorem dX3_growBack_15 : decode cX3_growBack 15 = .ok (.iload_n 1, 1) := by decide +kernel
theorem dX3_growBack_16 : decode cX3_growBack 16 = .ok (.putfield 18, 3) := by decide +kernel
theorem dX3_growBack_19 : decode cX3_growBack 19 = .ok (.return_, 1) := by decide +kernel
theorem dX3_swapUpper_0 : decode cX3_swapUpper 0 = .ok (.aload_n 0, 1) := by decide +kernel
theorem dX3_swapUpper_1 : decode cX3_swapUpper 1 = .ok (.aload_n 0, 1) := by decide +kernel
theorem dX3_swapUpper_2 : decode cX3_swapUpper 2 = .ok (.getfield 18, 3) := by decide +kernel
theorem dX3_swapUpper_5 : decode cX3_swapUpper 5 = .ok (.iconst 1, 1) := by decide +kernel
theorem dX3_swapUpper_6 : decode cX3_swapUpper 6 = .ok (.isub, 1) := by decide +kernel
theorem dX3_swapUpper_7 : decode cX3_swapUpper 7 = .ok (.invokevirtual 22, 3) := by decide +kernel
theorem dX3_swapUpper_10 : decode cX3_swapUpper 10 = .ok (.istore_n 1, 1) := by decide +kernel
theorem dX3_swapUpper_11 : decode cX3_swapUpper 11 = .ok (.aload_n 0, 1) := by decide +kernel
theorem dX3_swapUpper_12 : decode cX3_swapUpper 12 = .ok (.aload_n 0, 1) := by decide +kernel
theorem dX3_swapUpper_13 : decode cX3_swapUpper 13 = .ok (.getfield 18, 3) := by decide +kernel
theorem dX3_swapUpper_16 : decode cX3_swapUpper 16 = .ok (.iconst 1, 1) := by decide +kernel
theorem dX3_swapUpper_17 : decode cX3_swapUpper 17 = .ok (.isub, 1) := by decide +kernel
theorem dX3_swapUpper_18 : decode cX3_swapUpper 18 = .ok (.aload_n 0, 1) := by decide +kernel
theorem dX3_swapUpper_19 : decode cX3_swapUpper 19 = .ok (.aload_n 0, 1) := by decide +kernel
theorem dX3_swapUpper_20 : decode cX3_swapUpper 20 = .ok (.getfield 18, 3) := by decide +kernel
theorem dX3_swapUpper_23 : decode cX3_swapUpper 23 = .ok (.iconst 2, 1) := by decide +kernel
theorem dX3_swapUpper_24 : decode cX3_swapUpper 24 = .ok (.isub, 1) := by decide +kernel
theorem dX3_swapUpper_25 : decode cX3_swapUpper 25 = .ok (.invokevirtual 22, 3) := by decide +kernel
theorem dX3_swapUpper_28 : decode cX3_swapUpper 28 = .ok (.invokevirtual 30, 3) := by decide +kernel
theorem dX3_swapUpper_31 : decode cX3_swapUpper 31 = .ok (.aload_n 0, 1) := by decide +kernel
theorem dX3_swapUpper_32 : decode cX3_swapUpper 32 = .ok (.aload_n 0, 1) := by decide +kernel
theorem dX3_swapUpper_33 : decode cX3_swapUpper 33 = .ok (.getfield 18, 3) := by decide +kernel
theorem dX3_swapUpper_36 : decode cX3_swapUpper 36 = .ok (.iconst 2, 1) := by decide +kernel
theorem dX3_swapUpper_37 : decode cX3_swapUpper 37 = .ok (.isub, 1) := by decide +kernel
theorem dX3_swapUpper_38 : decode cX3_swapUpper 38 = .ok (.iload_n 1, 1) := by decide +kernel
theorem dX3_swapUpper_39 : decode cX3_swapUpper 39 = .ok (.invokevirtual 30, 3) := by decide +kernel
theorem dX3_swapUpper_42 : decode cX3_swapUpper 42 = .ok (.return_, 1) := by decide +kernel
theorem dX3_turnUpper_0 : decode cX3_turnUpper 0 = .ok (.iload_n 1, 1) := by decide +kernel
theorem dX3_turnUpper_1 : decode cX3_turnUpper 1 = .ok (.ifCond .le 11, 3) := by decide +kernel
theorem dX3_turnUpper_4 : decode cX3_turnUpper 4 = .ok (.iload_n 1, 1) := by decide +kernel
theorem dX3_turnUpper_5 : decode cX3_turnUpper 5 = .ok (.aload_n 0, 1) := by decide +kernel
theorem dX3_turnUpper_6 : decode cX3_turnUpper 6 = .ok (.getfield 18, 3) := by decide +kernel
theorem dX3_turnUpper_9 : decode cX3_turnUpper 9 = .ok (.if_icmp .le 4, 3) := by decide +kernel
theorem dX3_turnUpper_12 : decode cX3_turnUpper 12 = .ok (.return_, 1) := by decide +kernel
theorem dX3_turnUpper_13 : decode cX3_turnUpper 13 = .ok (.aload_n 0, 1) := by decide +kernel
theorem dX3_turnUpper_14 : decode cX3_turnUpper 14 = .ok (.getfield 18, 3) := by decide +kernel
theorem dX3_turnUpper_17 : decode cX3_turnUpper 17 = .ok (.iload_n 1, 1) := by decide +kernel
theorem dX3_turnUpper_18 : decode cX3_turnUpper 18 = .ok (.isub, 1) := by decide +kernel
theorem dX3_turnUpper_19 : decode cX3_turnUpper 19 = .ok (.istore_n 3, 1) := by decide +kernel
theorem dX3_turnUpper_20 : decode cX3_turnUpper 20 = .ok (.iload_n 2, 1) := by decide +kernel
theorem dX3_turnUpper_21 : decode cX3_turnUpper 21 = .ok (.iload_n 1, 1) := by decide +kernel
theorem dX3_turnUpper_22 : decode cX3_turnUpper 22 = .ok (.invokestatic 38, 3) := by decide +kernel
theorem dX3_turnUpper_25 : decode cX3_turnUpper 25 = .ok (.istore 4, 2) := by decide +kernel
theorem dX3_turnUpper_27 : decode cX3_turnUpper 27 = .ok (.iconst 0, 1) := by decide +kernel
theorem dX3_turnUpper_28 : decode cX3_turnUpper 28 = .ok (.istore 5, 2) := by decide +kernel
theorem dX3_turnUpper_30 : decode cX3_turnUpper 30 = .ok (.iload 5, 2) := by decide +kernel
theorem dX3_turnUpper_32 : decode cX3_turnUpper 32 = .ok (.iload_n 1, 1) := by decide +kernel
theorem dX3_turnUpper_33 : decode cX3_turnUpper 33 = .ok (.if_icmp .ge 34, 3) := by decide +kernel
theorem dX3_turnUpper_36 : decode cX3_turnUpper 36 = .ok (.iload 5, 2) := by decide +kernel
theorem dX3_turnUpper_38 : decode cX3_turnUpper 38 = .ok (.aload_n 0, 1) := by decide +kernel
theorem dX3_turnUpper_39 : decode cX3_turnUpper 39 = .ok (.getfield 15, 3) := by decide +kernel
theorem dX3_turnUpper_42 : decode cX3_turnUpper 42 = .ok (.arraylength, 1) := by decide +kernel
theorem dX3_turnUpper_43 : decode cX3_turnUpper 43 = .ok (.if_icmp .ge 24, 3) := by decide +kernel
theorem dX3_turnUpper_46 : decode cX3_turnUpper 46 = .ok (.aload_n 0, 1) := by decide +kernel
theorem dX3_turnUpper_47 : decode cX3_turnUpper 47 = .ok (.getfield 15, 3) := by decide +kernel
theorem dX3_turnUpper_50 : decode cX3_turnUpper 50 = .ok (.iload 5, 2) := by decide +kernel
theorem dX3_turnUpper_52 : decode cX3_turnUpper 52 = .ok (.aload_n 0, 1) := by decide +kernel
theorem dX3_turnUpper_53 : decode cX3_turnUpper 53 = .ok (.iload_n 3, 1) := by decide +kernel
theorem dX3_turnUpper_54 : decode cX3_turnUpper 54 = .ok (.iload 5, 2) := by decide +kernel
theorem dX3_turnUpper_56 : decode cX3_turnUpper 56 = .ok (.iadd, 1) := by decide +kernel
theorem dX3_turnUpper_57 : decode cX3_turnUpper 57 = .ok (.invokevirtual 22, 3) := by decide +kernel
theorem dX3_turnUpper_60 : decode cX3_turnUpper 60 = .ok (.iastore, 1) := by decide +kernel
theorem dX3_turnUpper_61 : decode cX3_turnUpper 61 = .ok (.iinc 5 1, 3) := by decide +kernel
theorem dX3_turnUpper_64 : decode cX3_turnUpper 64 = .ok (.goto (-34), 3) := by decide +kernel
theorem dX3_turnUpper_67 : decode cX3_turnUpper 67 = .ok (.iconst 0, 1) := by decide +kernel
theorem dX3_turnUpper_68 : decode cX3_turnUpper 68 = .ok (.istore 5, 2) := by decide +kernel
theorem dX3_turnUpper_70 : decode cX3_turnUpper 70 = .ok (.iload 5, 2) := by decide +kernel
theorem dX3_turnUpper_72 : decode cX3_turnUpper 72 = .ok (.iload_n 1, 1) := by decide +kernel
theorem dX3_turnUpper_73 : decode cX3_turnUpper 73 = .ok (.if_icmp .ge 39, 3) := by decide +kernel
theorem dX3_turnUpper_76 : decode cX3_turnUpper 76 = .ok (.iload 5, 2) := by decide +kernel
theorem dX3_turnUpper_78 : decode cX3_turnUpper 78 = .ok (.aload_n 0, 1) := by decide +kernel
theorem dX3_turnUpper_79 : decode cX3_turnUpper 79 = .ok (.getfield 15, 3) := by decide +kernel
theorem dX3_turnUpper_82 : decode cX3_turnUpper 82 = .ok (.arraylength, 1) := by decide +kernel
theorem dX3_turnUpper_83 : decode cX3_turnUpper 83 = .ok (.if_icmp .ge 29, 3) := by decide +kernel
theorem dX3_turnUpper_86 : decode cX3_turnUpper 86 = .ok (.aload_n 0, 1) := by decide +kernel
theorem dX3_turnUpper_87 : decode cX3_turnUpper 87 = .ok (.iload_n 3, 1) := by decide +kernel
theorem dX3_turnUpper_88 : decode cX3_turnUpper 88 = .ok (.iload 5, 2) := by decide +kernel
theorem dX3_turnUpper_90 : decode cX3_turnUpper 90 = .ok (.iload 4, 2) := by decide +kernel
theorem dX3_turnUpper_92 : decode cX3_turnUpper 92 = .ok (.iadd, 1) := by decide +kernel
theorem dX3_turnUpper_93 : decode cX3_turnUpper 93 = .ok (.iload_n 1, 1) := by decide +kernel
theorem dX3_turnUpper_94 : decode cX3_turnUpper 94 = .ok (.irem, 1) := by decide +kernel
theorem dX3_turnUpper_95 : decode cX3_turnUpper 95 = .ok (.iadd, 1) := by decide +kernel
theorem dX3_turnUpper_96 : decode cX3_turnUpper 96 = .ok (.aload_n 0, 1) := by decide +kernel
theorem dX3_turnUpper_97 : decode cX3_turnUpper 97 = .ok (.getfield 15, 3) := by decide +kernel
theorem dX3_turnUpper_100 : decode cX3_turnUpper 100 = .ok (.iload 5, 2) := by decide +kernel
theorem dX3_turnUpper_102 : decode cX3_turnUpper 102 = .ok (.iaload, 1) := by decide +kernel
theorem dX3_turnUpper_103 : decode cX3_turnUpper 103 = .ok (.invokevirtual 30, 3) := by decide +kernel
theorem dX3_turnUpper_106 : decode cX3_turnUpper 106 = .ok (.iinc 5 1, 3) := by decide +kernel
theorem dX3_turnUpper_109 : decode cX3_turnUpper 109 = .ok (.goto (-39), 3) := by decide +kernel
theorem dX3_turnUpper_112 : decode cX3_turnUpper 112 = .ok (.return_, 1) := by decide +kernel
theorem dX3_repeatUpper_0 : decode cX3_repeatUpper 0 = .ok (.aload_n 0, 1) := by decide +kernel
theorem dX3_repeatUpper_1 : decode cX3_repeatUpper 1 = .ok (.getfield 18, 3) := by decide +kernel
theorem dX3_repeatUpper_4 : decode cX3_repeatUpper 4 = .ok (.iload_n 1, 1) := by decide +kernel
theorem dX3_repeatUpper_5 : decode cX3_repeatUpper 5 = .ok (.isub, 1) := by decide +kernel
theorem dX3_repeatUpper_6 : decode cX3_repeatUpper 6 = .ok (.istore_n 2, 1) := by decide +kernel
theorem dX3_repeatUpper_7 : decode cX3_repeatUpper 7 = .ok (.iconst 0, 1) := by decide +kernel
theorem dX3_repeatUpper_8 : decode cX3_repeatUpper 8 = .ok (.istore_n 3, 1) := by decide +kernel
theorem dX3_repeatUpper_9 : decode cX3_repeatUpper 9 = .ok (.iload_n 3, 1) := by decide +kernel
theorem dX3_repeatUpper_10 : decode cX3_repeatUpper 10 = .ok (.iload_n 1, 1) := by decide +kernel
theorem dX3_repeatUpper_11 : decode cX3_repeatUpper 11 = .ok (.if_icmp .ge 20, 3) := by decide +kernel
theorem dX3_repeatUpper_14 : decode cX3_repeatUpper 14 = .ok (.aload_n 0, 1) := by decide +kernel
theorem dX3_repeatUpper_15 : decode cX3_repeatUpper 15 = .ok (.aload_n 0, 1) := by decide +kernel
theorem dX3_repeatUpper_16 : decode cX3_repeatUpper 16 = .ok (.iload_n 2, 1) := by decide +kernel
theorem dX3_repeatUpper_17 : decode cX3_repeatUpper 17 = .ok (.iload_n 3, 1) := by decide +kernel
theorem dX3_repeatUpper_18 : decode cX3_repeatUpper 18 = .ok (.iadd, 1) := by decide +kernel
theorem dX3_repeatUpper_19 : decode cX3_repeatUpper 19 = .ok (.invokevirtual 22, 3) := by decide +kernel
theorem dX3_repeatUpper_22 : decode cX3_repeatUpper 22 = .ok (.invokevirtual 44, 3) := by decide +kernel
theorem dX3_repeatUpper_25 : decode cX3_repeatUpper 25 = .ok (.iinc 3 1, 3) := by decide +kernel
theorem dX3_repeatUpper_28 : decode cX3_repeatUpper 28 = .ok (.goto (-19), 3) := by decide +kernel
theorem dX3_repeatUpper_31 : decode cX3_repeatUpper 31 = .ok (.return_, 1) := by decide +kernel
theorem dX4_result_0 : decode cX4_result 0 = .ok (.iload_n 0, 1) := by decide +kernel
theorem dX4_result_1 : decode cX4_result 1 = .ok (.tableswitch 340 16 69 #[231, 235, 239, 243, 255, 267, 340, 340, 270, 274, 278, 282, 286, 301, 319, 340, 340, 340, 340, 340, 340, 340, 340, 340, 340, 340, 340, 340, 340, 340, 340, 340, 340, 340, 340, 340, 340, 340, 340, 340, 340, 340, 340, 340, 340, 340, 340, 340, 340, 340, 340, 340, 334, 337], 231) := by decide +kernel
theorem dX4_result_232 : decode cX4_result 232 = .ok (.iload_n 1, 1) := by decide +kernel
theorem dX4_result_233 : decode cX4_result 233 = .ok (.iload_n 2, 1) := by decide +kernel
theorem dX4_result_234 : decode cX4_result 234 = .ok (.iadd, 1) := by decide +kernel
theorem dX4_result_235 : decode cX4_result 235 = .ok (.ireturn, 1) := by decide +kernel
theorem dX4_result_236 : decode cX4_result 236 = .ok (.iload_n 1, 1) := by decide +kernel
theorem dX4_result_237 : decode cX4_result 237 = .ok (.iload_n 2, 1) := by decide +kernel
theorem dX4_result_238 : decode cX4_result 238 = .ok (.isub, 1) := by decide +kernel
theorem dX4_result_239 : decode cX4_result 239 = .ok (.ireturn, 1) := by decide +kernel
theorem dX4_result_240 : decode cX4_result 240 = .ok (.iload_n 1, 1) := by decide +kernel
theorem dX4_result_241 : decode cX4_result 241 = .ok (.iload_n 2, 1) := by decide +kernel
theorem dX4_result_242 : decode cX4_result 242 = .ok (.imul, 1) := by decide +kernel
theorem dX4_result_243 : decode cX4_result 243 = .ok (.ireturn, 1) := by decide +kernel
theorem dX4_result_244 : decode cX4_result 244 = .ok (.iload_n 2, 1) := by decide +kernel
theorem dX4_result_245 : decode cX4_result 245 = .ok (.ifCond .ne 7, 3) := by decide +kernel
theorem dX4_result_248 : decode cX4_result 248 = .ok (.iconst 0, 1) := by decide +kernel
theorem dX4_result_249 : decode cX4_result 249 = .ok (.goto 6, 3) := by decide +kernel
theorem dX4_result_252 : decode cX4_result 252 = .ok (.iload_n 1, 1) := by decide +kernel
theorem dX4_result_253 : decode cX4_result 253 = .ok (.iload_n 2, 1) := by decide +kernel
theorem dX4_result_254 : decode cX4_result 254 = .ok (.idiv, 1) := by decide +kernel
theorem dX4_result_255 : decode cX4_result 255 = .ok (.ireturn, 1) := by decide +kernel
theorem dX4_result_256 : decode cX4_result 256 = .ok (.iload_n 2, 1) := by decide +kernel
theorem dX4_result_257 : decode cX4_result 257 = .ok (.ifCond .ne 7, 3) := by decide +kernel
theorem dX4_result_260 : decode cX4_result 260 = .ok (.iconst 0, 1) := by decide +kernel
theorem dX4_result_261 : decode cX4_result 261 = .ok (.goto 6, 3) := by decide +kernel
theorem dX4_result_264 : decode cX4_result 264 = .ok (.iload_n 1, 1) := by decide +kernel
theorem dX4_result_265 : decode cX4_result 265 = .ok (.iload_n 2, 1) := by decide +kernel
theorem dX4_result_266 : decode cX4_result 266 = .ok (.irem, 1) := by decide +kernel
theorem dX4_result_267 : decode cX4_result 267 = .ok (.ireturn, 1) := by decide +kernel
theorem dX4_result_268 : decode cX4_result 268 = .ok (.iload_n 1, 1) := by decide +kernel
theorem dX4_result_269 : decode cX4_result 269 = .ok (.ineg, 1) := by decide +kernel
theorem dX4_result_270 : decode cX4_result 270 = .ok (.ireturn, 1) := by decide +kernel
theorem dX4_result_271 : decode cX4_result 271 = .ok (.iload_n 1, 1) := by decide +kernel
theorem dX4_result_272 : decode cX4_result 272 = .ok (.iload_n 2, 1) := by decide +kernel
theorem dX4_result_273 : decode cX4_result 273 = .ok (.iand, 1) := by decide +kernel
theorem dX4_result_274 : decode cX4_result 274 = .ok (.ireturn, 1) := by decide +kernel
theorem dX4_result_275 : decode cX4_result 275 = .ok (.iload_n 1, 1) := by decide +kernel
theorem dX4_result_276 : decode cX4_result 276 = .ok (.iload_n 2, 1) := by decide +kernel
theorem dX4_result_277 : decode cX4_result 277 = .ok (.ior, 1) := by decide +kernel
theorem dX4_result_278 : decode cX4_result 278 = .ok (.ireturn, 1) := by decide +kernel
theorem dX4_result_279 : decode cX4_result 279 = .ok (.iload_n 1, 1) := by decide +kernel
theorem dX4_result_280 : decode cX4_result 280 = .ok (.iload_n 2, 1) := by decide +kernel
theorem dX4_result_281 : decode cX4_result 281 = .ok (.ixor, 1) := by decide +kernel
theorem dX4_result_282 : decode cX4_result 282 = .ok (.ireturn, 1) := by decide +kernel
theorem dX4_result_283 : decode cX4_result 283 = .ok (.iload_n 1, 1) := by decide +kernel
theorem dX4_result_284 : decode cX4_result 284 = .ok (.iconst (-1), 1) := by decide +kernel
theorem dX4_result_285 : decode cX4_result 285 = .ok (.ixor, 1) := by decide +kernel
theorem dX4_result_286 : decode cX4_result 286 = .ok (.ireturn, 1) := by decide +kernel
theorem dX4_result_287 : decode cX4_result 287 = .ok (.iload_n 2, 1) := by decide +kernel
theorem dX4_result_288 : decode cX4_result 288 = .ok (.invokestatic 7, 3) := by decide +kernel
theorem dX4_result_291 : decode cX4_result 291 = .ok (.ifCond .eq 9, 3) := by decide +kernel
theorem dX4_result_294 : decode cX4_result 294 = .ok (.iload_n 1, 1) := by decide +kernel
theorem dX4_result_295 : decode cX4_result 295 = .ok (.iload_n 2, 1) := by decide +kernel
theorem dX4_result_296 : decode cX4_result 296 = .ok (.ishl, 1) := by decide +kernel
theorem dX4_result_297 : decode cX4_result 297 = .ok (.goto 4, 3) := by decide +kernel
theorem dX4_result_300 : decode cX4_result 300 = .ok (.iconst 0, 1) := by decide +kernel
theorem dX4_result_301 : decode cX4_result 301 = .ok (.ireturn, 1) := by decide +kernel
theorem dX4_result_302 : decode cX4_result 302 = .ok (.iload_n 2, 1) := by decide +kernel
theorem dX4_result_303 : decode cX4_result 303 = .ok (.invokestatic 7, 3) := by decide +kernel
theorem dX4_result_306 : decode cX4_result 306 = .ok (.ifCond .eq 9, 3) := by decide +kernel
theorem dX4_result_309 : decode cX4_result 309 = .ok (.iload_n 1, 1) := by decide +kernel
theorem dX4_result_310 : decode cX4_result 310 = .ok (.iload_n 2, 1) := by decide +kernel
theorem dX4_result_311 : decode cX4_result 311 = .ok (.ishr, 1) := by decide +kernel
theorem dX4_result_312 : decode cX4_result 312 = .ok (.goto 7, 3) := by decide +kernel
theorem dX4_result_315 : decode cX4_result 315 = .ok (.iload_n 1, 1) := by decide +kernel
theorem dX4_result_316 : decode cX4_result 316 = .ok (.bipush 31, 2) := by decide +kernel
theorem dX4_result_318 : decode cX4_result 318 = .ok (.ishr, 1) := by decide +kernel
theorem dX4_result_319 : decode cX4_result 319 = .ok (.ireturn, 1) := by decide +kernel
theorem dX4_result_320 : decode cX4_result 320 = .ok (.iload_n 2, 1) := by decide +kernel
theorem dX4_result_321 : decode cX4_result 321 = .ok (.invokestatic 7, 3) := by decide +kernel
theorem dX4_result_324 : decode cX4_result 324 = .ok (.ifCond .eq 9, 3) := by decide +kernel
theorem dX4_result_327 : decode cX4_result 327 = .ok (.iload_n 1, 1) := by decide +kernel
theorem dX4_result_328 : decode cX4_result 328 = .ok (.iload_n 2, 1) := by decide +kernel
theorem dX4_result_329 : decode cX4_result 329 = .ok (.iushr, 1) := by decide +kernel
theorem dX4_result_330 : decode cX4_result 330 = .ok (.goto 4, 3) := by decide +kernel
theorem dX4_result_333 : decode cX4_result 333 = .ok (.iconst 0, 1) := by decide +kernel
theorem dX4_result_334 : decode cX4_result 334 = .ok (.ireturn, 1) := by decide +kernel
theorem dX4_result_335 : decode cX4_result 335 = .ok (.iload_n 1, 1) := by decide +kernel
theorem dX4_result_336 : decode cX4_result 336 = .ok (.i2s, 1) := by decide +kernel
theorem dX4_result_337 : decode cX4_result 337 = .ok (.ireturn, 1) := by decide +kernel
theorem dX4_result_338 : decode cX4_result 338 = .ok (.iload_n 1, 1) := by decide +kernel
theorem dX4_result_339 : decode cX4_result 339 = .ok (.i2b, 1) := by decide +kernel
theorem dX4_result_340 : decode cX4_result 340 = .ok (.ireturn, 1) := by decide +kernel
theorem dX4_result_341 : decode cX4_result 341 = .ok (.iload_n 1, 1) := by decide +kernel
theorem dX4_result_342 : decode cX4_result 342 = .ok (.ireturn, 1) := by decide +kernel
theorem dX4_isShift_0 : decode cX4_isShift 0 = .ok (.iload_n 0, 1) := by decide +kernel
theorem dX4_isShift_1 : decode cX4_isShift 1 = .ok (.ifCond .lt 13, 3) := by decide +kernel
theorem dX4_isShift_4 : decode cX4_isShift 4 = .ok (.iload_n 0, 1) := by decide +kernel
theorem dX4_isShift_5 : decode cX4_isShift 5 = .ok (.bipush 31, 2) := by decide +kernel
theorem dX4_isShift_7 : decode cX4_isShift 7 = .ok (.if_icmp .gt 7, 3) := by decide +kernel
theorem dX4_isShift_10 : decode cX4_isShift 10 = .ok (.iconst 1, 1) := by decide +kernel
theorem dX4_isShift_11 : decode cX4_isShift 11 = .ok (.goto 4, 3) := by decide +kernel
theorem dX4_isShift_14 : decode cX4_isShift 14 = .ok (.iconst 0, 1) := by decide +kernel
theorem dX4_isShift_15 : decode cX4_isShift 15 = .ok (.ireturn, 1) := by decide +kernel
theorem dX4_branches_0 : decode cX4_branches 0 = .ok (.iload_n 0, 1) := by decide +kernel
theorem dX4_branches_1 : decode cX4_branches 1 = .ok (.tableswitch 215 32 45 #[71, 215, 73, 83, 93, 104, 115, 126, 137, 148, 159, 173, 187, 201], 71) := by decide +kernel
theorem dX4_branches_72 : decode cX4_branches 72 = .ok (.iconst 1, 1) := by decide +kernel
theorem dX4_branches_73 : decode cX4_branches 73 = .ok (.ireturn, 1) := by decide +kernel
theorem dX4_branches_74 : decode cX4_branches 74 = .ok (.iload_n 1, 1) := by decide +kernel
theorem dX4_branches_75 : decode cX4_branches 75 = .ok (.ifCond .ne 7, 3) := by decide +kernel
theorem dX4_branches_78 : decode cX4_branches 78 = .ok (.iconst 1, 1) := by decide +kernel
theorem dX4_branches_79 : decode cX4_branches 79 = .ok (.goto 4, 3) := by decide +kernel
theorem dX4_branches_82 : decode cX4_branches 82 = .ok (.iconst 0, 1) := by decide +kernel
theorem dX4_branches_83 : decode cX4_branches 83 = .ok (.ireturn, 1) := by decide +kernel
theorem dX4_branches_84 : decode cX4_branches 84 = .ok (.iload_n 1, 1) := by decide +kernel
theorem dX4_branches_85 : decode cX4_branches 85 = .ok (.ifCond .eq 7, 3) := by decide +kernel
theorem dX4_branches_88 : decode cX4_branches 88 = .ok (.iconst 1, 1) := by decide +kernel
theorem dX4_branches_89 : decode cX4_branches 89 = .ok (.goto 4, 3) := by decide +kernel
theorem dX4_branches_92 : decode cX4_branches 92 = .ok (.iconst 0, 1) := by decide +kernel
theorem dX4_branches_93 : decode cX4_branches 93 = .ok (.ireturn, 1) := by decide +kernel
theorem dX4_branches_94 : decode cX4_branches 94 = .ok (.iload_n 1, 1) := by decide +kernel
theorem dX4_branches_95 : decode cX4_branches 95 = .ok (.iload_n 2, 1) := by decide +kernel
theorem dX4_branches_96 : decode cX4_branches 96 = .ok (.if_icmp .ne 7, 3) := by decide +kernel
theorem dX4_branches_99 : decode cX4_branches 99 = .ok (.iconst 1, 1) := by decide +kernel
theorem dX4_branches_100 : decode cX4_branches 100 = .ok (.goto 4, 3) := by decide +kernel
theorem dX4_branches_103 : decode cX4_branches 103 = .ok (.iconst 0, 1) := by decide +kernel
theorem dX4_branches_104 : decode cX4_branches 104 = .ok (.ireturn, 1) := by decide +kernel
theorem dX4_branches_105 : decode cX4_branches 105 = .ok (.iload_n 1, 1) := by decide +kernel
theorem dX4_branches_106 : decode cX4_branches 106 = .ok (.iload_n 2, 1) := by decide +kernel
theorem dX4_branches_107 : decode cX4_branches 107 = .ok (.if_icmp .eq 7, 3) := by decide +kernel
theorem dX4_branches_110 : decode cX4_branches 110 = .ok (.iconst 1, 1) := by decide +kernel
theorem dX4_branches_111 : decode cX4_branches 111 = .ok (.goto 4, 3) := by decide +kernel
theorem dX4_branches_114 : decode cX4_branches 114 = .ok (.iconst 0, 1) := by decide +kernel
theorem dX4_branches_115 : decode cX4_branches 115 = .ok (.ireturn, 1) := by decide +kernel
theorem dX4_branches_116 : decode cX4_branches 116 = .ok (.iload_n 1, 1) := by decide +kernel
theorem dX4_branches_117 : decode cX4_branches 117 = .ok (.iload_n 2, 1) := by decide +kernel
theorem dX4_branches_118 : decode cX4_branches 118 = .ok (.if_icmp .ge 7, 3) := by decide +kernel
theorem dX4_branches_121 : decode cX4_branches 121 = .ok (.iconst 1, 1) := by decide +kernel
theorem dX4_branches_122 : decode cX4_branches 122 = .ok (.goto 4, 3) := by decide +kernel
theorem dX4_branches_125 : decode cX4_branches 125 = .ok (.iconst 0, 1) := by decide +kernel
theorem dX4_branches_126 : decode cX4_branches 126 = .ok (.ireturn, 1) := by decide +kernel
theorem dX4_branches_127 : decode cX4_branches 127 = .ok (.iload_n 1, 1) := by decide +kernel
theorem dX4_branches_128 : decode cX4_branches 128 = .ok (.iload_n 2, 1) := by decide +kernel
theorem dX4_branches_129 : decode cX4_branches 129 = .ok (.if_icmp .lt 7, 3) := by decide +kernel
theorem dX4_branches_132 : decode cX4_branches 132 = .ok (.iconst 1, 1) := by decide +kernel
theorem dX4_branches_133 : decode cX4_branches 133 = .ok (.goto 4, 3) := by decide +kernel
theorem dX4_branches_136 : decode cX4_branches 136 = .ok (.iconst 0, 1) := by decide +kernel
theorem dX4_branches_137 : decode cX4_branches 137 = .ok (.ireturn, 1) := by decide +kernel
theorem dX4_branches_138 : decode cX4_branches 138 = .ok (.iload_n 1, 1) := by decide +kernel
theorem dX4_branches_139 : decode cX4_branches 139 = .ok (.iload_n 2, 1) := by decide +kernel
theorem dX4_branches_140 : decode cX4_branches 140 = .ok (.if_icmp .le 7, 3) := by decide +kernel
theorem dX4_branches_143 : decode cX4_branches 143 = .ok (.iconst 1, 1) := by decide +kernel
theorem dX4_branches_144 : decode cX4_branches 144 = .ok (.goto 4, 3) := by decide +kernel
theorem dX4_branches_147 : decode cX4_branches 147 = .ok (.iconst 0, 1) := by decide +kernel
theorem dX4_branches_148 : decode cX4_branches 148 = .ok (.ireturn, 1) := by decide +kernel
theorem dX4_branches_149 : decode cX4_branches 149 = .ok (.iload_n 1, 1) := by decide +kernel
theorem dX4_branches_150 : decode cX4_branches 150 = .ok (.iload_n 2, 1) := by decide +kernel
theorem dX4_branches_151 : decode cX4_branches 151 = .ok (.if_icmp .gt 7, 3) := by decide +kernel
theorem dX4_branches_154 : decode cX4_branches 154 = .ok (.iconst 1, 1) := by decide +kernel
theorem dX4_branches_155 : decode cX4_branches 155 = .ok (.goto 4, 3) := by decide +kernel
theorem dX4_branches_158 : decode cX4_branches 158 = .ok (.iconst 0, 1) := by decide +kernel
theorem dX4_branches_159 : decode cX4_branches 159 = .ok (.ireturn, 1) := by decide +kernel
theorem dX4_branches_160 : decode cX4_branches 160 = .ok (.iload_n 1, 1) := by decide +kernel
theorem dX4_branches_161 : decode cX4_branches 161 = .ok (.iload_n 2, 1) := by decide +kernel
theorem dX4_branches_162 : decode cX4_branches 162 = .ok (.invokestatic 13, 3) := by decide +kernel
theorem dX4_branches_165 : decode cX4_branches 165 = .ok (.ifCond .ge 7, 3) := by decide +kernel
theorem dX4_branches_168 : decode cX4_branches 168 = .ok (.iconst 1, 1) := by decide +kernel
theorem dX4_branches_169 : decode cX4_branches 169 = .ok (.goto 4, 3) := by decide +kernel
theorem dX4_branches_172 : decode cX4_branches 172 = .ok (.iconst 0, 1) := by decide +kernel
theorem dX4_branches_173 : decode cX4_branches 173 = .ok (.ireturn, 1) := by decide +kernel
theorem dX4_branches_174 : decode cX4_branches 174 = .ok (.iload_n 1, 1) := by decide +kernel
theorem dX4_branches_175 : decode cX4_branches 175 = .ok (.iload_n 2, 1) := by decide +kernel
theorem dX4_branches_176 : decode cX4_branches 176 = .ok (.invokestatic 13, 3) := by decide +kernel
theorem dX4_branches_179 : decode cX4_branches 179 = .ok (.ifCond .lt 7, 3) := by decide +kernel
theorem dX4_branches_182 : decode cX4_branches 182 = .ok (.iconst 1, 1) := by decide +kernel
theorem dX4_branches_183 : decode cX4_branches 183 = .ok (.goto 4, 3) := by decide +kernel
theorem dX4_branches_186 : decode cX4_branches 186 = .ok (.iconst 0, 1) := by decide +kernel
theorem dX4_branches_187 : decode cX4_branches 187 = .ok (.ireturn, 1) := by decide +kernel
theorem dX4_branches_188 : decode cX4_branches 188 = .ok (.iload_n 1, 1) := by decide +kernel
theorem dX4_branches_189 : decode cX4_branches 189 = .ok (.iload_n 2, 1) := by decide +kernel
theorem dX4_branches_190 : decode cX4_branches 190 = .ok (.invokestatic 13, 3) := by decide +kernel
theorem dX4_branches_193 : decode cX4_branches 193 = .ok (.ifCond .le 7, 3) := by decide +kernel
theorem dX4_branches_196 : decode cX4_branches 196 = .ok (.iconst 1, 1) := by decide +kernel
theorem dX4_branches_197 : decode cX4_branches 197 = .ok (.goto 4, 3) := by decide +kernel
theorem dX4_branches_200 : decode cX4_branches 200 = .ok (.iconst 0, 1) := by decide +kernel
theorem dX4_branches_201 : decode cX4_branches 201 = .ok (.ireturn, 1) := by decide +kernel
theorem dX4_branches_202 : decode cX4_branches 202 = .ok (.iload_n 1, 1) := by decide +kernel
theorem dX4_branches_203 : decode cX4_branches 203 = .ok (.iload_n 2, 1) := by decide +kernel
theorem dX4_branches_204 : decode cX4_branches 204 = .ok (.invokestatic 13, 3) := by decide +kernel
theorem dX4_branches_207 : decode cX4_branches 207 = .ok (.ifCond .gt 7, 3) := by decide +kernel
theorem dX4_branches_210 : decode cX4_branches 210 = .ok (.iconst 1, 1) := by decide +kernel
theorem dX4_branches_211 : decode cX4_branches 211 = .ok (.goto 4, 3) := by decide +kernel
theorem dX4_branches_214 : decode cX4_branches 214 = .ok (.iconst 0, 1) := by decide +kernel
theorem dX4_branches_215 : decode cX4_branches 215 = .ok (.ireturn, 1) := by decide +kernel
theorem dX4_branches_216 : decode cX4_branches 216 = .ok (.iconst 0, 1) := by decide +kernel
theorem dX4_branches_217 : decode cX4_branches 217 = .ok (.ireturn, 1) := by decide +kernel
theorem dX4_ability_0 : decode cX4_ability 0 = .ok (.iload_n 0, 1) := by decide +kernel
theorem dX4_ability_1 : decode cX4_ability 1 = .ok (.tableswitch 51 0 6 #[43, 46, 49, 49, 51, 49, 49], 43) := by decide +kernel
theorem dX4_ability_44 : decode cX4_ability 44 = .ok (.ldc 19, 2) := by decide +kernel
theorem dX4_ability_46 : decode cX4_ability 46 = .ok (.ireturn, 1) := by decide +kernel
theorem dX4_ability_47 : decode cX4_ability 47 = .ok (.ldc 20, 2) := by decide +kernel
theorem dX4_ability_49 : decode cX4_ability 49 = .ok (.ireturn, 1) := by decide +kernel
theorem dX4_ability_50 : decode cX4_ability 50 = .ok (.iconst 1, 1) := by decide +kernel
theorem dX4_ability_51 : decode cX4_ability 51 = .ok (.ireturn, 1) := by decide +kernel
theorem dX4_ability_52 : decode cX4_ability 52 = .ok (.iconst 0, 1) := by decide +kernel
theorem dX4_ability_53 : decode cX4_ability 53 = .ok (.ireturn, 1) := by decide +kernel
theorem dX5_init_0 : decode cX5_init 0 = .ok (.aload_n 0, 1) := by decide +kernel
theorem dX5_init_1 : decode cX5_init 1 = .ok (.invokespecial 3, 3) := by decide +kernel
theorem dX5_init_4 : decode cX5_init 4 = .ok (.aload_n 0, 1) := by decide +kernel
theorem dX5_init_5 : decode cX5_init 5 = .ok (.aload_n 1, 1) := by decide +kernel
theorem dX5_init_6 : decode cX5_init 6 = .ok (.putfield 9, 3) := by decide +kernel
theorem dX5_init_9 : decode cX5_init 9 = .ok (.aload_n 0, 1) := by decide +kernel
theorem dX5_init_10 : decode cX5_init 10 = .ok (.new 15, 3) := by decide +kernel
theorem dX5_init_13 : decode cX5_init 13 = .ok (.dup, 1) := by decide +kernel
theorem dX5_init_14 : decode cX5_init 14 = .ok (.bipush 64, 2) := by decide +kernel
theorem dX5_init_16 : decode cX5_init 16 = .ok (.invokespecial 17, 3) := by decide +kernel
theorem dX5_init_19 : decode cX5_init 19 = .ok (.putfield 20, 3) := by decide +kernel
theorem dX5_init_22 : decode cX5_init 22 = .ok (.return_, 1) := by decide +kernel
theorem dX5_lookIn_0 : decode cX5_lookIn 0 = .ok (.aload_n 0, 1) := by decide +kernel
theorem dX5_lookIn_1 : decode cX5_lookIn 1 = .ok (.iload_n 1, 1) := by decide +kernel
theorem dX5_lookIn_2 : decode cX5_lookIn 2 = .ok (.putfield 23, 3) := by decide +kernel
theorem dX5_lookIn_5 : decode cX5_lookIn 5 = .ok (.aload_n 0, 1) := by decide +kernel
theorem dX5_lookIn_6 : decode cX5_lookIn 6 = .ok (.iload_n 2, 1) := by decide +kernel
theorem dX5_lookIn_7 : decode cX5_lookIn 7 = .ok (.putfield 27, 3) := by decide +kernel
theorem dX5_lookIn_10 : decode cX5_lookIn 10 = .ok (.aload_n 0, 1) := by decide +kernel
theorem dX5_lookIn_11 : decode cX5_lookIn 11 = .ok (.iload 4, 2) := by decide +kernel
theorem dX5_lookIn_13 : decode cX5_lookIn 13 = .ok (.putfield 30, 3) := by decide +kernel
theorem dX5_lookIn_16 : decode cX5_lookIn 16 = .ok (.aload_n 0, 1) := by decide +kernel
theorem dX5_lookIn_17 : decode cX5_lookIn 17 = .ok (.iload_n 3, 1) := by decide +kernel
theorem dX5_lookIn_18 : decode cX5_lookIn 18 = .ok (.sipush 1024, 3) := by decide +kernel
theorem dX5_lookIn_21 : decode cX5_lookIn 21 = .ok (.invokestatic 33, 3) := by decide +kernel
theorem dX5_lookIn_24 : decode cX5_lookIn 24 = .ok (.ifCond .le 9, 3) := by decide +kernel
theorem dX5_lookIn_27 : decode cX5_lookIn 27 = .ok (.sipush 1024, 3) := by decide +kernel
theorem dX5_lookIn_30 : decode cX5_lookIn 30 = .ok (.goto 4, 3) := by decide +kernel
theorem dX5_lookIn_33 : decode cX5_lookIn 33 = .ok (.iload_n 3, 1) := by decide +kernel
theorem dX5_lookIn_34 : decode cX5_lookIn 34 = .ok (.putfield 39, 3) := by decide +kernel
theorem dX5_lookIn_37 : decode cX5_lookIn 37 = .ok (.return_, 1) := by decide +kernel
theorem dX5_lookFor_0 : decode cX5_lookFor 0 = .ok (.aload_n 0, 1) := by decide +kernel
theorem dX5_lookFor_1 : decode cX5_lookFor 1 = .ok (.iload_n 3, 1) := by decide +kernel
theorem dX5_lookFor_2 : decode cX5_lookFor 2 = .ok (.putfield 42, 3) := by decide +kernel
theorem dX5_lookFor_5 : decode cX5_lookFor 5 = .ok (.aload_n 0, 1) := by decide +kernel
theorem dX5_lookFor_6 : decode cX5_lookFor 6 = .ok (.iload_n 2, 1) := by decide +kernel
theorem dX5_lookFor_7 : decode cX5_lookFor 7 = .ok (.putfield 45, 3) := by decide +kernel
theorem dX5_lookFor_10 : decode cX5_lookFor 10 = .ok (.aload_n 0, 1) := by decide +kernel
theorem dX5_lookFor_11 : decode cX5_lookFor 11 = .ok (.aload_n 0, 1) := by decide +kernel
theorem dX5_lookFor_12 : decode cX5_lookFor 12 = .ok (.invokevirtual 48, 3) := by decide +kernel
theorem dX5_lookFor_15 : decode cX5_lookFor 15 = .ok (.ifCond .eq 11, 3) := by decide +kernel
theorem dX5_lookFor_18 : decode cX5_lookFor 18 = .ok (.aload_n 0, 1) := by decide +kernel
theorem dX5_lookFor_19 : decode cX5_lookFor 19 = .ok (.iload_n 1, 1) := by decide +kernel
theorem dX5_lookFor_20 : decode cX5_lookFor 20 = .ok (.invokevirtual 52, 3) := by decide +kernel
theorem dX5_lookFor_23 : decode cX5_lookFor 23 = .ok (.goto 8, 3) := by decide +kernel
theorem dX5_lookFor_26 : decode cX5_lookFor 26 = .ok (.aload_n 0, 1) := by decide +kernel
theorem dX5_lookFor_27 : decode cX5_lookFor 27 = .ok (.iload_n 1, 1) := by decide +kernel
theorem dX5_lookFor_28 : decode cX5_lookFor 28 = .ok (.invokevirtual 56, 3) := by decide +kernel
theorem dX5_lookFor_31 : decode cX5_lookFor 31 = .ok (.putfield 59, 3) := by decide +kernel
theorem dX5_lookFor_34 : decode cX5_lookFor 34 = .ok (.return_, 1) := by decide +kernel
theorem dX5_isIndirect_0 : decode cX5_isIndirect 0 = .ok (.aload_n 0, 1) := by decide +kernel
theorem dX5_isIndirect_1 : decode cX5_isIndirect 1 = .ok (.getfield 42, 3) := by decide +kernel
theorem dX5_isIndirect_4 : decode cX5_isIndirect 4 = .ok (.iconst 1, 1) := by decide +kernel
theorem dX5_isIndirect_5 : decode cX5_isIndirect 5 = .ok (.iand, 1) := by decide +kernel
theorem dX5_isIndirect_6 : decode cX5_isIndirect 6 = .ok (.ifCond .eq 7, 3) := by decide +kernel
theorem dX5_isIndirect_9 : decode cX5_isIndirect 9 = .ok (.iconst 1, 1) := by decide +kernel
theorem dX5_isIndirect_10 : decode cX5_isIndirect 10 = .ok (.goto 4, 3) := by decide +kernel
theorem dX5_isIndirect_13 : decode cX5_isIndirect 13 = .ok (.iconst 0, 1) := by decide +kernel
theorem dX5_isIndirect_14 : decode cX5_isIndirect 14 = .ok (.ireturn, 1) := by decide +kernel
theorem dX5_isEnded_0 : decode cX5_isEnded 0 = .ok (.aload_n 0, 1) := by decide +kernel
theorem dX5_isEnded_1 : decode cX5_isEnded 1 = .ok (.getfield 42, 3) := by decide +kernel
theorem dX5_isEnded_4 : decode cX5_isEnded 4 = .ok (.iconst 2, 1) := by decide +kernel
theorem dX5_isEnded_5 : decode cX5_isEnded 5 = .ok (.iand, 1) := by decide +kernel
theorem dX5_isEnded_6 : decode cX5_isEnded 6 = .ok (.ifCond .eq 7, 3) := by decide +kernel
theorem dX5_isEnded_9 : decode cX5_isEnded 9 = .ok (.iconst 1, 1) := by decide +kernel
theorem dX5_isEnded_10 : decode cX5_isEnded 10 = .ok (.goto 4, 3) := by decide +kernel
theorem dX5_isEnded_13 : decode cX5_isEnded 13 = .ok (.iconst 0, 1) := by decide +kernel
theorem dX5_isEnded_14 : decode cX5_isEnded 14 = .ok (.ireturn, 1) := by decide +kernel
theorem dX5_wantsPlace_0 : decode cX5_wantsPlace 0 = .ok (.aload_n 0, 1) := by decide +kernel
theorem dX5_wantsPlace_1 : decode cX5_wantsPlace 1 = .ok (.getfield 42, 3) := by decide +kernel
theorem dX5_wantsPlace_4 : decode cX5_wantsPlace 4 = .ok (.iconst 4, 1) := by decide +kernel
theorem dX5_wantsPlace_5 : decode cX5_wantsPlace 5 = .ok (.iand, 1) := by decide +kernel
theorem dX5_wantsPlace_6 : decode cX5_wantsPlace 6 = .ok (.ifCond .eq 7, 3) := by decide +kernel
theorem dX5_wantsPlace_9 : decode cX5_wantsPlace 9 = .ok (.iconst 1, 1) := by decide +kernel
theorem dX5_wantsPlace_10 : decode cX5_wantsPlace 10 = .ok (.goto 4, 3) := by decide +kernel
theorem dX5_wantsPlace_13 : decode cX5_wantsPlace 13 = .ok (.iconst 0, 1) := by decide +kernel
theorem dX5_wantsPlace_14 : decode cX5_wantsPlace 14 = .ok (.ireturn, 1) := by decide +kernel
theorem dX5_takeKeyAt_0 : decode cX5_takeKeyAt 0 = .ok (.aload_n 0, 1) := by decide +kernel
theorem dX5_takeKeyAt_1 : decode cX5_takeKeyAt 1 = .ok (.getfield 45, 3) := by decide +kernel
theorem dX5_takeKeyAt_4 : decode cX5_takeKeyAt 4 = .ok (.iconst 1, 1) := by decide +kernel
theorem dX5_takeKeyAt_5 : decode cX5_takeKeyAt 5 = .ok (.if_icmp .lt 12, 3) := by decide +kernel
theorem dX5_takeKeyAt_8 : decode cX5_takeKeyAt 8 = .ok (.aload_n 0, 1) := by decide +kernel
theorem dX5_takeKeyAt_9 : decode cX5_takeKeyAt 9 = .ok (.getfield 45, 3) := by decide +kernel
theorem dX5_takeKeyAt_12 : decode cX5_takeKeyAt 12 = .ok (.bipush 64, 2) := by decide +kernel
theorem dX5_takeKeyAt_14 : decode cX5_takeKeyAt 14 = .ok (.if_icmp .le 6, 3) := by decide +kernel
theorem dX5_takeKeyAt_17 : decode cX5_takeKeyAt 17 = .ok (.bipush 9, 2) := by decide +kernel
theorem dX5_takeKeyAt_19 : decode cX5_takeKeyAt 19 = .ok (.ireturn, 1) := by decide +kernel
theorem dX5_takeKeyAt_20 : decode cX5_takeKeyAt 20 = .ok (.aload_n 0, 1) := by decide +kernel
theorem dX5_takeKeyAt_21 : decode cX5_takeKeyAt 21 = .ok (.getfield 9, 3) := by decide +kernel
theorem dX5_takeKeyAt_24 : decode cX5_takeKeyAt 24 = .ok (.iload_n 1, 1) := by decide +kernel
theorem dX5_takeKeyAt_25 : decode cX5_takeKeyAt 25 = .ok (.aload_n 0, 1) := by decide +kernel
theorem dX5_takeKeyAt_26 : decode cX5_takeKeyAt 26 = .ok (.getfield 45, 3) := by decide +kernel
theorem dX5_takeKeyAt_29 : decode cX5_takeKeyAt 29 = .ok (.invokevirtual 62, 3) := by decide +kernel
theorem dX5_takeKeyAt_32 : decode cX5_takeKeyAt 32 = .ok (.ifCond .ne 5, 3) := by decide +kernel
theorem dX5_takeKeyAt_35 : decode cX5_takeKeyAt 35 = .ok (.iconst 1, 1) := by decide +kernel
theorem dX5_takeKeyAt_36 : decode cX5_takeKeyAt 36 = .ok (.ireturn, 1) := by decide +kernel
theorem dX5_takeKeyAt_37 : decode cX5_takeKeyAt 37 = .ok (.iconst 0, 1) := by decide +kernel
theorem dX5_takeKeyAt_38 : decode cX5_takeKeyAt 38 = .ok (.istore_n 2, 1) := by decide +kernel
theorem dX5_takeKeyAt_39 : decode cX5_takeKeyAt 39 = .ok (.iload_n 2, 1) := by decide +kernel
theorem dX5_takeKeyAt_40 : decode cX5_takeKeyAt 40 = .ok (.aload_n 0, 1) := by decide +kernel
theorem dX5_takeKeyAt_41 : decode cX5_takeKeyAt 41 = .ok (.getfield 45, 3) := by decide +kernel
theorem dX5_takeKeyAt_44 : decode cX5_takeKeyAt 44 = .ok (.if_icmp .ge 27, 3) := by decide +kernel
theorem dX5_takeKeyAt_47 : decode cX5_takeKeyAt 47 = .ok (.aload_n 0, 1) := by decide +kernel
theorem dX5_takeKeyAt_48 : decode cX5_takeKeyAt 48 = .ok (.getfield 20, 3) := by decide +kernel
theorem dX5_takeKeyAt_51 : decode cX5_takeKeyAt 51 = .ok (.iload_n 2, 1) := by decide +kernel
theorem dX5_takeKeyAt_52 : decode cX5_takeKeyAt 52 = .ok (.aload_n 0, 1) := by decide +kernel
theorem dX5_takeKeyAt_53 : decode cX5_takeKeyAt 53 = .ok (.getfield 9, 3) := by decide +kernel
theorem dX5_takeKeyAt_56 : decode cX5_takeKeyAt 56 = .ok (.iload_n 1, 1) := by decide +kernel
theorem dX5_takeKeyAt_57 : decode cX5_takeKeyAt 57 = .ok (.iload_n 2, 1) := by decide +kernel
theorem dX5_takeKeyAt_58 : decode cX5_takeKeyAt 58 = .ok (.iadd, 1) := by decide +kernel
theorem dX5_takeKeyAt_59 : decode cX5_takeKeyAt 59 = .ok (.invokevirtual 66, 3) := by decide +kernel
theorem dX5_takeKeyAt_62 : decode cX5_takeKeyAt 62 = .ok (.invokevirtual 69, 3) := by decide +kernel
theorem dX5_takeKeyAt_65 : decode cX5_takeKeyAt 65 = .ok (.iinc 2 1, 3) := by decide +kernel
theorem dX5_takeKeyAt_68 : decode cX5_takeKeyAt 68 = .ok (.goto (-29), 3) := by decide +kernel
theorem dX5_takeKeyAt_71 : decode cX5_takeKeyAt 71 = .ok (.iconst 0, 1) := by decide +kernel
theorem dX5_takeKeyAt_72 : decode cX5_takeKeyAt 72 = .ok (.ireturn, 1) := by decide +kernel
theorem dX5_takeKeyOf_0 : decode cX5_takeKeyOf 0 = .ok (.aload_n 0, 1) := by decide +kernel
theorem dX5_takeKeyOf_1 : decode cX5_takeKeyOf 1 = .ok (.getfield 45, 3) := by decide +kernel
theorem dX5_takeKeyOf_4 : decode cX5_takeKeyOf 4 = .ok (.iconst 1, 1) := by decide +kernel
theorem dX5_takeKeyOf_5 : decode cX5_takeKeyOf 5 = .ok (.if_icmp .eq 22, 3) := by decide +kernel
theorem dX5_takeKeyOf_8 : decode cX5_takeKeyOf 8 = .ok (.aload_n 0, 1) := by decide +kernel
theorem dX5_takeKeyOf_9 : decode cX5_takeKeyOf 9 = .ok (.getfield 45, 3) := by decide +kernel
theorem dX5_takeKeyOf_12 : decode cX5_takeKeyOf 12 = .ok (.iconst 2, 1) := by decide +kernel
theorem dX5_takeKeyOf_13 : decode cX5_takeKeyOf 13 = .ok (.if_icmp .eq 14, 3) := by decide +kernel
theorem dX5_takeKeyOf_16 : decode cX5_takeKeyOf 16 = .ok (.aload_n 0, 1) := by decide +kernel
theorem dX5_takeKeyOf_17 : decode cX5_takeKeyOf 17 = .ok (.getfield 45, 3) := by decide +kernel
theorem dX5_takeKeyOf_20 : decode cX5_takeKeyOf 20 = .ok (.iconst 4, 1) := by decide +kernel
theorem dX5_takeKeyOf_21 : decode cX5_takeKeyOf 21 = .ok (.if_icmp .eq 6, 3) := by decide +kernel
theorem dX5_takeKeyOf_24 : decode cX5_takeKeyOf 24 = .ok (.bipush 9, 2) := by decide +kernel
theorem dX5_takeKeyOf_26 : decode cX5_takeKeyOf 26 = .ok (.ireturn, 1) := by decide +kernel
theorem dX5_takeKeyOf_27 : decode cX5_takeKeyOf 27 = .ok (.aload_n 0, 1) := by decide +kernel
theorem dX5_takeKeyOf_28 : decode cX5_takeKeyOf 28 = .ok (.getfield 20, 3) := by decide +kernel
theorem dX5_takeKeyOf_31 : decode cX5_takeKeyOf 31 = .ok (.iconst 0, 1) := by decide +kernel
theorem dX5_takeKeyOf_32 : decode cX5_takeKeyOf 32 = .ok (.aload_n 0, 1) := by decide +kernel
theorem dX5_takeKeyOf_33 : decode cX5_takeKeyOf 33 = .ok (.getfield 45, 3) := by decide +kernel
theorem dX5_takeKeyOf_36 : decode cX5_takeKeyOf 36 = .ok (.iload_n 1, 1) := by decide +kernel
theorem dX5_takeKeyOf_37 : decode cX5_takeKeyOf 37 = .ok (.i2l, 1) := by decide +kernel
theorem dX5_takeKeyOf_38 : decode cX5_takeKeyOf 38 = .ok (.invokevirtual 73, 3) := by decide +kernel
theorem dX5_takeKeyOf_41 : decode cX5_takeKeyOf 41 = .ok (.iconst 0, 1) := by decide +kernel
theorem dX5_takeKeyOf_42 : decode cX5_takeKeyOf 42 = .ok (.ireturn, 1) := by decide +kernel
theorem dX5_oneByOne_0 : decode cX5_oneByOne 0 = .ok (.iconst 0, 1) := by decide +kernel
theorem dX5_oneByOne_1 : decode cX5_oneByOne 1 = .ok (.istore_n 1, 1) := by decide +kernel
theorem dX5_oneByOne_2 : decode cX5_oneByOne 2 = .ok (.iload_n 1, 1) := by decide +kernel
theorem dX5_oneByOne_3 : decode cX5_oneByOne 3 = .ok (.aload_n 0, 1) := by decide +kernel
theorem dX5_oneByOne_4 : decode cX5_oneByOne 4 = .ok (.getfield 39, 3) := by decide +kernel
theorem dX5_oneByOne_7 : decode cX5_oneByOne 7 = .ok (.if_icmp .ge 63, 3) := by decide +kernel
theorem dX5_oneByOne_10 : decode cX5_oneByOne 10 = .ok (.aload_n 0, 1) := by decide +kernel
theorem dX5_oneByOne_11 : decode cX5_oneByOne 11 = .ok (.getfield 59, 3) := by decide +kernel
theorem dX5_oneByOne_14 : decode cX5_oneByOne 14 = .ok (.ifCond .ne 56, 3) := by decide +kernel
theorem dX5_oneByOne_17 : decode cX5_oneByOne 17 = .ok (.aload_n 0, 1) := by decide +kernel
theorem dX5_oneByOne_18 : decode cX5_oneByOne 18 = .ok (.iload_n 1, 1) := by decide +kernel
theorem dX5_oneByOne_19 : decode cX5_oneByOne 19 = .ok (.invokevirtual 77, 3) := by decide +kernel
theorem dX5_oneByOne_22 : decode cX5_oneByOne 22 = .ok (.ifCond .ne 8, 3) := by decide +kernel
theorem dX5_oneByOne_25 : decode cX5_oneByOne 25 = .ok (.aload_n 0, 1) := by decide +kernel
theorem dX5_oneByOne_26 : decode cX5_oneByOne 26 = .ok (.invokevirtual 81, 3) := by decide +kernel
theorem dX5_oneByOne_29 : decode cX5_oneByOne 29 = .ok (.ireturn, 1) := by decide +kernel
theorem dX5_oneByOne_30 : decode cX5_oneByOne 30 = .ok (.aload_n 0, 1) := by decide +kernel
theorem dX5_oneByOne_31 : decode cX5_oneByOne 31 = .ok (.iload_n 1, 1) := by decide +kernel
theorem dX5_oneByOne_32 : decode cX5_oneByOne 32 = .ok (.invokevirtual 85, 3) := by decide +kernel
theorem dX5_oneByOne_35 : decode cX5_oneByOne 35 = .ok (.ifCond .ne 9, 3) := by decide +kernel
theorem dX5_oneByOne_38 : decode cX5_oneByOne 38 = .ok (.aload_n 0, 1) := by decide +kernel
theorem dX5_oneByOne_39 : decode cX5_oneByOne 39 = .ok (.iload_n 1, 1) := by decide +kernel
theorem dX5_oneByOne_40 : decode cX5_oneByOne 40 = .ok (.invokevirtual 88, 3) := by decide +kernel
theorem dX5_oneByOne_43 : decode cX5_oneByOne 43 = .ok (.ireturn, 1) := by decide +kernel
theorem dX5_oneByOne_44 : decode cX5_oneByOne 44 = .ok (.aload_n 0, 1) := by decide +kernel
theorem dX5_oneByOne_45 : decode cX5_oneByOne 45 = .ok (.invokevirtual 91, 3) := by decide +kernel
theorem dX5_oneByOne_48 : decode cX5_oneByOne 48 = .ok (.ifCond .eq 16, 3) := by decide +kernel
theorem dX5_oneByOne_51 : decode cX5_oneByOne 51 = .ok (.aload_n 0, 1) := by decide +kernel
theorem dX5_oneByOne_52 : decode cX5_oneByOne 52 = .ok (.iload_n 1, 1) := by decide +kernel
theorem dX5_oneByOne_53 : decode cX5_oneByOne 53 = .ok (.invokevirtual 94, 3) := by decide +kernel
theorem dX5_oneByOne_56 : decode cX5_oneByOne 56 = .ok (.ifCond .eq 8, 3) := by decide +kernel
theorem dX5_oneByOne_59 : decode cX5_oneByOne 59 = .ok (.aload_n 0, 1) := by decide +kernel
theorem dX5_oneByOne_60 : decode cX5_oneByOne 60 = .ok (.invokevirtual 81, 3) := by decide +kernel
theorem dX5_oneByOne_63 : decode cX5_oneByOne 63 = .ok (.ireturn, 1) := by decide +kernel
theorem dX5_oneByOne_64 : decode cX5_oneByOne 64 = .ok (.iinc 1 1, 3) := by decide +kernel
theorem dX5_oneByOne_67 : decode cX5_oneByOne 67 = .ok (.goto (-65), 3) := by decide +kernel
theorem dX5_oneByOne_70 : decode cX5_oneByOne 70 = .ok (.aload_n 0, 1) := by decide +kernel
theorem dX5_oneByOne_71 : decode cX5_oneByOne 71 = .ok (.invokevirtual 81, 3) := by decide +kernel
theorem dX5_oneByOne_74 : decode cX5_oneByOne 74 = .ok (.ireturn, 1) := by decide +kernel
theorem dX5_byHalves_0 : decode cX5_byHalves 0 = .ok (.iconst 0, 1) := by decide +kernel
theorem dX5_byHalves_1 : decode cX5_byHalves 1 = .ok (.istore_n 1, 1) := by decide +kernel
theorem dX5_byHalves_2 : decode cX5_byHalves 2 = .ok (.aload_n 0, 1) := by decide +kernel
theorem dX5_byHalves_3 : decode cX5_byHalves 3 = .ok (.getfield 39, 3) := by decide +kernel
theorem dX5_byHalves_6 : decode cX5_byHalves 6 = .ok (.istore_n 2, 1) := by decide +kernel
theorem dX5_byHalves_7 : decode cX5_byHalves 7 = .ok (.iconst 0, 1) := by decide +kernel
theorem dX5_byHalves_8 : decode cX5_byHalves 8 = .ok (.istore_n 3, 1) := by decide +kernel
theorem dX5_byHalves_9 : decode cX5_byHalves 9 = .ok (.iload_n 3, 1) := by decide +kernel
theorem dX5_byHalves_10 : decode cX5_byHalves 10 = .ok (.bipush 32, 2) := by decide +kernel
theorem dX5_byHalves_12 : decode cX5_byHalves 12 = .ok (.if_icmp .ge 78, 3) := by decide +kernel
theorem dX5_byHalves_15 : decode cX5_byHalves 15 = .ok (.iload_n 1, 1) := by decide +kernel
theorem dX5_byHalves_16 : decode cX5_byHalves 16 = .ok (.iload_n 2, 1) := by decide +kernel
theorem dX5_byHalves_17 : decode cX5_byHalves 17 = .ok (.if_icmp .ge 73, 3) := by decide +kernel
theorem dX5_byHalves_20 : decode cX5_byHalves 20 = .ok (.aload_n 0, 1) := by decide +kernel
theorem dX5_byHalves_21 : decode cX5_byHalves 21 = .ok (.getfield 59, 3) := by decide +kernel
theorem dX5_byHalves_24 : decode cX5_byHalves 24 = .ok (.ifCond .ne 66, 3) := by decide +kernel
theorem dX5_byHalves_27 : decode cX5_byHalves 27 = .ok (.iload_n 1, 1) := by decide +kernel
theorem dX5_byHalves_28 : decode cX5_byHalves 28 = .ok (.iload_n 2, 1) := by decide +kernel
theorem dX5_byHalves_29 : decode cX5_byHalves 29 = .ok (.iadd, 1) := by decide +kernel
theorem dX5_byHalves_30 : decode cX5_byHalves 30 = .ok (.iconst 2, 1) := by decide +kernel
theorem dX5_byHalves_31 : decode cX5_byHalves 31 = .ok (.idiv, 1) := by decide +kernel
theorem dX5_byHalves_32 : decode cX5_byHalves 32 = .ok (.istore 4, 2) := by decide +kernel
theorem dX5_byHalves_34 : decode cX5_byHalves 34 = .ok (.aload_n 0, 1) := by decide +kernel
theorem dX5_byHalves_35 : decode cX5_byHalves 35 = .ok (.iload 4, 2) := by decide +kernel
theorem dX5_byHalves_37 : decode cX5_byHalves 37 = .ok (.invokevirtual 77, 3) := by decide +kernel
theorem dX5_byHalves_40 : decode cX5_byHalves 40 = .ok (.ifCond .ne 8, 3) := by decide +kernel
theorem dX5_byHalves_43 : decode cX5_byHalves 43 = .ok (.aload_n 0, 1) := by decide +kernel
theorem dX5_byHalves_44 : decode cX5_byHalves 44 = .ok (.invokevirtual 81, 3) := by decide +kernel
theorem dX5_byHalves_47 : decode cX5_byHalves 47 = .ok (.ireturn, 1) := by decide +kernel
theorem dX5_byHalves_48 : decode cX5_byHalves 48 = .ok (.aload_n 0, 1) := by decide +kernel
theorem dX5_byHalves_49 : decode cX5_byHalves 49 = .ok (.iload 4, 2) := by decide +kernel
theorem dX5_byHalves_51 : decode cX5_byHalves 51 = .ok (.invokevirtual 85, 3) := by decide +kernel
theorem dX5_byHalves_54 : decode cX5_byHalves 54 = .ok (.istore 5, 2) := by decide +kernel
theorem dX5_byHalves_56 : decode cX5_byHalves 56 = .ok (.iload 5, 2) := by decide +kernel
theorem dX5_byHalves_58 : decode cX5_byHalves 58 = .ok (.ifCond .ne 10, 3) := by decide +kernel
theorem dX5_byHalves_61 : decode cX5_byHalves 61 = .ok (.aload_n 0, 1) := by decide +kernel
theorem dX5_byHalves_62 : decode cX5_byHalves 62 = .ok (.iload 4, 2) := by decide +kernel
theorem dX5_byHalves_64 : decode cX5_byHalves 64 = .ok (.invokevirtual 88, 3) := by decide +kernel
theorem dX5_byHalves_67 : decode cX5_byHalves 67 = .ok (.ireturn, 1) := by decide +kernel
theorem dX5_byHalves_68 : decode cX5_byHalves 68 = .ok (.iload 5, 2) := by decide +kernel
theorem dX5_byHalves_70 : decode cX5_byHalves 70 = .ok (.ifCond .ge 11, 3) := by decide +kernel
theorem dX5_byHalves_73 : decode cX5_byHalves 73 = .ok (.iload 4, 2) := by decide +kernel
theorem dX5_byHalves_75 : decode cX5_byHalves 75 = .ok (.iconst 1, 1) := by decide +kernel
theorem dX5_byHalves_76 : decode cX5_byHalves 76 = .ok (.iadd, 1) := by decide +kernel
theorem dX5_byHalves_77 : decode cX5_byHalves 77 = .ok (.istore_n 1, 1) := by decide +kernel
theorem dX5_byHalves_78 : decode cX5_byHalves 78 = .ok (.goto 6, 3) := by decide +kernel
theorem dX5_byHalves_81 : decode cX5_byHalves 81 = .ok (.iload 4, 2) := by decide +kernel
theorem dX5_byHalves_83 : decode cX5_byHalves 83 = .ok (.istore_n 2, 1) := by decide +kernel
theorem dX5_byHalves_84 : decode cX5_byHalves 84 = .ok (.iinc 3 1, 3) := by decide +kernel
theorem dX5_byHalves_87 : decode cX5_byHalves 87 = .ok (.goto (-78), 3) := by decide +kernel
theorem dX5_byHalves_90 : decode cX5_byHalves 90 = .ok (.aload_n 0, 1) := by decide +kernel
theorem dX5_byHalves_91 : decode cX5_byHalves 91 = .ok (.invokevirtual 81, 3) := by decide +kernel
theorem dX5_byHalves_94 : decode cX5_byHalves 94 = .ok (.ireturn, 1) := by decide +kernel
theorem dX5_keyPlaceOf_0 : decode cX5_keyPlaceOf 0 = .ok (.aload_n 0, 1) := by decide +kernel
theorem dX5_keyPlaceOf_1 : decode cX5_keyPlaceOf 1 = .ok (.getfield 23, 3) := by decide +kernel
theorem dX5_keyPlaceOf_4 : decode cX5_keyPlaceOf 4 = .ok (.iload_n 1, 1) := by decide +kernel
theorem dX5_keyPlaceOf_5 : decode cX5_keyPlaceOf 5 = .ok (.aload_n 0, 1) := by decide +kernel
theorem dX5_keyPlaceOf_6 : decode cX5_keyPlaceOf 6 = .ok (.getfield 27, 3) := by decide +kernel
theorem dX5_keyPlaceOf_9 : decode cX5_keyPlaceOf 9 = .ok (.imul, 1) := by decide +kernel
theorem dX5_keyPlaceOf_10 : decode cX5_keyPlaceOf 10 = .ok (.iadd, 1) := by decide +kernel
theorem dX5_keyPlaceOf_11 : decode cX5_keyPlaceOf 11 = .ok (.aload_n 0, 1) := by decide +kernel
theorem dX5_keyPlaceOf_12 : decode cX5_keyPlaceOf 12 = .ok (.getfield 30, 3) := by decide +kernel
theorem dX5_keyPlaceOf_15 : decode cX5_keyPlaceOf 15 = .ok (.iadd, 1) := by decide +kernel
theorem dX5_keyPlaceOf_16 : decode cX5_keyPlaceOf 16 = .ok (.ireturn, 1) := by decide +kernel
theorem dX5_isThere_0 : decode cX5_isThere 0 = .ok (.aload_n 0, 1) := by decide +kernel
theorem dX5_isThere_1 : decode cX5_isThere 1 = .ok (.getfield 9, 3) := by decide +kernel
theorem dX5_isThere_4 : decode cX5_isThere 4 = .ok (.aload_n 0, 1) := by decide +kernel
theorem dX5_isThere_5 : decode cX5_isThere 5 = .ok (.iload_n 1, 1) := by decide +kernel
theorem dX5_isThere_6 : decode cX5_isThere 6 = .ok (.invokevirtual 97, 3) := by decide +kernel
theorem dX5_isThere_9 : decode cX5_isThere 9 = .ok (.aload_n 0, 1) := by decide +kernel
theorem dX5_isThere_10 : decode cX5_isThere 10 = .ok (.getfield 45, 3) := by decide +kernel
theorem dX5_isThere_13 : decode cX5_isThere 13 = .ok (.invokevirtual 62, 3) := by decide +kernel
theorem dX5_isThere_16 : decode cX5_isThere 16 = .ok (.istore_n 2, 1) := by decide +kernel
theorem dX5_isThere_17 : decode cX5_isThere 17 = .ok (.iload_n 2, 1) := by decide +kernel
theorem dX5_isThere_18 : decode cX5_isThere 18 = .ok (.ifCond .ne 8, 3) := by decide +kernel
theorem dX5_isThere_21 : decode cX5_isThere 21 = .ok (.aload_n 0, 1) := by decide +kernel
theorem dX5_isThere_22 : decode cX5_isThere 22 = .ok (.iconst 1, 1) := by decide +kernel
theorem dX5_isThere_23 : decode cX5_isThere 23 = .ok (.putfield 59, 3) := by decide +kernel
theorem dX5_isThere_26 : decode cX5_isThere 26 = .ok (.iload_n 2, 1) := by decide +kernel
theorem dX5_isThere_27 : decode cX5_isThere 27 = .ok (.ireturn, 1) := by decide +kernel
theorem dX5_compare_0 : decode cX5_compare 0 = .ok (.aload_n 0, 1) := by decide +kernel
theorem dX5_compare_1 : decode cX5_compare 1 = .ok (.iload_n 1, 1) := by decide +kernel
theorem dX5_compare_2 : decode cX5_compare 2 = .ok (.invokevirtual 97, 3) := by decide +kernel
theorem dX5_compare_5 : decode cX5_compare 5 = .ok (.istore_n 2, 1) := by decide +kernel
theorem dX5_compare_6 : decode cX5_compare 6 = .ok (.iconst 0, 1) := by decide +kernel
theorem dX5_compare_7 : decode cX5_compare 7 = .ok (.istore_n 3, 1) := by decide +kernel
theorem dX5_compare_8 : decode cX5_compare 8 = .ok (.iload_n 3, 1) := by decide +kernel
theorem dX5_compare_9 : decode cX5_compare 9 = .ok (.aload_n 0, 1) := by decide +kernel
theorem dX5_compare_10 : decode cX5_compare 10 = .ok (.getfield 45, 3) := by decide +kernel
theorem dX5_compare_13 : decode cX5_compare 13 = .ok (.if_icmp .ge 38, 3) := by decide +kernel
theorem dX5_compare_16 : decode cX5_compare 16 = .ok (.aload_n 0, 1) := by decide +kernel
theorem dX5_compare_17 : decode cX5_compare 17 = .ok (.getfield 9, 3) := by decide +kernel
theorem dX5_compare_20 : decode cX5_compare 20 = .ok (.iload_n 2, 1) := by decide +kernel
theorem dX5_compare_21 : decode cX5_compare 21 = .ok (.iload_n 3, 1) := by decide +kernel
theorem dX5_compare_22 : decode cX5_compare 22 = .ok (.iadd, 1) := by decide +kernel
theorem dX5_compare_23 : decode cX5_compare 23 = .ok (.invokevirtual 66, 3) := by decide +kernel
theorem dX5_compare_26 : decode cX5_compare 26 = .ok (.aload_n 0, 1) := by decide +kernel
theorem dX5_compare_27 : decode cX5_compare 27 = .ok (.getfield 20, 3) := by decide +kernel
theorem dX5_compare_30 : decode cX5_compare 30 = .ok (.iload_n 3, 1) := by decide +kernel
theorem dX5_compare_31 : decode cX5_compare 31 = .ok (.invokevirtual 66, 3) := by decide +kernel
theorem dX5_compare_34 : decode cX5_compare 34 = .ok (.isub, 1) := by decide +kernel
theorem dX5_compare_35 : decode cX5_compare 35 = .ok (.istore 4, 2) := by decide +kernel
theorem dX5_compare_37 : decode cX5_compare 37 = .ok (.iload 4, 2) := by decide +kernel
theorem dX5_compare_39 : decode cX5_compare 39 = .ok (.ifCond .eq 6, 3) := by decide +kernel
theorem dX5_compare_42 : decode cX5_compare 42 = .ok (.iload 4, 2) := by decide +kernel
theorem dX5_compare_44 : decode cX5_compare 44 = .ok (.ireturn, 1) := by decide +kernel
theorem dX5_compare_45 : decode cX5_compare 45 = .ok (.iinc 3 1, 3) := by decide +kernel
theorem dX5_compare_48 : decode cX5_compare 48 = .ok (.goto (-40), 3) := by decide +kernel
theorem dX5_compare_51 : decode cX5_compare 51 = .ok (.iconst 0, 1) := by decide +kernel
theorem dX5_compare_52 : decode cX5_compare 52 = .ok (.ireturn, 1) := by decide +kernel
theorem dX5_isBlank_0 : decode cX5_isBlank 0 = .ok (.aload_n 0, 1) := by decide +kernel
theorem dX5_isBlank_1 : decode cX5_isBlank 1 = .ok (.iload_n 1, 1) := by decide +kernel
theorem dX5_isBlank_2 : decode cX5_isBlank 2 = .ok (.invokevirtual 97, 3) := by decide +kernel
theorem dX5_isBlank_5 : decode cX5_isBlank 5 = .ok (.istore_n 2, 1) := by decide +kernel
theorem dX5_isBlank_6 : decode cX5_isBlank 6 = .ok (.iconst 0, 1) := by decide +kernel
theorem dX5_isBlank_7 : decode cX5_isBlank 7 = .ok (.istore_n 3, 1) := by decide +kernel
theorem dX5_isBlank_8 : decode cX5_isBlank 8 = .ok (.iload_n 3, 1) := by decide +kernel
theorem dX5_isBlank_9 : decode cX5_isBlank 9 = .ok (.aload_n 0, 1) := by decide +kernel
theorem dX5_isBlank_10 : decode cX5_isBlank 10 = .ok (.getfield 45, 3) := by decide +kernel
theorem dX5_isBlank_13 : decode cX5_isBlank 13 = .ok (.if_icmp .ge 24, 3) := by decide +kernel
theorem dX5_isBlank_16 : decode cX5_isBlank 16 = .ok (.aload_n 0, 1) := by decide +kernel
theorem dX5_isBlank_17 : decode cX5_isBlank 17 = .ok (.getfield 9, 3) := by decide +kernel
theorem dX5_isBlank_20 : decode cX5_isBlank 20 = .ok (.iload_n 2, 1) := by decide +kernel
theorem dX5_isBlank_21 : decode cX5_isBlank 21 = .ok (.iload_n 3, 1) := by decide +kernel
theorem dX5_isBlank_22 : decode cX5_isBlank 22 = .ok (.iadd, 1) := by decide +kernel
theorem dX5_isBlank_23 : decode cX5_isBlank 23 = .ok (.invokevirtual 66, 3) := by decide +kernel
theorem dX5_isBlank_26 : decode cX5_isBlank 26 = .ok (.ifCond .eq 5, 3) := by decide +kernel
theorem dX5_isBlank_29 : decode cX5_isBlank 29 = .ok (.iconst 0, 1) := by decide +kernel
theorem dX5_isBlank_30 : decode cX5_isBlank 30 = .ok (.ireturn, 1) := by decide +kernel
theorem dX5_isBlank_31 : decode cX5_isBlank 31 = .ok (.iinc 3 1, 3) := by decide +kernel
theorem dX5_isBlank_34 : decode cX5_isBlank 34 = .ok (.goto (-26), 3) := by decide +kernel
theorem dX5_isBlank_37 : decode cX5_isBlank 37 = .ok (.iconst 1, 1) := by decide +kernel
theorem dX5_isBlank_38 : decode cX5_isBlank 38 = .ok (.ireturn, 1) := by decide +kernel
theorem dX5_found_0 : decode cX5_found 0 = .ok (.aload_n 0, 1) := by decide +kernel
theorem dX5_found_1 : decode cX5_found 1 = .ok (.invokevirtual 100, 3) := by decide +kernel
theorem dX5_found_4 : decode cX5_found 4 = .ok (.ifCond .eq 7, 3) := by decide +kernel
theorem dX5_found_7 : decode cX5_found 7 = .ok (.iload_n 1, 1) := by decide +kernel
theorem dX5_found_8 : decode cX5_found 8 = .ok (.goto 14, 3) := by decide +kernel
theorem dX5_found_11 : decode cX5_found 11 = .ok (.aload_n 0, 1) := by decide +kernel
theorem dX5_found_12 : decode cX5_found 12 = .ok (.getfield 23, 3) := by decide +kernel
theorem dX5_found_15 : decode cX5_found 15 = .ok (.iload_n 1, 1) := by decide +kernel
theorem dX5_found_16 : decode cX5_found 16 = .ok (.aload_n 0, 1) := by decide +kernel
theorem dX5_found_17 : decode cX5_found 17 = .ok (.getfield 27, 3) := by decide +kernel
theorem dX5_found_20 : decode cX5_found 20 = .ok (.imul, 1) := by decide +kernel
theorem dX5_found_21 : decode cX5_found 21 = .ok (.iadd, 1) := by decide +kernel
theorem dX5_found_22 : decode cX5_found 22 = .ok (.ireturn, 1) := by decide +kernel
theorem dX5_missing_0 : decode cX5_missing 0 = .ok (.aload_n 0, 1) := by decide +kernel
theorem dX5_missing_1 : decode cX5_missing 1 = .ok (.invokevirtual 100, 3) := by decide +kernel
theorem dX5_missing_4 : decode cX5_missing 4 = .ok (.ifCond .eq 7, 3) := by decide +kernel
theorem dX5_missing_7 : decode cX5_missing 7 = .ok (.iconst (-1), 1) := by decide +kernel
theorem dX5_missing_8 : decode cX5_missing 8 = .ok (.goto 4, 3) := by decide +kernel
theorem dX5_missing_11 : decode cX5_missing 11 = .ok (.iconst 0, 1) := by decide +kernel
theorem dX5_missing_12 : decode cX5_missing 12 = .ok (.ireturn, 1) := by decide +kernel
theorem dX6_loadsOf_0 : decode cX6_loadsOf 0 = .ok (.iload_n 0, 1) := by decide +kernel
theorem dX6_loadsOf_1 : decode cX6_loadsOf 1 = .ok (.lookupswitch 446 #[(0, 435), (16, 439), (17, 439), (18, 439), (19, 439), (20, 439), (21, 437), (24, 439), (25, 439), (26, 439), (27, 437), (28, 439), (29, 439), (30, 439), (32, 437), (34, 439), (35, 439), (36, 441), (37, 441), (38, 441), (39, 441), (40, 441), (41, 441), (42, 441), (43, 441), (44, 441), (45, 441), (49, 437), (64, 437), (65, 437), (66, 437), (68, 437), (69, 437), (72, 439), (73, 439), (74, 439), (75, 439), (76, 441), (77, 441), (78, 441), (79, 441), (80, 435), (81, 437), (82, 435), (83, 439), (84, 437), (256, 439), (260, 437), (288, 435), (336, 443), (337, 443), (368, 439), (369, 441)], 435) := by decide +kernel
theorem dX6_loadsOf_436 : decode cX6_loadsOf 436 = .ok (.iconst 0, 1) := by decide +kernel
theorem dX6_loadsOf_437 : decode cX6_loadsOf 437 = .ok (.ireturn, 1) := by decide +kernel
theorem dX6_loadsOf_438 : decode cX6_loadsOf 438 = .ok (.iconst 1, 1) := by decide +kernel
theorem dX6_loadsOf_439 : decode cX6_loadsOf 439 = .ok (.ireturn, 1) := by decide +kernel
theorem dX6_loadsOf_440 : decode cX6_loadsOf 440 = .ok (.iconst 2, 1) := by decide +kernel
theorem dX6_loadsOf_441 : decode cX6_loadsOf 441 = .ok (.ireturn, 1) := by decide +kernel
theorem dX6_loadsOf_442 : decode cX6_loadsOf 442 = .ok (.iconst 3, 1) := by decide +kernel
theorem dX6_loadsOf_443 : decode cX6_loadsOf 443 = .ok (.ireturn, 1) := by decide +kernel
theorem dX6_loadsOf_444 : decode cX6_loadsOf 444 = .ok (.bipush 7, 2) := by decide +kernel
theorem dX6_loadsOf_446 : decode cX6_loadsOf 446 = .ok (.ireturn, 1) := by decide +kernel
theorem dX6_loadsOf_447 : decode cX6_loadsOf 447 = .ok (.iconst (-1), 1) := by decide +kernel
theorem dX6_loadsOf_448 : decode cX6_loadsOf 448 = .ok (.ireturn, 1) := by decide +kernel
theorem dX6_stores_0 : decode cX6_stores 0 = .ok (.iload_n 0, 1) := by decide +kernel
theorem dX6_stores_1 : decode cX6_stores 1 = .ok (.lookupswitch 229 #[(16, 227), (17, 227), (18, 227), (19, 227), (20, 227), (21, 227), (24, 227), (25, 227), (26, 227), (27, 227), (28, 227), (29, 227), (30, 227), (64, 227), (65, 227), (66, 227), (68, 227), (69, 227), (72, 227), (73, 227), (74, 227), (75, 227), (80, 227), (81, 227), (256, 227), (336, 227), (337, 227)], 227) := by decide +kernel
theorem dX6_stores_228 : decode cX6_stores 228 = .ok (.iconst 1, 1) := by decide +kernel
theorem dX6_stores_229 : decode cX6_stores 229 = .ok (.ireturn, 1) := by decide +kernel
theorem dX6_stores_230 : decode cX6_stores 230 = .ok (.iconst 0, 1) := by decide +kernel
theorem dX6_stores_231 : decode cX6_stores 231 = .ok (.ireturn, 1) := by decide +kernel
theorem dX6_widthOf_0 : decode cX6_widthOf 0 = .ok (.iload_n 0, 1) := by decide +kernel
theorem dX6_widthOf_1 : decode cX6_widthOf 1 = .ok (.bipush 65, 2) := by decide +kernel
theorem dX6_widthOf_3 : decode cX6_widthOf 3 = .ok (.if_icmp .ne 5, 3) := by decide +kernel
theorem dX6_widthOf_6 : decode cX6_widthOf 6 = .ok (.iconst 2, 1) := by decide +kernel
theorem dX6_widthOf_7 : decode cX6_widthOf 7 = .ok (.ireturn, 1) := by decide +kernel
theorem dX6_widthOf_8 : decode cX6_widthOf 8 = .ok (.iload_n 0, 1) := by decide +kernel
theorem dX6_widthOf_9 : decode cX6_widthOf 9 = .ok (.bipush 66, 2) := by decide +kernel
theorem dX6_widthOf_11 : decode cX6_widthOf 11 = .ok (.if_icmp .ne 7, 3) := by decide +kernel
theorem dX6_widthOf_14 : decode cX6_widthOf 14 = .ok (.iconst 1, 1) := by decide +kernel
theorem dX6_widthOf_15 : decode cX6_widthOf 15 = .ok (.goto 4, 3) := by decide +kernel
theorem dX6_widthOf_18 : decode cX6_widthOf 18 = .ok (.iconst 4, 1) := by decide +kernel
theorem dX6_widthOf_19 : decode cX6_widthOf 19 = .ok (.ireturn, 1) := by decide +kernel
theorem dX7_init_0 : decode cX7_init 0 = .ok (.aload_n 0, 1) := by decide +kernel
theorem dX7_init_1 : decode cX7_init 1 = .ok (.invokespecial 1, 3) := by decide +kernel
theorem dX7_init_4 : decode cX7_init 4 = .ok (.new 7, 3) := by decide +kernel
theorem dX7_init_7 : decode cX7_init 7 = .ok (.dup, 1) := by decide +kernel
theorem dX7_init_8 : decode cX7_init 8 = .ok (.sipush 1024, 3) := by decide +kernel
theorem dX7_init_11 : decode cX7_init 11 = .ok (.invokespecial 11, 3) := by decide +kernel
theorem dX7_init_14 : decode cX7_init 14 = .ok (.astore_n 1, 1) := by decide +kernel
theorem dX7_init_15 : decode cX7_init 15 = .ok (.aload_n 0, 1) := by decide +kernel
theorem dX7_init_16 : decode cX7_init 16 = .ok (.new 14, 3) := by decide +kernel
theorem dX7_init_19 : decode cX7_init 19 = .ok (.dup, 1) := by decide +kernel
theorem dX7_init_20 : decode cX7_init 20 = .ok (.aload_n 1, 1) := by decide +kernel
theorem dX7_init_21 : decode cX7_init 21 = .ok (.new 16, 3) := by decide +kernel
theorem dX7_init_24 : decode cX7_init 24 = .ok (.dup, 1) := by decide +kernel
theorem dX7_init_25 : decode cX7_init 25 = .ok (.aload_n 1, 1) := by decide +kernel
theorem dX7_init_26 : decode cX7_init 26 = .ok (.invokespecial 18, 3) := by decide +kernel
theorem dX7_init_29 : decode cX7_init 29 = .ok (.invokespecial 21, 3) := by decide +kernel
theorem dX7_init_32 : decode cX7_init 32 = .ok (.putfield 24, 3) := by decide +kernel
theorem dX7_init_35 : decode cX7_init 35 = .ok (.aload_n 0, 1) := by decide +kernel
theorem dX7_init_36 : decode cX7_init 36 = .ok (.new 28, 3) := by decide +kernel
theorem dX7_init_39 : decode cX7_init 39 = .ok (.dup, 1) := by decide +kernel
theorem dX7_init_40 : decode cX7_init 40 = .ok (.invokespecial 30, 3) := by decide +kernel
theorem dX7_init_43 : decode cX7_init 43 = .ok (.putfield 31, 3) := by decide +kernel
theorem dX7_init_46 : decode cX7_init 46 = .ok (.aload_n 0, 1) := by decide +kernel
theorem dX7_init_47 : decode cX7_init 47 = .ok (.new 28, 3) := by decide +kernel
theorem dX7_init_50 : decode cX7_init 50 = .ok (.dup, 1) := by decide +kernel
theorem dX7_init_51 : decode cX7_init 51 = .ok (.invokespecial 30, 3) := by decide +kernel
theorem dX7_init_54 : decode cX7_init 54 = .ok (.putfield 35, 3) := by decide +kernel
theorem dX7_init_57 : decode cX7_init 57 = .ok (.aload_n 0, 1) := by decide +kernel
theorem dX7_init_58 : decode cX7_init 58 = .ok (.iconst 0, 1) := by decide +kernel
theorem dX7_init_59 : decode cX7_init 59 = .ok (.putfield 38, 3) := by decide +kernel
theorem dX7_init_62 : decode cX7_init 62 = .ok (.return_, 1) := by decide +kernel
theorem dX7_lay_0 : decode cX7_lay 0 = .ok (.iload_n 2, 1) := by decide +kernel
theorem dX7_lay_1 : decode cX7_lay 1 = .ok (.iconst 1, 1) := by decide +kernel
theorem dX7_lay_2 : decode cX7_lay 2 = .ok (.if_icmp .lt 24, 3) := by decide +kernel
theorem dX7_lay_5 : decode cX7_lay 5 = .ok (.iload_n 2, 1) := by decide +kernel
theorem dX7_lay_6 : decode cX7_lay 6 = .ok (.bipush 8, 2) := by decide +kernel
theorem dX7_lay_8 : decode cX7_lay 8 = .ok (.if_icmp .gt 18, 3) := by decide +kernel
theorem dX7_lay_11 : decode cX7_lay 11 = .ok (.aload_n 0, 1) := by decide +kernel
theorem dX7_lay_12 : decode cX7_lay 12 = .ok (.getfield 24, 3) := by decide +kernel
theorem dX7_lay_15 : decode cX7_lay 15 = .ok (.getfield 42, 3) := by decide +kernel
theorem dX7_lay_18 : decode cX7_lay 18 = .ok (.iload_n 1, 1) := by decide +kernel
theorem dX7_lay_19 : decode cX7_lay 19 = .ok (.iload_n 2, 1) := by decide +kernel
theorem dX7_lay_20 : decode cX7_lay 20 = .ok (.invokevirtual 46, 3) := by decide +kernel
theorem dX7_lay_23 : decode cX7_lay 23 = .ok (.ifCond .ne 5, 3) := by decide +kernel
theorem dX7_lay_26 : decode cX7_lay 26 = .ok (.iconst (-1), 1) := by decide +kernel
theorem dX7_lay_27 : decode cX7_lay 27 = .ok (.ireturn, 1) := by decide +kernel
theorem dX7_lay_28 : decode cX7_lay 28 = .ok (.aload_n 0, 1) := by decide +kernel
theorem dX7_lay_29 : decode cX7_lay 29 = .ok (.getfield 24, 3) := by decide +kernel
theorem dX7_lay_32 : decode cX7_lay 32 = .ok (.getfield 42, 3) := by decide +kernel
theorem dX7_lay_35 : decode cX7_lay 35 = .ok (.iload_n 1, 1) := by decide +kernel
theorem dX7_lay_36 : decode cX7_lay 36 = .ok (.iload_n 2, 1) := by decide +kernel
theorem dX7_lay_37 : decode cX7_lay 37 = .ok (.lload_n 3, 1) := by decide +kernel
theorem dX7_lay_38 : decode cX7_lay 38 = .ok (.invokevirtual 50, 3) := by decide +kernel
theorem dX7_lay_41 : decode cX7_lay 41 = .ok (.iconst 1, 1) := by decide +kernel
theorem dX7_lay_42 : decode cX7_lay 42 = .ok (.ireturn, 1) := by decide +kernel
theorem dX7_ram_0 : decode cX7_ram 0 = .ok (.iload_n 1, 1) := by decide +kernel
theorem dX7_ram_1 : decode cX7_ram 1 = .ok (.ifCond .lt 10, 3) := by decide +kernel
theorem dX7_ram_4 : decode cX7_ram 4 = .ok (.iload_n 1, 1) := by decide +kernel
theorem dX7_ram_5 : decode cX7_ram 5 = .ok (.sipush 1024, 3) := by decide +kernel
theorem dX7_ram_8 : decode cX7_ram 8 = .ok (.if_icmp .le 5, 3) := by decide +kernel
theorem dX7_ram_11 : decode cX7_ram 11 = .ok (.iconst (-1), 1) := by decide +kernel
theorem dX7_ram_12 : decode cX7_ram 12 = .ok (.ireturn, 1) := by decide +kernel
theorem dX7_ram_13 : decode cX7_ram 13 = .ok (.aload_n 0, 1) := by decide +kernel
theorem dX7_ram_14 : decode cX7_ram 14 = .ok (.getfield 24, 3) := by decide +kernel
theorem dX7_ram_17 : decode cX7_ram 17 = .ok (.getfield 54, 3) := by decide +kernel
theorem dX7_ram_20 : decode cX7_ram 20 = .ok (.istore_n 2, 1) := by decide +kernel
theorem dX7_ram_21 : decode cX7_ram 21 = .ok (.aload_n 0, 1) := by decide +kernel
theorem dX7_ram_22 : decode cX7_ram 22 = .ok (.getfield 24, 3) := by decide +kernel
theorem dX7_ram_25 : decode cX7_ram 25 = .ok (.iload_n 1, 1) := by decide +kernel
theorem dX7_ram_26 : decode cX7_ram 26 = .ok (.putfield 54, 3) := by decide +kernel
theorem dX7_ram_29 : decode cX7_ram 29 = .ok (.iload_n 2, 1) := by decide +kernel
theorem dX7_ram_30 : decode cX7_ram 30 = .ok (.ireturn, 1) := by decide +kernel
theorem dX7_go_0 : decode cX7_go 0 = .ok (.aload_n 0, 1) := by decide +kernel
theorem dX7_go_1 : decode cX7_go 1 = .ok (.getfield 24, 3) := by decide +kernel
theorem dX7_go_4 : decode cX7_go 4 = .ok (.getfield 58, 3) := by decide +kernel
theorem dX7_go_7 : decode cX7_go 7 = .ok (.istore_n 2, 1) := by decide +kernel
theorem dX7_go_8 : decode cX7_go 8 = .ok (.aload_n 0, 1) := by decide +kernel
theorem dX7_go_9 : decode cX7_go 9 = .ok (.getfield 24, 3) := by decide +kernel
theorem dX7_go_12 : decode cX7_go 12 = .ok (.iload_n 1, 1) := by decide +kernel
theorem dX7_go_13 : decode cX7_go 13 = .ok (.putfield 58, 3) := by decide +kernel
theorem dX7_go_16 : decode cX7_go 16 = .ok (.aload_n 0, 1) := by decide +kernel
theorem dX7_go_17 : decode cX7_go 17 = .ok (.getfield 24, 3) := by decide +kernel
theorem dX7_go_20 : decode cX7_go 20 = .ok (.iconst 0, 1) := by decide +kernel
theorem dX7_go_21 : decode cX7_go 21 = .ok (.putfield 61, 3) := by decide +kernel
theorem dX7_go_24 : decode cX7_go 24 = .ok (.iload_n 2, 1) := by decide +kernel
theorem dX7_go_25 : decode cX7_go 25 = .ok (.ireturn, 1) := by decide +kernel
theorem dX7_push_0 : decode cX7_push 0 = .ok (.aload_n 0, 1) := by decide +kernel
theorem dX7_push_1 : decode cX7_push 1 = .ok (.getfield 24, 3) := by decide +kernel
theorem dX7_push_4 : decode cX7_push 4 = .ok (.getfield 64, 3) := by decide +kernel
theorem dX7_push_7 : decode cX7_push 7 = .ok (.invokevirtual 68, 3) := by decide +kernel
theorem dX7_push_10 : decode cX7_push 10 = .ok (.ifCond .eq 6, 3) := by decide +kernel
theorem dX7_push_13 : decode cX7_push 13 = .ok (.bipush (-2), 2) := by decide +kernel
theorem dX7_push_15 : decode cX7_push 15 = .ok (.ireturn, 1) := by decide +kernel
theorem dX7_push_16 : decode cX7_push 16 = .ok (.aload_n 0, 1) := by decide +kernel
theorem dX7_push_17 : decode cX7_push 17 = .ok (.getfield 24, 3) := by decide +kernel
theorem dX7_push_20 : decode cX7_push 20 = .ok (.getfield 64, 3) := by decide +kernel
theorem dX7_push_23 : decode cX7_push 23 = .ok (.iload_n 1, 1) := by decide +kernel
theorem dX7_push_24 : decode cX7_push 24 = .ok (.invokevirtual 74, 3) := by decide +kernel
theorem dX7_push_27 : decode cX7_push 27 = .ok (.aload_n 0, 1) := by decide +kernel
theorem dX7_push_28 : decode cX7_push 28 = .ok (.getfield 24, 3) := by decide +kernel
theorem dX7_push_31 : decode cX7_push 31 = .ok (.getfield 64, 3) := by decide +kernel
theorem dX7_push_34 : decode cX7_push 34 = .ok (.getfield 77, 3) := by decide +kernel
theorem dX7_push_37 : decode cX7_push 37 = .ok (.ireturn, 1) := by decide +kernel
theorem dX7_clear_0 : decode cX7_clear 0 = .ok (.aload_n 0, 1) := by decide +kernel
theorem dX7_clear_1 : decode cX7_clear 1 = .ok (.getfield 24, 3) := by decide +kernel
theorem dX7_clear_4 : decode cX7_clear 4 = .ok (.getfield 64, 3) := by decide +kernel
theorem dX7_clear_7 : decode cX7_clear 7 = .ok (.getfield 77, 3) := by decide +kernel
theorem dX7_clear_10 : decode cX7_clear 10 = .ok (.istore_n 1, 1) := by decide +kernel
theorem dX7_clear_11 : decode cX7_clear 11 = .ok (.aload_n 0, 1) := by decide +kernel
theorem dX7_clear_12 : decode cX7_clear 12 = .ok (.getfield 24, 3) := by decide +kernel
theorem dX7_clear_15 : decode cX7_clear 15 = .ok (.getfield 64, 3) := by decide +kernel
theorem dX7_clear_18 : decode cX7_clear 18 = .ok (.iconst 0, 1) := by decide +kernel
theorem dX7_clear_19 : decode cX7_clear 19 = .ok (.invokevirtual 80, 3) := by decide +kernel
theorem dX7_clear_22 : decode cX7_clear 22 = .ok (.aload_n 0, 1) := by decide +kernel
theorem dX7_clear_23 : decode cX7_clear 23 = .ok (.getfield 24, 3) := by decide +kernel
theorem dX7_clear_26 : decode cX7_clear 26 = .ok (.getfield 83, 3) := by decide +kernel
theorem dX7_clear_29 : decode cX7_clear 29 = .ok (.iconst 0, 1) := by decide +kernel
theorem dX7_clear_30 : decode cX7_clear 30 = .ok (.bipush 64, 2) := by decide +kernel
theorem dX7_clear_32 : decode cX7_clear 32 = .ok (.invokevirtual 86, 3) := by decide +kernel
theorem dX7_clear_35 : decode cX7_clear 35 = .ok (.iload_n 1, 1) := by decide +kernel
theorem dX7_clear_36 : decode cX7_clear 36 = .ok (.ireturn, 1) := by decide +kernel
theorem dX7_read_0 : decode cX7_read 0 = .ok (.aload_n 0, 1) := by decide +kernel
theorem dX7_read_1 : decode cX7_read 1 = .ok (.getfield 35, 3) := by decide +kernel
theorem dX7_read_4 : decode cX7_read 4 = .ok (.aload_n 0, 1) := by decide +kernel
theorem dX7_read_5 : decode cX7_read 5 = .ok (.getfield 24, 3) := by decide +kernel
theorem dX7_read_8 : decode cX7_read 8 = .ok (.getfield 42, 3) := by decide +kernel
theorem dX7_read_11 : decode cX7_read 11 = .ok (.iload_n 1, 1) := by decide +kernel
theorem dX7_read_12 : decode cX7_read 12 = .ok (.invokevirtual 90, 3) := by decide +kernel
theorem dX7_read_15 : decode cX7_read 15 = .ok (.istore_n 2, 1) := by decide +kernel
theorem dX7_read_16 : decode cX7_read 16 = .ok (.iload_n 2, 1) := by decide +kernel
theorem dX7_read_17 : decode cX7_read 17 = .ok (.ifCond .eq 8, 3) := by decide +kernel
theorem dX7_read_20 : decode cX7_read 20 = .ok (.bipush (-10), 2) := by decide +kernel
theorem dX7_read_22 : decode cX7_read 22 = .ok (.iload_n 2, 1) := by decide +kernel
theorem dX7_read_23 : decode cX7_read 23 = .ok (.isub, 1) := by decide +kernel
theorem dX7_read_24 : decode cX7_read 24 = .ok (.ireturn, 1) := by decide +kernel
theorem dX7_read_25 : decode cX7_read 25 = .ok (.aload_n 0, 1) := by decide +kernel
theorem dX7_read_26 : decode cX7_read 26 = .ok (.getfield 31, 3) := by decide +kernel
theorem dX7_read_29 : decode cX7_read 29 = .ok (.astore_n 3, 1) := by decide +kernel
theorem dX7_read_30 : decode cX7_read 30 = .ok (.aload_n 0, 1) := by decide +kernel
theorem dX7_read_31 : decode cX7_read 31 = .ok (.aload_n 0, 1) := by decide +kernel
theorem dX7_read_32 : decode cX7_read 32 = .ok (.getfield 35, 3) := by decide +kernel
theorem dX7_read_35 : decode cX7_read 35 = .ok (.putfield 31, 3) := by decide +kernel
theorem dX7_read_38 : decode cX7_read 38 = .ok (.aload_n 0, 1) := by decide +kernel
theorem dX7_read_39 : decode cX7_read 39 = .ok (.aload_n 3, 1) := by decide +kernel
theorem dX7_read_40 : decode cX7_read 40 = .ok (.putfield 35, 3) := by decide +kernel
theorem dX7_read_43 : decode cX7_read 43 = .ok (.aload_n 0, 1) := by decide +kernel
theorem dX7_read_44 : decode cX7_read 44 = .ok (.iconst 1, 1) := by decide +kernel
theorem dX7_read_45 : decode cX7_read 45 = .ok (.putfield 38, 3) := by decide +kernel
theorem dX7_read_48 : decode cX7_read 48 = .ok (.aload_n 0, 1) := by decide +kernel
theorem dX7_read_49 : decode cX7_read 49 = .ok (.getfield 31, 3) := by decide +kernel
theorem dX7_read_52 : decode cX7_read 52 = .ok (.getfield 94, 3) := by decide +kernel
theorem dX7_read_55 : decode cX7_read 55 = .ok (.ireturn, 1) := by decide +kernel
theorem dX7_row_0 : decode cX7_row 0 = .ok (.iload_n 1, 1) := by decide +kernel
theorem dX7_row_1 : decode cX7_row 1 = .ok (.ifCond .lt 14, 3) := by decide +kernel
theorem dX7_row_4 : decode cX7_row 4 = .ok (.iload_n 1, 1) := by decide +kernel
theorem dX7_row_5 : decode cX7_row 5 = .ok (.iconst 1, 1) := by decide +kernel
theorem dX7_row_6 : decode cX7_row 6 = .ok (.if_icmp .le 11, 3) := by decide +kernel
theorem dX7_row_9 : decode cX7_row 9 = .ok (.iload_n 1, 1) := by decide +kernel
theorem dX7_row_10 : decode cX7_row 10 = .ok (.bipush 10, 2) := by decide +kernel
theorem dX7_row_12 : decode cX7_row 12 = .ok (.if_icmp .ge 5, 3) := by decide +kernel
theorem dX7_row_15 : decode cX7_row 15 = .ok (.iconst (-1), 1) := by decide +kernel
theorem dX7_row_16 : decode cX7_row 16 = .ok (.ireturn, 1) := by decide +kernel
theorem dX7_row_17 : decode cX7_row 17 = .ok (.aload_n 0, 1) := by decide +kernel
theorem dX7_row_18 : decode cX7_row 18 = .ok (.getfield 38, 3) := by decide +kernel
theorem dX7_row_21 : decode cX7_row 21 = .ok (.ifCond .ne 6, 3) := by decide +kernel
theorem dX7_row_24 : decode cX7_row 24 = .ok (.bipush (-2), 2) := by decide +kernel
theorem dX7_row_26 : decode cX7_row 26 = .ok (.ireturn, 1) := by decide +kernel
theorem dX7_row_27 : decode cX7_row 27 = .ok (.iload_n 1, 1) := by decide +kernel
theorem dX7_row_28 : decode cX7_row 28 = .ok (.ifCond .ne 11, 3) := by decide +kernel
theorem dX7_row_31 : decode cX7_row 31 = .ok (.aload_n 0, 1) := by decide +kernel
theorem dX7_row_32 : decode cX7_row 32 = .ok (.getfield 31, 3) := by decide +kernel
theorem dX7_row_35 : decode cX7_row 35 = .ok (.getfield 97, 3) := by decide +kernel
theorem dX7_row_38 : decode cX7_row 38 = .ok (.ireturn, 1) := by decide +kernel
theorem dX7_row_39 : decode cX7_row 39 = .ok (.iload_n 1, 1) := by decide +kernel
theorem dX7_row_40 : decode cX7_row 40 = .ok (.iconst 1, 1) := by decide +kernel
theorem dX7_row_41 : decode cX7_row 41 = .ok (.if_icmp .ne 11, 3) := by decide +kernel
theorem dX7_row_44 : decode cX7_row 44 = .ok (.aload_n 0, 1) := by decide +kernel
theorem dX7_row_45 : decode cX7_row 45 = .ok (.getfield 31, 3) := by decide +kernel
theorem dX7_row_48 : decode cX7_row 48 = .ok (.getfield 100, 3) := by decide +kernel
theorem dX7_row_51 : decode cX7_row 51 = .ok (.ireturn, 1) := by decide +kernel
theorem dX7_row_52 : decode cX7_row 52 = .ok (.iload_n 1, 1) := by decide +kernel
theorem dX7_row_53 : decode cX7_row 53 = .ok (.bipush 20, 2) := by decide +kernel
theorem dX7_row_55 : decode cX7_row 55 = .ok (.if_icmp .ge 10, 3) := by decide +kernel
theorem dX7_row_58 : decode cX7_row 58 = .ok (.iload_n 1, 1) := by decide +kernel
theorem dX7_row_59 : decode cX7_row 59 = .ok (.bipush 10, 2) := by decide +kernel
theorem dX7_row_61 : decode cX7_row 61 = .ok (.isub, 1) := by decide +kernel
theorem dX7_row_62 : decode cX7_row 62 = .ok (.goto 7, 3) := by decide +kernel
theorem dX7_row_65 : decode cX7_row 65 = .ok (.iload_n 1, 1) := by decide +kernel
theorem dX7_row_66 : decode cX7_row 66 = .ok (.bipush 20, 2) := by decide +kernel
theorem dX7_row_68 : decode cX7_row 68 = .ok (.isub, 1) := by decide +kernel
theorem dX7_row_69 : decode cX7_row 69 = .ok (.istore_n 2, 1) := by decide +kernel
theorem dX7_row_70 : decode cX7_row 70 = .ok (.iload_n 2, 1) := by decide +kernel
theorem dX7_row_71 : decode cX7_row 71 = .ok (.aload_n 0, 1) := by decide +kernel
theorem dX7_row_72 : decode cX7_row 72 = .ok (.getfield 31, 3) := by decide +kernel
theorem dX7_row_75 : decode cX7_row 75 = .ok (.getfield 100, 3) := by decide +kernel
theorem dX7_row_78 : decode cX7_row 78 = .ok (.if_icmp .lt 6, 3) := by decide +kernel
theorem dX7_row_81 : decode cX7_row 81 = .ok (.bipush (-2), 2) := by decide +kernel
theorem dX7_row_83 : decode cX7_row 83 = .ok (.ireturn, 1) := by decide +kernel
theorem dX7_row_84 : decode cX7_row 84 = .ok (.iload_n 1, 1) := by decide +kernel
theorem dX7_row_85 : decode cX7_row 85 = .ok (.bipush 20, 2) := by decide +kernel
theorem dX7_row_87 : decode cX7_row 87 = .ok (.if_icmp .ge 14, 3) := by decide +kernel
theorem dX7_row_90 : decode cX7_row 90 = .ok (.aload_n 0, 1) := by decide +kernel
theorem dX7_row_91 : decode cX7_row 91 = .ok (.getfield 31, 3) := by decide +kernel
theorem dX7_row_94 : decode cX7_row 94 = .ok (.iload_n 2, 1) := by decide +kernel
theorem dX7_row_95 : decode cX7_row 95 = .ok (.invokevirtual 103, 3) := by decide +kernel
theorem dX7_row_98 : decode cX7_row 98 = .ok (.goto 11, 3) := by decide +kernel
theorem dX7_row_101 : decode cX7_row 101 = .ok (.aload_n 0, 1) := by decide +kernel
theorem dX7_row_102 : decode cX7_row 102 = .ok (.getfield 31, 3) := by decide +kernel
theorem dX7_row_105 : decode cX7_row 105 = .ok (.iload_n 2, 1) := by decide +kernel
theorem dX7_row_106 : decode cX7_row 106 = .ok (.invokevirtual 107, 3) := by decide +kernel
theorem dX7_row_109 : decode cX7_row 109 = .ok (.ireturn, 1) := by decide +kernel
theorem dX7_step_0 : decode cX7_step 0 = .ok (.aload_n 0, 1) := by decide +kernel
theorem dX7_step_1 : decode cX7_step 1 = .ok (.getfield 24, 3) := by decide +kernel
theorem dX7_step_4 : decode cX7_step 4 = .ok (.iconst 0, 1) := by decide +kernel
theorem dX7_step_5 : decode cX7_step 5 = .ok (.putfield 110, 3) := by decide +kernel
theorem dX7_step_8 : decode cX7_step 8 = .ok (.aload_n 0, 1) := by decide +kernel
theorem dX7_step_9 : decode cX7_step 9 = .ok (.getfield 24, 3) := by decide +kernel
theorem dX7_step_12 : decode cX7_step 12 = .ok (.getfield 61, 3) := by decide +kernel
theorem dX7_step_15 : decode cX7_step 15 = .ok (.ifCond .eq 5, 3) := by decide +kernel
theorem dX7_step_18 : decode cX7_step 18 = .ok (.iconst 0, 1) := by decide +kernel
theorem dX7_step_19 : decode cX7_step 19 = .ok (.ireturn, 1) := by decide +kernel
theorem dX7_step_20 : decode cX7_step 20 = .ok (.aload_n 0, 1) := by decide +kernel
theorem dX7_step_21 : decode cX7_step 21 = .ok (.getfield 24, 3) := by decide +kernel
theorem dX7_step_24 : decode cX7_step 24 = .ok (.invokevirtual 113, 3) := by decide +kernel
theorem dX7_step_27 : decode cX7_step 27 = .ok (.aload_n 0, 1) := by decide +kernel
theorem dX7_step_28 : decode cX7_step 28 = .ok (.getfield 24, 3) := by decide +kernel
theorem dX7_step_31 : decode cX7_step 31 = .ok (.getfield 110, 3) := by decide +kernel
theorem dX7_step_34 : decode cX7_step 34 = .ok (.ifCond .eq 14, 3) := by decide +kernel
theorem dX7_step_37 : decode cX7_step 37 = .ok (.bipush (-10), 2) := by decide +kernel
theorem dX7_step_39 : decode cX7_step 39 = .ok (.aload_n 0, 1) := by decide +kernel
theorem dX7_step_40 : decode cX7_step 40 = .ok (.getfield 24, 3) := by decide +kernel
theorem dX7_step_43 : decode cX7_step 43 = .ok (.getfield 110, 3) := by decide +kernel
theorem dX7_step_46 : decode cX7_step 46 = .ok (.isub, 1) := by decide +kernel
theorem dX7_step_47 : decode cX7_step 47 = .ok (.ireturn, 1) := by decide +kernel
theorem dX7_step_48 : decode cX7_step 48 = .ok (.aload_n 0, 1) := by decide +kernel
theorem dX7_step_49 : decode cX7_step 49 = .ok (.getfield 24, 3) := by decide +kernel
theorem dX7_step_52 : decode cX7_step 52 = .ok (.getfield 61, 3) := by decide +kernel
theorem dX7_step_55 : decode cX7_step 55 = .ok (.ifCond .eq 7, 3) := by decide +kernel
theorem dX7_step_58 : decode cX7_step 58 = .ok (.iconst 0, 1) := by decide +kernel
theorem dX7_step_59 : decode cX7_step 59 = .ok (.goto 4, 3) := by decide +kernel
theorem dX7_step_62 : decode cX7_step 62 = .ok (.iconst 1, 1) := by decide +kernel
theorem dX7_step_63 : decode cX7_step 63 = .ok (.ireturn, 1) := by decide +kernel
theorem dX7_run_0 : decode cX7_run 0 = .ok (.iload_n 1, 1) := by decide +kernel
theorem dX7_run_1 : decode cX7_run 1 = .ok (.ifCond .lt 10, 3) := by decide +kernel
theorem dX7_run_4 : decode cX7_run 4 = .ok (.iload_n 1, 1) := by decide +kernel
theorem dX7_run_5 : decode cX7_run 5 = .ok (.sipush 2000, 3) := by decide +kernel
theorem dX7_run_8 : decode cX7_run 8 = .ok (.if_icmp .le 5, 3) := by decide +kernel
theorem dX7_run_11 : decode cX7_run 11 = .ok (.iconst (-1), 1) := by decide +kernel
theorem dX7_run_12 : decode cX7_run 12 = .ok (.ireturn, 1) := by decide +kernel
theorem dX7_run_13 : decode cX7_run 13 = .ok (.aload_n 0, 1) := by decide +kernel
theorem dX7_run_14 : decode cX7_run 14 = .ok (.getfield 24, 3) := by decide +kernel
theorem dX7_run_17 : decode cX7_run 17 = .ok (.iconst 0, 1) := by decide +kernel
theorem dX7_run_18 : decode cX7_run 18 = .ok (.putfield 110, 3) := by decide +kernel
theorem dX7_run_21 : decode cX7_run 21 = .ok (.aload_n 0, 1) := by decide +kernel
theorem dX7_run_22 : decode cX7_run 22 = .ok (.getfield 24, 3) := by decide +kernel
theorem dX7_run_25 : decode cX7_run 25 = .ok (.getfield 116, 3) := by decide +kernel
theorem dX7_run_28 : decode cX7_run 28 = .ok (.istore_n 2, 1) := by decide +kernel
theorem dX7_run_29 : decode cX7_run 29 = .ok (.iconst 0, 1) := by decide +kernel
theorem dX7_run_30 : decode cX7_run 30 = .ok (.istore_n 3, 1) := by decide +kernel
theorem dX7_run_31 : decode cX7_run 31 = .ok (.iload_n 3, 1) := by decide +kernel
theorem dX7_run_32 : decode cX7_run 32 = .ok (.iload_n 1, 1) := by decide +kernel
theorem dX7_run_33 : decode cX7_run 33 = .ok (.if_icmp .ge 36, 3) := by decide +kernel
theorem dX7_run_36 : decode cX7_run 36 = .ok (.aload_n 0, 1) := by decide +kernel
theorem dX7_run_37 : decode cX7_run 37 = .ok (.getfield 24, 3) := by decide +kernel
theorem dX7_run_40 : decode cX7_run 40 = .ok (.getfield 61, 3) := by decide +kernel
theorem dX7_run_43 : decode cX7_run 43 = .ok (.ifCond .ne 26, 3) := by decide +kernel
theorem dX7_run_46 : decode cX7_run 46 = .ok (.aload_n 0, 1) := by decide +kernel
theorem dX7_run_47 : decode cX7_run 47 = .ok (.getfield 24, 3) := by decide +kernel
theorem dX7_run_50 : decode cX7_run 50 = .ok (.getfield 110, 3) := by decide +kernel
theorem dX7_run_53 : decode cX7_run 53 = .ok (.ifCond .ne 16, 3) := by decide +kernel
theorem dX7_run_56 : decode cX7_run 56 = .ok (.aload_n 0, 1) := by decide +kernel
theorem dX7_run_57 : decode cX7_run 57 = .ok (.getfield 24, 3) := by decide +kernel
theorem dX7_run_60 : decode cX7_run 60 = .ok (.invokevirtual 113, 3) := by decide +kernel
theorem dX7_run_63 : decode cX7_run 63 = .ok (.iinc 3 1, 3) := by decide +kernel
theorem dX7_run_66 : decode cX7_run 66 = .ok (.goto (-35), 3) := by decide +kernel
theorem dX7_run_69 : decode cX7_run 69 = .ok (.aload_n 0, 1) := by decide +kernel
theorem dX7_run_70 : decode cX7_run 70 = .ok (.getfield 24, 3) := by decide +kernel
theorem dX7_run_73 : decode cX7_run 73 = .ok (.getfield 116, 3) := by decide +kernel
theorem dX7_run_76 : decode cX7_run 76 = .ok (.iload_n 2, 1) := by decide +kernel
theorem dX7_run_77 : decode cX7_run 77 = .ok (.isub, 1) := by decide +kernel
theorem dX7_run_78 : decode cX7_run 78 = .ok (.ireturn, 1) := by decide +kernel
theorem dX7_told_0 : decode cX7_told 0 = .ok (.iload_n 1, 1) := by decide +kernel
theorem dX7_told_1 : decode cX7_told 1 = .ok (.tableswitch 110 0 6 #[43, 51, 67, 75, 86, 94, 102], 43) := by decide +kernel
theorem dX7_told_44 : decode cX7_told 44 = .ok (.aload_n 0, 1) := by decide +kernel
theorem dX7_told_45 : decode cX7_told 45 = .ok (.getfield 24, 3) := by decide +kernel
theorem dX7_told_48 : decode cX7_told 48 = .ok (.getfield 58, 3) := by decide +kernel
theorem dX7_told_51 : decode cX7_told 51 = .ok (.ireturn, 1) := by decide +kernel
theorem dX7_told_52 : decode cX7_told 52 = .ok (.aload_n 0, 1) := by decide +kernel
theorem dX7_told_53 : decode cX7_told 53 = .ok (.getfield 24, 3) := by decide +kernel
theorem dX7_told_56 : decode cX7_told 56 = .ok (.getfield 61, 3) := by decide +kernel
theorem dX7_told_59 : decode cX7_told 59 = .ok (.ifCond .eq 7, 3) := by decide +kernel
theorem dX7_told_62 : decode cX7_told 62 = .ok (.iconst 1, 1) := by decide +kernel
theorem dX7_told_63 : decode cX7_told 63 = .ok (.goto 4, 3) := by decide +kernel
theorem dX7_told_66 : decode cX7_told 66 = .ok (.iconst 0, 1) := by decide +kernel
theorem dX7_told_67 : decode cX7_told 67 = .ok (.ireturn, 1) := by decide +kernel
theorem dX7_told_68 : decode cX7_told 68 = .ok (.aload_n 0, 1) := by decide +kernel
theorem dX7_told_69 : decode cX7_told 69 = .ok (.getfield 24, 3) := by decide +kernel
theorem dX7_told_72 : decode cX7_told 72 = .ok (.getfield 119, 3) := by decide +kernel
theorem dX7_told_75 : decode cX7_told 75 = .ok (.ireturn, 1) := by decide +kernel
theorem dX7_told_76 : decode cX7_told 76 = .ok (.aload_n 0, 1) := by decide +kernel
theorem dX7_told_77 : decode cX7_told 77 = .ok (.getfield 24, 3) := by decide +kernel
theorem dX7_told_80 : decode cX7_told 80 = .ok (.getfield 64, 3) := by decide +kernel
theorem dX7_told_83 : decode cX7_told 83 = .ok (.getfield 77, 3) := by decide +kernel
theorem dX7_told_86 : decode cX7_told 86 = .ok (.ireturn, 1) := by decide +kernel
theorem dX7_told_87 : decode cX7_told 87 = .ok (.aload_n 0, 1) := by decide +kernel
theorem dX7_told_88 : decode cX7_told 88 = .ok (.getfield 24, 3) := by decide +kernel
theorem dX7_told_91 : decode cX7_told 91 = .ok (.getfield 54, 3) := by decide +kernel
theorem dX7_told_94 : decode cX7_told 94 = .ok (.ireturn, 1) := by decide +kernel
theorem dX7_told_95 : decode cX7_told 95 = .ok (.aload_n 0, 1) := by decide +kernel
theorem dX7_told_96 : decode cX7_told 96 = .ok (.getfield 24, 3) := by decide +kernel
theorem dX7_told_99 : decode cX7_told 99 = .ok (.getfield 110, 3) := by decide +kernel
theorem dX7_told_102 : decode cX7_told 102 = .ok (.ireturn, 1) := by decide +kernel
theorem dX7_told_103 : decode cX7_told 103 = .ok (.aload_n 0, 1) := by decide +kernel
theorem dX7_told_104 : decode cX7_told 104 = .ok (.getfield 24, 3) := by decide +kernel
theorem dX7_told_107 : decode cX7_told 107 = .ok (.getfield 116, 3) := by decide +kernel
theorem dX7_told_110 : decode cX7_told 110 = .ok (.ireturn, 1) := by decide +kernel
theorem dX7_told_111 : decode cX7_told 111 = .ok (.iconst (-1), 1) := by decide +kernel
theorem dX7_told_112 : decode cX7_told 112 = .ok (.ireturn, 1) := by decide +kernel
theorem dX7_octet_0 : decode cX7_octet 0 = .ok (.aload_n 0, 1) := by decide +kernel
theorem dX7_octet_1 : decode cX7_octet 1 = .ok (.getfield 24, 3) := by decide +kernel
theorem dX7_octet_4 : decode cX7_octet 4 = .ok (.getfield 42, 3) := by decide +kernel
theorem dX7_octet_7 : decode cX7_octet 7 = .ok (.iload_n 1, 1) := by decide +kernel
theorem dX7_octet_8 : decode cX7_octet 8 = .ok (.iconst 1, 1) := by decide +kernel
theorem dX7_octet_9 : decode cX7_octet 9 = .ok (.invokevirtual 46, 3) := by decide +kernel
theorem dX7_octet_12 : decode cX7_octet 12 = .ok (.ifCond .eq 17, 3) := by decide +kernel
theorem dX7_octet_15 : decode cX7_octet 15 = .ok (.aload_n 0, 1) := by decide +kernel
theorem dX7_octet_16 : decode cX7_octet 16 = .ok (.getfield 24, 3) := by decide +kernel
theorem dX7_octet_19 : decode cX7_octet 19 = .ok (.getfield 42, 3) := by decide +kernel
theorem dX7_octet_22 : decode cX7_octet 22 = .ok (.iload_n 1, 1) := by decide +kernel
theorem dX7_octet_23 : decode cX7_octet 23 = .ok (.invokevirtual 122, 3) := by decide +kernel
theorem dX7_octet_26 : decode cX7_octet 26 = .ok (.goto 4, 3) := by decide +kernel
theorem dX7_octet_29 : decode cX7_octet 29 = .ok (.iconst (-1), 1) := by decide +kernel
theorem dX7_octet_30 : decode cX7_octet 30 = .ok (.ireturn, 1) := by decide +kernel
theorem dX7_local_0 : decode cX7_local 0 = .ok (.aload_n 0, 1) := by decide +kernel
theorem dX7_local_1 : decode cX7_local 1 = .ok (.getfield 24, 3) := by decide +kernel
theorem dX7_local_4 : decode cX7_local 4 = .ok (.getfield 83, 3) := by decide +kernel
theorem dX7_local_7 : decode cX7_local 7 = .ok (.iload_n 1, 1) := by decide +kernel
theorem dX7_local_8 : decode cX7_local 8 = .ok (.iconst 4, 1) := by decide +kernel
theorem dX7_local_9 : decode cX7_local 9 = .ok (.invokevirtual 46, 3) := by decide +kernel
theorem dX7_local_12 : decode cX7_local 12 = .ok (.ifCond .eq 18, 3) := by decide +kernel
theorem dX7_local_15 : decode cX7_local 15 = .ok (.aload_n 0, 1) := by decide +kernel
theorem dX7_local_16 : decode cX7_local 16 = .ok (.getfield 24, 3) := by decide +kernel
theorem dX7_local_19 : decode cX7_local 19 = .ok (.getfield 83, 3) := by decide +kernel
theorem dX7_local_22 : decode cX7_local 22 = .ok (.iload_n 1, 1) := by decide +kernel
theorem dX7_local_23 : decode cX7_local 23 = .ok (.iconst 4, 1) := by decide +kernel
theorem dX7_local_24 : decode cX7_local 24 = .ok (.invokevirtual 125, 3) := by decide +kernel
theorem dX7_local_27 : decode cX7_local 27 = .ok (.goto 4, 3) := by decide +kernel
theorem dX7_local_30 : decode cX7_local 30 = .ok (.iconst 0, 1) := by decide +kernel
theorem dX7_local_31 : decode cX7_local 31 = .ok (.ireturn, 1) := by decide +kernel
theorem dX7_stack_0 : decode cX7_stack 0 = .ok (.aload_n 0, 1) := by decide +kernel
theorem dX7_stack_1 : decode cX7_stack 1 = .ok (.getfield 24, 3) := by decide +kernel
theorem dX7_stack_4 : decode cX7_stack 4 = .ok (.getfield 64, 3) := by decide +kernel
theorem dX7_stack_7 : decode cX7_stack 7 = .ok (.iload_n 1, 1) := by decide +kernel
theorem dX7_stack_8 : decode cX7_stack 8 = .ok (.invokevirtual 129, 3) := by decide +kernel
theorem dX7_stack_11 : decode cX7_stack 11 = .ok (.ireturn, 1) := by decide +kernel
theorem dJ6_compare_7cf53_0 : decode cJ6_compare_7cf53 0 = .ok (.iload_n 0, 1) := by decide +kernel
theorem dJ6_compare_7cf53_1 : decode cJ6_compare_7cf53 1 = .ok (.iload_n 1, 1) := by decide +kernel
theorem dJ6_compare_7cf53_2 : decode cJ6_compare_7cf53 2 = .ok (.if_icmp .ge 7, 3) := by decide +kernel
theorem dJ6_compare_7cf53_5 : decode cJ6_compare_7cf53 5 = .ok (.iconst (-1), 1) := by decide +kernel
theorem dJ6_compare_7cf53_6 : decode cJ6_compare_7cf53 6 = .ok (.goto 13, 3) := by decide +kernel
theorem dJ6_compare_7cf53_9 : decode cJ6_compare_7cf53 9 = .ok (.iload_n 0, 1) := by decide +kernel
theorem dJ6_compare_7cf53_10 : decode cJ6_compare_7cf53 10 = .ok (.iload_n 1, 1) := by decide +kernel
theorem dJ6_compare_7cf53_11 : decode cJ6_compare_7cf53 11 = .ok (.if_icmp .ne 7, 3) := by decide +kernel
theorem dJ6_compare_7cf53_14 : decode cJ6_compare_7cf53 14 = .ok (.iconst 0, 1) := by decide +kernel
theorem dJ6_compare_7cf53_15 : decode cJ6_compare_7cf53 15 = .ok (.goto 4, 3) := by decide +kernel
theorem dJ6_compare_7cf53_18 : decode cJ6_compare_7cf53 18 = .ok (.iconst 1, 1) := by decide +kernel
theorem dJ6_compare_7cf53_19 : decode cJ6_compare_7cf53 19 = .ok (.ireturn, 1) := by decide +kernel
theorem dJ6_compareUnsigned_7cf53_0 : decode cJ6_compareUnsigned_7cf53 0 = .ok (.iload_n 0, 1) := by decide +kernel
theorem dJ6_compareUnsigned_7cf53_1 : decode cJ6_compareUnsigned_7cf53 1 = .ok (.ldc 127, 2) := by decide +kernel
theorem dJ6_compareUnsigned_7cf53_3 : decode cJ6_compareUnsigned_7cf53 3 = .ok (.iadd, 1) := by decide +kernel
theorem dJ6_compareUnsigned_7cf53_4 : decode cJ6_compareUnsigned_7cf53 4 = .ok (.iload_n 1, 1) := by decide +kernel
theorem dJ6_compareUnsigned_7cf53_5 : decode cJ6_compareUnsigned_7cf53 5 = .ok (.ldc 127, 2) := by decide +kernel
theorem dJ6_compareUnsigned_7cf53_7 : decode cJ6_compareUnsigned_7cf53 7 = .ok (.iadd, 1) := by decide +kernel
theorem dJ6_compareUnsigned_7cf53_8 : decode cJ6_compareUnsigned_7cf53 8 = .ok (.invokestatic 259, 3) := by decide +kernel
theorem dJ6_compareUnsigned_7cf53_11 : decode cJ6_compareUnsigned_7cf53 11 = .ok (.ireturn, 1) := by decide +kernel
theorem dJ9_floorMod_7cf53_0 : decode cJ9_floorMod_7cf53 0 = .ok (.iload_n 0, 1) := by decide +kernel
theorem dJ9_floorMod_7cf53_1 : decode cJ9_floorMod_7cf53 1 = .ok (.iload_n 1, 1) := by decide +kernel
theorem dJ9_floorMod_7cf53_2 : decode cJ9_floorMod_7cf53 2 = .ok (.irem, 1) := by decide +kernel
theorem dJ9_floorMod_7cf53_3 : decode cJ9_floorMod_7cf53 3 = .ok (.istore_n 2, 1) := by decide +kernel
theorem dJ9_floorMod_7cf53_4 : decode cJ9_floorMod_7cf53 4 = .ok (.iload_n 0, 1) := by decide +kernel
theorem dJ9_floorMod_7cf53_5 : decode cJ9_floorMod_7cf53 5 = .ok (.iload_n 1, 1) := by decide +kernel
theorem dJ9_floorMod_7cf53_6 : decode cJ9_floorMod_7cf53 6 = .ok (.ixor, 1) := by decide +kernel
theorem dJ9_floorMod_7cf53_7 : decode cJ9_floorMod_7cf53 7 = .ok (.ifCond .ge 11, 3) := by decide +kernel
theorem dJ9_floorMod_7cf53_10 : decode cJ9_floorMod_7cf53 10 = .ok (.iload_n 2, 1) := by decide +kernel
theorem dJ9_floorMod_7cf53_11 : decode cJ9_floorMod_7cf53 11 = .ok (.ifCond .eq 7, 3) := by decide +kernel
theorem dJ9_floorMod_7cf53_14 : decode cJ9_floorMod_7cf53 14 = .ok (.iload_n 2, 1) := by decide +kernel
theorem dJ9_floorMod_7cf53_15 : decode cJ9_floorMod_7cf53 15 = .ok (.iload_n 1, 1) := by decide +kernel
theorem dJ9_floorMod_7cf53_16 : decode cJ9_floorMod_7cf53 16 = .ok (.iadd, 1) := by decide +kernel
theorem dJ9_floorMod_7cf53_17 : decode cJ9_floorMod_7cf53 17 = .ok (.ireturn, 1) := by decide +kernel
theorem dJ9_floorMod_7cf53_18 : decode cJ9_floorMod_7cf53 18 = .ok (.iload_n 2, 1) := by decide +kernel
theorem dJ9_floorMod_7cf53_19 : decode cJ9_floorMod_7cf53 19 = .ok (.ireturn, 1) := by decide +kernel
theorem dJ9_max_7cf53_0 : decode cJ9_max_7cf53 0 = .ok (.iload_n 0, 1) := by decide +kernel
theorem dJ9_max_7cf53_1 : decode cJ9_max_7cf53 1 = .ok (.iload_n 1, 1) := by decide +kernel
theorem dJ9_max_7cf53_2 : decode cJ9_max_7cf53 2 = .ok (.if_icmp .lt 7, 3) := by decide +kernel
theorem dJ9_max_7cf53_5 : decode cJ9_max_7cf53 5 = .ok (.iload_n 0, 1) := by decide +kernel
theorem dJ9_max_7cf53_6 : decode cJ9_max_7cf53 6 = .ok (.goto 4, 3) := by decide +kernel
theorem dJ9_max_7cf53_9 : decode cJ9_max_7cf53 9 = .ok (.iload_n 1, 1) := by decide +kernel
theorem dJ9_max_7cf53_10 : decode cJ9_max_7cf53 10 = .ok (.ireturn, 1) := by decide +kernel
