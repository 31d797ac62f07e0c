theorem dX1_init_0 : decode cX1_init 0 = .ok (.aload_n 0, 1) := by decide +kernel
theorem dX1_init_1 : decode cX1_init 1 = .ok (.invokespecial 3, 3) := by decide +kernel
theorem dX1_init_4 : decode cX1_init 4 = .ok (.aload_n 0, 1) := by decide +kernel
theorem dX1_init_5 : decode cX1_init 5 = .ok (.iload_n 1, 1) := by decide +kernel
theorem dX1_init_6 : decode cX1_init 6 = .ok (.newarray .int, 2) := by decide +kernel
theorem dX1_init_8 : decode cX1_init 8 = .ok (.putfield 9, 3) := by decide +kernel
theorem dX1_init_11 : decode cX1_init 11 = .ok (.return_, 1) := by decide +kernel
theorem dX1_byteAt_0 : decode cX1_byteAt 0 = .ok (.iload_n 1, 1) := by decide +kernel
theorem dX1_byteAt_1 : decode cX1_byteAt 1 = .ok (.ifCond .lt 11, 3) := by decide +kernel
theorem dX1_byteAt_4 : decode cX1_byteAt 4 = .ok (.iload_n 1, 1) := by decide +kernel
theorem dX1_byteAt_5 : decode cX1_byteAt 5 = .ok (.aload_n 0, 1) := by decide +kernel
theorem dX1_byteAt_6 : decode cX1_byteAt 6 = .ok (.getfield 15, 3) := by decide +kernel
theorem dX1_byteAt_9 : decode cX1_byteAt 9 = .ok (.if_icmp .lt 7, 3) := by decide +kernel
theorem dX1_byteAt_12 : decode cX1_byteAt 12 = .ok (.iconst 0, 1) := by decide +kernel
theorem dX1_byteAt_13 : decode cX1_byteAt 13 = .ok (.goto 9, 3) := by decide +kernel
theorem dX1_byteAt_16 : decode cX1_byteAt 16 = .ok (.aload_n 0, 1) := by decide +kernel
theorem dX1_byteAt_17 : decode cX1_byteAt 17 = .ok (.getfield 9, 3) := by decide +kernel
theorem dX1_byteAt_20 : decode cX1_byteAt 20 = .ok (.iload_n 1, 1) := by decide +kernel
theorem dX1_byteAt_21 : decode cX1_byteAt 21 = .ok (.iaload, 1) := by decide +kernel
theorem dX1_byteAt_22 : decode cX1_byteAt 22 = .ok (.ireturn, 1) := by decide +kernel
theorem dX1_wordAt_0 : decode cX1_wordAt 0 = .ok (.iload_n 1, 1) := by decide +kernel
theorem dX1_wordAt_1 : decode cX1_wordAt 1 = .ok (.ifCond .lt 13, 3) := by decide +kernel
theorem dX1_wordAt_4 : decode cX1_wordAt 4 = .ok (.iload_n 1, 1) := by decide +kernel
theorem dX1_wordAt_5 : decode cX1_wordAt 5 = .ok (.aload_n 0, 1) := by decide +kernel
theorem dX1_wordAt_6 : decode cX1_wordAt 6 = .ok (.getfield 15, 3) := by decide +kernel
theorem dX1_wordAt_9 : decode cX1_wordAt 9 = .ok (.iconst 1, 1) := by decide +kernel
theorem dX1_wordAt_10 : decode cX1_wordAt 10 = .ok (.isub, 1) := by decide +kernel
theorem dX1_wordAt_11 : decode cX1_wordAt 11 = .ok (.if_icmp .lt 7, 3) := by decide +kernel
theorem dX1_wordAt_14 : decode cX1_wordAt 14 = .ok (.iconst 0, 1) := by decide +kernel
theorem dX1_wordAt_15 : decode cX1_wordAt 15 = .ok (.goto 22, 3) := by decide +kernel
theorem dX1_wordAt_18 : decode cX1_wordAt 18 = .ok (.aload_n 0, 1) := by decide +kernel
theorem dX1_wordAt_19 : decode cX1_wordAt 19 = .ok (.getfield 9, 3) := by decide +kernel
theorem dX1_wordAt_22 : decode cX1_wordAt 22 = .ok (.iload_n 1, 1) := by decide +kernel
theorem dX1_wordAt_23 : decode cX1_wordAt 23 = .ok (.iaload, 1) := by decide +kernel
theorem dX1_wordAt_24 : decode cX1_wordAt 24 = .ok (.sipush 256, 3) := by decide +kernel
theorem dX1_wordAt_27 : decode cX1_wordAt 27 = .ok (.imul, 1) := by decide +kernel
theorem dX1_wordAt_28 : decode cX1_wordAt 28 = .ok (.aload_n 0, 1) := by decide +kernel
theorem dX1_wordAt_29 : decode cX1_wordAt 29 = .ok (.getfield 9, 3) := by decide +kernel
theorem dX1_wordAt_32 : decode cX1_wordAt 32 = .ok (.iload_n 1, 1) := by decide +kernel
theorem dX1_wordAt_33 : decode cX1_wordAt 33 = .ok (.iconst 1, 1) := by decide +kernel
theorem dX1_wordAt_34 : decode cX1_wordAt 34 = .ok (.iadd, 1) := by decide +kernel
theorem dX1_wordAt_35 : decode cX1_wordAt 35 = .ok (.iaload, 1) := by decide +kernel
theorem dX1_wordAt_36 : decode cX1_wordAt 36 = .ok (.iadd, 1) := by decide +kernel
theorem dX1_wordAt_37 : decode cX1_wordAt 37 = .ok (.ireturn, 1) := by decide +kernel
theorem dX1_putByte_0 : decode cX1_putByte 0 = .ok (.aload_n 0, 1) := by decide +kernel
theorem dX1_putByte_1 : decode cX1_putByte 1 = .ok (.getfield 15, 3) := by decide +kernel
theorem dX1_putByte_4 : decode cX1_putByte 4 = .ok (.aload_n 0, 1) := by decide +kernel
theorem dX1_putByte_5 : decode cX1_putByte 5 = .ok (.getfield 9, 3) := by decide +kernel
theorem dX1_putByte_8 : decode cX1_putByte 8 = .ok (.arraylength, 1) := by decide +kernel
theorem dX1_putByte_9 : decode cX1_putByte 9 = .ok (.if_icmp .ge 27, 3) := by decide +kernel
theorem dX1_putByte_12 : decode cX1_putByte 12 = .ok (.aload_n 0, 1) := by decide +kernel
theorem dX1_putByte_13 : decode cX1_putByte 13 = .ok (.getfield 9, 3) := by decide +kernel
theorem dX1_putByte_16 : decode cX1_putByte 16 = .ok (.aload_n 0, 1) := by decide +kernel
theorem dX1_putByte_17 : decode cX1_putByte 17 = .ok (.getfield 15, 3) := by decide +kernel
theorem dX1_putByte_20 : decode cX1_putByte 20 = .ok (.iload_n 1, 1) := by decide +kernel
theorem dX1_putByte_21 : decode cX1_putByte 21 = .ok (.sipush 255, 3) := by decide +kernel
theorem dX1_putByte_24 : decode cX1_putByte 24 = .ok (.iand, 1) := by decide +kernel
theorem dX1_putByte_25 : decode cX1_putByte 25 = .ok (.iastore, 1) := by decide +kernel
theorem dX1_putByte_26 : decode cX1_putByte 26 = .ok (.aload_n 0, 1) := by decide +kernel
theorem dX1_putByte_27 : decode cX1_putByte 27 = .ok (.dup, 1) := by decide +kernel
theorem dX1_putByte_28 : decode cX1_putByte 28 = .ok (.getfield 15, 3) := by decide +kernel
theorem dX1_putByte_31 : decode cX1_putByte 31 = .ok (.iconst 1, 1) := by decide +kernel
theorem dX1_putByte_32 : decode cX1_putByte 32 = .ok (.iadd, 1) := by decide +kernel
theorem dX1_putByte_33 : decode cX1_putByte 33 = .ok (.putfield 15, 3) := by decide +kernel
theorem dX1_putByte_36 : decode cX1_putByte 36 = .ok (.return_, 1) := by decide +kernel
theorem dX1_putWord_0 : decode cX1_putWord 0 = .ok (.aload_n 0, 1) := by decide +kernel
theorem dX1_putWord_1 : decode cX1_putWord 1 = .ok (.iload_n 1, 1) := by decide +kernel
theorem dX1_putWord_2 : decode cX1_putWord 2 = .ok (.bipush 8, 2) := by decide +kernel
theorem dX1_putWord_4 : decode cX1_putWord 4 = .ok (.ishr, 1) := by decide +kernel
theorem dX1_putWord_5 : decode cX1_putWord 5 = .ok (.invokevirtual 19, 3) := by decide +kernel
theorem dX1_putWord_8 : decode cX1_putWord 8 = .ok (.aload_n 0, 1) := by decide +kernel
theorem dX1_putWord_9 : decode cX1_putWord 9 = .ok (.iload_n 1, 1) := by decide +kernel
theorem dX1_putWord_10 : decode cX1_putWord 10 = .ok (.invokevirtual 19, 3) := by decide +kernel
theorem dX1_putWord_13 : decode cX1_putWord 13 = .ok (.return_, 1) := by decide +kernel
theorem dX1_putInt_0 : decode cX1_putInt 0 = .ok (.aload_n 0, 1) := by decide +kernel
theorem dX1_putInt_1 : decode cX1_putInt 1 = .ok (.iload_n 1, 1) := by decide +kernel
theorem dX1_putInt_2 : decode cX1_putInt 2 = .ok (.bipush 16, 2) := by decide +kernel
theorem dX1_putInt_4 : decode cX1_putInt 4 = .ok (.ishr, 1) := by decide +kernel
theorem dX1_putInt_5 : decode cX1_putInt 5 = .ok (.invokevirtual 23, 3) := by decide +kernel
theorem dX1_putInt_8 : decode cX1_putInt 8 = .ok (.aload_n 0, 1) := by decide +kernel
theorem dX1_putInt_9 : decode cX1_putInt 9 = .ok (.iload_n 1, 1) := by decide +kernel
theorem dX1_putInt_10 : decode cX1_putInt 10 = .ok (.invokevirtual 23, 3) := by decide +kernel
theorem dX1_putInt_13 : decode cX1_putInt 13 = .ok (.return_, 1) := by decide +kernel
theorem dX1_setWord_0 : decode cX1_setWord 0 = .ok (.iload_n 1, 1) := by decide +kernel
theorem dX1_setWord_1 : decode cX1_setWord 1 = .ok (.ifCond .lt 40, 3) := by decide +kernel
theorem dX1_setWord_4 : decode cX1_setWord 4 = .ok (.iload_n 1, 1) := by decide +kernel
theorem dX1_setWord_5 : decode cX1_setWord 5 = .ok (.iconst 1, 1) := by decide +kernel
theorem dX1_setWord_6 : decode cX1_setWord 6 = .ok (.iadd, 1) := by decide +kernel
theorem dX1_setWord_7 : decode cX1_setWord 7 = .ok (.aload_n 0, 1) := by decide +kernel
theorem dX1_setWord_8 : decode cX1_setWord 8 = .ok (.getfield 15, 3) := by decide +kernel
theorem dX1_setWord_11 : decode cX1_setWord 11 = .ok (.if_icmp .ge 30, 3) := by decide +kernel
theorem dX1_setWord_14 : decode cX1_setWord 14 = .ok (.aload_n 0, 1) := by decide +kernel
theorem dX1_setWord_15 : decode cX1_setWord 15 = .ok (.getfield 9, 3) := by decide +kernel
theorem dX1_setWord_18 : decode cX1_setWord 18 = .ok (.iload_n 1, 1) := by decide +kernel
theorem dX1_setWord_19 : decode cX1_setWord 19 = .ok (.iload_n 2, 1) := by decide +kernel
theorem dX1_setWord_20 : decode cX1_setWord 20 = .ok (.bipush 8, 2) := by decide +kernel
theorem dX1_setWord_22 : decode cX1_setWord 22 = .ok (.ishr, 1) := by decide +kernel
theorem dX1_setWord_23 : decode cX1_setWord 23 = .ok (.sipush 255, 3) := by decide +kernel
theorem dX1_setWord_26 : decode cX1_setWord 26 = .ok (.iand, 1) := by decide +kernel
theorem dX1_setWord_27 : decode cX1_setWord 27 = .ok (.iastore, 1) := by decide +kernel
theorem dX1_setWord_28 : decode cX1_setWord 28 = .ok (.aload_n 0, 1) := by decide +kernel
theorem dX1_setWord_29 : decode cX1_setWord 29 = .ok (.getfield 9, 3) := by decide +kernel
theorem dX1_setWord_32 : decode cX1_setWord 32 = .ok (.iload_n 1, 1) := by decide +kernel
theorem dX1_setWord_33 : decode cX1_setWord 33 = .ok (.iconst 1, 1) := by decide +kernel
theorem dX1_setWord_34 : decode cX1_setWord 34 = .ok (.iadd, 1) := by decide +kernel
theorem dX1_setWord_35 : decode cX1_setWord 35 = .ok (.iload_n 2, 1) := by decide +kernel
theorem dX1_setWord_36 : decode cX1_setWord 36 = .ok (.sipush 255, 3) := by decide +kernel
theorem dX1_setWord_39 : decode cX1_setWord 39 = .ok (.iand, 1) := by decide +kernel
theorem dX1_setWord_40 : decode cX1_setWord 40 = .ok (.iastore, 1) := by decide +kernel
theorem dX1_setWord_41 : decode cX1_setWord 41 = .ok (.return_, 1) := by decide +kernel
theorem dX1_copyFrom_0 : decode cX1_copyFrom 0 = .ok (.aload_n 0, 1) := by decide +kernel
theorem dX1_copyFrom_1 : decode cX1_copyFrom 1 = .ok (.aload_n 1, 1) := by decide +kernel
theorem dX1_copyFrom_2 : decode cX1_copyFrom 2 = .ok (.getfield 15, 3) := by decide +kernel
theorem dX1_copyFrom_5 : decode cX1_copyFrom 5 = .ok (.aload_n 0, 1) := by decide +kernel
theorem dX1_copyFrom_6 : decode cX1_copyFrom 6 = .ok (.getfield 9, 3) := by decide +kernel
theorem dX1_copyFrom_9 : decode cX1_copyFrom 9 = .ok (.arraylength, 1) := by decide +kernel
theorem dX1_copyFrom_10 : decode cX1_copyFrom 10 = .ok (.invokestatic 26, 3) := by decide +kernel
theorem dX1_copyFrom_13 : decode cX1_copyFrom 13 = .ok (.putfield 15, 3) := by decide +kernel
theorem dX1_copyFrom_16 : decode cX1_copyFrom 16 = .ok (.aload_n 1, 1) := by decide +kernel
theorem dX1_copyFrom_17 : decode cX1_copyFrom 17 = .ok (.getfield 9, 3) := by decide +kernel
theorem dX1_copyFrom_20 : decode cX1_copyFrom 20 = .ok (.iconst 0, 1) := by decide +kernel
theorem dX1_copyFrom_21 : decode cX1_copyFrom 21 = .ok (.aload_n 0, 1) := by decide +kernel
theorem dX1_copyFrom_22 : decode cX1_copyFrom 22 = .ok (.getfield 9, 3) := by decide +kernel
theorem dX1_copyFrom_25 : decode cX1_copyFrom 25 = .ok (.iconst 0, 1) := by decide +kernel
theorem dX1_copyFrom_26 : decode cX1_copyFrom 26 = .ok (.aload_n 0, 1) := by decide +kernel
theorem dX1_copyFrom_27 : decode cX1_copyFrom 27 = .ok (.getfield 15, 3) := by decide +kernel
theorem dX1_copyFrom_30 : decode cX1_copyFrom 30 = .ok (.invokestatic 32, 3) := by decide +kernel
theorem dX1_copyFrom_33 : decode cX1_copyFrom 33 = .ok (.aload_n 0, 1) := by decide +kernel
theorem dX1_copyFrom_34 : decode cX1_copyFrom 34 = .ok (.invokevirtual 38, 3) := by decide +kernel
theorem dX1_copyFrom_37 : decode cX1_copyFrom 37 = .ok (.return_, 1) := by decide +kernel
theorem dX1_hasBytesOf_0 : decode cX1_hasBytesOf 0 = .ok (.aload_n 0, 1) := by decide +kernel
theorem dX1_hasBytesOf_1 : decode cX1_hasBytesOf 1 = .ok (.getfield 15, 3) := by decide +kernel
theorem dX1_hasBytesOf_4 : decode cX1_hasBytesOf 4 = .ok (.aload_n 1, 1) := by decide +kernel
theorem dX1_hasBytesOf_5 : decode cX1_hasBytesOf 5 = .ok (.getfield 15, 3) := by decide +kernel
theorem dX1_hasBytesOf_8 : decode cX1_hasBytesOf 8 = .ok (.if_icmp .eq 5, 3) := by decide +kernel
theorem dX1_hasBytesOf_11 : decode cX1_hasBytesOf 11 = .ok (.iconst 0, 1) := by decide +kernel
theorem dX1_hasBytesOf_12 : decode cX1_hasBytesOf 12 = .ok (.ireturn, 1) := by decide +kernel
theorem dX1_hasBytesOf_13 : decode cX1_hasBytesOf 13 = .ok (.iconst 0, 1) := by decide +kernel
theorem dX1_hasBytesOf_14 : decode cX1_hasBytesOf 14 = .ok (.istore_n 2, 1) := by decide +kernel
theorem dX1_hasBytesOf_15 : decode cX1_hasBytesOf 15 = .ok (.iload_n 2, 1) := by decide +kernel
theorem dX1_hasBytesOf_16 : decode cX1_hasBytesOf 16 = .ok (.aload_n 0, 1) := by decide +kernel
theorem dX1_hasBytesOf_17 : decode cX1_hasBytesOf 17 = .ok (.getfield 15, 3) := by decide +kernel
theorem dX1_hasBytesOf_20 : decode cX1_hasBytesOf 20 = .ok (.if_icmp .ge 26, 3) := by decide +kernel
theorem dX1_hasBytesOf_23 : decode cX1_hasBytesOf 23 = .ok (.aload_n 0, 1) := by decide +kernel
theorem dX1_hasBytesOf_24 : decode cX1_hasBytesOf 24 = .ok (.getfield 9, 3) := by decide +kernel
theorem dX1_hasBytesOf_27 : decode cX1_hasBytesOf 27 = .ok (.iload_n 2, 1) := by decide +kernel
theorem dX1_hasBytesOf_28 : decode cX1_hasBytesOf 28 = .ok (.iaload, 1) := by decide +kernel
theorem dX1_hasBytesOf_29 : decode cX1_hasBytesOf 29 = .ok (.aload_n 1, 1) := by decide +kernel
theorem dX1_hasBytesOf_30 : decode cX1_hasBytesOf 30 = .ok (.getfield 9, 3) := by decide +kernel
theorem dX1_hasBytesOf_33 : decode cX1_hasBytesOf 33 = .ok (.iload_n 2, 1) := by decide +kernel
theorem dX1_hasBytesOf_34 : decode cX1_hasBytesOf 34 = .ok (.iaload, 1) := by decide +kernel
theorem dX1_hasBytesOf_35 : decode cX1_hasBytesOf 35 = .ok (.if_icmp .eq 5, 3) := by decide +kernel
theorem dX1_hasBytesOf_38 : decode cX1_hasBytesOf 38 = .ok (.iconst 0, 1) := by decide +kernel
theorem dX1_hasBytesOf_39 : decode cX1_hasBytesOf 39 = .ok (.ireturn, 1) := by decide +kernel
theorem dX1_hasBytesOf_40 : decode cX1_hasBytesOf 40 = .ok (.iinc 2 1, 3) := by decide +kernel
theorem dX1_hasBytesOf_43 : decode cX1_hasBytesOf 43 = .ok (.goto (-28), 3) := by decide +kernel
theorem dX1_hasBytesOf_46 : decode cX1_hasBytesOf 46 = .ok (.iconst 1, 1) := by decide +kernel
theorem dX1_hasBytesOf_47 : decode cX1_hasBytesOf 47 = .ok (.ireturn, 1) := by decide +kernel
theorem dX1_readHead_0 : decode cX1_readHead 0 = .ok (.aload_n 0, 1) := by decide +kernel
theorem dX1_readHead_1 : decode cX1_readHead 1 = .ok (.aload_n 0, 1) := by decide +kernel
theorem dX1_readHead_2 : decode cX1_readHead 2 = .ok (.iconst 2, 1) := by decide +kernel
theorem dX1_readHead_3 : decode cX1_readHead 3 = .ok (.invokevirtual 41, 3) := by decide +kernel
theorem dX1_readHead_6 : decode cX1_readHead 6 = .ok (.putfield 45, 3) := by decide +kernel
theorem dX1_readHead_9 : decode cX1_readHead 9 = .ok (.aload_n 0, 1) := by decide +kernel
theorem dX1_readHead_10 : decode cX1_readHead 10 = .ok (.aload_n 0, 1) := by decide +kernel
theorem dX1_readHead_11 : decode cX1_readHead 11 = .ok (.iconst 4, 1) := by decide +kernel
theorem dX1_readHead_12 : decode cX1_readHead 12 = .ok (.invokevirtual 48, 3) := by decide +kernel
theorem dX1_readHead_15 : decode cX1_readHead 15 = .ok (.putfield 51, 3) := by decide +kernel
theorem dX1_readHead_18 : decode cX1_readHead 18 = .ok (.aload_n 0, 1) := by decide +kernel
theorem dX1_readHead_19 : decode cX1_readHead 19 = .ok (.aload_n 0, 1) := by decide +kernel
theorem dX1_readHead_20 : decode cX1_readHead 20 = .ok (.bipush 6, 2) := by decide +kernel
theorem dX1_readHead_22 : decode cX1_readHead 22 = .ok (.invokevirtual 48, 3) := by decide +kernel
theorem dX1_readHead_25 : decode cX1_readHead 25 = .ok (.putfield 54, 3) := by decide +kernel
theorem dX1_readHead_28 : decode cX1_readHead 28 = .ok (.aload_n 0, 1) := by decide +kernel
theorem dX1_readHead_29 : decode cX1_readHead 29 = .ok (.aload_n 0, 1) := by decide +kernel
theorem dX1_readHead_30 : decode cX1_readHead 30 = .ok (.bipush 8, 2) := by decide +kernel
theorem dX1_readHead_32 : decode cX1_readHead 32 = .ok (.invokevirtual 48, 3) := by decide +kernel
theorem dX1_readHead_35 : decode cX1_readHead 35 = .ok (.putfield 57, 3) := by decide +kernel
theorem dX1_readHead_38 : decode cX1_readHead 38 = .ok (.aload_n 0, 1) := by decide +kernel
theorem dX1_readHead_39 : decode cX1_readHead 39 = .ok (.aload_n 0, 1) := by decide +kernel
theorem dX1_readHead_40 : decode cX1_readHead 40 = .ok (.bipush 10, 2) := by decide +kernel
theorem dX1_readHead_42 : decode cX1_readHead 42 = .ok (.invokevirtual 48, 3) := by decide +kernel
theorem dX1_readHead_45 : decode cX1_readHead 45 = .ok (.putfield 60, 3) := by decide +kernel
theorem dX1_readHead_48 : decode cX1_readHead 48 = .ok (.aload_n 0, 1) := by decide +kernel
theorem dX1_readHead_49 : decode cX1_readHead 49 = .ok (.aload_n 0, 1) := by decide +kernel
theorem dX1_readHead_50 : decode cX1_readHead 50 = .ok (.bipush 12, 2) := by decide +kernel
theorem dX1_readHead_52 : decode cX1_readHead 52 = .ok (.invokevirtual 48, 3) := by decide +kernel
theorem dX1_readHead_55 : decode cX1_readHead 55 = .ok (.putfield 63, 3) := by decide +kernel
theorem dX1_readHead_58 : decode cX1_readHead 58 = .ok (.return_, 1) := by decide +kernel
theorem dX1_sum_0 : decode cX1_sum 0 = .ok (.lconst 0, 1) := by decide +kernel
theorem dX1_sum_1 : decode cX1_sum 1 = .ok (.lstore_n 1, 1) := by decide +kernel
theorem dX1_sum_2 : decode cX1_sum 2 = .ok (.iconst 0, 1) := by decide +kernel
theorem dX1_sum_3 : decode cX1_sum 3 = .ok (.istore_n 3, 1) := by decide +kernel
theorem dX1_sum_4 : decode cX1_sum 4 = .ok (.iload_n 3, 1) := by decide +kernel
theorem dX1_sum_5 : decode cX1_sum 5 = .ok (.aload_n 0, 1) := by decide +kernel
theorem dX1_sum_6 : decode cX1_sum 6 = .ok (.getfield 15, 3) := by decide +kernel
theorem dX1_sum_9 : decode cX1_sum 9 = .ok (.if_icmp .ge 36, 3) := by decide +kernel
theorem dX1_sum_12 : decode cX1_sum 12 = .ok (.iload_n 3, 1) := by decide +kernel
theorem dX1_sum_13 : decode cX1_sum 13 = .ok (.bipush 16, 2) := by decide +kernel
theorem dX1_sum_15 : decode cX1_sum 15 = .ok (.if_icmp .lt 9, 3) := by decide +kernel
theorem dX1_sum_18 : decode cX1_sum 18 = .ok (.iload_n 3, 1) := by decide +kernel
theorem dX1_sum_19 : decode cX1_sum 19 = .ok (.bipush 18, 2) := by decide +kernel
theorem dX1_sum_21 : decode cX1_sum 21 = .ok (.if_icmp .lt 18, 3) := by decide +kernel
theorem dX1_sum_24 : decode cX1_sum 24 = .ok (.lload_n 1, 1) := by decide +kernel
theorem dX1_sum_25 : decode cX1_sum 25 = .ok (.aload_n 0, 1) := by decide +kernel
theorem dX1_sum_26 : decode cX1_sum 26 = .ok (.getfield 9, 3) := by decide +kernel
theorem dX1_sum_29 : decode cX1_sum 29 = .ok (.iload_n 3, 1) := by decide +kernel
theorem dX1_sum_30 : decode cX1_sum 30 = .ok (.iaload, 1) := by decide +kernel
theorem dX1_sum_31 : decode cX1_sum 31 = .ok (.i2l, 1) := by decide +kernel
theorem dX1_sum_32 : decode cX1_sum 32 = .ok (.iload_n 3, 1) := by decide +kernel
theorem dX1_sum_33 : decode cX1_sum 33 = .ok (.iconst 1, 1) := by decide +kernel
theorem dX1_sum_34 : decode cX1_sum 34 = .ok (.iadd, 1) := by decide +kernel
theorem dX1_sum_35 : decode cX1_sum 35 = .ok (.i2l, 1) := by decide +kernel
theorem dX1_sum_36 : decode cX1_sum 36 = .ok (.lmul, 1) := by decide +kernel
theorem dX1_sum_37 : decode cX1_sum 37 = .ok (.ladd, 1) := by decide +kernel
theorem dX1_sum_38 : decode cX1_sum 38 = .ok (.lstore_n 1, 1) := by decide +kernel
theorem dX1_sum_39 : decode cX1_sum 39 = .ok (.iinc 3 1, 3) := by decide +kernel
theorem dX1_sum_42 : decode cX1_sum 42 = .ok (.goto (-38), 3) := by decide +kernel
theorem dX1_sum_45 : decode cX1_sum 45 = .ok (.lload_n 1, 1) := by decide +kernel
theorem dX1_sum_46 : decode cX1_sum 46 = .ok (.ldc2_w 66, 3) := by decide +kernel
theorem dX1_sum_49 : decode cX1_sum 49 = .ok (.lrem, 1) := by decide +kernel
theorem dX1_sum_50 : decode cX1_sum 50 = .ok (.l2i, 1) := by decide +kernel
theorem dX1_sum_51 : decode cX1_sum 51 = .ok (.ireturn, 1) := by decide +kernel
theorem dX1_hasNumber_0 : decode cX1_hasNumber 0 = .ok (.iload_n 1, 1) := by decide +kernel
theorem dX1_hasNumber_1 : decode cX1_hasNumber 1 = .ok (.iconst 1, 1) := by decide +kernel
theorem dX1_hasNumber_2 : decode cX1_hasNumber 2 = .ok (.if_icmp .lt 15, 3) := by decide +kernel
theorem dX1_hasNumber_5 : decode cX1_hasNumber 5 = .ok (.iload_n 1, 1) := by decide +kernel
theorem dX1_hasNumber_6 : decode cX1_hasNumber 6 = .ok (.aload_n 0, 1) := by decide +kernel
theorem dX1_hasNumber_7 : decode cX1_hasNumber 7 = .ok (.getfield 51, 3) := by decide +kernel
theorem dX1_hasNumber_10 : decode cX1_hasNumber 10 = .ok (.if_icmp .gt 7, 3) := by decide +kernel
theorem dX1_hasNumber_13 : decode cX1_hasNumber 13 = .ok (.iconst 1, 1) := by decide +kernel
theorem dX1_hasNumber_14 : decode cX1_hasNumber 14 = .ok (.goto 4, 3) := by decide +kernel
theorem dX1_hasNumber_17 : decode cX1_hasNumber 17 = .ok (.iconst 0, 1) := by decide +kernel
theorem dX1_hasNumber_18 : decode cX1_hasNumber 18 = .ok (.ireturn, 1) := by decide +kernel
theorem dX1_rowOf_0 : decode cX1_rowOf 0 = .ok (.aload_n 0, 1) := by decide +kernel
theorem dX1_rowOf_1 : decode cX1_rowOf 1 = .ok (.getfield 54, 3) := by decide +kernel
theorem dX1_rowOf_4 : decode cX1_rowOf 4 = .ok (.aload_n 0, 1) := by decide +kernel
theorem dX1_rowOf_5 : decode cX1_rowOf 5 = .ok (.aload_n 0, 1) := by decide +kernel
theorem dX1_rowOf_6 : decode cX1_rowOf 6 = .ok (.getfield 63, 3) := by decide +kernel
theorem dX1_rowOf_9 : decode cX1_rowOf 9 = .ok (.iconst 2, 1) := by decide +kernel
theorem dX1_rowOf_10 : decode cX1_rowOf 10 = .ok (.iload_n 1, 1) := by decide +kernel
theorem dX1_rowOf_11 : decode cX1_rowOf 11 = .ok (.iconst 1, 1) := by decide +kernel
theorem dX1_rowOf_12 : decode cX1_rowOf 12 = .ok (.isub, 1) := by decide +kernel
theorem dX1_rowOf_13 : decode cX1_rowOf 13 = .ok (.imul, 1) := by decide +kernel
theorem dX1_rowOf_14 : decode cX1_rowOf 14 = .ok (.iadd, 1) := by decide +kernel
theorem dX1_rowOf_15 : decode cX1_rowOf 15 = .ok (.invokevirtual 48, 3) := by decide +kernel
theorem dX1_rowOf_18 : decode cX1_rowOf 18 = .ok (.iadd, 1) := by decide +kernel
theorem dX1_rowOf_19 : decode cX1_rowOf 19 = .ok (.ireturn, 1) := by decide +kernel
theorem dX1_kindOf_0 : decode cX1_kindOf 0 = .ok (.aload_n 0, 1) := by decide +kernel
theorem dX1_kindOf_1 : decode cX1_kindOf 1 = .ok (.aload_n 0, 1) := by decide +kernel
theorem dX1_kindOf_2 : decode cX1_kindOf 2 = .ok (.iload_n 1, 1) := by decide +kernel
theorem dX1_kindOf_3 : decode cX1_kindOf 3 = .ok (.invokevirtual 68, 3) := by decide +kernel
theorem dX1_kindOf_6 : decode cX1_kindOf 6 = .ok (.invokevirtual 41, 3) := by decide +kernel
theorem dX1_kindOf_9 : decode cX1_kindOf 9 = .ok (.ireturn, 1) := by decide +kernel
theorem dX1_modeOf_0 : decode cX1_modeOf 0 = .ok (.aload_n 0, 1) := by decide +kernel
theorem dX1_modeOf_1 : decode cX1_modeOf 1 = .ok (.aload_n 0, 1) := by decide +kernel
theorem dX1_modeOf_2 : decode cX1_modeOf 2 = .ok (.iload_n 1, 1) := by decide +kernel
theorem dX1_modeOf_3 : decode cX1_modeOf 3 = .ok (.invokevirtual 68, 3) := by decide +kernel
theorem dX1_modeOf_6 : decode cX1_modeOf 6 = .ok (.iconst 1, 1) := by decide +kernel
theorem dX1_modeOf_7 : decode cX1_modeOf 7 = .ok (.iadd, 1) := by decide +kernel
theorem dX1_modeOf_8 : decode cX1_modeOf 8 = .ok (.invokevirtual 48, 3) := by decide +kernel
theorem dX1_modeOf_11 : decode cX1_modeOf 11 = .ok (.ireturn, 1) := by decide +kernel
theorem dX1_ownerOf_0 : decode cX1_ownerOf 0 = .ok (.aload_n 0, 1) := by decide +kernel
theorem dX1_ownerOf_1 : decode cX1_ownerOf 1 = .ok (.aload_n 0, 1) := by decide +kernel
theorem dX1_ownerOf_2 : decode cX1_ownerOf 2 = .ok (.iload_n 1, 1) := by decide +kernel
theorem dX1_ownerOf_3 : decode cX1_ownerOf 3 = .ok (.invokevirtual 68, 3) := by decide +kernel
theorem dX1_ownerOf_6 : decode cX1_ownerOf 6 = .ok (.iconst 3, 1) := by decide +kernel
theorem dX1_ownerOf_7 : decode cX1_ownerOf 7 = .ok (.iadd, 1) := by decide +kernel
theorem dX1_ownerOf_8 : decode cX1_ownerOf 8 = .ok (.invokevirtual 48, 3) := by decide +kernel
theorem dX1_ownerOf_11 : decode cX1_ownerOf 11 = .ok (.ireturn, 1) := by decide +kernel
theorem dX1_namesOf_0 : decode cX1_namesOf 0 = .ok (.aload_n 0, 1) := by decide +kernel
theorem dX1_namesOf_1 : decode cX1_namesOf 1 = .ok (.aload_n 0, 1) := by decide +kernel
theorem dX1_namesOf_2 : decode cX1_namesOf 2 = .ok (.iload_n 1, 1) := by decide +kernel
theorem dX1_namesOf_3 : decode cX1_namesOf 3 = .ok (.invokevirtual 68, 3) := by decide +kernel
theorem dX1_namesOf_6 : decode cX1_namesOf 6 = .ok (.iconst 5, 1) := by decide +kernel
theorem dX1_namesOf_7 : decode cX1_namesOf 7 = .ok (.iadd, 1) := by decide +kernel
theorem dX1_namesOf_8 : decode cX1_namesOf 8 = .ok (.invokevirtual 41, 3) := by decide +kernel
theorem dX1_namesOf_11 : decode cX1_namesOf 11 = .ok (.ireturn, 1) := by decide +kernel
theorem dX1_sizeOf_0 : decode cX1_sizeOf 0 = .ok (.aload_n 0, 1) := by decide +kernel
theorem dX1_sizeOf_1 : decode cX1_sizeOf 1 = .ok (.iload_n 1, 1) := by decide +kernel
theorem dX1_sizeOf_2 : decode cX1_sizeOf 2 = .ok (.invokevirtual 68, 3) := by decide +kernel
theorem dX1_sizeOf_5 : decode cX1_sizeOf 5 = .ok (.istore_n 2, 1) := by decide +kernel
theorem dX1_sizeOf_6 : decode cX1_sizeOf 6 = .ok (.aload_n 0, 1) := by decide +kernel
theorem dX1_sizeOf_7 : decode cX1_sizeOf 7 = .ok (.iload_n 2, 1) := by decide +kernel
theorem dX1_sizeOf_8 : decode cX1_sizeOf 8 = .ok (.invokevirtual 41, 3) := by decide +kernel
theorem dX1_sizeOf_11 : decode cX1_sizeOf 11 = .ok (.istore_n 3, 1) := by decide +kernel
theorem dX1_sizeOf_12 : decode cX1_sizeOf 12 = .ok (.iload_n 3, 1) := by decide +kernel
theorem dX1_sizeOf_13 : decode cX1_sizeOf 13 = .ok (.iconst 2, 1) := by decide +kernel
theorem dX1_sizeOf_14 : decode cX1_sizeOf 14 = .ok (.if_icmp .ne 14, 3) := by decide +kernel
theorem dX1_sizeOf_17 : decode cX1_sizeOf 17 = .ok (.aload_n 0, 1) := by decide +kernel
theorem dX1_sizeOf_18 : decode cX1_sizeOf 18 = .ok (.iload_n 2, 1) := by decide +kernel
theorem dX1_sizeOf_19 : decode cX1_sizeOf 19 = .ok (.bipush 6, 2) := by decide +kernel
theorem dX1_sizeOf_21 : decode cX1_sizeOf 21 = .ok (.iadd, 1) := by decide +kernel
theorem dX1_sizeOf_22 : decode cX1_sizeOf 22 = .ok (.invokevirtual 48, 3) := by decide +kernel
theorem dX1_sizeOf_25 : decode cX1_sizeOf 25 = .ok (.goto 20, 3) := by decide +kernel
theorem dX1_sizeOf_28 : decode cX1_sizeOf 28 = .ok (.iload_n 3, 1) := by decide +kernel
theorem dX1_sizeOf_29 : decode cX1_sizeOf 29 = .ok (.iconst 1, 1) := by decide +kernel
theorem dX1_sizeOf_30 : decode cX1_sizeOf 30 = .ok (.if_icmp .ne 14, 3) := by decide +kernel
theorem dX1_sizeOf_33 : decode cX1_sizeOf 33 = .ok (.aload_n 0, 1) := by decide +kernel
theorem dX1_sizeOf_34 : decode cX1_sizeOf 34 = .ok (.iload_n 2, 1) := by decide +kernel
theorem dX1_sizeOf_35 : decode cX1_sizeOf 35 = .ok (.bipush 8, 2) := by decide +kernel
theorem dX1_sizeOf_37 : decode cX1_sizeOf 37 = .ok (.iadd, 1) := by decide +kernel
theorem dX1_sizeOf_38 : decode cX1_sizeOf 38 = .ok (.invokevirtual 48, 3) := by decide +kernel
theorem dX1_sizeOf_41 : decode cX1_sizeOf 41 = .ok (.goto 4, 3) := by decide +kernel
theorem dX1_sizeOf_44 : decode cX1_sizeOf 44 = .ok (.iconst 0, 1) := by decide +kernel
theorem dX1_sizeOf_45 : decode cX1_sizeOf 45 = .ok (.ireturn, 1) := by decide +kernel
theorem dX1_firstNamePlace_0 : decode cX1_firstNamePlace 0 = .ok (.aload_n 0, 1) := by decide +kernel
theorem dX1_firstNamePlace_1 : decode cX1_firstNamePlace 1 = .ok (.getfield 57, 3) := by decide +kernel
theorem dX1_firstNamePlace_4 : decode cX1_firstNamePlace 4 = .ok (.aload_n 0, 1) := by decide +kernel
theorem dX1_firstNamePlace_5 : decode cX1_firstNamePlace 5 = .ok (.aload_n 0, 1) := by decide +kernel
theorem dX1_firstNamePlace_6 : decode cX1_firstNamePlace 6 = .ok (.iload_n 1, 1) := by decide +kernel
theorem dX1_firstNamePlace_7 : decode cX1_firstNamePlace 7 = .ok (.invokevirtual 68, 3) := by decide +kernel
theorem dX1_firstNamePlace_10 : decode cX1_firstNamePlace 10 = .ok (.bipush 6, 2) := by decide +kernel
theorem dX1_firstNamePlace_12 : decode cX1_firstNamePlace 12 = .ok (.iadd, 1) := by decide +kernel
theorem dX1_firstNamePlace_13 : decode cX1_firstNamePlace 13 = .ok (.invokevirtual 48, 3) := by decide +kernel
theorem dX1_firstNamePlace_16 : decode cX1_firstNamePlace 16 = .ok (.iadd, 1) := by decide +kernel
theorem dX1_firstNamePlace_17 : decode cX1_firstNamePlace 17 = .ok (.ireturn, 1) := by decide +kernel
theorem dX1_homeOf_0 : decode cX1_homeOf 0 = .ok (.aload_n 0, 1) := by decide +kernel
theorem dX1_homeOf_1 : decode cX1_homeOf 1 = .ok (.aload_n 0, 1) := by decide +kernel
theorem dX1_homeOf_2 : decode cX1_homeOf 2 = .ok (.iload_n 1, 1) := by decide +kernel
theorem dX1_homeOf_3 : decode cX1_homeOf 3 = .ok (.invokevirtual 68, 3) := by decide +kernel
theorem dX1_homeOf_6 : decode cX1_homeOf 6 = .ok (.bipush 10, 2) := by decide +kernel
theorem dX1_homeOf_8 : decode cX1_homeOf 8 = .ok (.iadd, 1) := by decide +kernel
theorem dX1_homeOf_9 : decode cX1_homeOf 9 = .ok (.invokevirtual 48, 3) := by decide +kernel
theorem dX1_homeOf_12 : decode cX1_homeOf 12 = .ok (.ireturn, 1) := by decide +kernel
theorem dX1_targetOf_0 : decode cX1_targetOf 0 = .ok (.aload_n 0, 1) := by decide +kernel
theorem dX1_targetOf_1 : decode cX1_targetOf 1 = .ok (.iload_n 1, 1) := by decide +kernel
theorem dX1_targetOf_2 : decode cX1_targetOf 2 = .ok (.invokevirtual 71, 3) := by decide +kernel
theorem dX1_targetOf_5 : decode cX1_targetOf 5 = .ok (.istore_n 3, 1) := by decide +kernel
theorem dX1_targetOf_6 : decode cX1_targetOf 6 = .ok (.aload_n 0, 1) := by decide +kernel
theorem dX1_targetOf_7 : decode cX1_targetOf 7 = .ok (.iload_n 1, 1) := by decide +kernel
theorem dX1_targetOf_8 : decode cX1_targetOf 8 = .ok (.invokevirtual 74, 3) := by decide +kernel
theorem dX1_targetOf_11 : decode cX1_targetOf 11 = .ok (.istore 4, 2) := by decide +kernel
theorem dX1_targetOf_13 : decode cX1_targetOf 13 = .ok (.iconst 0, 1) := by decide +kernel
theorem dX1_targetOf_14 : decode cX1_targetOf 14 = .ok (.istore 5, 2) := by decide +kernel
theorem dX1_targetOf_16 : decode cX1_targetOf 16 = .ok (.iload 5, 2) := by decide +kernel
theorem dX1_targetOf_18 : decode cX1_targetOf 18 = .ok (.iload 4, 2) := by decide +kernel
theorem dX1_targetOf_20 : decode cX1_targetOf 20 = .ok (.if_icmp .ge 36, 3) := by decide +kernel
theorem dX1_targetOf_23 : decode cX1_targetOf 23 = .ok (.iload_n 3, 1) := by decide +kernel
theorem dX1_targetOf_24 : decode cX1_targetOf 24 = .ok (.iconst 4, 1) := by decide +kernel
theorem dX1_targetOf_25 : decode cX1_targetOf 25 = .ok (.iload 5, 2) := by decide +kernel
theorem dX1_targetOf_27 : decode cX1_targetOf 27 = .ok (.imul, 1) := by decide +kernel
theorem dX1_targetOf_28 : decode cX1_targetOf 28 = .ok (.iadd, 1) := by decide +kernel
theorem dX1_targetOf_29 : decode cX1_targetOf 29 = .ok (.istore 6, 2) := by decide +kernel
theorem dX1_targetOf_31 : decode cX1_targetOf 31 = .ok (.aload_n 0, 1) := by decide +kernel
theorem dX1_targetOf_32 : decode cX1_targetOf 32 = .ok (.iload 6, 2) := by decide +kernel
theorem dX1_targetOf_34 : decode cX1_targetOf 34 = .ok (.invokevirtual 48, 3) := by decide +kernel
theorem dX1_targetOf_37 : decode cX1_targetOf 37 = .ok (.iload_n 2, 1) := by decide +kernel
theorem dX1_targetOf_38 : decode cX1_targetOf 38 = .ok (.if_icmp .ne 12, 3) := by decide +kernel
theorem dX1_targetOf_41 : decode cX1_targetOf 41 = .ok (.aload_n 0, 1) := by decide +kernel
theorem dX1_targetOf_42 : decode cX1_targetOf 42 = .ok (.iload 6, 2) := by decide +kernel
theorem dX1_targetOf_44 : decode cX1_targetOf 44 = .ok (.iconst 2, 1) := by decide +kernel
theorem dX1_targetOf_45 : decode cX1_targetOf 45 = .ok (.iadd, 1) := by decide +kernel
theorem dX1_targetOf_46 : decode cX1_targetOf 46 = .ok (.invokevirtual 48, 3) := by decide +kernel
theorem dX1_targetOf_49 : decode cX1_targetOf 49 = .ok (.ireturn, 1) := by decide +kernel
theorem dX1_targetOf_50 : decode cX1_targetOf 50 = .ok (.iinc 5 1, 3) := by decide +kernel
theorem dX1_targetOf_53 : decode cX1_targetOf 53 = .ok (.goto (-37), 3) := by decide +kernel
theorem dX1_targetOf_56 : decode cX1_targetOf 56 = .ok (.iconst 0, 1) := by decide +kernel
theorem dX1_targetOf_57 : decode cX1_targetOf 57 = .ok (.ireturn, 1) := by decide +kernel
theorem dX1_tailBlocks_0 : decode cX1_tailBlocks 0 = .ok (.aload_n 0, 1) := by decide +kernel
theorem dX1_tailBlocks_1 : decode cX1_tailBlocks 1 = .ok (.getfield 63, 3) := by decide +kernel
theorem dX1_tailBlocks_4 : decode cX1_tailBlocks 4 = .ok (.aload_n 0, 1) := by decide +kernel
theorem dX1_tailBlocks_5 : decode cX1_tailBlocks 5 = .ok (.getfield 60, 3) := by decide +kernel
theorem dX1_tailBlocks_8 : decode cX1_tailBlocks 8 = .ok (.isub, 1) := by decide +kernel
theorem dX1_tailBlocks_9 : decode cX1_tailBlocks 9 = .ok (.iconst 5, 1) := by decide +kernel
theorem dX1_tailBlocks_10 : decode cX1_tailBlocks 10 = .ok (.idiv, 1) := by decide +kernel
theorem dX1_tailBlocks_11 : decode cX1_tailBlocks 11 = .ok (.ireturn, 1) := by decide +kernel
theorem dX1_tailRow_0 : decode cX1_tailRow 0 = .ok (.aload_n 0, 1) := by decide +kernel
theorem dX1_tailRow_1 : decode cX1_tailRow 1 = .ok (.getfield 60, 3) := by decide +kernel
theorem dX1_tailRow_4 : decode cX1_tailRow 4 = .ok (.iconst 5, 1) := by decide +kernel
theorem dX1_tailRow_5 : decode cX1_tailRow 5 = .ok (.iload_n 1, 1) := by decide +kernel
theorem dX1_tailRow_6 : decode cX1_tailRow 6 = .ok (.imul, 1) := by decide +kernel
theorem dX1_tailRow_7 : decode cX1_tailRow 7 = .ok (.iadd, 1) := by decide +kernel
theorem dX1_tailRow_8 : decode cX1_tailRow 8 = .ok (.ireturn, 1) := by decide +kernel
theorem dX1_wholeBlocks_0 : decode cX1_wholeBlocks 0 = .ok (.aload_n 0, 1) := by decide +kernel
theorem dX1_wholeBlocks_1 : decode cX1_wholeBlocks 1 = .ok (.getfield 45, 3) := by decide +kernel
theorem dX1_wholeBlocks_4 : decode cX1_wholeBlocks 4 = .ok (.iconst 1, 1) := by decide +kernel
theorem dX1_wholeBlocks_5 : decode cX1_wholeBlocks 5 = .ok (.if_icmp .ge 7, 3) := by decide +kernel
theorem dX1_wholeBlocks_8 : decode cX1_wholeBlocks 8 = .ok (.iconst 0, 1) := by decide +kernel
theorem dX1_wholeBlocks_9 : decode cX1_wholeBlocks 9 = .ok (.goto 9, 3) := by decide +kernel
theorem dX1_wholeBlocks_12 : decode cX1_wholeBlocks 12 = .ok (.iload_n 1, 1) := by decide +kernel
theorem dX1_wholeBlocks_13 : decode cX1_wholeBlocks 13 = .ok (.aload_n 0, 1) := by decide +kernel
theorem dX1_wholeBlocks_14 : decode cX1_wholeBlocks 14 = .ok (.getfield 45, 3) := by decide +kernel
theorem dX1_wholeBlocks_17 : decode cX1_wholeBlocks 17 = .ok (.idiv, 1) := by decide +kernel
theorem dX1_wholeBlocks_18 : decode cX1_wholeBlocks 18 = .ok (.ireturn, 1) := by decide +kernel
theorem dX1_fileByte_0 : decode cX1_fileByte 0 = .ok (.aload_n 0, 1) := by decide +kernel
theorem dX1_fileByte_1 : decode cX1_fileByte 1 = .ok (.iload_n 1, 1) := by decide +kernel
theorem dX1_fileByte_2 : decode cX1_fileByte 2 = .ok (.invokevirtual 68, 3) := by decide +kernel
theorem dX1_fileByte_5 : decode cX1_fileByte 5 = .ok (.istore_n 3, 1) := by decide +kernel
theorem dX1_fileByte_6 : decode cX1_fileByte 6 = .ok (.aload_n 0, 1) := by decide +kernel
theorem dX1_fileByte_7 : decode cX1_fileByte 7 = .ok (.iload_n 2, 1) := by decide +kernel
theorem dX1_fileByte_8 : decode cX1_fileByte 8 = .ok (.invokevirtual 77, 3) := by decide +kernel
theorem dX1_fileByte_11 : decode cX1_fileByte 11 = .ok (.istore 4, 2) := by decide +kernel
theorem dX1_fileByte_13 : decode cX1_fileByte 13 = .ok (.iload_n 2, 1) := by decide +kernel
theorem dX1_fileByte_14 : decode cX1_fileByte 14 = .ok (.iload 4, 2) := by decide +kernel
theorem dX1_fileByte_16 : decode cX1_fileByte 16 = .ok (.aload_n 0, 1) := by decide +kernel
theorem dX1_fileByte_17 : decode cX1_fileByte 17 = .ok (.getfield 45, 3) := by decide +kernel
theorem dX1_fileByte_20 : decode cX1_fileByte 20 = .ok (.imul, 1) := by decide +kernel
theorem dX1_fileByte_21 : decode cX1_fileByte 21 = .ok (.isub, 1) := by decide +kernel
theorem dX1_fileByte_22 : decode cX1_fileByte 22 = .ok (.istore 5, 2) := by decide +kernel
theorem dX1_fileByte_24 : decode cX1_fileByte 24 = .ok (.iload 4, 2) := by decide +kernel
theorem dX1_fileByte_26 : decode cX1_fileByte 26 = .ok (.aload_n 0, 1) := by decide +kernel
theorem dX1_fileByte_27 : decode cX1_fileByte 27 = .ok (.aload_n 0, 1) := by decide +kernel
theorem dX1_fileByte_28 : decode cX1_fileByte 28 = .ok (.iload_n 3, 1) := by decide +kernel
theorem dX1_fileByte_29 : decode cX1_fileByte 29 = .ok (.bipush 6, 2) := by decide +kernel
theorem dX1_fileByte_31 : decode cX1_fileByte 31 = .ok (.iadd, 1) := by decide +kernel
theorem dX1_fileByte_32 : decode cX1_fileByte 32 = .ok (.invokevirtual 48, 3) := by decide +kernel
theorem dX1_fileByte_35 : decode cX1_fileByte 35 = .ok (.invokevirtual 77, 3) := by decide +kernel
theorem dX1_fileByte_38 : decode cX1_fileByte 38 = .ok (.if_icmp .lt 49, 3) := by decide +kernel
theorem dX1_fileByte_41 : decode cX1_fileByte 41 = .ok (.aload_n 0, 1) := by decide +kernel
theorem dX1_fileByte_42 : decode cX1_fileByte 42 = .ok (.aload_n 0, 1) := by decide +kernel
theorem dX1_fileByte_43 : decode cX1_fileByte 43 = .ok (.iload_n 3, 1) := by decide +kernel
theorem dX1_fileByte_44 : decode cX1_fileByte 44 = .ok (.bipush 10, 2) := by decide +kernel
theorem dX1_fileByte_46 : decode cX1_fileByte 46 = .ok (.iadd, 1) := by decide +kernel
theorem dX1_fileByte_47 : decode cX1_fileByte 47 = .ok (.invokevirtual 41, 3) := by decide +kernel
theorem dX1_fileByte_50 : decode cX1_fileByte 50 = .ok (.iconst 1, 1) := by decide +kernel
theorem dX1_fileByte_51 : decode cX1_fileByte 51 = .ok (.isub, 1) := by decide +kernel
theorem dX1_fileByte_52 : decode cX1_fileByte 52 = .ok (.invokevirtual 80, 3) := by decide +kernel
theorem dX1_fileByte_55 : decode cX1_fileByte 55 = .ok (.istore 6, 2) := by decide +kernel
theorem dX1_fileByte_57 : decode cX1_fileByte 57 = .ok (.aload_n 0, 1) := by decide +kernel
theorem dX1_fileByte_58 : decode cX1_fileByte 58 = .ok (.aload_n 0, 1) := by decide +kernel
theorem dX1_fileByte_59 : decode cX1_fileByte 59 = .ok (.iload 6, 2) := by decide +kernel
theorem dX1_fileByte_61 : decode cX1_fileByte 61 = .ok (.invokevirtual 48, 3) := by decide +kernel
theorem dX1_fileByte_64 : decode cX1_fileByte 64 = .ok (.aload_n 0, 1) := by decide +kernel
theorem dX1_fileByte_65 : decode cX1_fileByte 65 = .ok (.iload 6, 2) := by decide +kernel
theorem dX1_fileByte_67 : decode cX1_fileByte 67 = .ok (.iconst 2, 1) := by decide +kernel
theorem dX1_fileByte_68 : decode cX1_fileByte 68 = .ok (.iadd, 1) := by decide +kernel
theorem dX1_fileByte_69 : decode cX1_fileByte 69 = .ok (.invokevirtual 48, 3) := by decide +kernel
theorem dX1_fileByte_72 : decode cX1_fileByte 72 = .ok (.aload_n 0, 1) := by decide +kernel
theorem dX1_fileByte_73 : decode cX1_fileByte 73 = .ok (.iload_n 3, 1) := by decide +kernel
theorem dX1_fileByte_74 : decode cX1_fileByte 74 = .ok (.bipush 11, 2) := by decide +kernel
theorem dX1_fileByte_76 : decode cX1_fileByte 76 = .ok (.iadd, 1) := by decide +kernel
theorem dX1_fileByte_77 : decode cX1_fileByte 77 = .ok (.invokevirtual 41, 3) := by decide +kernel
theorem dX1_fileByte_80 : decode cX1_fileByte 80 = .ok (.iload 5, 2) := by decide +kernel
theorem dX1_fileByte_82 : decode cX1_fileByte 82 = .ok (.iadd, 1) := by decide +kernel
theorem dX1_fileByte_83 : decode cX1_fileByte 83 = .ok (.invokevirtual 83, 3) := by decide +kernel
theorem dX1_fileByte_86 : decode cX1_fileByte 86 = .ok (.ireturn, 1) := by decide +kernel
theorem dX1_fileByte_87 : decode cX1_fileByte 87 = .ok (.aload_n 0, 1) := by decide +kernel
theorem dX1_fileByte_88 : decode cX1_fileByte 88 = .ok (.iload_n 3, 1) := by decide +kernel
theorem dX1_fileByte_89 : decode cX1_fileByte 89 = .ok (.bipush 8, 2) := by decide +kernel
theorem dX1_fileByte_91 : decode cX1_fileByte 91 = .ok (.iadd, 1) := by decide +kernel
theorem dX1_fileByte_92 : decode cX1_fileByte 92 = .ok (.invokevirtual 48, 3) := by decide +kernel
theorem dX1_fileByte_95 : decode cX1_fileByte 95 = .ok (.istore 6, 2) := by decide +kernel
theorem dX1_fileByte_97 : decode cX1_fileByte 97 = .ok (.iconst 0, 1) := by decide +kernel
theorem dX1_fileByte_98 : decode cX1_fileByte 98 = .ok (.istore 7, 2) := by decide +kernel
theorem dX1_fileByte_100 : decode cX1_fileByte 100 = .ok (.iload 7, 2) := by decide +kernel
theorem dX1_fileByte_102 : decode cX1_fileByte 102 = .ok (.iload 4, 2) := by decide +kernel
theorem dX1_fileByte_104 : decode cX1_fileByte 104 = .ok (.if_icmp .ge 30, 3) := by decide +kernel
theorem dX1_fileByte_107 : decode cX1_fileByte 107 = .ok (.iload 6, 2) := by decide +kernel
theorem dX1_fileByte_109 : decode cX1_fileByte 109 = .ok (.aload_n 0, 1) := by decide +kernel
theorem dX1_fileByte_110 : decode cX1_fileByte 110 = .ok (.iload_n 3, 1) := by decide +kernel
theorem dX1_fileByte_111 : decode cX1_fileByte 111 = .ok (.bipush 12, 2) := by decide +kernel
theorem dX1_fileByte_113 : decode cX1_fileByte 113 = .ok (.iadd, 1) := by decide +kernel
theorem dX1_fileByte_114 : decode cX1_fileByte 114 = .ok (.iconst 2, 1) := by decide +kernel
theorem dX1_fileByte_115 : decode cX1_fileByte 115 = .ok (.iload 7, 2) := by decide +kernel
theorem dX1_fileByte_117 : decode cX1_fileByte 117 = .ok (.imul, 1) := by decide +kernel
theorem dX1_fileByte_118 : decode cX1_fileByte 118 = .ok (.iadd, 1) := by decide +kernel
theorem dX1_fileByte_119 : decode cX1_fileByte 119 = .ok (.invokevirtual 48, 3) := by decide +kernel
theorem dX1_fileByte_122 : decode cX1_fileByte 122 = .ok (.invokestatic 87, 3) := by decide +kernel
theorem dX1_fileByte_125 : decode cX1_fileByte 125 = .ok (.iadd, 1) := by decide +kernel
theorem dX1_fileByte_126 : decode cX1_fileByte 126 = .ok (.istore 6, 2) := by decide +kernel
theorem dX1_fileByte_128 : decode cX1_fileByte 128 = .ok (.iinc 7 1, 3) := by decide +kernel
theorem dX1_fileByte_131 : decode cX1_fileByte 131 = .ok (.goto (-31), 3) := by decide +kernel
theorem dX1_fileByte_134 : decode cX1_fileByte 134 = .ok (.aload_n 0, 1) := by decide +kernel
theorem dX1_fileByte_135 : decode cX1_fileByte 135 = .ok (.iload 6, 2) := by decide +kernel
theorem dX1_fileByte_137 : decode cX1_fileByte 137 = .ok (.aload_n 0, 1) := by decide +kernel
theorem dX1_fileByte_138 : decode cX1_fileByte 138 = .ok (.iload_n 3, 1) := by decide +kernel
theorem dX1_fileByte_139 : decode cX1_fileByte 139 = .ok (.bipush 12, 2) := by decide +kernel
theorem dX1_fileByte_141 : decode cX1_fileByte 141 = .ok (.iadd, 1) := by decide +kernel
theorem dX1_fileByte_142 : decode cX1_fileByte 142 = .ok (.iconst 2, 1) := by decide +kernel
theorem dX1_fileByte_143 : decode cX1_fileByte 143 = .ok (.iload 4, 2) := by decide +kernel
theorem dX1_fileByte_145 : decode cX1_fileByte 145 = .ok (.imul, 1) := by decide +kernel
theorem dX1_fileByte_146 : decode cX1_fileByte 146 = .ok (.iadd, 1) := by decide +kernel
theorem dX1_fileByte_147 : decode cX1_fileByte 147 = .ok (.invokevirtual 48, 3) := by decide +kernel
theorem dX1_fileByte_150 : decode cX1_fileByte 150 = .ok (.iload 5, 2) := by decide +kernel
theorem dX1_fileByte_152 : decode cX1_fileByte 152 = .ok (.invokevirtual 83, 3) := by decide +kernel
theorem dX1_fileByte_155 : decode cX1_fileByte 155 = .ok (.ireturn, 1) := by decide +kernel
theorem dX1_canBeBlock_0 : decode cX1_canBeBlock 0 = .ok (.iload_n 2, 1) := by decide +kernel
theorem dX1_canBeBlock_1 : decode cX1_canBeBlock 1 = .ok (.ifCond .ne 5, 3) := by decide +kernel
theorem dX1_canBeBlock_4 : decode cX1_canBeBlock 4 = .ok (.iconst 1, 1) := by decide +kernel
theorem dX1_canBeBlock_5 : decode cX1_canBeBlock 5 = .ok (.ireturn, 1) := by decide +kernel
theorem dX1_canBeBlock_6 : decode cX1_canBeBlock 6 = .ok (.iload_n 1, 1) := by decide +kernel
theorem dX1_canBeBlock_7 : decode cX1_canBeBlock 7 = .ok (.bipush 18, 2) := by decide +kernel
theorem dX1_canBeBlock_9 : decode cX1_canBeBlock 9 = .ok (.if_icmp .lt 16, 3) := by decide +kernel
theorem dX1_canBeBlock_12 : decode cX1_canBeBlock 12 = .ok (.iload_n 1, 1) := by decide +kernel
theorem dX1_canBeBlock_13 : decode cX1_canBeBlock 13 = .ok (.iload_n 2, 1) := by decide +kernel
theorem dX1_canBeBlock_14 : decode cX1_canBeBlock 14 = .ok (.invokestatic 87, 3) := by decide +kernel
theorem dX1_canBeBlock_17 : decode cX1_canBeBlock 17 = .ok (.iadd, 1) := by decide +kernel
theorem dX1_canBeBlock_18 : decode cX1_canBeBlock 18 = .ok (.aload_n 0, 1) := by decide +kernel
theorem dX1_canBeBlock_19 : decode cX1_canBeBlock 19 = .ok (.getfield 54, 3) := by decide +kernel
theorem dX1_canBeBlock_22 : decode cX1_canBeBlock 22 = .ok (.if_icmp .le 5, 3) := by decide +kernel
theorem dX1_canBeBlock_25 : decode cX1_canBeBlock 25 = .ok (.iconst 0, 1) := by decide +kernel
theorem dX1_canBeBlock_26 : decode cX1_canBeBlock 26 = .ok (.ireturn, 1) := by decide +kernel
theorem dX1_canBeBlock_27 : decode cX1_canBeBlock 27 = .ok (.iload_n 2, 1) := by decide +kernel
theorem dX1_canBeBlock_28 : decode cX1_canBeBlock 28 = .ok (.ldc 90, 2) := by decide +kernel
theorem dX1_canBeBlock_30 : decode cX1_canBeBlock 30 = .ok (.if_icmp .lt 19, 3) := by decide +kernel
theorem dX1_canBeBlock_33 : decode cX1_canBeBlock 33 = .ok (.iload_n 2, 1) := by decide +kernel
theorem dX1_canBeBlock_34 : decode cX1_canBeBlock 34 = .ok (.ldc 90, 2) := by decide +kernel
theorem dX1_canBeBlock_36 : decode cX1_canBeBlock 36 = .ok (.iload_n 3, 1) := by decide +kernel
theorem dX1_canBeBlock_37 : decode cX1_canBeBlock 37 = .ok (.iadd, 1) := by decide +kernel
theorem dX1_canBeBlock_38 : decode cX1_canBeBlock 38 = .ok (.if_icmp .ne 7, 3) := by decide +kernel
theorem dX1_canBeBlock_41 : decode cX1_canBeBlock 41 = .ok (.iconst 1, 1) := by decide +kernel
theorem dX1_canBeBlock_42 : decode cX1_canBeBlock 42 = .ok (.goto 22, 3) := by decide +kernel
theorem dX1_canBeBlock_45 : decode cX1_canBeBlock 45 = .ok (.iconst 0, 1) := by decide +kernel
theorem dX1_canBeBlock_46 : decode cX1_canBeBlock 46 = .ok (.goto 18, 3) := by decide +kernel
theorem dX1_canBeBlock_49 : decode cX1_canBeBlock 49 = .ok (.aload_n 0, 1) := by decide +kernel
theorem dX1_canBeBlock_50 : decode cX1_canBeBlock 50 = .ok (.iload_n 1, 1) := by decide +kernel
theorem dX1_canBeBlock_51 : decode cX1_canBeBlock 51 = .ok (.iload_n 2, 1) := by decide +kernel
theorem dX1_canBeBlock_52 : decode cX1_canBeBlock 52 = .ok (.invokevirtual 91, 3) := by decide +kernel
theorem dX1_canBeBlock_55 : decode cX1_canBeBlock 55 = .ok (.iload_n 3, 1) := by decide +kernel
theorem dX1_canBeBlock_56 : decode cX1_canBeBlock 56 = .ok (.if_icmp .ne 7, 3) := by decide +kernel
theorem dX1_canBeBlock_59 : decode cX1_canBeBlock 59 = .ok (.iconst 1, 1) := by decide +kernel
theorem dX1_canBeBlock_60 : decode cX1_canBeBlock 60 = .ok (.goto 4, 3) := by decide +kernel
theorem dX1_canBeBlock_63 : decode cX1_canBeBlock 63 = .ok (.iconst 0, 1) := by decide +kernel
theorem dX1_canBeBlock_64 : decode cX1_canBeBlock 64 = .ok (.ireturn, 1) := by decide +kernel
theorem dX1_storedBytes_0 : decode cX1_storedBytes 0 = .ok (.iload_n 0, 1) := by decide +kernel
theorem dX1_storedBytes_1 : decode cX1_storedBytes 1 = .ok (.ldc 90, 2) := by decide +kernel
theorem dX1_storedBytes_3 : decode cX1_storedBytes 3 = .ok (.if_icmp .lt 10, 3) := by decide +kernel
theorem dX1_storedBytes_6 : decode cX1_storedBytes 6 = .ok (.iload_n 0, 1) := by decide +kernel
theorem dX1_storedBytes_7 : decode cX1_storedBytes 7 = .ok (.ldc 90, 2) := by decide +kernel
theorem dX1_storedBytes_9 : decode cX1_storedBytes 9 = .ok (.isub, 1) := by decide +kernel
theorem dX1_storedBytes_10 : decode cX1_storedBytes 10 = .ok (.goto 4, 3) := by decide +kernel
theorem dX1_storedBytes_13 : decode cX1_storedBytes 13 = .ok (.iload_n 0, 1) := by decide +kernel
theorem dX1_storedBytes_14 : decode cX1_storedBytes 14 = .ok (.ireturn, 1) := by decide +kernel
theorem dX1_blockByte_0 : decode cX1_blockByte 0 = .ok (.iload_n 2, 1) := by decide +kernel
theorem dX1_blockByte_1 : decode cX1_blockByte 1 = .ok (.ifCond .ne 5, 3) := by decide +kernel
theorem dX1_blockByte_4 : decode cX1_blockByte 4 = .ok (.iconst 0, 1) := by decide +kernel
theorem dX1_blockByte_5 : decode cX1_blockByte 5 = .ok (.ireturn, 1) := by decide +kernel
theorem dX1_blockByte_6 : decode cX1_blockByte 6 = .ok (.iload_n 2, 1) := by decide +kernel
theorem dX1_blockByte_7 : decode cX1_blockByte 7 = .ok (.ldc 90, 2) := by decide +kernel
theorem dX1_blockByte_9 : decode cX1_blockByte 9 = .ok (.if_icmp .lt 13, 3) := by decide +kernel
theorem dX1_blockByte_12 : decode cX1_blockByte 12 = .ok (.aload_n 0, 1) := by decide +kernel
theorem dX1_blockByte_13 : decode cX1_blockByte 13 = .ok (.iload_n 1, 1) := by decide +kernel
theorem dX1_blockByte_14 : decode cX1_blockByte 14 = .ok (.iload_n 3, 1) := by decide +kernel
theorem dX1_blockByte_15 : decode cX1_blockByte 15 = .ok (.iadd, 1) := by decide +kernel
theorem dX1_blockByte_16 : decode cX1_blockByte 16 = .ok (.invokevirtual 41, 3) := by decide +kernel
theorem dX1_blockByte_19 : decode cX1_blockByte 19 = .ok (.goto 10, 3) := by decide +kernel
theorem dX1_blockByte_22 : decode cX1_blockByte 22 = .ok (.aload_n 0, 1) := by decide +kernel
theorem dX1_blockByte_23 : decode cX1_blockByte 23 = .ok (.iload_n 1, 1) := by decide +kernel
theorem dX1_blockByte_24 : decode cX1_blockByte 24 = .ok (.iload_n 2, 1) := by decide +kernel
theorem dX1_blockByte_25 : decode cX1_blockByte 25 = .ok (.iload_n 3, 1) := by decide +kernel
theorem dX1_blockByte_26 : decode cX1_blockByte 26 = .ok (.invokevirtual 94, 3) := by decide +kernel
theorem dX1_blockByte_29 : decode cX1_blockByte 29 = .ok (.ireturn, 1) := by decide +kernel
theorem dX1_openedBytes_0 : decode cX1_openedBytes 0 = .ok (.iconst 0, 1) := by decide +kernel
theorem dX1_openedBytes_1 : decode cX1_openedBytes 1 = .ok (.istore_n 3, 1) := by decide +kernel
theorem dX1_openedBytes_2 : decode cX1_openedBytes 2 = .ok (.iconst 0, 1) := by decide +kernel
theorem dX1_openedBytes_3 : decode cX1_openedBytes 3 = .ok (.istore 4, 2) := by decide +kernel
theorem dX1_openedBytes_5 : decode cX1_openedBytes 5 = .ok (.iconst 0, 1) := by decide +kernel
theorem dX1_openedBytes_6 : decode cX1_openedBytes 6 = .ok (.istore 5, 2) := by decide +kernel
theorem dX1_openedBytes_8 : decode cX1_openedBytes 8 = .ok (.iload 5, 2) := by decide +kernel
theorem dX1_openedBytes_10 : decode cX1_openedBytes 10 = .ok (.iload_n 2, 1) := by decide +kernel
theorem dX1_openedBytes_11 : decode cX1_openedBytes 11 = .ok (.if_icmp .ge 43, 3) := by decide +kernel
theorem dX1_openedBytes_14 : decode cX1_openedBytes 14 = .ok (.iload 4, 2) := by decide +kernel
theorem dX1_openedBytes_16 : decode cX1_openedBytes 16 = .ok (.iload_n 2, 1) := by decide +kernel
theorem dX1_openedBytes_17 : decode cX1_openedBytes 17 = .ok (.if_icmp .ge 37, 3) := by decide +kernel
theorem dX1_openedBytes_20 : decode cX1_openedBytes 20 = .ok (.aload_n 0, 1) := by decide +kernel
theorem dX1_openedBytes_21 : decode cX1_openedBytes 21 = .ok (.iload_n 1, 1) := by decide +kernel
theorem dX1_openedBytes_22 : decode cX1_openedBytes 22 = .ok (.iload 4, 2) := by decide +kernel
theorem dX1_openedBytes_24 : decode cX1_openedBytes 24 = .ok (.iadd, 1) := by decide +kernel
theorem dX1_openedBytes_25 : decode cX1_openedBytes 25 = .ok (.invokevirtual 41, 3) := by decide +kernel
theorem dX1_openedBytes_28 : decode cX1_openedBytes 28 = .ok (.istore 6, 2) := by decide +kernel
theorem dX1_openedBytes_30 : decode cX1_openedBytes 30 = .ok (.iload_n 3, 1) := by decide +kernel
theorem dX1_openedBytes_31 : decode cX1_openedBytes 31 = .ok (.iload 6, 2) := by decide +kernel
theorem dX1_openedBytes_33 : decode cX1_openedBytes 33 = .ok (.invokestatic 97, 3) := by decide +kernel
theorem dX1_openedBytes_36 : decode cX1_openedBytes 36 = .ok (.iadd, 1) := by decide +kernel
theorem dX1_openedBytes_37 : decode cX1_openedBytes 37 = .ok (.istore_n 3, 1) := by decide +kernel
theorem dX1_openedBytes_38 : decode cX1_openedBytes 38 = .ok (.iload 4, 2) := by decide +kernel
theorem dX1_openedBytes_40 : decode cX1_openedBytes 40 = .ok (.iload 6, 2) := by decide +kernel
theorem dX1_openedBytes_42 : decode cX1_openedBytes 42 = .ok (.invokestatic 100, 3) := by decide +kernel
theorem dX1_openedBytes_45 : decode cX1_openedBytes 45 = .ok (.iadd, 1) := by decide +kernel
theorem dX1_openedBytes_46 : decode cX1_openedBytes 46 = .ok (.istore 4, 2) := by decide +kernel
theorem dX1_openedBytes_48 : decode cX1_openedBytes 48 = .ok (.iinc 5 1, 3) := by decide +kernel
theorem dX1_openedBytes_51 : decode cX1_openedBytes 51 = .ok (.goto (-43), 3) := by decide +kernel
theorem dX1_openedBytes_54 : decode cX1_openedBytes 54 = .ok (.iload 4, 2) := by decide +kernel
theorem dX1_openedBytes_56 : decode cX1_openedBytes 56 = .ok (.iload_n 2, 1) := by decide +kernel
theorem dX1_openedBytes_57 : decode cX1_openedBytes 57 = .ok (.if_icmp .ne 7, 3) := by decide +kernel
theorem dX1_openedBytes_60 : decode cX1_openedBytes 60 = .ok (.iload_n 3, 1) := by decide +kernel
theorem dX1_openedBytes_61 : decode cX1_openedBytes 61 = .ok (.goto 4, 3) := by decide +kernel
theorem dX1_openedBytes_64 : decode cX1_openedBytes 64 = .ok (.iconst (-1), 1) := by decide +kernel
theorem dX1_openedBytes_65 : decode cX1_openedBytes 65 = .ok (.ireturn, 1) := by decide +kernel
theorem dX1_openedByte_0 : decode cX1_openedByte 0 = .ok (.iconst 0, 1) := by decide +kernel
theorem dX1_openedByte_1 : decode cX1_openedByte 1 = .ok (.istore 4, 2) := by decide +kernel
theorem dX1_openedByte_3 : decode cX1_openedByte 3 = .ok (.iconst 0, 1) := by decide +kernel
theorem dX1_openedByte_4 : decode cX1_openedByte 4 = .ok (.istore 5, 2) := by decide +kernel
theorem dX1_openedByte_6 : decode cX1_openedByte 6 = .ok (.iconst 0, 1) := by decide +kernel
theorem dX1_openedByte_7 : decode cX1_openedByte 7 = .ok (.istore 6, 2) := by decide +kernel
theorem dX1_openedByte_9 : decode cX1_openedByte 9 = .ok (.iload 6, 2) := by decide +kernel
theorem dX1_openedByte_11 : decode cX1_openedByte 11 = .ok (.iload_n 2, 1) := by decide +kernel
theorem dX1_openedByte_12 : decode cX1_openedByte 12 = .ok (.if_icmp .ge 85, 3) := by decide +kernel
theorem dX1_openedByte_15 : decode cX1_openedByte 15 = .ok (.iload 5, 2) := by decide +kernel
theorem dX1_openedByte_17 : decode cX1_openedByte 17 = .ok (.iload_n 2, 1) := by decide +kernel
theorem dX1_openedByte_18 : decode cX1_openedByte 18 = .ok (.if_icmp .ge 79, 3) := by decide +kernel
theorem dX1_openedByte_21 : decode cX1_openedByte 21 = .ok (.aload_n 0, 1) := by decide +kernel
theorem dX1_openedByte_22 : decode cX1_openedByte 22 = .ok (.iload_n 1, 1) := by decide +kernel
theorem dX1_openedByte_23 : decode cX1_openedByte 23 = .ok (.iload 5, 2) := by decide +kernel
theorem dX1_openedByte_25 : decode cX1_openedByte 25 = .ok (.iadd, 1) := by decide +kernel
theorem dX1_openedByte_26 : decode cX1_openedByte 26 = .ok (.invokevirtual 41, 3) := by decide +kernel
theorem dX1_openedByte_29 : decode cX1_openedByte 29 = .ok (.istore 7, 2) := by decide +kernel
theorem dX1_openedByte_31 : decode cX1_openedByte 31 = .ok (.iload_n 3, 1) := by decide +kernel
theorem dX1_openedByte_32 : decode cX1_openedByte 32 = .ok (.iload 4, 2) := by decide +kernel
theorem dX1_openedByte_34 : decode cX1_openedByte 34 = .ok (.iload 7, 2) := by decide +kernel
theorem dX1_openedByte_36 : decode cX1_openedByte 36 = .ok (.invokestatic 97, 3) := by decide +kernel
theorem dX1_openedByte_39 : decode cX1_openedByte 39 = .ok (.iadd, 1) := by decide +kernel
theorem dX1_openedByte_40 : decode cX1_openedByte 40 = .ok (.if_icmp .ge 31, 3) := by decide +kernel
theorem dX1_openedByte_43 : decode cX1_openedByte 43 = .ok (.aload_n 0, 1) := by decide +kernel
theorem dX1_openedByte_44 : decode cX1_openedByte 44 = .ok (.iload_n 1, 1) := by decide +kernel
theorem dX1_openedByte_45 : decode cX1_openedByte 45 = .ok (.iload 5, 2) := by decide +kernel
theorem dX1_openedByte_47 : decode cX1_openedByte 47 = .ok (.iadd, 1) := by decide +kernel
theorem dX1_openedByte_48 : decode cX1_openedByte 48 = .ok (.iconst 1, 1) := by decide +kernel
theorem dX1_openedByte_49 : decode cX1_openedByte 49 = .ok (.iadd, 1) := by decide +kernel
theorem dX1_openedByte_50 : decode cX1_openedByte 50 = .ok (.iload 7, 2) := by decide +kernel
theorem dX1_openedByte_52 : decode cX1_openedByte 52 = .ok (.sipush 128, 3) := by decide +kernel
theorem dX1_openedByte_55 : decode cX1_openedByte 55 = .ok (.if_icmp .ge 10, 3) := by decide +kernel
theorem dX1_openedByte_58 : decode cX1_openedByte 58 = .ok (.iload_n 3, 1) := by decide +kernel
theorem dX1_openedByte_59 : decode cX1_openedByte 59 = .ok (.iload 4, 2) := by decide +kernel
theorem dX1_openedByte_61 : decode cX1_openedByte 61 = .ok (.isub, 1) := by decide +kernel
theorem dX1_openedByte_62 : decode cX1_openedByte 62 = .ok (.goto 4, 3) := by decide +kernel
theorem dX1_openedByte_65 : decode cX1_openedByte 65 = .ok (.iconst 0, 1) := by decide +kernel
theorem dX1_openedByte_66 : decode cX1_openedByte 66 = .ok (.iadd, 1) := by decide +kernel
theorem dX1_openedByte_67 : decode cX1_openedByte 67 = .ok (.invokevirtual 41, 3) := by decide +kernel
theorem dX1_openedByte_70 : decode cX1_openedByte 70 = .ok (.ireturn, 1) := by decide +kernel
theorem dX1_openedByte_71 : decode cX1_openedByte 71 = .ok (.iload 4, 2) := by decide +kernel
theorem dX1_openedByte_73 : decode cX1_openedByte 73 = .ok (.iload 7, 2) := by decide +kernel
theorem dX1_openedByte_75 : decode cX1_openedByte 75 = .ok (.invokestatic 97, 3) := by decide +kernel
theorem dX1_openedByte_78 : decode cX1_openedByte 78 = .ok (.iadd, 1) := by decide +kernel
theorem dX1_openedByte_79 : decode cX1_openedByte 79 = .ok (.istore 4, 2) := by decide +kernel
theorem dX1_openedByte_81 : decode cX1_openedByte 81 = .ok (.iload 5, 2) := by decide +kernel
theorem dX1_openedByte_83 : decode cX1_openedByte 83 = .ok (.iload 7, 2) := by decide +kernel
theorem dX1_openedByte_85 : decode cX1_openedByte 85 = .ok (.invokestatic 100, 3) := by decide +kernel
theorem dX1_openedByte_88 : decode cX1_openedByte 88 = .ok (.iadd, 1) := by decide +kernel
theorem dX1_openedByte_89 : decode cX1_openedByte 89 = .ok (.istore 5, 2) := by decide +kernel
theorem dX1_openedByte_91 : decode cX1_openedByte 91 = .ok (.iinc 6 1, 3) := by decide +kernel
theorem dX1_openedByte_94 : decode cX1_openedByte 94 = .ok (.goto (-85), 3) := by decide +kernel
theorem dX1_openedByte_97 : decode cX1_openedByte 97 = .ok (.iconst 0, 1) := by decide +kernel
theorem dX1_openedByte_98 : decode cX1_openedByte 98 = .ok (.ireturn, 1) := by decide +kernel
theorem dX1_opensTo_0 : decode cX1_opensTo 0 = .ok (.iload_n 0, 1) := by decide +kernel
theorem dX1_opensTo_1 : decode cX1_opensTo 1 = .ok (.sipush 128, 3) := by decide +kernel
theorem dX1_opensTo_4 : decode cX1_opensTo 4 = .ok (.if_icmp .ge 9, 3) := by decide +kernel
theorem dX1_opensTo_7 : decode cX1_opensTo 7 = .ok (.iload_n 0, 1) := by decide +kernel
theorem dX1_opensTo_8 : decode cX1_opensTo 8 = .ok (.iconst 1, 1) := by decide +kernel
theorem dX1_opensTo_9 : decode cX1_opensTo 9 = .ok (.iadd, 1) := by decide +kernel
theorem dX1_opensTo_10 : decode cX1_opensTo 10 = .ok (.goto 19, 3) := by decide +kernel
theorem dX1_opensTo_13 : decode cX1_opensTo 13 = .ok (.iload_n 0, 1) := by decide +kernel
theorem dX1_opensTo_14 : decode cX1_opensTo 14 = .ok (.sipush 128, 3) := by decide +kernel
theorem dX1_opensTo_17 : decode cX1_opensTo 17 = .ok (.if_icmp .ne 7, 3) := by decide +kernel
theorem dX1_opensTo_20 : decode cX1_opensTo 20 = .ok (.iconst 0, 1) := by decide +kernel
theorem dX1_opensTo_21 : decode cX1_opensTo 21 = .ok (.goto 8, 3) := by decide +kernel
theorem dX1_opensTo_24 : decode cX1_opensTo 24 = .ok (.sipush 257, 3) := by decide +kernel
theorem dX1_opensTo_27 : decode cX1_opensTo 27 = .ok (.iload_n 0, 1) := by decide +kernel
theorem dX1_opensTo_28 : decode cX1_opensTo 28 = .ok (.isub, 1) := by decide +kernel
theorem dX1_opensTo_29 : decode cX1_opensTo 29 = .ok (.ireturn, 1) := by decide +kernel
theorem dX1_packetBytes_0 : decode cX1_packetBytes 0 = .ok (.iload_n 0, 1) := by decide +kernel
theorem dX1_packetBytes_1 : decode cX1_packetBytes 1 = .ok (.sipush 128, 3) := by decide +kernel
theorem dX1_packetBytes_4 : decode cX1_packetBytes 4 = .ok (.if_icmp .ge 9, 3) := by decide +kernel
theorem dX1_packetBytes_7 : decode cX1_packetBytes 7 = .ok (.iload_n 0, 1) := by decide +kernel
theorem dX1_packetBytes_8 : decode cX1_packetBytes 8 = .ok (.iconst 2, 1) := by decide +kernel
theorem dX1_packetBytes_9 : decode cX1_packetBytes 9 = .ok (.iadd, 1) := by decide +kernel
theorem dX1_packetBytes_10 : decode cX1_packetBytes 10 = .ok (.goto 15, 3) := by decide +kernel
theorem dX1_packetBytes_13 : decode cX1_packetBytes 13 = .ok (.iload_n 0, 1) := by decide +kernel
theorem dX1_packetBytes_14 : decode cX1_packetBytes 14 = .ok (.sipush 128, 3) := by decide +kernel
theorem dX1_packetBytes_17 : decode cX1_packetBytes 17 = .ok (.if_icmp .ne 7, 3) := by decide +kernel
theorem dX1_packetBytes_20 : decode cX1_packetBytes 20 = .ok (.iconst 1, 1) := by decide +kernel
theorem dX1_packetBytes_21 : decode cX1_packetBytes 21 = .ok (.goto 4, 3) := by decide +kernel
theorem dX1_packetBytes_24 : decode cX1_packetBytes 24 = .ok (.iconst 2, 1) := by decide +kernel
theorem dX1_packetBytes_25 : decode cX1_packetBytes 25 = .ok (.ireturn, 1) := by decide +kernel
