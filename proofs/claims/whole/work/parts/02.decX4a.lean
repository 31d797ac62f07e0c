theorem dX4_init_0 : decode cX4_init 0 = .ok (.aload_n 0, 1) := by decide +kernel
theorem dX4_init_1 : decode cX4_init 1 = .ok (.invokespecial 3, 3) := by decide +kernel
theorem dX4_init_4 : decode cX4_init 4 = .ok (.aload_n 0, 1) := by decide +kernel
theorem dX4_init_5 : decode cX4_init 5 = .ok (.bipush 33, 2) := by decide +kernel
theorem dX4_init_7 : decode cX4_init 7 = .ok (.newarray .int, 2) := by decide +kernel
theorem dX4_init_9 : decode cX4_init 9 = .ok (.putfield 9, 3) := by decide +kernel
theorem dX4_init_12 : decode cX4_init 12 = .ok (.return_, 1) := by decide +kernel
theorem dX4_store_0 : decode cX4_store 0 = .ok (.aload_n 1, 1) := by decide +kernel
theorem dX4_store_1 : decode cX4_store 1 = .ok (.iload_n 2, 1) := by decide +kernel
theorem dX4_store_2 : decode cX4_store 2 = .ok (.iload_n 3, 1) := by decide +kernel
theorem dX4_store_3 : decode cX4_store 3 = .ok (.invokestatic 15, 3) := by decide +kernel
theorem dX4_store_6 : decode cX4_store 6 = .ok (.ifCond .eq 5, 3) := by decide +kernel
theorem dX4_store_9 : decode cX4_store 9 = .ok (.iconst 0, 1) := by decide +kernel
theorem dX4_store_10 : decode cX4_store 10 = .ok (.ireturn, 1) := by decide +kernel
theorem dX4_store_11 : decode cX4_store 11 = .ok (.aload_n 0, 1) := by decide +kernel
theorem dX4_store_12 : decode cX4_store 12 = .ok (.aload_n 1, 1) := by decide +kernel
theorem dX4_store_13 : decode cX4_store 13 = .ok (.iload_n 2, 1) := by decide +kernel
theorem dX4_store_14 : decode cX4_store 14 = .ok (.iload_n 2, 1) := by decide +kernel
theorem dX4_store_15 : decode cX4_store 15 = .ok (.iload_n 3, 1) := by decide +kernel
theorem dX4_store_16 : decode cX4_store 16 = .ok (.iadd, 1) := by decide +kernel
theorem dX4_store_17 : decode cX4_store 17 = .ok (.invokevirtual 19, 3) := by decide +kernel
theorem dX4_store_20 : decode cX4_store 20 = .ok (.aload_n 0, 1) := by decide +kernel
theorem dX4_store_21 : decode cX4_store 21 = .ok (.getfield 23, 3) := by decide +kernel
theorem dX4_store_24 : decode cX4_store 24 = .ok (.iload_n 3, 1) := by decide +kernel
theorem dX4_store_25 : decode cX4_store 25 = .ok (.if_icmp .lt 16, 3) := by decide +kernel
theorem dX4_store_28 : decode cX4_store 28 = .ok (.aload_n 1, 1) := by decide +kernel
theorem dX4_store_29 : decode cX4_store 29 = .ok (.iload_n 2, 1) := by decide +kernel
theorem dX4_store_30 : decode cX4_store 30 = .ok (.iload_n 3, 1) := by decide +kernel
theorem dX4_store_31 : decode cX4_store 31 = .ok (.aload 4, 2) := by decide +kernel
theorem dX4_store_33 : decode cX4_store 33 = .ok (.invokestatic 27, 3) := by decide +kernel
theorem dX4_store_36 : decode cX4_store 36 = .ok (.ldc 31, 2) := by decide +kernel
theorem dX4_store_38 : decode cX4_store 38 = .ok (.iload_n 3, 1) := by decide +kernel
theorem dX4_store_39 : decode cX4_store 39 = .ok (.iadd, 1) := by decide +kernel
theorem dX4_store_40 : decode cX4_store 40 = .ok (.ireturn, 1) := by decide +kernel
theorem dX4_store_41 : decode cX4_store 41 = .ok (.aload_n 0, 1) := by decide +kernel
theorem dX4_store_42 : decode cX4_store 42 = .ok (.getfield 9, 3) := by decide +kernel
theorem dX4_store_45 : decode cX4_store 45 = .ok (.iconst 0, 1) := by decide +kernel
theorem dX4_store_46 : decode cX4_store 46 = .ok (.aload_n 0, 1) := by decide +kernel
theorem dX4_store_47 : decode cX4_store 47 = .ok (.getfield 23, 3) := by decide +kernel
theorem dX4_store_50 : decode cX4_store 50 = .ok (.aload 4, 2) := by decide +kernel
theorem dX4_store_52 : decode cX4_store 52 = .ok (.invokestatic 27, 3) := by decide +kernel
theorem dX4_store_55 : decode cX4_store 55 = .ok (.aload_n 0, 1) := by decide +kernel
theorem dX4_store_56 : decode cX4_store 56 = .ok (.getfield 23, 3) := by decide +kernel
theorem dX4_store_59 : decode cX4_store 59 = .ok (.ireturn, 1) := by decide +kernel
theorem dX4_isZero_0 : decode cX4_isZero 0 = .ok (.iconst 0, 1) := by decide +kernel
theorem dX4_isZero_1 : decode cX4_isZero 1 = .ok (.istore_n 3, 1) := by decide +kernel
theorem dX4_isZero_2 : decode cX4_isZero 2 = .ok (.iload_n 3, 1) := by decide +kernel
theorem dX4_isZero_3 : decode cX4_isZero 3 = .ok (.iload_n 2, 1) := by decide +kernel
theorem dX4_isZero_4 : decode cX4_isZero 4 = .ok (.if_icmp .ge 19, 3) := by decide +kernel
theorem dX4_isZero_7 : decode cX4_isZero 7 = .ok (.aload_n 0, 1) := by decide +kernel
theorem dX4_isZero_8 : decode cX4_isZero 8 = .ok (.iload_n 1, 1) := by decide +kernel
theorem dX4_isZero_9 : decode cX4_isZero 9 = .ok (.iload_n 3, 1) := by decide +kernel
theorem dX4_isZero_10 : decode cX4_isZero 10 = .ok (.iadd, 1) := by decide +kernel
theorem dX4_isZero_11 : decode cX4_isZero 11 = .ok (.iaload, 1) := by decide +kernel
theorem dX4_isZero_12 : decode cX4_isZero 12 = .ok (.ifCond .eq 5, 3) := by decide +kernel
theorem dX4_isZero_15 : decode cX4_isZero 15 = .ok (.iconst 0, 1) := by decide +kernel
theorem dX4_isZero_16 : decode cX4_isZero 16 = .ok (.ireturn, 1) := by decide +kernel
theorem dX4_isZero_17 : decode cX4_isZero 17 = .ok (.iinc 3 1, 3) := by decide +kernel
theorem dX4_isZero_20 : decode cX4_isZero 20 = .ok (.goto (-18), 3) := by decide +kernel
theorem dX4_isZero_23 : decode cX4_isZero 23 = .ok (.iconst 1, 1) := by decide +kernel
theorem dX4_isZero_24 : decode cX4_isZero 24 = .ok (.ireturn, 1) := by decide +kernel
theorem dX4_copy_0 : decode cX4_copy 0 = .ok (.iconst 0, 1) := by decide +kernel
theorem dX4_copy_1 : decode cX4_copy 1 = .ok (.istore 4, 2) := by decide +kernel
theorem dX4_copy_3 : decode cX4_copy 3 = .ok (.iload 4, 2) := by decide +kernel
theorem dX4_copy_5 : decode cX4_copy 5 = .ok (.iload_n 2, 1) := by decide +kernel
theorem dX4_copy_6 : decode cX4_copy 6 = .ok (.if_icmp .ge 19, 3) := by decide +kernel
theorem dX4_copy_9 : decode cX4_copy 9 = .ok (.aload_n 3, 1) := by decide +kernel
theorem dX4_copy_10 : decode cX4_copy 10 = .ok (.aload_n 0, 1) := by decide +kernel
theorem dX4_copy_11 : decode cX4_copy 11 = .ok (.iload_n 1, 1) := by decide +kernel
theorem dX4_copy_12 : decode cX4_copy 12 = .ok (.iload 4, 2) := by decide +kernel
theorem dX4_copy_14 : decode cX4_copy 14 = .ok (.iadd, 1) := by decide +kernel
theorem dX4_copy_15 : decode cX4_copy 15 = .ok (.iaload, 1) := by decide +kernel
theorem dX4_copy_16 : decode cX4_copy 16 = .ok (.invokevirtual 32, 3) := by decide +kernel
theorem dX4_copy_19 : decode cX4_copy 19 = .ok (.iinc 4 1, 3) := by decide +kernel
theorem dX4_copy_22 : decode cX4_copy 22 = .ok (.goto (-19), 3) := by decide +kernel
theorem dX4_copy_25 : decode cX4_copy 25 = .ok (.return_, 1) := by decide +kernel
theorem dX4_pack_0 : decode cX4_pack 0 = .ok (.aload_n 0, 1) := by decide +kernel
theorem dX4_pack_1 : decode cX4_pack 1 = .ok (.iconst 0, 1) := by decide +kernel
theorem dX4_pack_2 : decode cX4_pack 2 = .ok (.putfield 23, 3) := by decide +kernel
theorem dX4_pack_5 : decode cX4_pack 5 = .ok (.iload_n 2, 1) := by decide +kernel
theorem dX4_pack_6 : decode cX4_pack 6 = .ok (.istore 4, 2) := by decide +kernel
theorem dX4_pack_8 : decode cX4_pack 8 = .ok (.iload_n 2, 1) := by decide +kernel
theorem dX4_pack_9 : decode cX4_pack 9 = .ok (.istore 5, 2) := by decide +kernel
theorem dX4_pack_11 : decode cX4_pack 11 = .ok (.iload 5, 2) := by decide +kernel
theorem dX4_pack_13 : decode cX4_pack 13 = .ok (.iload_n 3, 1) := by decide +kernel
theorem dX4_pack_14 : decode cX4_pack 14 = .ok (.if_icmp .ge 107, 3) := by decide +kernel
theorem dX4_pack_17 : decode cX4_pack 17 = .ok (.iload 4, 2) := by decide +kernel
theorem dX4_pack_19 : decode cX4_pack 19 = .ok (.iload_n 3, 1) := by decide +kernel
theorem dX4_pack_20 : decode cX4_pack 20 = .ok (.if_icmp .ge 101, 3) := by decide +kernel
theorem dX4_pack_23 : decode cX4_pack 23 = .ok (.aload_n 1, 1) := by decide +kernel
theorem dX4_pack_24 : decode cX4_pack 24 = .ok (.iload 4, 2) := by decide +kernel
theorem dX4_pack_26 : decode cX4_pack 26 = .ok (.iload_n 3, 1) := by decide +kernel
theorem dX4_pack_27 : decode cX4_pack 27 = .ok (.invokestatic 38, 3) := by decide +kernel
theorem dX4_pack_30 : decode cX4_pack 30 = .ok (.istore 6, 2) := by decide +kernel
theorem dX4_pack_32 : decode cX4_pack 32 = .ok (.iload 6, 2) := by decide +kernel
theorem dX4_pack_34 : decode cX4_pack 34 = .ok (.iconst 3, 1) := by decide +kernel
theorem dX4_pack_35 : decode cX4_pack 35 = .ok (.if_icmp .lt 31, 3) := by decide +kernel
theorem dX4_pack_38 : decode cX4_pack 38 = .ok (.aload_n 0, 1) := by decide +kernel
theorem dX4_pack_39 : decode cX4_pack 39 = .ok (.sipush 257, 3) := by decide +kernel
theorem dX4_pack_42 : decode cX4_pack 42 = .ok (.iload 6, 2) := by decide +kernel
theorem dX4_pack_44 : decode cX4_pack 44 = .ok (.isub, 1) := by decide +kernel
theorem dX4_pack_45 : decode cX4_pack 45 = .ok (.invokevirtual 42, 3) := by decide +kernel
theorem dX4_pack_48 : decode cX4_pack 48 = .ok (.aload_n 0, 1) := by decide +kernel
theorem dX4_pack_49 : decode cX4_pack 49 = .ok (.aload_n 1, 1) := by decide +kernel
theorem dX4_pack_50 : decode cX4_pack 50 = .ok (.iload 4, 2) := by decide +kernel
theorem dX4_pack_52 : decode cX4_pack 52 = .ok (.iaload, 1) := by decide +kernel
theorem dX4_pack_53 : decode cX4_pack 53 = .ok (.invokevirtual 42, 3) := by decide +kernel
theorem dX4_pack_56 : decode cX4_pack 56 = .ok (.iload 4, 2) := by decide +kernel
theorem dX4_pack_58 : decode cX4_pack 58 = .ok (.iload 6, 2) := by decide +kernel
theorem dX4_pack_60 : decode cX4_pack 60 = .ok (.iadd, 1) := by decide +kernel
theorem dX4_pack_61 : decode cX4_pack 61 = .ok (.istore 4, 2) := by decide +kernel
theorem dX4_pack_63 : decode cX4_pack 63 = .ok (.goto 52, 3) := by decide +kernel
theorem dX4_pack_66 : decode cX4_pack 66 = .ok (.aload_n 1, 1) := by decide +kernel
theorem dX4_pack_67 : decode cX4_pack 67 = .ok (.iload 4, 2) := by decide +kernel
theorem dX4_pack_69 : decode cX4_pack 69 = .ok (.iload_n 3, 1) := by decide +kernel
theorem dX4_pack_70 : decode cX4_pack 70 = .ok (.invokestatic 45, 3) := by decide +kernel
theorem dX4_pack_73 : decode cX4_pack 73 = .ok (.istore 7, 2) := by decide +kernel
theorem dX4_pack_75 : decode cX4_pack 75 = .ok (.aload_n 0, 1) := by decide +kernel
theorem dX4_pack_76 : decode cX4_pack 76 = .ok (.iload 7, 2) := by decide +kernel
theorem dX4_pack_78 : decode cX4_pack 78 = .ok (.iload 4, 2) := by decide +kernel
theorem dX4_pack_80 : decode cX4_pack 80 = .ok (.isub, 1) := by decide +kernel
theorem dX4_pack_81 : decode cX4_pack 81 = .ok (.iconst 1, 1) := by decide +kernel
theorem dX4_pack_82 : decode cX4_pack 82 = .ok (.isub, 1) := by decide +kernel
theorem dX4_pack_83 : decode cX4_pack 83 = .ok (.invokevirtual 42, 3) := by decide +kernel
theorem dX4_pack_86 : decode cX4_pack 86 = .ok (.iload 4, 2) := by decide +kernel
theorem dX4_pack_88 : decode cX4_pack 88 = .ok (.istore 8, 2) := by decide +kernel
theorem dX4_pack_90 : decode cX4_pack 90 = .ok (.iload 8, 2) := by decide +kernel
theorem dX4_pack_92 : decode cX4_pack 92 = .ok (.iload 7, 2) := by decide +kernel
theorem dX4_pack_94 : decode cX4_pack 94 = .ok (.if_icmp .ge 17, 3) := by decide +kernel
theorem dX4_pack_97 : decode cX4_pack 97 = .ok (.aload_n 0, 1) := by decide +kernel
theorem dX4_pack_98 : decode cX4_pack 98 = .ok (.aload_n 1, 1) := by decide +kernel
theorem dX4_pack_99 : decode cX4_pack 99 = .ok (.iload 8, 2) := by decide +kernel
theorem dX4_pack_101 : decode cX4_pack 101 = .ok (.iaload, 1) := by decide +kernel
theorem dX4_pack_102 : decode cX4_pack 102 = .ok (.invokevirtual 42, 3) := by decide +kernel
theorem dX4_pack_105 : decode cX4_pack 105 = .ok (.iinc 8 1, 3) := by decide +kernel
theorem dX4_pack_108 : decode cX4_pack 108 = .ok (.goto (-18), 3) := by decide +kernel
theorem dX4_pack_111 : decode cX4_pack 111 = .ok (.iload 7, 2) := by decide +kernel
theorem dX4_pack_113 : decode cX4_pack 113 = .ok (.istore 4, 2) := by decide +kernel
theorem dX4_pack_115 : decode cX4_pack 115 = .ok (.iinc 5 1, 3) := by decide +kernel
theorem dX4_pack_118 : decode cX4_pack 118 = .ok (.goto (-107), 3) := by decide +kernel
theorem dX4_pack_121 : decode cX4_pack 121 = .ok (.return_, 1) := by decide +kernel
theorem dX4_addPacked_0 : decode cX4_addPacked 0 = .ok (.aload_n 0, 1) := by decide +kernel
theorem dX4_addPacked_1 : decode cX4_addPacked 1 = .ok (.getfield 23, 3) := by decide +kernel
theorem dX4_addPacked_4 : decode cX4_addPacked 4 = .ok (.aload_n 0, 1) := by decide +kernel
theorem dX4_addPacked_5 : decode cX4_addPacked 5 = .ok (.getfield 9, 3) := by decide +kernel
theorem dX4_addPacked_8 : decode cX4_addPacked 8 = .ok (.arraylength, 1) := by decide +kernel
theorem dX4_addPacked_9 : decode cX4_addPacked 9 = .ok (.if_icmp .ge 23, 3) := by decide +kernel
theorem dX4_addPacked_12 : decode cX4_addPacked 12 = .ok (.aload_n 0, 1) := by decide +kernel
theorem dX4_addPacked_13 : decode cX4_addPacked 13 = .ok (.getfield 9, 3) := by decide +kernel
theorem dX4_addPacked_16 : decode cX4_addPacked 16 = .ok (.aload_n 0, 1) := by decide +kernel
theorem dX4_addPacked_17 : decode cX4_addPacked 17 = .ok (.getfield 23, 3) := by decide +kernel
theorem dX4_addPacked_20 : decode cX4_addPacked 20 = .ok (.iload_n 1, 1) := by decide +kernel
theorem dX4_addPacked_21 : decode cX4_addPacked 21 = .ok (.iastore, 1) := by decide +kernel
theorem dX4_addPacked_22 : decode cX4_addPacked 22 = .ok (.aload_n 0, 1) := by decide +kernel
theorem dX4_addPacked_23 : decode cX4_addPacked 23 = .ok (.dup, 1) := by decide +kernel
theorem dX4_addPacked_24 : decode cX4_addPacked 24 = .ok (.getfield 23, 3) := by decide +kernel
theorem dX4_addPacked_27 : decode cX4_addPacked 27 = .ok (.iconst 1, 1) := by decide +kernel
theorem dX4_addPacked_28 : decode cX4_addPacked 28 = .ok (.iadd, 1) := by decide +kernel
theorem dX4_addPacked_29 : decode cX4_addPacked 29 = .ok (.putfield 23, 3) := by decide +kernel
theorem dX4_addPacked_32 : decode cX4_addPacked 32 = .ok (.return_, 1) := by decide +kernel
theorem dX4_runAt_0 : decode cX4_runAt 0 = .ok (.iconst 1, 1) := by decide +kernel
theorem dX4_runAt_1 : decode cX4_runAt 1 = .ok (.istore_n 3, 1) := by decide +kernel
theorem dX4_runAt_2 : decode cX4_runAt 2 = .ok (.iload_n 1, 1) := by decide +kernel
theorem dX4_runAt_3 : decode cX4_runAt 3 = .ok (.iload_n 3, 1) := by decide +kernel
theorem dX4_runAt_4 : decode cX4_runAt 4 = .ok (.iadd, 1) := by decide +kernel
theorem dX4_runAt_5 : decode cX4_runAt 5 = .ok (.iload_n 2, 1) := by decide +kernel
theorem dX4_runAt_6 : decode cX4_runAt 6 = .ok (.if_icmp .ge 20, 3) := by decide +kernel
theorem dX4_runAt_9 : decode cX4_runAt 9 = .ok (.aload_n 0, 1) := by decide +kernel
theorem dX4_runAt_10 : decode cX4_runAt 10 = .ok (.iload_n 1, 1) := by decide +kernel
theorem dX4_runAt_11 : decode cX4_runAt 11 = .ok (.iload_n 3, 1) := by decide +kernel
theorem dX4_runAt_12 : decode cX4_runAt 12 = .ok (.iadd, 1) := by decide +kernel
theorem dX4_runAt_13 : decode cX4_runAt 13 = .ok (.iaload, 1) := by decide +kernel
theorem dX4_runAt_14 : decode cX4_runAt 14 = .ok (.aload_n 0, 1) := by decide +kernel
theorem dX4_runAt_15 : decode cX4_runAt 15 = .ok (.iload_n 1, 1) := by decide +kernel
theorem dX4_runAt_16 : decode cX4_runAt 16 = .ok (.iaload, 1) := by decide +kernel
theorem dX4_runAt_17 : decode cX4_runAt 17 = .ok (.if_icmp .ne 9, 3) := by decide +kernel
theorem dX4_runAt_20 : decode cX4_runAt 20 = .ok (.iinc 3 1, 3) := by decide +kernel
theorem dX4_runAt_23 : decode cX4_runAt 23 = .ok (.goto (-21), 3) := by decide +kernel
theorem dX4_runAt_26 : decode cX4_runAt 26 = .ok (.iload_n 3, 1) := by decide +kernel
theorem dX4_runAt_27 : decode cX4_runAt 27 = .ok (.ireturn, 1) := by decide +kernel
theorem dX4_nextRun_0 : decode cX4_nextRun 0 = .ok (.iload_n 1, 1) := by decide +kernel
theorem dX4_nextRun_1 : decode cX4_nextRun 1 = .ok (.iconst 1, 1) := by decide +kernel
theorem dX4_nextRun_2 : decode cX4_nextRun 2 = .ok (.iadd, 1) := by decide +kernel
theorem dX4_nextRun_3 : decode cX4_nextRun 3 = .ok (.istore_n 3, 1) := by decide +kernel
theorem dX4_nextRun_4 : decode cX4_nextRun 4 = .ok (.iload_n 3, 1) := by decide +kernel
theorem dX4_nextRun_5 : decode cX4_nextRun 5 = .ok (.iconst 3, 1) := by decide +kernel
theorem dX4_nextRun_6 : decode cX4_nextRun 6 = .ok (.iadd, 1) := by decide +kernel
theorem dX4_nextRun_7 : decode cX4_nextRun 7 = .ok (.iload_n 2, 1) := by decide +kernel
theorem dX4_nextRun_8 : decode cX4_nextRun 8 = .ok (.if_icmp .gt 33, 3) := by decide +kernel
theorem dX4_nextRun_11 : decode cX4_nextRun 11 = .ok (.aload_n 0, 1) := by decide +kernel
theorem dX4_nextRun_12 : decode cX4_nextRun 12 = .ok (.iload_n 3, 1) := by decide +kernel
theorem dX4_nextRun_13 : decode cX4_nextRun 13 = .ok (.iaload, 1) := by decide +kernel
theorem dX4_nextRun_14 : decode cX4_nextRun 14 = .ok (.aload_n 0, 1) := by decide +kernel
theorem dX4_nextRun_15 : decode cX4_nextRun 15 = .ok (.iload_n 3, 1) := by decide +kernel
theorem dX4_nextRun_16 : decode cX4_nextRun 16 = .ok (.iconst 1, 1) := by decide +kernel
theorem dX4_nextRun_17 : decode cX4_nextRun 17 = .ok (.iadd, 1) := by decide +kernel
theorem dX4_nextRun_18 : decode cX4_nextRun 18 = .ok (.iaload, 1) := by decide +kernel
theorem dX4_nextRun_19 : decode cX4_nextRun 19 = .ok (.if_icmp .ne 16, 3) := by decide +kernel
theorem dX4_nextRun_22 : decode cX4_nextRun 22 = .ok (.aload_n 0, 1) := by decide +kernel
theorem dX4_nextRun_23 : decode cX4_nextRun 23 = .ok (.iload_n 3, 1) := by decide +kernel
theorem dX4_nextRun_24 : decode cX4_nextRun 24 = .ok (.iaload, 1) := by decide +kernel
theorem dX4_nextRun_25 : decode cX4_nextRun 25 = .ok (.aload_n 0, 1) := by decide +kernel
theorem dX4_nextRun_26 : decode cX4_nextRun 26 = .ok (.iload_n 3, 1) := by decide +kernel
theorem dX4_nextRun_27 : decode cX4_nextRun 27 = .ok (.iconst 2, 1) := by decide +kernel
theorem dX4_nextRun_28 : decode cX4_nextRun 28 = .ok (.iadd, 1) := by decide +kernel
theorem dX4_nextRun_29 : decode cX4_nextRun 29 = .ok (.iaload, 1) := by decide +kernel
theorem dX4_nextRun_30 : decode cX4_nextRun 30 = .ok (.if_icmp .ne 5, 3) := by decide +kernel
theorem dX4_nextRun_33 : decode cX4_nextRun 33 = .ok (.iload_n 3, 1) := by decide +kernel
theorem dX4_nextRun_34 : decode cX4_nextRun 34 = .ok (.ireturn, 1) := by decide +kernel
theorem dX4_nextRun_35 : decode cX4_nextRun 35 = .ok (.iinc 3 1, 3) := by decide +kernel
theorem dX4_nextRun_38 : decode cX4_nextRun 38 = .ok (.goto (-34), 3) := by decide +kernel
theorem dX4_nextRun_41 : decode cX4_nextRun 41 = .ok (.iload_n 2, 1) := by decide +kernel
theorem dX4_nextRun_42 : decode cX4_nextRun 42 = .ok (.ireturn, 1) := by decide +kernel
