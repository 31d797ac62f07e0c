theorem dX5_init_0 : decode cX5_init 0 = .ok (.aload_n 0, 1) := by decide +kernel
theorem dX5_init_1 : decode cX5_init 1 = .ok (.invokespecial 3, 3) := by decide +kernel
theorem dX5_init_4 : decode cX5_init 4 = .ok (.aload_n 0, 1) := by decide +kernel
theorem dX5_init_5 : decode cX5_init 5 = .ok (.bipush 32, 2) := by decide +kernel
theorem dX5_init_7 : decode cX5_init 7 = .ok (.newarray .int, 2) := by decide +kernel
theorem dX5_init_9 : decode cX5_init 9 = .ok (.putfield 9, 3) := by decide +kernel
theorem dX5_init_12 : decode cX5_init 12 = .ok (.aload_n 0, 1) := by decide +kernel
theorem dX5_init_13 : decode cX5_init 13 = .ok (.bipush 32, 2) := by decide +kernel
theorem dX5_init_15 : decode cX5_init 15 = .ok (.newarray .int, 2) := by decide +kernel
theorem dX5_init_17 : decode cX5_init 17 = .ok (.putfield 15, 3) := by decide +kernel
theorem dX5_init_20 : decode cX5_init 20 = .ok (.aload_n 0, 1) := by decide +kernel
theorem dX5_init_21 : decode cX5_init 21 = .ok (.bipush 32, 2) := by decide +kernel
theorem dX5_init_23 : decode cX5_init 23 = .ok (.newarray .int, 2) := by decide +kernel
theorem dX5_init_25 : decode cX5_init 25 = .ok (.putfield 18, 3) := by decide +kernel
theorem dX5_init_28 : decode cX5_init 28 = .ok (.aload_n 0, 1) := by decide +kernel
theorem dX5_init_29 : decode cX5_init 29 = .ok (.bipush 32, 2) := by decide +kernel
theorem dX5_init_31 : decode cX5_init 31 = .ok (.newarray .int, 2) := by decide +kernel
theorem dX5_init_33 : decode cX5_init 33 = .ok (.putfield 21, 3) := by decide +kernel
theorem dX5_init_36 : decode cX5_init 36 = .ok (.aload_n 0, 1) := by decide +kernel
theorem dX5_init_37 : decode cX5_init 37 = .ok (.bipush 32, 2) := by decide +kernel
theorem dX5_init_39 : decode cX5_init 39 = .ok (.newarray .int, 2) := by decide +kernel
theorem dX5_init_41 : decode cX5_init 41 = .ok (.putfield 24, 3) := by decide +kernel
theorem dX5_init_44 : decode cX5_init 44 = .ok (.aload_n 0, 1) := by decide +kernel
theorem dX5_init_45 : decode cX5_init 45 = .ok (.bipush 32, 2) := by decide +kernel
theorem dX5_init_47 : decode cX5_init 47 = .ok (.newarray .int, 2) := by decide +kernel
theorem dX5_init_49 : decode cX5_init 49 = .ok (.putfield 27, 3) := by decide +kernel
theorem dX5_init_52 : decode cX5_init 52 = .ok (.aload_n 0, 1) := by decide +kernel
theorem dX5_init_53 : decode cX5_init 53 = .ok (.sipush 3200, 3) := by decide +kernel
theorem dX5_init_56 : decode cX5_init 56 = .ok (.newarray .int, 2) := by decide +kernel
theorem dX5_init_58 : decode cX5_init 58 = .ok (.putfield 30, 3) := by decide +kernel
theorem dX5_init_61 : decode cX5_init 61 = .ok (.aload_n 0, 1) := by decide +kernel
theorem dX5_init_62 : decode cX5_init 62 = .ok (.sipush 279, 3) := by decide +kernel
theorem dX5_init_65 : decode cX5_init 65 = .ok (.newarray .int, 2) := by decide +kernel
theorem dX5_init_67 : decode cX5_init 67 = .ok (.putfield 33, 3) := by decide +kernel
theorem dX5_init_70 : decode cX5_init 70 = .ok (.aload_n 0, 1) := by decide +kernel
theorem dX5_init_71 : decode cX5_init 71 = .ok (.sipush 279, 3) := by decide +kernel
theorem dX5_init_74 : decode cX5_init 74 = .ok (.newarray .int, 2) := by decide +kernel
theorem dX5_init_76 : decode cX5_init 76 = .ok (.putfield 36, 3) := by decide +kernel
theorem dX5_init_79 : decode cX5_init 79 = .ok (.aload_n 0, 1) := by decide +kernel
theorem dX5_init_80 : decode cX5_init 80 = .ok (.invokevirtual 39, 3) := by decide +kernel
theorem dX5_init_83 : decode cX5_init 83 = .ok (.return_, 1) := by decide +kernel
theorem dX5_reset_0 : decode cX5_reset 0 = .ok (.aload_n 0, 1) := by decide +kernel
theorem dX5_reset_1 : decode cX5_reset 1 = .ok (.iconst 0, 1) := by decide +kernel
theorem dX5_reset_2 : decode cX5_reset 2 = .ok (.putfield 42, 3) := by decide +kernel
theorem dX5_reset_5 : decode cX5_reset 5 = .ok (.aload_n 0, 1) := by decide +kernel
theorem dX5_reset_6 : decode cX5_reset 6 = .ok (.iconst 0, 1) := by decide +kernel
theorem dX5_reset_7 : decode cX5_reset 7 = .ok (.putfield 46, 3) := by decide +kernel
theorem dX5_reset_10 : decode cX5_reset 10 = .ok (.aload_n 0, 1) := by decide +kernel
theorem dX5_reset_11 : decode cX5_reset 11 = .ok (.iconst 0, 1) := by decide +kernel
theorem dX5_reset_12 : decode cX5_reset 12 = .ok (.iconst 1, 1) := by decide +kernel
theorem dX5_reset_13 : decode cX5_reset 13 = .ok (.invokevirtual 49, 3) := by decide +kernel
theorem dX5_reset_16 : decode cX5_reset 16 = .ok (.return_, 1) := by decide +kernel
theorem dX5_hasNode_0 : decode cX5_hasNode 0 = .ok (.iload_n 1, 1) := by decide +kernel
theorem dX5_hasNode_1 : decode cX5_hasNode 1 = .ok (.ifCond .lt 15, 3) := by decide +kernel
theorem dX5_hasNode_4 : decode cX5_hasNode 4 = .ok (.iload_n 1, 1) := by decide +kernel
theorem dX5_hasNode_5 : decode cX5_hasNode 5 = .ok (.aload_n 0, 1) := by decide +kernel
theorem dX5_hasNode_6 : decode cX5_hasNode 6 = .ok (.getfield 46, 3) := by decide +kernel
theorem dX5_hasNode_9 : decode cX5_hasNode 9 = .ok (.if_icmp .ge 7, 3) := by decide +kernel
theorem dX5_hasNode_12 : decode cX5_hasNode 12 = .ok (.iconst 1, 1) := by decide +kernel
theorem dX5_hasNode_13 : decode cX5_hasNode 13 = .ok (.goto 4, 3) := by decide +kernel
theorem dX5_hasNode_16 : decode cX5_hasNode 16 = .ok (.iconst 0, 1) := by decide +kernel
theorem dX5_hasNode_17 : decode cX5_hasNode 17 = .ok (.ireturn, 1) := by decide +kernel
theorem dX5_takesName_0 : decode cX5_takesName 0 = .ok (.aload_n 0, 1) := by decide +kernel
theorem dX5_takesName_1 : decode cX5_takesName 1 = .ok (.getfield 9, 3) := by decide +kernel
theorem dX5_takesName_4 : decode cX5_takesName 4 = .ok (.iload_n 1, 1) := by decide +kernel
theorem dX5_takesName_5 : decode cX5_takesName 5 = .ok (.iaload, 1) := by decide +kernel
theorem dX5_takesName_6 : decode cX5_takesName 6 = .ok (.iconst 1, 1) := by decide +kernel
theorem dX5_takesName_7 : decode cX5_takesName 7 = .ok (.if_icmp .eq 5, 3) := by decide +kernel
theorem dX5_takesName_10 : decode cX5_takesName 10 = .ok (.iconst 0, 1) := by decide +kernel
theorem dX5_takesName_11 : decode cX5_takesName 11 = .ok (.ireturn, 1) := by decide +kernel
theorem dX5_takesName_12 : decode cX5_takesName 12 = .ok (.iload_n 1, 1) := by decide +kernel
theorem dX5_takesName_13 : decode cX5_takesName 13 = .ok (.sipush 1000, 3) := by decide +kernel
theorem dX5_takesName_16 : decode cX5_takesName 16 = .ok (.imul, 1) := by decide +kernel
theorem dX5_takesName_17 : decode cX5_takesName 17 = .ok (.iload_n 2, 1) := by decide +kernel
theorem dX5_takesName_18 : decode cX5_takesName 18 = .ok (.iadd, 1) := by decide +kernel
theorem dX5_takesName_19 : decode cX5_takesName 19 = .ok (.istore_n 3, 1) := by decide +kernel
theorem dX5_takesName_20 : decode cX5_takesName 20 = .ok (.aload_n 0, 1) := by decide +kernel
theorem dX5_takesName_21 : decode cX5_takesName 21 = .ok (.iload_n 3, 1) := by decide +kernel
theorem dX5_takesName_22 : decode cX5_takesName 22 = .ok (.invokevirtual 53, 3) := by decide +kernel
theorem dX5_takesName_25 : decode cX5_takesName 25 = .ok (.istore 4, 2) := by decide +kernel
theorem dX5_takesName_27 : decode cX5_takesName 27 = .ok (.iload 4, 2) := by decide +kernel
theorem dX5_takesName_29 : decode cX5_takesName 29 = .ok (.aload_n 0, 1) := by decide +kernel
theorem dX5_takesName_30 : decode cX5_takesName 30 = .ok (.getfield 42, 3) := by decide +kernel
theorem dX5_takesName_33 : decode cX5_takesName 33 = .ok (.if_icmp .ge 14, 3) := by decide +kernel
theorem dX5_takesName_36 : decode cX5_takesName 36 = .ok (.aload_n 0, 1) := by decide +kernel
theorem dX5_takesName_37 : decode cX5_takesName 37 = .ok (.getfield 33, 3) := by decide +kernel
theorem dX5_takesName_40 : decode cX5_takesName 40 = .ok (.iload 4, 2) := by decide +kernel
theorem dX5_takesName_42 : decode cX5_takesName 42 = .ok (.iaload, 1) := by decide +kernel
theorem dX5_takesName_43 : decode cX5_takesName 43 = .ok (.iload_n 3, 1) := by decide +kernel
theorem dX5_takesName_44 : decode cX5_takesName 44 = .ok (.if_icmp .eq 7, 3) := by decide +kernel
theorem dX5_takesName_47 : decode cX5_takesName 47 = .ok (.iconst 1, 1) := by decide +kernel
theorem dX5_takesName_48 : decode cX5_takesName 48 = .ok (.goto 4, 3) := by decide +kernel
theorem dX5_takesName_51 : decode cX5_takesName 51 = .ok (.iconst 0, 1) := by decide +kernel
theorem dX5_takesName_52 : decode cX5_takesName 52 = .ok (.ireturn, 1) := by decide +kernel
theorem dX5_addNode_0 : decode cX5_addNode 0 = .ok (.aload_n 0, 1) := by decide +kernel
theorem dX5_addNode_1 : decode cX5_addNode 1 = .ok (.getfield 46, 3) := by decide +kernel
theorem dX5_addNode_4 : decode cX5_addNode 4 = .ok (.istore 4, 2) := by decide +kernel
theorem dX5_addNode_6 : decode cX5_addNode 6 = .ok (.aload_n 0, 1) := by decide +kernel
theorem dX5_addNode_7 : decode cX5_addNode 7 = .ok (.iload_n 1, 1) := by decide +kernel
theorem dX5_addNode_8 : decode cX5_addNode 8 = .ok (.iload_n 3, 1) := by decide +kernel
theorem dX5_addNode_9 : decode cX5_addNode 9 = .ok (.invokevirtual 49, 3) := by decide +kernel
theorem dX5_addNode_12 : decode cX5_addNode 12 = .ok (.aload_n 0, 1) := by decide +kernel
theorem dX5_addNode_13 : decode cX5_addNode 13 = .ok (.iload_n 1, 1) := by decide +kernel
theorem dX5_addNode_14 : decode cX5_addNode 14 = .ok (.iload_n 2, 1) := by decide +kernel
theorem dX5_addNode_15 : decode cX5_addNode 15 = .ok (.iload 4, 2) := by decide +kernel
theorem dX5_addNode_17 : decode cX5_addNode 17 = .ok (.invokevirtual 57, 3) := by decide +kernel
theorem dX5_addNode_20 : decode cX5_addNode 20 = .ok (.pop, 1) := by decide +kernel
theorem dX5_addNode_21 : decode cX5_addNode 21 = .ok (.iload 4, 2) := by decide +kernel
theorem dX5_addNode_23 : decode cX5_addNode 23 = .ok (.ireturn, 1) := by decide +kernel
theorem dX5_addName_0 : decode cX5_addName 0 = .ok (.aload_n 0, 1) := by decide +kernel
theorem dX5_addName_1 : decode cX5_addName 1 = .ok (.getfield 42, 3) := by decide +kernel
theorem dX5_addName_4 : decode cX5_addName 4 = .ok (.sipush 279, 3) := by decide +kernel
theorem dX5_addName_7 : decode cX5_addName 7 = .ok (.if_icmp .ge 108, 3) := by decide +kernel
theorem dX5_addName_10 : decode cX5_addName 10 = .ok (.iload_n 1, 1) := by decide +kernel
theorem dX5_addName_11 : decode cX5_addName 11 = .ok (.sipush 1000, 3) := by decide +kernel
theorem dX5_addName_14 : decode cX5_addName 14 = .ok (.imul, 1) := by decide +kernel
theorem dX5_addName_15 : decode cX5_addName 15 = .ok (.iload_n 2, 1) := by decide +kernel
theorem dX5_addName_16 : decode cX5_addName 16 = .ok (.iadd, 1) := by decide +kernel
theorem dX5_addName_17 : decode cX5_addName 17 = .ok (.istore 4, 2) := by decide +kernel
theorem dX5_addName_19 : decode cX5_addName 19 = .ok (.aload_n 0, 1) := by decide +kernel
theorem dX5_addName_20 : decode cX5_addName 20 = .ok (.iload 4, 2) := by decide +kernel
theorem dX5_addName_22 : decode cX5_addName 22 = .ok (.invokevirtual 53, 3) := by decide +kernel
theorem dX5_addName_25 : decode cX5_addName 25 = .ok (.istore 5, 2) := by decide +kernel
theorem dX5_addName_27 : decode cX5_addName 27 = .ok (.aload_n 0, 1) := by decide +kernel
theorem dX5_addName_28 : decode cX5_addName 28 = .ok (.getfield 42, 3) := by decide +kernel
theorem dX5_addName_31 : decode cX5_addName 31 = .ok (.istore 6, 2) := by decide +kernel
theorem dX5_addName_33 : decode cX5_addName 33 = .ok (.iload 6, 2) := by decide +kernel
theorem dX5_addName_35 : decode cX5_addName 35 = .ok (.iload 5, 2) := by decide +kernel
theorem dX5_addName_37 : decode cX5_addName 37 = .ok (.if_icmp .le 41, 3) := by decide +kernel
theorem dX5_addName_40 : decode cX5_addName 40 = .ok (.aload_n 0, 1) := by decide +kernel
theorem dX5_addName_41 : decode cX5_addName 41 = .ok (.getfield 33, 3) := by decide +kernel
theorem dX5_addName_44 : decode cX5_addName 44 = .ok (.iload 6, 2) := by decide +kernel
theorem dX5_addName_46 : decode cX5_addName 46 = .ok (.aload_n 0, 1) := by decide +kernel
theorem dX5_addName_47 : decode cX5_addName 47 = .ok (.getfield 33, 3) := by decide +kernel
theorem dX5_addName_50 : decode cX5_addName 50 = .ok (.iload 6, 2) := by decide +kernel
theorem dX5_addName_52 : decode cX5_addName 52 = .ok (.iconst 1, 1) := by decide +kernel
theorem dX5_addName_53 : decode cX5_addName 53 = .ok (.isub, 1) := by decide +kernel
theorem dX5_addName_54 : decode cX5_addName 54 = .ok (.iaload, 1) := by decide +kernel
theorem dX5_addName_55 : decode cX5_addName 55 = .ok (.iastore, 1) := by decide +kernel
theorem dX5_addName_56 : decode cX5_addName 56 = .ok (.aload_n 0, 1) := by decide +kernel
theorem dX5_addName_57 : decode cX5_addName 57 = .ok (.getfield 36, 3) := by decide +kernel
theorem dX5_addName_60 : decode cX5_addName 60 = .ok (.iload 6, 2) := by decide +kernel
theorem dX5_addName_62 : decode cX5_addName 62 = .ok (.aload_n 0, 1) := by decide +kernel
theorem dX5_addName_63 : decode cX5_addName 63 = .ok (.getfield 36, 3) := by decide +kernel
theorem dX5_addName_66 : decode cX5_addName 66 = .ok (.iload 6, 2) := by decide +kernel
theorem dX5_addName_68 : decode cX5_addName 68 = .ok (.iconst 1, 1) := by decide +kernel
theorem dX5_addName_69 : decode cX5_addName 69 = .ok (.isub, 1) := by decide +kernel
theorem dX5_addName_70 : decode cX5_addName 70 = .ok (.iaload, 1) := by decide +kernel
theorem dX5_addName_71 : decode cX5_addName 71 = .ok (.iastore, 1) := by decide +kernel
theorem dX5_addName_72 : decode cX5_addName 72 = .ok (.iinc 6 (-1), 3) := by decide +kernel
theorem dX5_addName_75 : decode cX5_addName 75 = .ok (.goto (-42), 3) := by decide +kernel
theorem dX5_addName_78 : decode cX5_addName 78 = .ok (.aload_n 0, 1) := by decide +kernel
theorem dX5_addName_79 : decode cX5_addName 79 = .ok (.getfield 33, 3) := by decide +kernel
theorem dX5_addName_82 : decode cX5_addName 82 = .ok (.iload 5, 2) := by decide +kernel
theorem dX5_addName_84 : decode cX5_addName 84 = .ok (.iload 4, 2) := by decide +kernel
theorem dX5_addName_86 : decode cX5_addName 86 = .ok (.iastore, 1) := by decide +kernel
theorem dX5_addName_87 : decode cX5_addName 87 = .ok (.aload_n 0, 1) := by decide +kernel
theorem dX5_addName_88 : decode cX5_addName 88 = .ok (.getfield 36, 3) := by decide +kernel
theorem dX5_addName_91 : decode cX5_addName 91 = .ok (.iload 5, 2) := by decide +kernel
theorem dX5_addName_93 : decode cX5_addName 93 = .ok (.iload_n 3, 1) := by decide +kernel
theorem dX5_addName_94 : decode cX5_addName 94 = .ok (.iastore, 1) := by decide +kernel
theorem dX5_addName_95 : decode cX5_addName 95 = .ok (.aload_n 0, 1) := by decide +kernel
theorem dX5_addName_96 : decode cX5_addName 96 = .ok (.dup, 1) := by decide +kernel
theorem dX5_addName_97 : decode cX5_addName 97 = .ok (.getfield 42, 3) := by decide +kernel
theorem dX5_addName_100 : decode cX5_addName 100 = .ok (.iconst 1, 1) := by decide +kernel
theorem dX5_addName_101 : decode cX5_addName 101 = .ok (.iadd, 1) := by decide +kernel
theorem dX5_addName_102 : decode cX5_addName 102 = .ok (.putfield 42, 3) := by decide +kernel
theorem dX5_addName_105 : decode cX5_addName 105 = .ok (.aload_n 0, 1) := by decide +kernel
theorem dX5_addName_106 : decode cX5_addName 106 = .ok (.getfield 21, 3) := by decide +kernel
theorem dX5_addName_109 : decode cX5_addName 109 = .ok (.iload_n 3, 1) := by decide +kernel
theorem dX5_addName_110 : decode cX5_addName 110 = .ok (.dup2, 1) := by decide +kernel
theorem dX5_addName_111 : decode cX5_addName 111 = .ok (.iaload, 1) := by decide +kernel
theorem dX5_addName_112 : decode cX5_addName 112 = .ok (.iconst 1, 1) := by decide +kernel
theorem dX5_addName_113 : decode cX5_addName 113 = .ok (.iadd, 1) := by decide +kernel
theorem dX5_addName_114 : decode cX5_addName 114 = .ok (.iastore, 1) := by decide +kernel
theorem dX5_addName_115 : decode cX5_addName 115 = .ok (.aload_n 0, 1) := by decide +kernel
theorem dX5_addName_116 : decode cX5_addName 116 = .ok (.getfield 21, 3) := by decide +kernel
theorem dX5_addName_119 : decode cX5_addName 119 = .ok (.iload_n 3, 1) := by decide +kernel
theorem dX5_addName_120 : decode cX5_addName 120 = .ok (.iaload, 1) := by decide +kernel
theorem dX5_addName_121 : decode cX5_addName 121 = .ok (.ireturn, 1) := by decide +kernel
theorem dX5_append_0 : decode cX5_append 0 = .ok (.iload_n 1, 1) := by decide +kernel
theorem dX5_append_1 : decode cX5_append 1 = .ok (.bipush 100, 2) := by decide +kernel
theorem dX5_append_3 : decode cX5_append 3 = .ok (.imul, 1) := by decide +kernel
theorem dX5_append_4 : decode cX5_append 4 = .ok (.aload_n 0, 1) := by decide +kernel
theorem dX5_append_5 : decode cX5_append 5 = .ok (.getfield 27, 3) := by decide +kernel
theorem dX5_append_8 : decode cX5_append 8 = .ok (.iload_n 1, 1) := by decide +kernel
theorem dX5_append_9 : decode cX5_append 9 = .ok (.iaload, 1) := by decide +kernel
theorem dX5_append_10 : decode cX5_append 10 = .ok (.iadd, 1) := by decide +kernel
theorem dX5_append_11 : decode cX5_append 11 = .ok (.istore 4, 2) := by decide +kernel
theorem dX5_append_13 : decode cX5_append 13 = .ok (.aload_n 0, 1) := by decide +kernel
theorem dX5_append_14 : decode cX5_append 14 = .ok (.getfield 30, 3) := by decide +kernel
theorem dX5_append_17 : decode cX5_append 17 = .ok (.iload 4, 2) := by decide +kernel
theorem dX5_append_19 : decode cX5_append 19 = .ok (.iload 4, 2) := by decide +kernel
theorem dX5_append_21 : decode cX5_append 21 = .ok (.iload_n 3, 1) := by decide +kernel
theorem dX5_append_22 : decode cX5_append 22 = .ok (.iadd, 1) := by decide +kernel
theorem dX5_append_23 : decode cX5_append 23 = .ok (.iload_n 2, 1) := by decide +kernel
theorem dX5_append_24 : decode cX5_append 24 = .ok (.invokestatic 61, 3) := by decide +kernel
theorem dX5_append_27 : decode cX5_append 27 = .ok (.aload_n 0, 1) := by decide +kernel
theorem dX5_append_28 : decode cX5_append 28 = .ok (.getfield 27, 3) := by decide +kernel
theorem dX5_append_31 : decode cX5_append 31 = .ok (.iload_n 1, 1) := by decide +kernel
theorem dX5_append_32 : decode cX5_append 32 = .ok (.dup2, 1) := by decide +kernel
theorem dX5_append_33 : decode cX5_append 33 = .ok (.iaload, 1) := by decide +kernel
theorem dX5_append_34 : decode cX5_append 34 = .ok (.iload_n 3, 1) := by decide +kernel
theorem dX5_append_35 : decode cX5_append 35 = .ok (.iadd, 1) := by decide +kernel
theorem dX5_append_36 : decode cX5_append 36 = .ok (.iastore, 1) := by decide +kernel
theorem dX5_append_37 : decode cX5_append 37 = .ok (.aload_n 0, 1) := by decide +kernel
theorem dX5_append_38 : decode cX5_append 38 = .ok (.getfield 27, 3) := by decide +kernel
theorem dX5_append_41 : decode cX5_append 41 = .ok (.iload_n 1, 1) := by decide +kernel
theorem dX5_append_42 : decode cX5_append 42 = .ok (.iaload, 1) := by decide +kernel
theorem dX5_append_43 : decode cX5_append 43 = .ok (.ireturn, 1) := by decide +kernel
theorem dX5_firstNameOf_0 : decode cX5_firstNameOf 0 = .ok (.aload_n 0, 1) := by decide +kernel
theorem dX5_firstNameOf_1 : decode cX5_firstNameOf 1 = .ok (.iload_n 1, 1) := by decide +kernel
theorem dX5_firstNameOf_2 : decode cX5_firstNameOf 2 = .ok (.sipush 1000, 3) := by decide +kernel
theorem dX5_firstNameOf_5 : decode cX5_firstNameOf 5 = .ok (.imul, 1) := by decide +kernel
theorem dX5_firstNameOf_6 : decode cX5_firstNameOf 6 = .ok (.invokevirtual 53, 3) := by decide +kernel
theorem dX5_firstNameOf_9 : decode cX5_firstNameOf 9 = .ok (.ireturn, 1) := by decide +kernel
theorem dX5_nameAt_0 : decode cX5_nameAt 0 = .ok (.aload_n 0, 1) := by decide +kernel
theorem dX5_nameAt_1 : decode cX5_nameAt 1 = .ok (.getfield 33, 3) := by decide +kernel
theorem dX5_nameAt_4 : decode cX5_nameAt 4 = .ok (.iload_n 1, 1) := by decide +kernel
theorem dX5_nameAt_5 : decode cX5_nameAt 5 = .ok (.iaload, 1) := by decide +kernel
theorem dX5_nameAt_6 : decode cX5_nameAt 6 = .ok (.sipush 1000, 3) := by decide +kernel
theorem dX5_nameAt_9 : decode cX5_nameAt 9 = .ok (.irem, 1) := by decide +kernel
theorem dX5_nameAt_10 : decode cX5_nameAt 10 = .ok (.ireturn, 1) := by decide +kernel
theorem dX5_haveSameBytes_0 : decode cX5_haveSameBytes 0 = .ok (.aload_n 0, 1) := by decide +kernel
theorem dX5_haveSameBytes_1 : decode cX5_haveSameBytes 1 = .ok (.getfield 27, 3) := by decide +kernel
theorem dX5_haveSameBytes_4 : decode cX5_haveSameBytes 4 = .ok (.iload_n 1, 1) := by decide +kernel
theorem dX5_haveSameBytes_5 : decode cX5_haveSameBytes 5 = .ok (.iaload, 1) := by decide +kernel
theorem dX5_haveSameBytes_6 : decode cX5_haveSameBytes 6 = .ok (.aload_n 0, 1) := by decide +kernel
theorem dX5_haveSameBytes_7 : decode cX5_haveSameBytes 7 = .ok (.getfield 27, 3) := by decide +kernel
theorem dX5_haveSameBytes_10 : decode cX5_haveSameBytes 10 = .ok (.iload_n 2, 1) := by decide +kernel
theorem dX5_haveSameBytes_11 : decode cX5_haveSameBytes 11 = .ok (.iaload, 1) := by decide +kernel
theorem dX5_haveSameBytes_12 : decode cX5_haveSameBytes 12 = .ok (.if_icmp .eq 5, 3) := by decide +kernel
theorem dX5_haveSameBytes_15 : decode cX5_haveSameBytes 15 = .ok (.iconst 0, 1) := by decide +kernel
theorem dX5_haveSameBytes_16 : decode cX5_haveSameBytes 16 = .ok (.ireturn, 1) := by decide +kernel
theorem dX5_haveSameBytes_17 : decode cX5_haveSameBytes 17 = .ok (.iconst 0, 1) := by decide +kernel
theorem dX5_haveSameBytes_18 : decode cX5_haveSameBytes 18 = .ok (.istore_n 3, 1) := by decide +kernel
theorem dX5_haveSameBytes_19 : decode cX5_haveSameBytes 19 = .ok (.iload_n 3, 1) := by decide +kernel
theorem dX5_haveSameBytes_20 : decode cX5_haveSameBytes 20 = .ok (.aload_n 0, 1) := by decide +kernel
theorem dX5_haveSameBytes_21 : decode cX5_haveSameBytes 21 = .ok (.getfield 27, 3) := by decide +kernel
theorem dX5_haveSameBytes_24 : decode cX5_haveSameBytes 24 = .ok (.iload_n 1, 1) := by decide +kernel
theorem dX5_haveSameBytes_25 : decode cX5_haveSameBytes 25 = .ok (.iaload, 1) := by decide +kernel
theorem dX5_haveSameBytes_26 : decode cX5_haveSameBytes 26 = .ok (.if_icmp .ge 36, 3) := by decide +kernel
theorem dX5_haveSameBytes_29 : decode cX5_haveSameBytes 29 = .ok (.aload_n 0, 1) := by decide +kernel
theorem dX5_haveSameBytes_30 : decode cX5_haveSameBytes 30 = .ok (.getfield 30, 3) := by decide +kernel
theorem dX5_haveSameBytes_33 : decode cX5_haveSameBytes 33 = .ok (.iload_n 1, 1) := by decide +kernel
theorem dX5_haveSameBytes_34 : decode cX5_haveSameBytes 34 = .ok (.bipush 100, 2) := by decide +kernel
theorem dX5_haveSameBytes_36 : decode cX5_haveSameBytes 36 = .ok (.imul, 1) := by decide +kernel
theorem dX5_haveSameBytes_37 : decode cX5_haveSameBytes 37 = .ok (.iload_n 3, 1) := by decide +kernel
theorem dX5_haveSameBytes_38 : decode cX5_haveSameBytes 38 = .ok (.iadd, 1) := by decide +kernel
theorem dX5_haveSameBytes_39 : decode cX5_haveSameBytes 39 = .ok (.iaload, 1) := by decide +kernel
theorem dX5_haveSameBytes_40 : decode cX5_haveSameBytes 40 = .ok (.aload_n 0, 1) := by decide +kernel
theorem dX5_haveSameBytes_41 : decode cX5_haveSameBytes 41 = .ok (.getfield 30, 3) := by decide +kernel
theorem dX5_haveSameBytes_44 : decode cX5_haveSameBytes 44 = .ok (.iload_n 2, 1) := by decide +kernel
theorem dX5_haveSameBytes_45 : decode cX5_haveSameBytes 45 = .ok (.bipush 100, 2) := by decide +kernel
theorem dX5_haveSameBytes_47 : decode cX5_haveSameBytes 47 = .ok (.imul, 1) := by decide +kernel
theorem dX5_haveSameBytes_48 : decode cX5_haveSameBytes 48 = .ok (.iload_n 3, 1) := by decide +kernel
theorem dX5_haveSameBytes_49 : decode cX5_haveSameBytes 49 = .ok (.iadd, 1) := by decide +kernel
theorem dX5_haveSameBytes_50 : decode cX5_haveSameBytes 50 = .ok (.iaload, 1) := by decide +kernel
theorem dX5_haveSameBytes_51 : decode cX5_haveSameBytes 51 = .ok (.if_icmp .eq 5, 3) := by decide +kernel
theorem dX5_haveSameBytes_54 : decode cX5_haveSameBytes 54 = .ok (.iconst 0, 1) := by decide +kernel
theorem dX5_haveSameBytes_55 : decode cX5_haveSameBytes 55 = .ok (.ireturn, 1) := by decide +kernel
theorem dX5_haveSameBytes_56 : decode cX5_haveSameBytes 56 = .ok (.iinc 3 1, 3) := by decide +kernel
theorem dX5_haveSameBytes_59 : decode cX5_haveSameBytes 59 = .ok (.goto (-40), 3) := by decide +kernel
theorem dX5_haveSameBytes_62 : decode cX5_haveSameBytes 62 = .ok (.iconst 1, 1) := by decide +kernel
theorem dX5_haveSameBytes_63 : decode cX5_haveSameBytes 63 = .ok (.ireturn, 1) := by decide +kernel
theorem dX5_firstFrom_0 : decode cX5_firstFrom 0 = .ok (.iconst 0, 1) := by decide +kernel
theorem dX5_firstFrom_1 : decode cX5_firstFrom 1 = .ok (.istore_n 2, 1) := by decide +kernel
theorem dX5_firstFrom_2 : decode cX5_firstFrom 2 = .ok (.iload_n 2, 1) := by decide +kernel
theorem dX5_firstFrom_3 : decode cX5_firstFrom 3 = .ok (.aload_n 0, 1) := by decide +kernel
theorem dX5_firstFrom_4 : decode cX5_firstFrom 4 = .ok (.getfield 42, 3) := by decide +kernel
theorem dX5_firstFrom_7 : decode cX5_firstFrom 7 = .ok (.if_icmp .ge 21, 3) := by decide +kernel
theorem dX5_firstFrom_10 : decode cX5_firstFrom 10 = .ok (.aload_n 0, 1) := by decide +kernel
theorem dX5_firstFrom_11 : decode cX5_firstFrom 11 = .ok (.getfield 33, 3) := by decide +kernel
theorem dX5_firstFrom_14 : decode cX5_firstFrom 14 = .ok (.iload_n 2, 1) := by decide +kernel
theorem dX5_firstFrom_15 : decode cX5_firstFrom 15 = .ok (.iaload, 1) := by decide +kernel
theorem dX5_firstFrom_16 : decode cX5_firstFrom 16 = .ok (.iload_n 1, 1) := by decide +kernel
theorem dX5_firstFrom_17 : decode cX5_firstFrom 17 = .ok (.if_icmp .lt 5, 3) := by decide +kernel
theorem dX5_firstFrom_20 : decode cX5_firstFrom 20 = .ok (.iload_n 2, 1) := by decide +kernel
theorem dX5_firstFrom_21 : decode cX5_firstFrom 21 = .ok (.ireturn, 1) := by decide +kernel
theorem dX5_firstFrom_22 : decode cX5_firstFrom 22 = .ok (.iinc 2 1, 3) := by decide +kernel
theorem dX5_firstFrom_25 : decode cX5_firstFrom 25 = .ok (.goto (-23), 3) := by decide +kernel
theorem dX5_firstFrom_28 : decode cX5_firstFrom 28 = .ok (.aload_n 0, 1) := by decide +kernel
theorem dX5_firstFrom_29 : decode cX5_firstFrom 29 = .ok (.getfield 42, 3) := by decide +kernel
theorem dX5_firstFrom_32 : decode cX5_firstFrom 32 = .ok (.ireturn, 1) := by decide +kernel
theorem dX5_startNode_0 : decode cX5_startNode 0 = .ok (.aload_n 0, 1) := by decide +kernel
theorem dX5_startNode_1 : decode cX5_startNode 1 = .ok (.getfield 46, 3) := by decide +kernel
theorem dX5_startNode_4 : decode cX5_startNode 4 = .ok (.istore_n 3, 1) := by decide +kernel
theorem dX5_startNode_5 : decode cX5_startNode 5 = .ok (.aload_n 0, 1) := by decide +kernel
theorem dX5_startNode_6 : decode cX5_startNode 6 = .ok (.getfield 9, 3) := by decide +kernel
theorem dX5_startNode_9 : decode cX5_startNode 9 = .ok (.iload_n 3, 1) := by decide +kernel
theorem dX5_startNode_10 : decode cX5_startNode 10 = .ok (.iload_n 2, 1) := by decide +kernel
theorem dX5_startNode_11 : decode cX5_startNode 11 = .ok (.iastore, 1) := by decide +kernel
theorem dX5_startNode_12 : decode cX5_startNode 12 = .ok (.aload_n 0, 1) := by decide +kernel
theorem dX5_startNode_13 : decode cX5_startNode 13 = .ok (.getfield 24, 3) := by decide +kernel
theorem dX5_startNode_16 : decode cX5_startNode 16 = .ok (.iload_n 3, 1) := by decide +kernel
theorem dX5_startNode_17 : decode cX5_startNode 17 = .ok (.iload_n 1, 1) := by decide +kernel
theorem dX5_startNode_18 : decode cX5_startNode 18 = .ok (.iastore, 1) := by decide +kernel
theorem dX5_startNode_19 : decode cX5_startNode 19 = .ok (.aload_n 0, 1) := by decide +kernel
theorem dX5_startNode_20 : decode cX5_startNode 20 = .ok (.getfield 15, 3) := by decide +kernel
theorem dX5_startNode_23 : decode cX5_startNode 23 = .ok (.iload_n 3, 1) := by decide +kernel
theorem dX5_startNode_24 : decode cX5_startNode 24 = .ok (.iconst 0, 1) := by decide +kernel
theorem dX5_startNode_25 : decode cX5_startNode 25 = .ok (.iastore, 1) := by decide +kernel
theorem dX5_startNode_26 : decode cX5_startNode 26 = .ok (.aload_n 0, 1) := by decide +kernel
theorem dX5_startNode_27 : decode cX5_startNode 27 = .ok (.getfield 18, 3) := by decide +kernel
theorem dX5_startNode_30 : decode cX5_startNode 30 = .ok (.iload_n 3, 1) := by decide +kernel
theorem dX5_startNode_31 : decode cX5_startNode 31 = .ok (.iconst 0, 1) := by decide +kernel
theorem dX5_startNode_32 : decode cX5_startNode 32 = .ok (.iastore, 1) := by decide +kernel
theorem dX5_startNode_33 : decode cX5_startNode 33 = .ok (.aload_n 0, 1) := by decide +kernel
theorem dX5_startNode_34 : decode cX5_startNode 34 = .ok (.getfield 27, 3) := by decide +kernel
theorem dX5_startNode_37 : decode cX5_startNode 37 = .ok (.iload_n 3, 1) := by decide +kernel
theorem dX5_startNode_38 : decode cX5_startNode 38 = .ok (.iconst 0, 1) := by decide +kernel
theorem dX5_startNode_39 : decode cX5_startNode 39 = .ok (.iastore, 1) := by decide +kernel
theorem dX5_startNode_40 : decode cX5_startNode 40 = .ok (.aload_n 0, 1) := by decide +kernel
theorem dX5_startNode_41 : decode cX5_startNode 41 = .ok (.getfield 21, 3) := by decide +kernel
theorem dX5_startNode_44 : decode cX5_startNode 44 = .ok (.iload_n 3, 1) := by decide +kernel
theorem dX5_startNode_45 : decode cX5_startNode 45 = .ok (.iconst 0, 1) := by decide +kernel
theorem dX5_startNode_46 : decode cX5_startNode 46 = .ok (.iastore, 1) := by decide +kernel
theorem dX5_startNode_47 : decode cX5_startNode 47 = .ok (.aload_n 0, 1) := by decide +kernel
theorem dX5_startNode_48 : decode cX5_startNode 48 = .ok (.dup, 1) := by decide +kernel
theorem dX5_startNode_49 : decode cX5_startNode 49 = .ok (.getfield 46, 3) := by decide +kernel
theorem dX5_startNode_52 : decode cX5_startNode 52 = .ok (.iconst 1, 1) := by decide +kernel
theorem dX5_startNode_53 : decode cX5_startNode 53 = .ok (.iadd, 1) := by decide +kernel
theorem dX5_startNode_54 : decode cX5_startNode 54 = .ok (.putfield 46, 3) := by decide +kernel
theorem dX5_startNode_57 : decode cX5_startNode 57 = .ok (.return_, 1) := by decide +kernel
