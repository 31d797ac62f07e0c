theorem dX3_init_0 : decode cX3_init 0 = .ok (.aload_n 0, 1) := by decide +kernel
theorem dX3_init_1 : decode cX3_init 1 = .ok (.invokespecial 3, 3) := by decide +kernel
theorem dX3_init_4 : decode cX3_init 4 = .ok (.aload_n 0, 1) := by decide +kernel
theorem dX3_init_5 : decode cX3_init 5 = .ok (.iconst 3, 1) := by decide +kernel
theorem dX3_init_6 : decode cX3_init 6 = .ok (.newarray .int, 2) := by decide +kernel
theorem dX3_init_8 : decode cX3_init 8 = .ok (.putfield 9, 3) := by decide +kernel
theorem dX3_init_11 : decode cX3_init 11 = .ok (.aload_n 0, 1) := by decide +kernel
theorem dX3_init_12 : decode cX3_init 12 = .ok (.iconst 3, 1) := by decide +kernel
theorem dX3_init_13 : decode cX3_init 13 = .ok (.anewarray 15, 3) := by decide +kernel
theorem dX3_init_16 : decode cX3_init 16 = .ok (.putfield 17, 3) := by decide +kernel
theorem dX3_init_19 : decode cX3_init 19 = .ok (.aload_n 0, 1) := by decide +kernel
theorem dX3_init_20 : decode cX3_init 20 = .ok (.bipush 60, 2) := by decide +kernel
theorem dX3_init_22 : decode cX3_init 22 = .ok (.newarray .int, 2) := by decide +kernel
theorem dX3_init_24 : decode cX3_init 24 = .ok (.putfield 21, 3) := by decide +kernel
theorem dX3_init_27 : decode cX3_init 27 = .ok (.aload_n 0, 1) := by decide +kernel
theorem dX3_init_28 : decode cX3_init 28 = .ok (.sipush 180, 3) := by decide +kernel
theorem dX3_init_31 : decode cX3_init 31 = .ok (.newarray .int, 2) := by decide +kernel
theorem dX3_init_33 : decode cX3_init 33 = .ok (.putfield 24, 3) := by decide +kernel
theorem dX3_init_36 : decode cX3_init 36 = .ok (.aload_n 0, 1) := by decide +kernel
theorem dX3_init_37 : decode cX3_init 37 = .ok (.sipush 180, 3) := by decide +kernel
theorem dX3_init_40 : decode cX3_init 40 = .ok (.newarray .int, 2) := by decide +kernel
theorem dX3_init_42 : decode cX3_init 42 = .ok (.putfield 27, 3) := by decide +kernel
theorem dX3_init_45 : decode cX3_init 45 = .ok (.aload_n 0, 1) := by decide +kernel
theorem dX3_init_46 : decode cX3_init 46 = .ok (.iconst 3, 1) := by decide +kernel
theorem dX3_init_47 : decode cX3_init 47 = .ok (.newarray .int, 2) := by decide +kernel
theorem dX3_init_49 : decode cX3_init 49 = .ok (.putfield 30, 3) := by decide +kernel
theorem dX3_init_52 : decode cX3_init 52 = .ok (.aload_n 0, 1) := by decide +kernel
theorem dX3_init_53 : decode cX3_init 53 = .ok (.iconst 3, 1) := by decide +kernel
theorem dX3_init_54 : decode cX3_init 54 = .ok (.newarray .int, 2) := by decide +kernel
theorem dX3_init_56 : decode cX3_init 56 = .ok (.putfield 33, 3) := by decide +kernel
theorem dX3_init_59 : decode cX3_init 59 = .ok (.aload_n 0, 1) := by decide +kernel
theorem dX3_init_60 : decode cX3_init 60 = .ok (.iconst 3, 1) := by decide +kernel
theorem dX3_init_61 : decode cX3_init 61 = .ok (.newarray .int, 2) := by decide +kernel
theorem dX3_init_63 : decode cX3_init 63 = .ok (.putfield 36, 3) := by decide +kernel
theorem dX3_init_66 : decode cX3_init 66 = .ok (.new 15, 3) := by decide +kernel
theorem dX3_init_69 : decode cX3_init 69 = .ok (.dup, 1) := by decide +kernel
theorem dX3_init_70 : decode cX3_init 70 = .ok (.iconst 0, 1) := by decide +kernel
theorem dX3_init_71 : decode cX3_init 71 = .ok (.invokespecial 39, 3) := by decide +kernel
theorem dX3_init_74 : decode cX3_init 74 = .ok (.astore_n 1, 1) := by decide +kernel
theorem dX3_init_75 : decode cX3_init 75 = .ok (.iconst 0, 1) := by decide +kernel
theorem dX3_init_76 : decode cX3_init 76 = .ok (.istore_n 2, 1) := by decide +kernel
theorem dX3_init_77 : decode cX3_init 77 = .ok (.iload_n 2, 1) := by decide +kernel
theorem dX3_init_78 : decode cX3_init 78 = .ok (.iconst 3, 1) := by decide +kernel
theorem dX3_init_79 : decode cX3_init 79 = .ok (.if_icmp .ge 16, 3) := by decide +kernel
theorem dX3_init_82 : decode cX3_init 82 = .ok (.aload_n 0, 1) := by decide +kernel
theorem dX3_init_83 : decode cX3_init 83 = .ok (.getfield 17, 3) := by decide +kernel
theorem dX3_init_86 : decode cX3_init 86 = .ok (.iload_n 2, 1) := by decide +kernel
theorem dX3_init_87 : decode cX3_init 87 = .ok (.aload_n 1, 1) := by decide +kernel
theorem dX3_init_88 : decode cX3_init 88 = .ok (.aastore, 1) := by decide +kernel
theorem dX3_init_89 : decode cX3_init 89 = .ok (.iinc 2 1, 3) := by decide +kernel
theorem dX3_init_92 : decode cX3_init 92 = .ok (.goto (-15), 3) := by decide +kernel
theorem dX3_init_95 : decode cX3_init 95 = .ok (.return_, 1) := by decide +kernel
theorem dX3_isLaid_0 : decode cX3_isLaid 0 = .ok (.iconst 0, 1) := by decide +kernel
theorem dX3_isLaid_1 : decode cX3_isLaid 1 = .ok (.istore_n 2, 1) := by decide +kernel
theorem dX3_isLaid_2 : decode cX3_isLaid 2 = .ok (.iload_n 2, 1) := by decide +kernel
theorem dX3_isLaid_3 : decode cX3_isLaid 3 = .ok (.aload_n 0, 1) := by decide +kernel
theorem dX3_isLaid_4 : decode cX3_isLaid 4 = .ok (.getfield 42, 3) := by decide +kernel
theorem dX3_isLaid_7 : decode cX3_isLaid 7 = .ok (.if_icmp .ge 21, 3) := by decide +kernel
theorem dX3_isLaid_10 : decode cX3_isLaid 10 = .ok (.aload_n 0, 1) := by decide +kernel
theorem dX3_isLaid_11 : decode cX3_isLaid 11 = .ok (.getfield 9, 3) := by decide +kernel
theorem dX3_isLaid_14 : decode cX3_isLaid 14 = .ok (.iload_n 2, 1) := by decide +kernel
theorem dX3_isLaid_15 : decode cX3_isLaid 15 = .ok (.iaload, 1) := by decide +kernel
theorem dX3_isLaid_16 : decode cX3_isLaid 16 = .ok (.iload_n 1, 1) := by decide +kernel
theorem dX3_isLaid_17 : decode cX3_isLaid 17 = .ok (.if_icmp .ne 5, 3) := by decide +kernel
theorem dX3_isLaid_20 : decode cX3_isLaid 20 = .ok (.iconst 1, 1) := by decide +kernel
theorem dX3_isLaid_21 : decode cX3_isLaid 21 = .ok (.ireturn, 1) := by decide +kernel
theorem dX3_isLaid_22 : decode cX3_isLaid 22 = .ok (.iinc 2 1, 3) := by decide +kernel
theorem dX3_isLaid_25 : decode cX3_isLaid 25 = .ok (.goto (-23), 3) := by decide +kernel
theorem dX3_isLaid_28 : decode cX3_isLaid 28 = .ok (.iconst 0, 1) := by decide +kernel
theorem dX3_isLaid_29 : decode cX3_isLaid 29 = .ok (.ireturn, 1) := by decide +kernel
theorem dX3_lay_0 : decode cX3_lay 0 = .ok (.aload_n 0, 1) := by decide +kernel
theorem dX3_lay_1 : decode cX3_lay 1 = .ok (.getfield 42, 3) := by decide +kernel
theorem dX3_lay_4 : decode cX3_lay 4 = .ok (.iconst 3, 1) := by decide +kernel
theorem dX3_lay_5 : decode cX3_lay 5 = .ok (.if_icmp .ge 37, 3) := by decide +kernel
theorem dX3_lay_8 : decode cX3_lay 8 = .ok (.aload_n 0, 1) := by decide +kernel
theorem dX3_lay_9 : decode cX3_lay 9 = .ok (.getfield 9, 3) := by decide +kernel
theorem dX3_lay_12 : decode cX3_lay 12 = .ok (.aload_n 0, 1) := by decide +kernel
theorem dX3_lay_13 : decode cX3_lay 13 = .ok (.getfield 42, 3) := by decide +kernel
theorem dX3_lay_16 : decode cX3_lay 16 = .ok (.iload_n 1, 1) := by decide +kernel
theorem dX3_lay_17 : decode cX3_lay 17 = .ok (.iastore, 1) := by decide +kernel
theorem dX3_lay_18 : decode cX3_lay 18 = .ok (.aload_n 0, 1) := by decide +kernel
theorem dX3_lay_19 : decode cX3_lay 19 = .ok (.getfield 17, 3) := by decide +kernel
theorem dX3_lay_22 : decode cX3_lay 22 = .ok (.aload_n 0, 1) := by decide +kernel
theorem dX3_lay_23 : decode cX3_lay 23 = .ok (.getfield 42, 3) := by decide +kernel
theorem dX3_lay_26 : decode cX3_lay 26 = .ok (.aload_n 2, 1) := by decide +kernel
theorem dX3_lay_27 : decode cX3_lay 27 = .ok (.aastore, 1) := by decide +kernel
theorem dX3_lay_28 : decode cX3_lay 28 = .ok (.aload_n 0, 1) := by decide +kernel
theorem dX3_lay_29 : decode cX3_lay 29 = .ok (.dup, 1) := by decide +kernel
theorem dX3_lay_30 : decode cX3_lay 30 = .ok (.getfield 42, 3) := by decide +kernel
theorem dX3_lay_33 : decode cX3_lay 33 = .ok (.iconst 1, 1) := by decide +kernel
theorem dX3_lay_34 : decode cX3_lay 34 = .ok (.iadd, 1) := by decide +kernel
theorem dX3_lay_35 : decode cX3_lay 35 = .ok (.putfield 42, 3) := by decide +kernel
theorem dX3_lay_38 : decode cX3_lay 38 = .ok (.aload_n 0, 1) := by decide +kernel
theorem dX3_lay_39 : decode cX3_lay 39 = .ok (.invokevirtual 46, 3) := by decide +kernel
theorem dX3_lay_42 : decode cX3_lay 42 = .ok (.aload_n 0, 1) := by decide +kernel
theorem dX3_lay_43 : decode cX3_lay 43 = .ok (.getfield 42, 3) := by decide +kernel
theorem dX3_lay_46 : decode cX3_lay 46 = .ok (.ireturn, 1) := by decide +kernel
theorem dX3_takeAway_0 : decode cX3_takeAway 0 = .ok (.aload_n 0, 1) := by decide +kernel
theorem dX3_takeAway_1 : decode cX3_takeAway 1 = .ok (.getfield 42, 3) := by decide +kernel
theorem dX3_takeAway_4 : decode cX3_takeAway 4 = .ok (.istore_n 1, 1) := by decide +kernel
theorem dX3_takeAway_5 : decode cX3_takeAway 5 = .ok (.aload_n 0, 1) := by decide +kernel
theorem dX3_takeAway_6 : decode cX3_takeAway 6 = .ok (.iconst 0, 1) := by decide +kernel
theorem dX3_takeAway_7 : decode cX3_takeAway 7 = .ok (.putfield 42, 3) := by decide +kernel
theorem dX3_takeAway_10 : decode cX3_takeAway 10 = .ok (.aload_n 0, 1) := by decide +kernel
theorem dX3_takeAway_11 : decode cX3_takeAway 11 = .ok (.iconst 0, 1) := by decide +kernel
theorem dX3_takeAway_12 : decode cX3_takeAway 12 = .ok (.putfield 49, 3) := by decide +kernel
theorem dX3_takeAway_15 : decode cX3_takeAway 15 = .ok (.iload_n 1, 1) := by decide +kernel
theorem dX3_takeAway_16 : decode cX3_takeAway 16 = .ok (.ireturn, 1) := by decide +kernel
theorem dX3_hasView_0 : decode cX3_hasView 0 = .ok (.iload_n 1, 1) := by decide +kernel
theorem dX3_hasView_1 : decode cX3_hasView 1 = .ok (.ifCond .lt 15, 3) := by decide +kernel
theorem dX3_hasView_4 : decode cX3_hasView 4 = .ok (.iload_n 1, 1) := by decide +kernel
theorem dX3_hasView_5 : decode cX3_hasView 5 = .ok (.aload_n 0, 1) := by decide +kernel
theorem dX3_hasView_6 : decode cX3_hasView 6 = .ok (.getfield 49, 3) := by decide +kernel
theorem dX3_hasView_9 : decode cX3_hasView 9 = .ok (.if_icmp .ge 7, 3) := by decide +kernel
theorem dX3_hasView_12 : decode cX3_hasView 12 = .ok (.iconst 1, 1) := by decide +kernel
theorem dX3_hasView_13 : decode cX3_hasView 13 = .ok (.goto 4, 3) := by decide +kernel
theorem dX3_hasView_16 : decode cX3_hasView 16 = .ok (.iconst 0, 1) := by decide +kernel
theorem dX3_hasView_17 : decode cX3_hasView 17 = .ok (.ireturn, 1) := by decide +kernel
theorem dX3_kindOf_0 : decode cX3_kindOf 0 = .ok (.aload_n 0, 1) := by decide +kernel
theorem dX3_kindOf_1 : decode cX3_kindOf 1 = .ok (.iload_n 1, 1) := by decide +kernel
theorem dX3_kindOf_2 : decode cX3_kindOf 2 = .ok (.invokevirtual 52, 3) := by decide +kernel
theorem dX3_kindOf_5 : decode cX3_kindOf 5 = .ok (.aload_n 0, 1) := by decide +kernel
theorem dX3_kindOf_6 : decode cX3_kindOf 6 = .ok (.iload_n 1, 1) := by decide +kernel
theorem dX3_kindOf_7 : decode cX3_kindOf 7 = .ok (.invokevirtual 56, 3) := by decide +kernel
theorem dX3_kindOf_10 : decode cX3_kindOf 10 = .ok (.invokevirtual 60, 3) := by decide +kernel
theorem dX3_kindOf_13 : decode cX3_kindOf 13 = .ok (.ireturn, 1) := by decide +kernel
theorem dX3_imageOf_0 : decode cX3_imageOf 0 = .ok (.aload_n 0, 1) := by decide +kernel
theorem dX3_imageOf_1 : decode cX3_imageOf 1 = .ok (.getfield 9, 3) := by decide +kernel
theorem dX3_imageOf_4 : decode cX3_imageOf 4 = .ok (.aload_n 0, 1) := by decide +kernel
theorem dX3_imageOf_5 : decode cX3_imageOf 5 = .ok (.getfield 24, 3) := by decide +kernel
theorem dX3_imageOf_8 : decode cX3_imageOf 8 = .ok (.iload_n 1, 1) := by decide +kernel
theorem dX3_imageOf_9 : decode cX3_imageOf 9 = .ok (.iconst 3, 1) := by decide +kernel
theorem dX3_imageOf_10 : decode cX3_imageOf 10 = .ok (.imul, 1) := by decide +kernel
theorem dX3_imageOf_11 : decode cX3_imageOf 11 = .ok (.iaload, 1) := by decide +kernel
theorem dX3_imageOf_12 : decode cX3_imageOf 12 = .ok (.iaload, 1) := by decide +kernel
theorem dX3_imageOf_13 : decode cX3_imageOf 13 = .ok (.ireturn, 1) := by decide +kernel
theorem dX3_numberOf_0 : decode cX3_numberOf 0 = .ok (.aload_n 0, 1) := by decide +kernel
theorem dX3_numberOf_1 : decode cX3_numberOf 1 = .ok (.getfield 27, 3) := by decide +kernel
theorem dX3_numberOf_4 : decode cX3_numberOf 4 = .ok (.iload_n 1, 1) := by decide +kernel
theorem dX3_numberOf_5 : decode cX3_numberOf 5 = .ok (.iconst 3, 1) := by decide +kernel
theorem dX3_numberOf_6 : decode cX3_numberOf 6 = .ok (.imul, 1) := by decide +kernel
theorem dX3_numberOf_7 : decode cX3_numberOf 7 = .ok (.iaload, 1) := by decide +kernel
theorem dX3_numberOf_8 : decode cX3_numberOf 8 = .ok (.ireturn, 1) := by decide +kernel
theorem dX3_modeOf_0 : decode cX3_modeOf 0 = .ok (.aload_n 0, 1) := by decide +kernel
theorem dX3_modeOf_1 : decode cX3_modeOf 1 = .ok (.iload_n 1, 1) := by decide +kernel
theorem dX3_modeOf_2 : decode cX3_modeOf 2 = .ok (.invokevirtual 52, 3) := by decide +kernel
theorem dX3_modeOf_5 : decode cX3_modeOf 5 = .ok (.aload_n 0, 1) := by decide +kernel
theorem dX3_modeOf_6 : decode cX3_modeOf 6 = .ok (.iload_n 1, 1) := by decide +kernel
theorem dX3_modeOf_7 : decode cX3_modeOf 7 = .ok (.invokevirtual 56, 3) := by decide +kernel
theorem dX3_modeOf_10 : decode cX3_modeOf 10 = .ok (.invokevirtual 63, 3) := by decide +kernel
theorem dX3_modeOf_13 : decode cX3_modeOf 13 = .ok (.ireturn, 1) := by decide +kernel
theorem dX3_ownerOf_0 : decode cX3_ownerOf 0 = .ok (.aload_n 0, 1) := by decide +kernel
theorem dX3_ownerOf_1 : decode cX3_ownerOf 1 = .ok (.iload_n 1, 1) := by decide +kernel
theorem dX3_ownerOf_2 : decode cX3_ownerOf 2 = .ok (.invokevirtual 52, 3) := by decide +kernel
theorem dX3_ownerOf_5 : decode cX3_ownerOf 5 = .ok (.aload_n 0, 1) := by decide +kernel
theorem dX3_ownerOf_6 : decode cX3_ownerOf 6 = .ok (.iload_n 1, 1) := by decide +kernel
theorem dX3_ownerOf_7 : decode cX3_ownerOf 7 = .ok (.invokevirtual 56, 3) := by decide +kernel
theorem dX3_ownerOf_10 : decode cX3_ownerOf 10 = .ok (.invokevirtual 66, 3) := by decide +kernel
theorem dX3_ownerOf_13 : decode cX3_ownerOf 13 = .ok (.ireturn, 1) := by decide +kernel
theorem dX3_depthOf_0 : decode cX3_depthOf 0 = .ok (.aload_n 0, 1) := by decide +kernel
theorem dX3_depthOf_1 : decode cX3_depthOf 1 = .ok (.getfield 21, 3) := by decide +kernel
theorem dX3_depthOf_4 : decode cX3_depthOf 4 = .ok (.iload_n 1, 1) := by decide +kernel
theorem dX3_depthOf_5 : decode cX3_depthOf 5 = .ok (.iaload, 1) := by decide +kernel
theorem dX3_depthOf_6 : decode cX3_depthOf 6 = .ok (.ireturn, 1) := by decide +kernel
theorem dX3_sizeOf_0 : decode cX3_sizeOf 0 = .ok (.aload_n 0, 1) := by decide +kernel
theorem dX3_sizeOf_1 : decode cX3_sizeOf 1 = .ok (.iload_n 1, 1) := by decide +kernel
theorem dX3_sizeOf_2 : decode cX3_sizeOf 2 = .ok (.invokevirtual 69, 3) := by decide +kernel
theorem dX3_sizeOf_5 : decode cX3_sizeOf 5 = .ok (.iconst 2, 1) := by decide +kernel
theorem dX3_sizeOf_6 : decode cX3_sizeOf 6 = .ok (.if_icmp .ne 17, 3) := by decide +kernel
theorem dX3_sizeOf_9 : decode cX3_sizeOf 9 = .ok (.aload_n 0, 1) := by decide +kernel
theorem dX3_sizeOf_10 : decode cX3_sizeOf 10 = .ok (.iload_n 1, 1) := by decide +kernel
theorem dX3_sizeOf_11 : decode cX3_sizeOf 11 = .ok (.invokevirtual 52, 3) := by decide +kernel
theorem dX3_sizeOf_14 : decode cX3_sizeOf 14 = .ok (.aload_n 0, 1) := by decide +kernel
theorem dX3_sizeOf_15 : decode cX3_sizeOf 15 = .ok (.iload_n 1, 1) := by decide +kernel
theorem dX3_sizeOf_16 : decode cX3_sizeOf 16 = .ok (.invokevirtual 56, 3) := by decide +kernel
theorem dX3_sizeOf_19 : decode cX3_sizeOf 19 = .ok (.invokevirtual 70, 3) := by decide +kernel
theorem dX3_sizeOf_22 : decode cX3_sizeOf 22 = .ok (.ireturn, 1) := by decide +kernel
theorem dX3_sizeOf_23 : decode cX3_sizeOf 23 = .ok (.aload_n 0, 1) := by decide +kernel
theorem dX3_sizeOf_24 : decode cX3_sizeOf 24 = .ok (.iload_n 1, 1) := by decide +kernel
theorem dX3_sizeOf_25 : decode cX3_sizeOf 25 = .ok (.iconst (-1), 1) := by decide +kernel
theorem dX3_sizeOf_26 : decode cX3_sizeOf 26 = .ok (.invokevirtual 73, 3) := by decide +kernel
theorem dX3_sizeOf_29 : decode cX3_sizeOf 29 = .ok (.pop, 1) := by decide +kernel
theorem dX3_sizeOf_30 : decode cX3_sizeOf 30 = .ok (.aload_n 0, 1) := by decide +kernel
theorem dX3_sizeOf_31 : decode cX3_sizeOf 31 = .ok (.getfield 77, 3) := by decide +kernel
theorem dX3_sizeOf_34 : decode cX3_sizeOf 34 = .ok (.ireturn, 1) := by decide +kernel
theorem dX3_nameBelow_0 : decode cX3_nameBelow 0 = .ok (.aload_n 0, 1) := by decide +kernel
theorem dX3_nameBelow_1 : decode cX3_nameBelow 1 = .ok (.getfield 36, 3) := by decide +kernel
theorem dX3_nameBelow_4 : decode cX3_nameBelow 4 = .ok (.iconst 0, 1) := by decide +kernel
theorem dX3_nameBelow_5 : decode cX3_nameBelow 5 = .ok (.invokestatic 80, 3) := by decide +kernel
theorem dX3_nameBelow_8 : decode cX3_nameBelow 8 = .ok (.aload_n 0, 1) := by decide +kernel
theorem dX3_nameBelow_9 : decode cX3_nameBelow 9 = .ok (.iconst 0, 1) := by decide +kernel
theorem dX3_nameBelow_10 : decode cX3_nameBelow 10 = .ok (.putfield 77, 3) := by decide +kernel
theorem dX3_nameBelow_13 : decode cX3_nameBelow 13 = .ok (.aload_n 0, 1) := by decide +kernel
theorem dX3_nameBelow_14 : decode cX3_nameBelow 14 = .ok (.iload_n 1, 1) := by decide +kernel
theorem dX3_nameBelow_15 : decode cX3_nameBelow 15 = .ok (.invokevirtual 86, 3) := by decide +kernel
theorem dX3_nameBelow_18 : decode cX3_nameBelow 18 = .ok (.istore_n 3, 1) := by decide +kernel
theorem dX3_nameBelow_19 : decode cX3_nameBelow 19 = .ok (.iconst 0, 1) := by decide +kernel
theorem dX3_nameBelow_20 : decode cX3_nameBelow 20 = .ok (.istore 4, 2) := by decide +kernel
theorem dX3_nameBelow_22 : decode cX3_nameBelow 22 = .ok (.iload 4, 2) := by decide +kernel
theorem dX3_nameBelow_24 : decode cX3_nameBelow 24 = .ok (.sipush 999, 3) := by decide +kernel
theorem dX3_nameBelow_27 : decode cX3_nameBelow 27 = .ok (.if_icmp .ge 49, 3) := by decide +kernel
theorem dX3_nameBelow_30 : decode cX3_nameBelow 30 = .ok (.iload_n 3, 1) := by decide +kernel
theorem dX3_nameBelow_31 : decode cX3_nameBelow 31 = .ok (.ifCond .eq 45, 3) := by decide +kernel
theorem dX3_nameBelow_34 : decode cX3_nameBelow 34 = .ok (.aload_n 0, 1) := by decide +kernel
theorem dX3_nameBelow_35 : decode cX3_nameBelow 35 = .ok (.iload_n 1, 1) := by decide +kernel
theorem dX3_nameBelow_36 : decode cX3_nameBelow 36 = .ok (.iload_n 3, 1) := by decide +kernel
theorem dX3_nameBelow_37 : decode cX3_nameBelow 37 = .ok (.invokevirtual 89, 3) := by decide +kernel
theorem dX3_nameBelow_40 : decode cX3_nameBelow 40 = .ok (.iconst 3, 1) := by decide +kernel
theorem dX3_nameBelow_41 : decode cX3_nameBelow 41 = .ok (.if_icmp .eq 23, 3) := by decide +kernel
theorem dX3_nameBelow_44 : decode cX3_nameBelow 44 = .ok (.aload_n 0, 1) := by decide +kernel
theorem dX3_nameBelow_45 : decode cX3_nameBelow 45 = .ok (.getfield 77, 3) := by decide +kernel
theorem dX3_nameBelow_48 : decode cX3_nameBelow 48 = .ok (.iload_n 2, 1) := by decide +kernel
theorem dX3_nameBelow_49 : decode cX3_nameBelow 49 = .ok (.if_icmp .ne 5, 3) := by decide +kernel
theorem dX3_nameBelow_52 : decode cX3_nameBelow 52 = .ok (.iload_n 3, 1) := by decide +kernel
theorem dX3_nameBelow_53 : decode cX3_nameBelow 53 = .ok (.ireturn, 1) := by decide +kernel
theorem dX3_nameBelow_54 : decode cX3_nameBelow 54 = .ok (.aload_n 0, 1) := by decide +kernel
theorem dX3_nameBelow_55 : decode cX3_nameBelow 55 = .ok (.dup, 1) := by decide +kernel
theorem dX3_nameBelow_56 : decode cX3_nameBelow 56 = .ok (.getfield 77, 3) := by decide +kernel
theorem dX3_nameBelow_59 : decode cX3_nameBelow 59 = .ok (.iconst 1, 1) := by decide +kernel
theorem dX3_nameBelow_60 : decode cX3_nameBelow 60 = .ok (.iadd, 1) := by decide +kernel
theorem dX3_nameBelow_61 : decode cX3_nameBelow 61 = .ok (.putfield 77, 3) := by decide +kernel
theorem dX3_nameBelow_64 : decode cX3_nameBelow 64 = .ok (.aload_n 0, 1) := by decide +kernel
theorem dX3_nameBelow_65 : decode cX3_nameBelow 65 = .ok (.iload_n 1, 1) := by decide +kernel
theorem dX3_nameBelow_66 : decode cX3_nameBelow 66 = .ok (.invokevirtual 86, 3) := by decide +kernel
theorem dX3_nameBelow_69 : decode cX3_nameBelow 69 = .ok (.istore_n 3, 1) := by decide +kernel
theorem dX3_nameBelow_70 : decode cX3_nameBelow 70 = .ok (.iinc 4 1, 3) := by decide +kernel
theorem dX3_nameBelow_73 : decode cX3_nameBelow 73 = .ok (.goto (-51), 3) := by decide +kernel
theorem dX3_nameBelow_76 : decode cX3_nameBelow 76 = .ok (.iconst 0, 1) := by decide +kernel
theorem dX3_nameBelow_77 : decode cX3_nameBelow 77 = .ok (.ireturn, 1) := by decide +kernel
theorem dX3_byteOf_0 : decode cX3_byteOf 0 = .ok (.aload_n 0, 1) := by decide +kernel
theorem dX3_byteOf_1 : decode cX3_byteOf 1 = .ok (.iload_n 1, 1) := by decide +kernel
theorem dX3_byteOf_2 : decode cX3_byteOf 2 = .ok (.invokevirtual 52, 3) := by decide +kernel
theorem dX3_byteOf_5 : decode cX3_byteOf 5 = .ok (.aload_n 0, 1) := by decide +kernel
theorem dX3_byteOf_6 : decode cX3_byteOf 6 = .ok (.iload_n 1, 1) := by decide +kernel
theorem dX3_byteOf_7 : decode cX3_byteOf 7 = .ok (.invokevirtual 56, 3) := by decide +kernel
theorem dX3_byteOf_10 : decode cX3_byteOf 10 = .ok (.iload_n 2, 1) := by decide +kernel
theorem dX3_byteOf_11 : decode cX3_byteOf 11 = .ok (.invokevirtual 92, 3) := by decide +kernel
theorem dX3_byteOf_14 : decode cX3_byteOf 14 = .ok (.ireturn, 1) := by decide +kernel
theorem dX3_lead_0 : decode cX3_lead 0 = .ok (.aload_n 0, 1) := by decide +kernel
theorem dX3_lead_1 : decode cX3_lead 1 = .ok (.iload_n 1, 1) := by decide +kernel
theorem dX3_lead_2 : decode cX3_lead 2 = .ok (.iload_n 2, 1) := by decide +kernel
theorem dX3_lead_3 : decode cX3_lead 3 = .ok (.invokevirtual 95, 3) := by decide +kernel
theorem dX3_lead_6 : decode cX3_lead 6 = .ok (.aload_n 0, 1) := by decide +kernel
theorem dX3_lead_7 : decode cX3_lead 7 = .ok (.getfield 99, 3) := by decide +kernel
theorem dX3_lead_10 : decode cX3_lead 10 = .ok (.ifCond .ne 5, 3) := by decide +kernel
theorem dX3_lead_13 : decode cX3_lead 13 = .ok (.iconst 0, 1) := by decide +kernel
theorem dX3_lead_14 : decode cX3_lead 14 = .ok (.ireturn, 1) := by decide +kernel
theorem dX3_lead_15 : decode cX3_lead 15 = .ok (.iconst 0, 1) := by decide +kernel
theorem dX3_lead_16 : decode cX3_lead 16 = .ok (.istore_n 3, 1) := by decide +kernel
theorem dX3_lead_17 : decode cX3_lead 17 = .ok (.iload_n 3, 1) := by decide +kernel
theorem dX3_lead_18 : decode cX3_lead 18 = .ok (.aload_n 0, 1) := by decide +kernel
theorem dX3_lead_19 : decode cX3_lead 19 = .ok (.getfield 49, 3) := by decide +kernel
theorem dX3_lead_22 : decode cX3_lead 22 = .ok (.if_icmp .ge 42, 3) := by decide +kernel
theorem dX3_lead_25 : decode cX3_lead 25 = .ok (.aload_n 0, 1) := by decide +kernel
theorem dX3_lead_26 : decode cX3_lead 26 = .ok (.getfield 24, 3) := by decide +kernel
theorem dX3_lead_29 : decode cX3_lead 29 = .ok (.iload_n 3, 1) := by decide +kernel
theorem dX3_lead_30 : decode cX3_lead 30 = .ok (.iconst 3, 1) := by decide +kernel
theorem dX3_lead_31 : decode cX3_lead 31 = .ok (.imul, 1) := by decide +kernel
theorem dX3_lead_32 : decode cX3_lead 32 = .ok (.iaload, 1) := by decide +kernel
theorem dX3_lead_33 : decode cX3_lead 33 = .ok (.aload_n 0, 1) := by decide +kernel
theorem dX3_lead_34 : decode cX3_lead 34 = .ok (.getfield 30, 3) := by decide +kernel
theorem dX3_lead_37 : decode cX3_lead 37 = .ok (.iconst 0, 1) := by decide +kernel
theorem dX3_lead_38 : decode cX3_lead 38 = .ok (.iaload, 1) := by decide +kernel
theorem dX3_lead_39 : decode cX3_lead 39 = .ok (.if_icmp .ne 19, 3) := by decide +kernel
theorem dX3_lead_42 : decode cX3_lead 42 = .ok (.aload_n 0, 1) := by decide +kernel
theorem dX3_lead_43 : decode cX3_lead 43 = .ok (.iload_n 3, 1) := by decide +kernel
theorem dX3_lead_44 : decode cX3_lead 44 = .ok (.invokevirtual 56, 3) := by decide +kernel
theorem dX3_lead_47 : decode cX3_lead 47 = .ok (.aload_n 0, 1) := by decide +kernel
theorem dX3_lead_48 : decode cX3_lead 48 = .ok (.getfield 33, 3) := by decide +kernel
theorem dX3_lead_51 : decode cX3_lead 51 = .ok (.iconst 0, 1) := by decide +kernel
theorem dX3_lead_52 : decode cX3_lead 52 = .ok (.iaload, 1) := by decide +kernel
theorem dX3_lead_53 : decode cX3_lead 53 = .ok (.if_icmp .ne 5, 3) := by decide +kernel
theorem dX3_lead_56 : decode cX3_lead 56 = .ok (.iload_n 3, 1) := by decide +kernel
theorem dX3_lead_57 : decode cX3_lead 57 = .ok (.ireturn, 1) := by decide +kernel
theorem dX3_lead_58 : decode cX3_lead 58 = .ok (.iinc 3 1, 3) := by decide +kernel
theorem dX3_lead_61 : decode cX3_lead 61 = .ok (.goto (-44), 3) := by decide +kernel
theorem dX3_lead_64 : decode cX3_lead 64 = .ok (.aload_n 0, 1) := by decide +kernel
theorem dX3_lead_65 : decode cX3_lead 65 = .ok (.getfield 49, 3) := by decide +kernel
theorem dX3_lead_68 : decode cX3_lead 68 = .ok (.bipush 60, 2) := by decide +kernel
theorem dX3_lead_70 : decode cX3_lead 70 = .ok (.if_icmp .lt 6, 3) := by decide +kernel
theorem dX3_lead_73 : decode cX3_lead 73 = .ok (.bipush (-4), 2) := by decide +kernel
theorem dX3_lead_75 : decode cX3_lead 75 = .ok (.ireturn, 1) := by decide +kernel
theorem dX3_lead_76 : decode cX3_lead 76 = .ok (.aload_n 0, 1) := by decide +kernel
theorem dX3_lead_77 : decode cX3_lead 77 = .ok (.invokevirtual 102, 3) := by decide +kernel
theorem dX3_lead_80 : decode cX3_lead 80 = .ok (.aload_n 0, 1) := by decide +kernel
theorem dX3_lead_81 : decode cX3_lead 81 = .ok (.getfield 49, 3) := by decide +kernel
theorem dX3_lead_84 : decode cX3_lead 84 = .ok (.iconst 1, 1) := by decide +kernel
theorem dX3_lead_85 : decode cX3_lead 85 = .ok (.isub, 1) := by decide +kernel
theorem dX3_lead_86 : decode cX3_lead 86 = .ok (.ireturn, 1) := by decide +kernel
theorem dX3_upperImage_0 : decode cX3_upperImage 0 = .ok (.aload_n 0, 1) := by decide +kernel
theorem dX3_upperImage_1 : decode cX3_upperImage 1 = .ok (.getfield 17, 3) := by decide +kernel
theorem dX3_upperImage_4 : decode cX3_upperImage 4 = .ok (.aload_n 0, 1) := by decide +kernel
theorem dX3_upperImage_5 : decode cX3_upperImage 5 = .ok (.getfield 24, 3) := by decide +kernel
theorem dX3_upperImage_8 : decode cX3_upperImage 8 = .ok (.iload_n 1, 1) := by decide +kernel
theorem dX3_upperImage_9 : decode cX3_upperImage 9 = .ok (.iconst 3, 1) := by decide +kernel
theorem dX3_upperImage_10 : decode cX3_upperImage 10 = .ok (.imul, 1) := by decide +kernel
theorem dX3_upperImage_11 : decode cX3_upperImage 11 = .ok (.iaload, 1) := by decide +kernel
theorem dX3_upperImage_12 : decode cX3_upperImage 12 = .ok (.aaload, 1) := by decide +kernel
theorem dX3_upperImage_13 : decode cX3_upperImage 13 = .ok (.areturn, 1) := by decide +kernel
theorem dX3_startViews_0 : decode cX3_startViews 0 = .ok (.aload_n 0, 1) := by decide +kernel
theorem dX3_startViews_1 : decode cX3_startViews 1 = .ok (.iconst 0, 1) := by decide +kernel
theorem dX3_startViews_2 : decode cX3_startViews 2 = .ok (.putfield 49, 3) := by decide +kernel
theorem dX3_startViews_5 : decode cX3_startViews 5 = .ok (.aload_n 0, 1) := by decide +kernel
theorem dX3_startViews_6 : decode cX3_startViews 6 = .ok (.iconst 0, 1) := by decide +kernel
theorem dX3_startViews_7 : decode cX3_startViews 7 = .ok (.putfield 99, 3) := by decide +kernel
theorem dX3_startViews_10 : decode cX3_startViews 10 = .ok (.aload_n 0, 1) := by decide +kernel
theorem dX3_startViews_11 : decode cX3_startViews 11 = .ok (.getfield 42, 3) := by decide +kernel
theorem dX3_startViews_14 : decode cX3_startViews 14 = .ok (.iconst 1, 1) := by decide +kernel
theorem dX3_startViews_15 : decode cX3_startViews 15 = .ok (.isub, 1) := by decide +kernel
theorem dX3_startViews_16 : decode cX3_startViews 16 = .ok (.istore_n 1, 1) := by decide +kernel
theorem dX3_startViews_17 : decode cX3_startViews 17 = .ok (.iload_n 1, 1) := by decide +kernel
theorem dX3_startViews_18 : decode cX3_startViews 18 = .ok (.ifCond .lt 15, 3) := by decide +kernel
theorem dX3_startViews_21 : decode cX3_startViews 21 = .ok (.aload_n 0, 1) := by decide +kernel
theorem dX3_startViews_22 : decode cX3_startViews 22 = .ok (.iload_n 1, 1) := by decide +kernel
theorem dX3_startViews_23 : decode cX3_startViews 23 = .ok (.iconst 1, 1) := by decide +kernel
theorem dX3_startViews_24 : decode cX3_startViews 24 = .ok (.invokevirtual 105, 3) := by decide +kernel
theorem dX3_startViews_27 : decode cX3_startViews 27 = .ok (.iinc 1 (-1), 3) := by decide +kernel
theorem dX3_startViews_30 : decode cX3_startViews 30 = .ok (.goto (-13), 3) := by decide +kernel
theorem dX3_startViews_33 : decode cX3_startViews 33 = .ok (.aload_n 0, 1) := by decide +kernel
theorem dX3_startViews_34 : decode cX3_startViews 34 = .ok (.invokevirtual 102, 3) := by decide +kernel
theorem dX3_startViews_37 : decode cX3_startViews 37 = .ok (.return_, 1) := by decide +kernel
theorem dX3_addToFound_0 : decode cX3_addToFound 0 = .ok (.aload_n 0, 1) := by decide +kernel
theorem dX3_addToFound_1 : decode cX3_addToFound 1 = .ok (.getfield 99, 3) := by decide +kernel
theorem dX3_addToFound_4 : decode cX3_addToFound 4 = .ok (.iconst 3, 1) := by decide +kernel
theorem dX3_addToFound_5 : decode cX3_addToFound 5 = .ok (.if_icmp .ge 33, 3) := by decide +kernel
theorem dX3_addToFound_8 : decode cX3_addToFound 8 = .ok (.aload_n 0, 1) := by decide +kernel
theorem dX3_addToFound_9 : decode cX3_addToFound 9 = .ok (.getfield 30, 3) := by decide +kernel
theorem dX3_addToFound_12 : decode cX3_addToFound 12 = .ok (.aload_n 0, 1) := by decide +kernel
theorem dX3_addToFound_13 : decode cX3_addToFound 13 = .ok (.getfield 99, 3) := by decide +kernel
theorem dX3_addToFound_16 : decode cX3_addToFound 16 = .ok (.iload_n 1, 1) := by decide +kernel
theorem dX3_addToFound_17 : decode cX3_addToFound 17 = .ok (.iastore, 1) := by decide +kernel
theorem dX3_addToFound_18 : decode cX3_addToFound 18 = .ok (.aload_n 0, 1) := by decide +kernel
theorem dX3_addToFound_19 : decode cX3_addToFound 19 = .ok (.getfield 33, 3) := by decide +kernel
theorem dX3_addToFound_22 : decode cX3_addToFound 22 = .ok (.aload_n 0, 1) := by decide +kernel
theorem dX3_addToFound_23 : decode cX3_addToFound 23 = .ok (.getfield 99, 3) := by decide +kernel
theorem dX3_addToFound_26 : decode cX3_addToFound 26 = .ok (.iload_n 2, 1) := by decide +kernel
theorem dX3_addToFound_27 : decode cX3_addToFound 27 = .ok (.iastore, 1) := by decide +kernel
theorem dX3_addToFound_28 : decode cX3_addToFound 28 = .ok (.aload_n 0, 1) := by decide +kernel
theorem dX3_addToFound_29 : decode cX3_addToFound 29 = .ok (.dup, 1) := by decide +kernel
theorem dX3_addToFound_30 : decode cX3_addToFound 30 = .ok (.getfield 99, 3) := by decide +kernel
theorem dX3_addToFound_33 : decode cX3_addToFound 33 = .ok (.iconst 1, 1) := by decide +kernel
theorem dX3_addToFound_34 : decode cX3_addToFound 34 = .ok (.iadd, 1) := by decide +kernel
theorem dX3_addToFound_35 : decode cX3_addToFound 35 = .ok (.putfield 99, 3) := by decide +kernel
theorem dX3_addToFound_38 : decode cX3_addToFound 38 = .ok (.return_, 1) := by decide +kernel
theorem dX3_addFound_0 : decode cX3_addFound 0 = .ok (.iconst 0, 1) := by decide +kernel
theorem dX3_addFound_1 : decode cX3_addFound 1 = .ok (.istore_n 1, 1) := by decide +kernel
theorem dX3_addFound_2 : decode cX3_addFound 2 = .ok (.iload_n 1, 1) := by decide +kernel
theorem dX3_addFound_3 : decode cX3_addFound 3 = .ok (.aload_n 0, 1) := by decide +kernel
theorem dX3_addFound_4 : decode cX3_addFound 4 = .ok (.getfield 99, 3) := by decide +kernel
theorem dX3_addFound_7 : decode cX3_addFound 7 = .ok (.if_icmp .ge 47, 3) := by decide +kernel
theorem dX3_addFound_10 : decode cX3_addFound 10 = .ok (.aload_n 0, 1) := by decide +kernel
theorem dX3_addFound_11 : decode cX3_addFound 11 = .ok (.getfield 24, 3) := by decide +kernel
theorem dX3_addFound_14 : decode cX3_addFound 14 = .ok (.aload_n 0, 1) := by decide +kernel
theorem dX3_addFound_15 : decode cX3_addFound 15 = .ok (.getfield 49, 3) := by decide +kernel
theorem dX3_addFound_18 : decode cX3_addFound 18 = .ok (.iconst 3, 1) := by decide +kernel
theorem dX3_addFound_19 : decode cX3_addFound 19 = .ok (.imul, 1) := by decide +kernel
theorem dX3_addFound_20 : decode cX3_addFound 20 = .ok (.iload_n 1, 1) := by decide +kernel
theorem dX3_addFound_21 : decode cX3_addFound 21 = .ok (.iadd, 1) := by decide +kernel
theorem dX3_addFound_22 : decode cX3_addFound 22 = .ok (.aload_n 0, 1) := by decide +kernel
theorem dX3_addFound_23 : decode cX3_addFound 23 = .ok (.getfield 30, 3) := by decide +kernel
theorem dX3_addFound_26 : decode cX3_addFound 26 = .ok (.iload_n 1, 1) := by decide +kernel
theorem dX3_addFound_27 : decode cX3_addFound 27 = .ok (.iaload, 1) := by decide +kernel
theorem dX3_addFound_28 : decode cX3_addFound 28 = .ok (.iastore, 1) := by decide +kernel
theorem dX3_addFound_29 : decode cX3_addFound 29 = .ok (.aload_n 0, 1) := by decide +kernel
theorem dX3_addFound_30 : decode cX3_addFound 30 = .ok (.getfield 27, 3) := by decide +kernel
theorem dX3_addFound_33 : decode cX3_addFound 33 = .ok (.aload_n 0, 1) := by decide +kernel
theorem dX3_addFound_34 : decode cX3_addFound 34 = .ok (.getfield 49, 3) := by decide +kernel
theorem dX3_addFound_37 : decode cX3_addFound 37 = .ok (.iconst 3, 1) := by decide +kernel
theorem dX3_addFound_38 : decode cX3_addFound 38 = .ok (.imul, 1) := by decide +kernel
theorem dX3_addFound_39 : decode cX3_addFound 39 = .ok (.iload_n 1, 1) := by decide +kernel
theorem dX3_addFound_40 : decode cX3_addFound 40 = .ok (.iadd, 1) := by decide +kernel
theorem dX3_addFound_41 : decode cX3_addFound 41 = .ok (.aload_n 0, 1) := by decide +kernel
theorem dX3_addFound_42 : decode cX3_addFound 42 = .ok (.getfield 33, 3) := by decide +kernel
theorem dX3_addFound_45 : decode cX3_addFound 45 = .ok (.iload_n 1, 1) := by decide +kernel
theorem dX3_addFound_46 : decode cX3_addFound 46 = .ok (.iaload, 1) := by decide +kernel
theorem dX3_addFound_47 : decode cX3_addFound 47 = .ok (.iastore, 1) := by decide +kernel
theorem dX3_addFound_48 : decode cX3_addFound 48 = .ok (.iinc 1 1, 3) := by decide +kernel
theorem dX3_addFound_51 : decode cX3_addFound 51 = .ok (.goto (-49), 3) := by decide +kernel
theorem dX3_addFound_54 : decode cX3_addFound 54 = .ok (.aload_n 0, 1) := by decide +kernel
theorem dX3_addFound_55 : decode cX3_addFound 55 = .ok (.getfield 21, 3) := by decide +kernel
theorem dX3_addFound_58 : decode cX3_addFound 58 = .ok (.aload_n 0, 1) := by decide +kernel
theorem dX3_addFound_59 : decode cX3_addFound 59 = .ok (.getfield 49, 3) := by decide +kernel
theorem dX3_addFound_62 : decode cX3_addFound 62 = .ok (.aload_n 0, 1) := by decide +kernel
theorem dX3_addFound_63 : decode cX3_addFound 63 = .ok (.getfield 99, 3) := by decide +kernel
theorem dX3_addFound_66 : decode cX3_addFound 66 = .ok (.iastore, 1) := by decide +kernel
theorem dX3_addFound_67 : decode cX3_addFound 67 = .ok (.aload_n 0, 1) := by decide +kernel
theorem dX3_addFound_68 : decode cX3_addFound 68 = .ok (.dup, 1) := by decide +kernel
theorem dX3_addFound_69 : decode cX3_addFound 69 = .ok (.getfield 49, 3) := by decide +kernel
theorem dX3_addFound_72 : decode cX3_addFound 72 = .ok (.iconst 1, 1) := by decide +kernel
theorem dX3_addFound_73 : decode cX3_addFound 73 = .ok (.iadd, 1) := by decide +kernel
theorem dX3_addFound_74 : decode cX3_addFound 74 = .ok (.putfield 49, 3) := by decide +kernel
theorem dX3_addFound_77 : decode cX3_addFound 77 = .ok (.return_, 1) := by decide +kernel
theorem dX3_find_0 : decode cX3_find 0 = .ok (.aload_n 0, 1) := by decide +kernel
theorem dX3_find_1 : decode cX3_find 1 = .ok (.iconst 0, 1) := by decide +kernel
theorem dX3_find_2 : decode cX3_find 2 = .ok (.putfield 99, 3) := by decide +kernel
theorem dX3_find_5 : decode cX3_find 5 = .ok (.iconst 0, 1) := by decide +kernel
theorem dX3_find_6 : decode cX3_find 6 = .ok (.istore_n 3, 1) := by decide +kernel
theorem dX3_find_7 : decode cX3_find 7 = .ok (.iload_n 3, 1) := by decide +kernel
theorem dX3_find_8 : decode cX3_find 8 = .ok (.aload_n 0, 1) := by decide +kernel
theorem dX3_find_9 : decode cX3_find 9 = .ok (.getfield 21, 3) := by decide +kernel
theorem dX3_find_12 : decode cX3_find 12 = .ok (.iload_n 1, 1) := by decide +kernel
theorem dX3_find_13 : decode cX3_find 13 = .ok (.iaload, 1) := by decide +kernel
theorem dX3_find_14 : decode cX3_find 14 = .ok (.if_icmp .ge 96, 3) := by decide +kernel
theorem dX3_find_17 : decode cX3_find 17 = .ok (.aload_n 0, 1) := by decide +kernel
theorem dX3_find_18 : decode cX3_find 18 = .ok (.getfield 24, 3) := by decide +kernel
theorem dX3_find_21 : decode cX3_find 21 = .ok (.iload_n 1, 1) := by decide +kernel
theorem dX3_find_22 : decode cX3_find 22 = .ok (.iconst 3, 1) := by decide +kernel
theorem dX3_find_23 : decode cX3_find 23 = .ok (.imul, 1) := by decide +kernel
theorem dX3_find_24 : decode cX3_find 24 = .ok (.iload_n 3, 1) := by decide +kernel
theorem dX3_find_25 : decode cX3_find 25 = .ok (.iadd, 1) := by decide +kernel
theorem dX3_find_26 : decode cX3_find 26 = .ok (.iaload, 1) := by decide +kernel
theorem dX3_find_27 : decode cX3_find 27 = .ok (.istore 4, 2) := by decide +kernel
theorem dX3_find_29 : decode cX3_find 29 = .ok (.aload_n 0, 1) := by decide +kernel
theorem dX3_find_30 : decode cX3_find 30 = .ok (.getfield 17, 3) := by decide +kernel
theorem dX3_find_33 : decode cX3_find 33 = .ok (.iload 4, 2) := by decide +kernel
theorem dX3_find_35 : decode cX3_find 35 = .ok (.aaload, 1) := by decide +kernel
theorem dX3_find_36 : decode cX3_find 36 = .ok (.astore 5, 2) := by decide +kernel
theorem dX3_find_38 : decode cX3_find 38 = .ok (.aload 5, 2) := by decide +kernel
theorem dX3_find_40 : decode cX3_find 40 = .ok (.aload_n 0, 1) := by decide +kernel
theorem dX3_find_41 : decode cX3_find 41 = .ok (.getfield 27, 3) := by decide +kernel
theorem dX3_find_44 : decode cX3_find 44 = .ok (.iload_n 1, 1) := by decide +kernel
theorem dX3_find_45 : decode cX3_find 45 = .ok (.iconst 3, 1) := by decide +kernel
theorem dX3_find_46 : decode cX3_find 46 = .ok (.imul, 1) := by decide +kernel
theorem dX3_find_47 : decode cX3_find 47 = .ok (.iload_n 3, 1) := by decide +kernel
theorem dX3_find_48 : decode cX3_find 48 = .ok (.iadd, 1) := by decide +kernel
theorem dX3_find_49 : decode cX3_find 49 = .ok (.iaload, 1) := by decide +kernel
theorem dX3_find_50 : decode cX3_find 50 = .ok (.iload_n 2, 1) := by decide +kernel
theorem dX3_find_51 : decode cX3_find 51 = .ok (.invokevirtual 108, 3) := by decide +kernel
theorem dX3_find_54 : decode cX3_find 54 = .ok (.istore 6, 2) := by decide +kernel
theorem dX3_find_56 : decode cX3_find 56 = .ok (.iload 6, 2) := by decide +kernel
theorem dX3_find_58 : decode cX3_find 58 = .ok (.ifCond .eq 46, 3) := by decide +kernel
theorem dX3_find_61 : decode cX3_find 61 = .ok (.aload 5, 2) := by decide +kernel
theorem dX3_find_63 : decode cX3_find 63 = .ok (.iload 6, 2) := by decide +kernel
theorem dX3_find_65 : decode cX3_find 65 = .ok (.invokevirtual 60, 3) := by decide +kernel
theorem dX3_find_68 : decode cX3_find 68 = .ok (.istore 7, 2) := by decide +kernel
theorem dX3_find_70 : decode cX3_find 70 = .ok (.iload 7, 2) := by decide +kernel
theorem dX3_find_72 : decode cX3_find 72 = .ok (.iconst 1, 1) := by decide +kernel
theorem dX3_find_73 : decode cX3_find 73 = .ok (.if_icmp .eq 16, 3) := by decide +kernel
theorem dX3_find_76 : decode cX3_find 76 = .ok (.iload 7, 2) := by decide +kernel
theorem dX3_find_78 : decode cX3_find 78 = .ok (.iconst 2, 1) := by decide +kernel
theorem dX3_find_79 : decode cX3_find 79 = .ok (.if_icmp .ne 18, 3) := by decide +kernel
theorem dX3_find_82 : decode cX3_find 82 = .ok (.aload_n 0, 1) := by decide +kernel
theorem dX3_find_83 : decode cX3_find 83 = .ok (.getfield 99, 3) := by decide +kernel
theorem dX3_find_86 : decode cX3_find 86 = .ok (.ifCond .ne 11, 3) := by decide +kernel
theorem dX3_find_89 : decode cX3_find 89 = .ok (.aload_n 0, 1) := by decide +kernel
theorem dX3_find_90 : decode cX3_find 90 = .ok (.iload 4, 2) := by decide +kernel
theorem dX3_find_92 : decode cX3_find 92 = .ok (.iload 6, 2) := by decide +kernel
theorem dX3_find_94 : decode cX3_find 94 = .ok (.invokevirtual 105, 3) := by decide +kernel
theorem dX3_find_97 : decode cX3_find 97 = .ok (.iload 7, 2) := by decide +kernel
theorem dX3_find_99 : decode cX3_find 99 = .ok (.iconst 1, 1) := by decide +kernel
theorem dX3_find_100 : decode cX3_find 100 = .ok (.if_icmp .eq 4, 3) := by decide +kernel
theorem dX3_find_103 : decode cX3_find 103 = .ok (.return_, 1) := by decide +kernel
theorem dX3_find_104 : decode cX3_find 104 = .ok (.iinc 3 1, 3) := by decide +kernel
theorem dX3_find_107 : decode cX3_find 107 = .ok (.goto (-100), 3) := by decide +kernel
theorem dX3_find_110 : decode cX3_find 110 = .ok (.return_, 1) := by decide +kernel
theorem dX3_nextName_0 : decode cX3_nextName 0 = .ok (.iconst 0, 1) := by decide +kernel
theorem dX3_nextName_1 : decode cX3_nextName 1 = .ok (.istore_n 2, 1) := by decide +kernel
theorem dX3_nextName_2 : decode cX3_nextName 2 = .ok (.iconst 0, 1) := by decide +kernel
theorem dX3_nextName_3 : decode cX3_nextName 3 = .ok (.istore_n 3, 1) := by decide +kernel
theorem dX3_nextName_4 : decode cX3_nextName 4 = .ok (.iload_n 3, 1) := by decide +kernel
theorem dX3_nextName_5 : decode cX3_nextName 5 = .ok (.aload_n 0, 1) := by decide +kernel
theorem dX3_nextName_6 : decode cX3_nextName 6 = .ok (.getfield 21, 3) := by decide +kernel
theorem dX3_nextName_9 : decode cX3_nextName 9 = .ok (.iload_n 1, 1) := by decide +kernel
theorem dX3_nextName_10 : decode cX3_nextName 10 = .ok (.iaload, 1) := by decide +kernel
theorem dX3_nextName_11 : decode cX3_nextName 11 = .ok (.if_icmp .ge 94, 3) := by decide +kernel
theorem dX3_nextName_14 : decode cX3_nextName 14 = .ok (.aload_n 0, 1) := by decide +kernel
theorem dX3_nextName_15 : decode cX3_nextName 15 = .ok (.getfield 17, 3) := by decide +kernel
theorem dX3_nextName_18 : decode cX3_nextName 18 = .ok (.aload_n 0, 1) := by decide +kernel
theorem dX3_nextName_19 : decode cX3_nextName 19 = .ok (.getfield 24, 3) := by decide +kernel
theorem dX3_nextName_22 : decode cX3_nextName 22 = .ok (.iload_n 1, 1) := by decide +kernel
theorem dX3_nextName_23 : decode cX3_nextName 23 = .ok (.iconst 3, 1) := by decide +kernel
theorem dX3_nextName_24 : decode cX3_nextName 24 = .ok (.imul, 1) := by decide +kernel
theorem dX3_nextName_25 : decode cX3_nextName 25 = .ok (.iload_n 3, 1) := by decide +kernel
theorem dX3_nextName_26 : decode cX3_nextName 26 = .ok (.iadd, 1) := by decide +kernel
theorem dX3_nextName_27 : decode cX3_nextName 27 = .ok (.iaload, 1) := by decide +kernel
theorem dX3_nextName_28 : decode cX3_nextName 28 = .ok (.aaload, 1) := by decide +kernel
theorem dX3_nextName_29 : decode cX3_nextName 29 = .ok (.astore 4, 2) := by decide +kernel
theorem dX3_nextName_31 : decode cX3_nextName 31 = .ok (.aload_n 0, 1) := by decide +kernel
theorem dX3_nextName_32 : decode cX3_nextName 32 = .ok (.getfield 27, 3) := by decide +kernel
theorem dX3_nextName_35 : decode cX3_nextName 35 = .ok (.iload_n 1, 1) := by decide +kernel
theorem dX3_nextName_36 : decode cX3_nextName 36 = .ok (.iconst 3, 1) := by decide +kernel
theorem dX3_nextName_37 : decode cX3_nextName 37 = .ok (.imul, 1) := by decide +kernel
theorem dX3_nextName_38 : decode cX3_nextName 38 = .ok (.iload_n 3, 1) := by decide +kernel
theorem dX3_nextName_39 : decode cX3_nextName 39 = .ok (.iadd, 1) := by decide +kernel
theorem dX3_nextName_40 : decode cX3_nextName 40 = .ok (.iaload, 1) := by decide +kernel
theorem dX3_nextName_41 : decode cX3_nextName 41 = .ok (.istore 5, 2) := by decide +kernel
theorem dX3_nextName_43 : decode cX3_nextName 43 = .ok (.aload_n 0, 1) := by decide +kernel
theorem dX3_nextName_44 : decode cX3_nextName 44 = .ok (.getfield 36, 3) := by decide +kernel
theorem dX3_nextName_47 : decode cX3_nextName 47 = .ok (.iload_n 3, 1) := by decide +kernel
theorem dX3_nextName_48 : decode cX3_nextName 48 = .ok (.iaload, 1) := by decide +kernel
theorem dX3_nextName_49 : decode cX3_nextName 49 = .ok (.aload 4, 2) := by decide +kernel
theorem dX3_nextName_51 : decode cX3_nextName 51 = .ok (.iload 5, 2) := by decide +kernel
theorem dX3_nextName_53 : decode cX3_nextName 53 = .ok (.invokevirtual 70, 3) := by decide +kernel
theorem dX3_nextName_56 : decode cX3_nextName 56 = .ok (.if_icmp .ge 43, 3) := by decide +kernel
theorem dX3_nextName_59 : decode cX3_nextName 59 = .ok (.aload 4, 2) := by decide +kernel
theorem dX3_nextName_61 : decode cX3_nextName 61 = .ok (.aload 4, 2) := by decide +kernel
theorem dX3_nextName_63 : decode cX3_nextName 63 = .ok (.iload 5, 2) := by decide +kernel
theorem dX3_nextName_65 : decode cX3_nextName 65 = .ok (.invokevirtual 111, 3) := by decide +kernel
theorem dX3_nextName_68 : decode cX3_nextName 68 = .ok (.iconst 4, 1) := by decide +kernel
theorem dX3_nextName_69 : decode cX3_nextName 69 = .ok (.aload_n 0, 1) := by decide +kernel
theorem dX3_nextName_70 : decode cX3_nextName 70 = .ok (.getfield 36, 3) := by decide +kernel
theorem dX3_nextName_73 : decode cX3_nextName 73 = .ok (.iload_n 3, 1) := by decide +kernel
theorem dX3_nextName_74 : decode cX3_nextName 74 = .ok (.iaload, 1) := by decide +kernel
theorem dX3_nextName_75 : decode cX3_nextName 75 = .ok (.imul, 1) := by decide +kernel
theorem dX3_nextName_76 : decode cX3_nextName 76 = .ok (.iadd, 1) := by decide +kernel
theorem dX3_nextName_77 : decode cX3_nextName 77 = .ok (.invokevirtual 114, 3) := by decide +kernel
theorem dX3_nextName_80 : decode cX3_nextName 80 = .ok (.istore 6, 2) := by decide +kernel
theorem dX3_nextName_82 : decode cX3_nextName 82 = .ok (.iload_n 2, 1) := by decide +kernel
theorem dX3_nextName_83 : decode cX3_nextName 83 = .ok (.ifCond .eq 9, 3) := by decide +kernel
theorem dX3_nextName_86 : decode cX3_nextName 86 = .ok (.iload 6, 2) := by decide +kernel
theorem dX3_nextName_88 : decode cX3_nextName 88 = .ok (.iload_n 2, 1) := by decide +kernel
theorem dX3_nextName_89 : decode cX3_nextName 89 = .ok (.if_icmp .ge 8, 3) := by decide +kernel
theorem dX3_nextName_92 : decode cX3_nextName 92 = .ok (.iload 6, 2) := by decide +kernel
theorem dX3_nextName_94 : decode cX3_nextName 94 = .ok (.goto 4, 3) := by decide +kernel
theorem dX3_nextName_97 : decode cX3_nextName 97 = .ok (.iload_n 2, 1) := by decide +kernel
theorem dX3_nextName_98 : decode cX3_nextName 98 = .ok (.istore_n 2, 1) := by decide +kernel
theorem dX3_nextName_99 : decode cX3_nextName 99 = .ok (.iinc 3 1, 3) := by decide +kernel
theorem dX3_nextName_102 : decode cX3_nextName 102 = .ok (.goto (-98), 3) := by decide +kernel
theorem dX3_nextName_105 : decode cX3_nextName 105 = .ok (.iload_n 2, 1) := by decide +kernel
theorem dX3_nextName_106 : decode cX3_nextName 106 = .ok (.ireturn, 1) := by decide +kernel
theorem dX3_passName_0 : decode cX3_passName 0 = .ok (.iconst 0, 1) := by decide +kernel
theorem dX3_passName_1 : decode cX3_passName 1 = .ok (.istore_n 3, 1) := by decide +kernel
theorem dX3_passName_2 : decode cX3_passName 2 = .ok (.iconst 0, 1) := by decide +kernel
theorem dX3_passName_3 : decode cX3_passName 3 = .ok (.istore 4, 2) := by decide +kernel
theorem dX3_passName_5 : decode cX3_passName 5 = .ok (.iload 4, 2) := by decide +kernel
theorem dX3_passName_7 : decode cX3_passName 7 = .ok (.aload_n 0, 1) := by decide +kernel
theorem dX3_passName_8 : decode cX3_passName 8 = .ok (.getfield 21, 3) := by decide +kernel
theorem dX3_passName_11 : decode cX3_passName 11 = .ok (.iload_n 1, 1) := by decide +kernel
theorem dX3_passName_12 : decode cX3_passName 12 = .ok (.iaload, 1) := by decide +kernel
theorem dX3_passName_13 : decode cX3_passName 13 = .ok (.if_icmp .ge 121, 3) := by decide +kernel
theorem dX3_passName_16 : decode cX3_passName 16 = .ok (.aload_n 0, 1) := by decide +kernel
theorem dX3_passName_17 : decode cX3_passName 17 = .ok (.getfield 17, 3) := by decide +kernel
theorem dX3_passName_20 : decode cX3_passName 20 = .ok (.aload_n 0, 1) := by decide +kernel
theorem dX3_passName_21 : decode cX3_passName 21 = .ok (.getfield 24, 3) := by decide +kernel
theorem dX3_passName_24 : decode cX3_passName 24 = .ok (.iload_n 1, 1) := by decide +kernel
theorem dX3_passName_25 : decode cX3_passName 25 = .ok (.iconst 3, 1) := by decide +kernel
theorem dX3_passName_26 : decode cX3_passName 26 = .ok (.imul, 1) := by decide +kernel
theorem dX3_passName_27 : decode cX3_passName 27 = .ok (.iload 4, 2) := by decide +kernel
theorem dX3_passName_29 : decode cX3_passName 29 = .ok (.iadd, 1) := by decide +kernel
theorem dX3_passName_30 : decode cX3_passName 30 = .ok (.iaload, 1) := by decide +kernel
theorem dX3_passName_31 : decode cX3_passName 31 = .ok (.aaload, 1) := by decide +kernel
theorem dX3_passName_32 : decode cX3_passName 32 = .ok (.astore 5, 2) := by decide +kernel
theorem dX3_passName_34 : decode cX3_passName 34 = .ok (.aload_n 0, 1) := by decide +kernel
theorem dX3_passName_35 : decode cX3_passName 35 = .ok (.getfield 27, 3) := by decide +kernel
theorem dX3_passName_38 : decode cX3_passName 38 = .ok (.iload_n 1, 1) := by decide +kernel
theorem dX3_passName_39 : decode cX3_passName 39 = .ok (.iconst 3, 1) := by decide +kernel
theorem dX3_passName_40 : decode cX3_passName 40 = .ok (.imul, 1) := by decide +kernel
theorem dX3_passName_41 : decode cX3_passName 41 = .ok (.iload 4, 2) := by decide +kernel
theorem dX3_passName_43 : decode cX3_passName 43 = .ok (.iadd, 1) := by decide +kernel
theorem dX3_passName_44 : decode cX3_passName 44 = .ok (.iaload, 1) := by decide +kernel
theorem dX3_passName_45 : decode cX3_passName 45 = .ok (.istore 6, 2) := by decide +kernel
theorem dX3_passName_47 : decode cX3_passName 47 = .ok (.aload 5, 2) := by decide +kernel
theorem dX3_passName_49 : decode cX3_passName 49 = .ok (.iload 6, 2) := by decide +kernel
theorem dX3_passName_51 : decode cX3_passName 51 = .ok (.invokevirtual 111, 3) := by decide +kernel
theorem dX3_passName_54 : decode cX3_passName 54 = .ok (.iconst 4, 1) := by decide +kernel
theorem dX3_passName_55 : decode cX3_passName 55 = .ok (.aload_n 0, 1) := by decide +kernel
theorem dX3_passName_56 : decode cX3_passName 56 = .ok (.getfield 36, 3) := by decide +kernel
theorem dX3_passName_59 : decode cX3_passName 59 = .ok (.iload 4, 2) := by decide +kernel
theorem dX3_passName_61 : decode cX3_passName 61 = .ok (.iaload, 1) := by decide +kernel
theorem dX3_passName_62 : decode cX3_passName 62 = .ok (.imul, 1) := by decide +kernel
theorem dX3_passName_63 : decode cX3_passName 63 = .ok (.iadd, 1) := by decide +kernel
theorem dX3_passName_64 : decode cX3_passName 64 = .ok (.istore 7, 2) := by decide +kernel
theorem dX3_passName_66 : decode cX3_passName 66 = .ok (.aload_n 0, 1) := by decide +kernel
theorem dX3_passName_67 : decode cX3_passName 67 = .ok (.getfield 36, 3) := by decide +kernel
theorem dX3_passName_70 : decode cX3_passName 70 = .ok (.iload 4, 2) := by decide +kernel
theorem dX3_passName_72 : decode cX3_passName 72 = .ok (.iaload, 1) := by decide +kernel
theorem dX3_passName_73 : decode cX3_passName 73 = .ok (.aload 5, 2) := by decide +kernel
theorem dX3_passName_75 : decode cX3_passName 75 = .ok (.iload 6, 2) := by decide +kernel
theorem dX3_passName_77 : decode cX3_passName 77 = .ok (.invokevirtual 70, 3) := by decide +kernel
theorem dX3_passName_80 : decode cX3_passName 80 = .ok (.if_icmp .ge 48, 3) := by decide +kernel
theorem dX3_passName_83 : decode cX3_passName 83 = .ok (.aload 5, 2) := by decide +kernel
theorem dX3_passName_85 : decode cX3_passName 85 = .ok (.iload 7, 2) := by decide +kernel
theorem dX3_passName_87 : decode cX3_passName 87 = .ok (.invokevirtual 114, 3) := by decide +kernel
theorem dX3_passName_90 : decode cX3_passName 90 = .ok (.iload_n 2, 1) := by decide +kernel
theorem dX3_passName_91 : decode cX3_passName 91 = .ok (.if_icmp .ne 37, 3) := by decide +kernel
theorem dX3_passName_94 : decode cX3_passName 94 = .ok (.aload_n 0, 1) := by decide +kernel
theorem dX3_passName_95 : decode cX3_passName 95 = .ok (.getfield 36, 3) := by decide +kernel
theorem dX3_passName_98 : decode cX3_passName 98 = .ok (.iload 4, 2) := by decide +kernel
theorem dX3_passName_100 : decode cX3_passName 100 = .ok (.dup2, 1) := by decide +kernel
theorem dX3_passName_101 : decode cX3_passName 101 = .ok (.iaload, 1) := by decide +kernel
theorem dX3_passName_102 : decode cX3_passName 102 = .ok (.iconst 1, 1) := by decide +kernel
theorem dX3_passName_103 : decode cX3_passName 103 = .ok (.iadd, 1) := by decide +kernel
theorem dX3_passName_104 : decode cX3_passName 104 = .ok (.iastore, 1) := by decide +kernel
theorem dX3_passName_105 : decode cX3_passName 105 = .ok (.iload_n 3, 1) := by decide +kernel
theorem dX3_passName_106 : decode cX3_passName 106 = .ok (.ifCond .ne 20, 3) := by decide +kernel
theorem dX3_passName_109 : decode cX3_passName 109 = .ok (.aload 5, 2) := by decide +kernel
theorem dX3_passName_111 : decode cX3_passName 111 = .ok (.aload 5, 2) := by decide +kernel
theorem dX3_passName_113 : decode cX3_passName 113 = .ok (.iload 7, 2) := by decide +kernel
theorem dX3_passName_115 : decode cX3_passName 115 = .ok (.iconst 2, 1) := by decide +kernel
theorem dX3_passName_116 : decode cX3_passName 116 = .ok (.iadd, 1) := by decide +kernel
theorem dX3_passName_117 : decode cX3_passName 117 = .ok (.invokevirtual 114, 3) := by decide +kernel
theorem dX3_passName_120 : decode cX3_passName 120 = .ok (.invokevirtual 60, 3) := by decide +kernel
theorem dX3_passName_123 : decode cX3_passName 123 = .ok (.goto 4, 3) := by decide +kernel
theorem dX3_passName_126 : decode cX3_passName 126 = .ok (.iload_n 3, 1) := by decide +kernel
theorem dX3_passName_127 : decode cX3_passName 127 = .ok (.istore_n 3, 1) := by decide +kernel
theorem dX3_passName_128 : decode cX3_passName 128 = .ok (.iinc 4 1, 3) := by decide +kernel
theorem dX3_passName_131 : decode cX3_passName 131 = .ok (.goto (-126), 3) := by decide +kernel
theorem dX3_passName_134 : decode cX3_passName 134 = .ok (.iload_n 3, 1) := by decide +kernel
theorem dX3_passName_135 : decode cX3_passName 135 = .ok (.ireturn, 1) := by decide +kernel
