theorem dX2_init_0 : decode cX2_init 0 = .ok (.aload_n 0, 1) := by decide +kernel
theorem dX2_init_1 : decode cX2_init 1 = .ok (.invokespecial 3, 3) := by decide +kernel
theorem dX2_init_4 : decode cX2_init 4 = .ok (.aload_n 0, 1) := by decide +kernel
theorem dX2_init_5 : decode cX2_init 5 = .ok (.sipush 498, 3) := by decide +kernel
theorem dX2_init_8 : decode cX2_init 8 = .ok (.newarray .int, 2) := by decide +kernel
theorem dX2_init_10 : decode cX2_init 10 = .ok (.putfield 9, 3) := by decide +kernel
theorem dX2_init_13 : decode cX2_init 13 = .ok (.return_, 1) := by decide +kernel
theorem dX2_firstFault_0 : decode cX2_firstFault 0 = .ok (.aload_n 1, 1) := by decide +kernel
theorem dX2_firstFault_1 : decode cX2_firstFault 1 = .ok (.invokevirtual 15, 3) := by decide +kernel
theorem dX2_firstFault_4 : decode cX2_firstFault 4 = .ok (.aload_n 1, 1) := by decide +kernel
theorem dX2_firstFault_5 : decode cX2_firstFault 5 = .ok (.invokestatic 20, 3) := by decide +kernel
theorem dX2_firstFault_8 : decode cX2_firstFault 8 = .ok (.ifCond .ne 5, 3) := by decide +kernel
theorem dX2_firstFault_11 : decode cX2_firstFault 11 = .ok (.iconst 1, 1) := by decide +kernel
theorem dX2_firstFault_12 : decode cX2_firstFault 12 = .ok (.ireturn, 1) := by decide +kernel
theorem dX2_firstFault_13 : decode cX2_firstFault 13 = .ok (.aload_n 1, 1) := by decide +kernel
theorem dX2_firstFault_14 : decode cX2_firstFault 14 = .ok (.invokestatic 24, 3) := by decide +kernel
theorem dX2_firstFault_17 : decode cX2_firstFault 17 = .ok (.ifCond .ne 5, 3) := by decide +kernel
theorem dX2_firstFault_20 : decode cX2_firstFault 20 = .ok (.iconst 2, 1) := by decide +kernel
theorem dX2_firstFault_21 : decode cX2_firstFault 21 = .ok (.ireturn, 1) := by decide +kernel
theorem dX2_firstFault_22 : decode cX2_firstFault 22 = .ok (.aload_n 1, 1) := by decide +kernel
theorem dX2_firstFault_23 : decode cX2_firstFault 23 = .ok (.bipush 16, 2) := by decide +kernel
theorem dX2_firstFault_25 : decode cX2_firstFault 25 = .ok (.invokevirtual 27, 3) := by decide +kernel
theorem dX2_firstFault_28 : decode cX2_firstFault 28 = .ok (.aload_n 1, 1) := by decide +kernel
theorem dX2_firstFault_29 : decode cX2_firstFault 29 = .ok (.invokevirtual 31, 3) := by decide +kernel
theorem dX2_firstFault_32 : decode cX2_firstFault 32 = .ok (.if_icmp .eq 5, 3) := by decide +kernel
theorem dX2_firstFault_35 : decode cX2_firstFault 35 = .ok (.iconst 3, 1) := by decide +kernel
theorem dX2_firstFault_36 : decode cX2_firstFault 36 = .ok (.ireturn, 1) := by decide +kernel
theorem dX2_firstFault_37 : decode cX2_firstFault 37 = .ok (.aload_n 1, 1) := by decide +kernel
theorem dX2_firstFault_38 : decode cX2_firstFault 38 = .ok (.invokestatic 35, 3) := by decide +kernel
theorem dX2_firstFault_41 : decode cX2_firstFault 41 = .ok (.ifCond .ne 5, 3) := by decide +kernel
theorem dX2_firstFault_44 : decode cX2_firstFault 44 = .ok (.iconst 4, 1) := by decide +kernel
theorem dX2_firstFault_45 : decode cX2_firstFault 45 = .ok (.ireturn, 1) := by decide +kernel
theorem dX2_firstFault_46 : decode cX2_firstFault 46 = .ok (.aload_n 1, 1) := by decide +kernel
theorem dX2_firstFault_47 : decode cX2_firstFault 47 = .ok (.invokestatic 38, 3) := by decide +kernel
theorem dX2_firstFault_50 : decode cX2_firstFault 50 = .ok (.ifCond .ne 5, 3) := by decide +kernel
theorem dX2_firstFault_53 : decode cX2_firstFault 53 = .ok (.iconst 5, 1) := by decide +kernel
theorem dX2_firstFault_54 : decode cX2_firstFault 54 = .ok (.ireturn, 1) := by decide +kernel
theorem dX2_firstFault_55 : decode cX2_firstFault 55 = .ok (.aload_n 1, 1) := by decide +kernel
theorem dX2_firstFault_56 : decode cX2_firstFault 56 = .ok (.invokestatic 41, 3) := by decide +kernel
theorem dX2_firstFault_59 : decode cX2_firstFault 59 = .ok (.ifCond .ne 6, 3) := by decide +kernel
theorem dX2_firstFault_62 : decode cX2_firstFault 62 = .ok (.bipush 6, 2) := by decide +kernel
theorem dX2_firstFault_64 : decode cX2_firstFault 64 = .ok (.ireturn, 1) := by decide +kernel
theorem dX2_firstFault_65 : decode cX2_firstFault 65 = .ok (.aload_n 0, 1) := by decide +kernel
theorem dX2_firstFault_66 : decode cX2_firstFault 66 = .ok (.aload_n 1, 1) := by decide +kernel
theorem dX2_firstFault_67 : decode cX2_firstFault 67 = .ok (.invokevirtual 44, 3) := by decide +kernel
theorem dX2_firstFault_70 : decode cX2_firstFault 70 = .ok (.ifCond .eq 7, 3) := by decide +kernel
theorem dX2_firstFault_73 : decode cX2_firstFault 73 = .ok (.iconst 0, 1) := by decide +kernel
theorem dX2_firstFault_74 : decode cX2_firstFault 74 = .ok (.goto 5, 3) := by decide +kernel
theorem dX2_firstFault_77 : decode cX2_firstFault 77 = .ok (.bipush 7, 2) := by decide +kernel
theorem dX2_firstFault_79 : decode cX2_firstFault 79 = .ok (.ireturn, 1) := by decide +kernel
theorem dX2_isHeadRight_0 : decode cX2_isHeadRight 0 = .ok (.aload_n 0, 1) := by decide +kernel
theorem dX2_isHeadRight_1 : decode cX2_isHeadRight 1 = .ok (.getfield 47, 3) := by decide +kernel
theorem dX2_isHeadRight_4 : decode cX2_isHeadRight 4 = .ok (.bipush 18, 2) := by decide +kernel
theorem dX2_isHeadRight_6 : decode cX2_isHeadRight 6 = .ok (.if_icmp .lt 45, 3) := by decide +kernel
theorem dX2_isHeadRight_9 : decode cX2_isHeadRight 9 = .ok (.aload_n 0, 1) := by decide +kernel
theorem dX2_isHeadRight_10 : decode cX2_isHeadRight 10 = .ok (.iconst 0, 1) := by decide +kernel
theorem dX2_isHeadRight_11 : decode cX2_isHeadRight 11 = .ok (.invokevirtual 51, 3) := by decide +kernel
theorem dX2_isHeadRight_14 : decode cX2_isHeadRight 14 = .ok (.bipush 84, 2) := by decide +kernel
theorem dX2_isHeadRight_16 : decode cX2_isHeadRight 16 = .ok (.if_icmp .ne 35, 3) := by decide +kernel
theorem dX2_isHeadRight_19 : decode cX2_isHeadRight 19 = .ok (.aload_n 0, 1) := by decide +kernel
theorem dX2_isHeadRight_20 : decode cX2_isHeadRight 20 = .ok (.iconst 1, 1) := by decide +kernel
theorem dX2_isHeadRight_21 : decode cX2_isHeadRight 21 = .ok (.invokevirtual 51, 3) := by decide +kernel
theorem dX2_isHeadRight_24 : decode cX2_isHeadRight 24 = .ok (.bipush 73, 2) := by decide +kernel
theorem dX2_isHeadRight_26 : decode cX2_isHeadRight 26 = .ok (.if_icmp .ne 25, 3) := by decide +kernel
theorem dX2_isHeadRight_29 : decode cX2_isHeadRight 29 = .ok (.aload_n 0, 1) := by decide +kernel
theorem dX2_isHeadRight_30 : decode cX2_isHeadRight 30 = .ok (.getfield 54, 3) := by decide +kernel
theorem dX2_isHeadRight_33 : decode cX2_isHeadRight 33 = .ok (.invokestatic 57, 3) := by decide +kernel
theorem dX2_isHeadRight_36 : decode cX2_isHeadRight 36 = .ok (.ifCond .eq 15, 3) := by decide +kernel
theorem dX2_isHeadRight_39 : decode cX2_isHeadRight 39 = .ok (.aload_n 0, 1) := by decide +kernel
theorem dX2_isHeadRight_40 : decode cX2_isHeadRight 40 = .ok (.iconst 3, 1) := by decide +kernel
theorem dX2_isHeadRight_41 : decode cX2_isHeadRight 41 = .ok (.invokevirtual 51, 3) := by decide +kernel
theorem dX2_isHeadRight_44 : decode cX2_isHeadRight 44 = .ok (.ifCond .ne 7, 3) := by decide +kernel
theorem dX2_isHeadRight_47 : decode cX2_isHeadRight 47 = .ok (.iconst 1, 1) := by decide +kernel
theorem dX2_isHeadRight_48 : decode cX2_isHeadRight 48 = .ok (.goto 4, 3) := by decide +kernel
theorem dX2_isHeadRight_51 : decode cX2_isHeadRight 51 = .ok (.iconst 0, 1) := by decide +kernel
theorem dX2_isHeadRight_52 : decode cX2_isHeadRight 52 = .ok (.ireturn, 1) := by decide +kernel
theorem dX2_arePlacesRight_0 : decode cX2_arePlacesRight 0 = .ok (.aload_n 0, 1) := by decide +kernel
theorem dX2_arePlacesRight_1 : decode cX2_arePlacesRight 1 = .ok (.bipush 14, 2) := by decide +kernel
theorem dX2_arePlacesRight_3 : decode cX2_arePlacesRight 3 = .ok (.invokevirtual 27, 3) := by decide +kernel
theorem dX2_arePlacesRight_6 : decode cX2_arePlacesRight 6 = .ok (.aload_n 0, 1) := by decide +kernel
theorem dX2_arePlacesRight_7 : decode cX2_arePlacesRight 7 = .ok (.getfield 47, 3) := by decide +kernel
theorem dX2_arePlacesRight_10 : decode cX2_arePlacesRight 10 = .ok (.if_icmp .ne 75, 3) := by decide +kernel
theorem dX2_arePlacesRight_13 : decode cX2_arePlacesRight 13 = .ok (.bipush 18, 2) := by decide +kernel
theorem dX2_arePlacesRight_15 : decode cX2_arePlacesRight 15 = .ok (.aload_n 0, 1) := by decide +kernel
theorem dX2_arePlacesRight_16 : decode cX2_arePlacesRight 16 = .ok (.getfield 61, 3) := by decide +kernel
theorem dX2_arePlacesRight_19 : decode cX2_arePlacesRight 19 = .ok (.if_icmp .gt 66, 3) := by decide +kernel
theorem dX2_arePlacesRight_22 : decode cX2_arePlacesRight 22 = .ok (.aload_n 0, 1) := by decide +kernel
theorem dX2_arePlacesRight_23 : decode cX2_arePlacesRight 23 = .ok (.getfield 61, 3) := by decide +kernel
theorem dX2_arePlacesRight_26 : decode cX2_arePlacesRight 26 = .ok (.aload_n 0, 1) := by decide +kernel
theorem dX2_arePlacesRight_27 : decode cX2_arePlacesRight 27 = .ok (.getfield 64, 3) := by decide +kernel
theorem dX2_arePlacesRight_30 : decode cX2_arePlacesRight 30 = .ok (.if_icmp .gt 55, 3) := by decide +kernel
theorem dX2_arePlacesRight_33 : decode cX2_arePlacesRight 33 = .ok (.aload_n 0, 1) := by decide +kernel
theorem dX2_arePlacesRight_34 : decode cX2_arePlacesRight 34 = .ok (.getfield 64, 3) := by decide +kernel
theorem dX2_arePlacesRight_37 : decode cX2_arePlacesRight 37 = .ok (.aload_n 0, 1) := by decide +kernel
theorem dX2_arePlacesRight_38 : decode cX2_arePlacesRight 38 = .ok (.getfield 67, 3) := by decide +kernel
theorem dX2_arePlacesRight_41 : decode cX2_arePlacesRight 41 = .ok (.if_icmp .gt 44, 3) := by decide +kernel
theorem dX2_arePlacesRight_44 : decode cX2_arePlacesRight 44 = .ok (.aload_n 0, 1) := by decide +kernel
theorem dX2_arePlacesRight_45 : decode cX2_arePlacesRight 45 = .ok (.getfield 67, 3) := by decide +kernel
theorem dX2_arePlacesRight_48 : decode cX2_arePlacesRight 48 = .ok (.aload_n 0, 1) := by decide +kernel
theorem dX2_arePlacesRight_49 : decode cX2_arePlacesRight 49 = .ok (.getfield 70, 3) := by decide +kernel
theorem dX2_arePlacesRight_52 : decode cX2_arePlacesRight 52 = .ok (.if_icmp .gt 33, 3) := by decide +kernel
theorem dX2_arePlacesRight_55 : decode cX2_arePlacesRight 55 = .ok (.aload_n 0, 1) := by decide +kernel
theorem dX2_arePlacesRight_56 : decode cX2_arePlacesRight 56 = .ok (.getfield 73, 3) := by decide +kernel
theorem dX2_arePlacesRight_59 : decode cX2_arePlacesRight 59 = .ok (.iconst 1, 1) := by decide +kernel
theorem dX2_arePlacesRight_60 : decode cX2_arePlacesRight 60 = .ok (.if_icmp .lt 25, 3) := by decide +kernel
theorem dX2_arePlacesRight_63 : decode cX2_arePlacesRight 63 = .ok (.aload_n 0, 1) := by decide +kernel
theorem dX2_arePlacesRight_64 : decode cX2_arePlacesRight 64 = .ok (.getfield 70, 3) := by decide +kernel
theorem dX2_arePlacesRight_67 : decode cX2_arePlacesRight 67 = .ok (.iconst 2, 1) := by decide +kernel
theorem dX2_arePlacesRight_68 : decode cX2_arePlacesRight 68 = .ok (.aload_n 0, 1) := by decide +kernel
theorem dX2_arePlacesRight_69 : decode cX2_arePlacesRight 69 = .ok (.getfield 73, 3) := by decide +kernel
theorem dX2_arePlacesRight_72 : decode cX2_arePlacesRight 72 = .ok (.imul, 1) := by decide +kernel
theorem dX2_arePlacesRight_73 : decode cX2_arePlacesRight 73 = .ok (.iadd, 1) := by decide +kernel
theorem dX2_arePlacesRight_74 : decode cX2_arePlacesRight 74 = .ok (.aload_n 0, 1) := by decide +kernel
theorem dX2_arePlacesRight_75 : decode cX2_arePlacesRight 75 = .ok (.getfield 47, 3) := by decide +kernel
theorem dX2_arePlacesRight_78 : decode cX2_arePlacesRight 78 = .ok (.if_icmp .ne 7, 3) := by decide +kernel
theorem dX2_arePlacesRight_81 : decode cX2_arePlacesRight 81 = .ok (.iconst 1, 1) := by decide +kernel
theorem dX2_arePlacesRight_82 : decode cX2_arePlacesRight 82 = .ok (.goto 4, 3) := by decide +kernel
theorem dX2_arePlacesRight_85 : decode cX2_arePlacesRight 85 = .ok (.iconst 0, 1) := by decide +kernel
theorem dX2_arePlacesRight_86 : decode cX2_arePlacesRight 86 = .ok (.ireturn, 1) := by decide +kernel
theorem dX2_areTailsRight_0 : decode cX2_areTailsRight 0 = .ok (.aload_n 0, 1) := by decide +kernel
theorem dX2_areTailsRight_1 : decode cX2_areTailsRight 1 = .ok (.invokevirtual 76, 3) := by decide +kernel
theorem dX2_areTailsRight_4 : decode cX2_areTailsRight 4 = .ok (.istore_n 1, 1) := by decide +kernel
theorem dX2_areTailsRight_5 : decode cX2_areTailsRight 5 = .ok (.aload_n 0, 1) := by decide +kernel
theorem dX2_areTailsRight_6 : decode cX2_areTailsRight 6 = .ok (.iload_n 1, 1) := by decide +kernel
theorem dX2_areTailsRight_7 : decode cX2_areTailsRight 7 = .ok (.invokevirtual 79, 3) := by decide +kernel
theorem dX2_areTailsRight_10 : decode cX2_areTailsRight 10 = .ok (.aload_n 0, 1) := by decide +kernel
theorem dX2_areTailsRight_11 : decode cX2_areTailsRight 11 = .ok (.getfield 70, 3) := by decide +kernel
theorem dX2_areTailsRight_14 : decode cX2_areTailsRight 14 = .ok (.if_icmp .eq 5, 3) := by decide +kernel
theorem dX2_areTailsRight_17 : decode cX2_areTailsRight 17 = .ok (.iconst 0, 1) := by decide +kernel
theorem dX2_areTailsRight_18 : decode cX2_areTailsRight 18 = .ok (.ireturn, 1) := by decide +kernel
theorem dX2_areTailsRight_19 : decode cX2_areTailsRight 19 = .ok (.iconst 0, 1) := by decide +kernel
theorem dX2_areTailsRight_20 : decode cX2_areTailsRight 20 = .ok (.istore_n 2, 1) := by decide +kernel
theorem dX2_areTailsRight_21 : decode cX2_areTailsRight 21 = .ok (.iload_n 2, 1) := by decide +kernel
theorem dX2_areTailsRight_22 : decode cX2_areTailsRight 22 = .ok (.iload_n 1, 1) := by decide +kernel
theorem dX2_areTailsRight_23 : decode cX2_areTailsRight 23 = .ok (.if_icmp .ge 62, 3) := by decide +kernel
theorem dX2_areTailsRight_26 : decode cX2_areTailsRight 26 = .ok (.aload_n 0, 1) := by decide +kernel
theorem dX2_areTailsRight_27 : decode cX2_areTailsRight 27 = .ok (.iload_n 2, 1) := by decide +kernel
theorem dX2_areTailsRight_28 : decode cX2_areTailsRight 28 = .ok (.invokevirtual 79, 3) := by decide +kernel
theorem dX2_areTailsRight_31 : decode cX2_areTailsRight 31 = .ok (.istore_n 3, 1) := by decide +kernel
theorem dX2_areTailsRight_32 : decode cX2_areTailsRight 32 = .ok (.aload_n 0, 1) := by decide +kernel
theorem dX2_areTailsRight_33 : decode cX2_areTailsRight 33 = .ok (.iload_n 3, 1) := by decide +kernel
theorem dX2_areTailsRight_34 : decode cX2_areTailsRight 34 = .ok (.iconst 4, 1) := by decide +kernel
theorem dX2_areTailsRight_35 : decode cX2_areTailsRight 35 = .ok (.iadd, 1) := by decide +kernel
theorem dX2_areTailsRight_36 : decode cX2_areTailsRight 36 = .ok (.invokevirtual 51, 3) := by decide +kernel
theorem dX2_areTailsRight_39 : decode cX2_areTailsRight 39 = .ok (.istore 4, 2) := by decide +kernel
theorem dX2_areTailsRight_41 : decode cX2_areTailsRight 41 = .ok (.iload 4, 2) := by decide +kernel
theorem dX2_areTailsRight_43 : decode cX2_areTailsRight 43 = .ok (.iconst 1, 1) := by decide +kernel
theorem dX2_areTailsRight_44 : decode cX2_areTailsRight 44 = .ok (.if_icmp .lt 33, 3) := by decide +kernel
theorem dX2_areTailsRight_47 : decode cX2_areTailsRight 47 = .ok (.iload 4, 2) := by decide +kernel
theorem dX2_areTailsRight_49 : decode cX2_areTailsRight 49 = .ok (.aload_n 0, 1) := by decide +kernel
theorem dX2_areTailsRight_50 : decode cX2_areTailsRight 50 = .ok (.getfield 54, 3) := by decide +kernel
theorem dX2_areTailsRight_53 : decode cX2_areTailsRight 53 = .ok (.if_icmp .gt 24, 3) := by decide +kernel
theorem dX2_areTailsRight_56 : decode cX2_areTailsRight 56 = .ok (.aload_n 0, 1) := by decide +kernel
theorem dX2_areTailsRight_57 : decode cX2_areTailsRight 57 = .ok (.aload_n 0, 1) := by decide +kernel
theorem dX2_areTailsRight_58 : decode cX2_areTailsRight 58 = .ok (.iload_n 3, 1) := by decide +kernel
theorem dX2_areTailsRight_59 : decode cX2_areTailsRight 59 = .ok (.invokevirtual 27, 3) := by decide +kernel
theorem dX2_areTailsRight_62 : decode cX2_areTailsRight 62 = .ok (.aload_n 0, 1) := by decide +kernel
theorem dX2_areTailsRight_63 : decode cX2_areTailsRight 63 = .ok (.iload_n 3, 1) := by decide +kernel
theorem dX2_areTailsRight_64 : decode cX2_areTailsRight 64 = .ok (.iconst 2, 1) := by decide +kernel
theorem dX2_areTailsRight_65 : decode cX2_areTailsRight 65 = .ok (.iadd, 1) := by decide +kernel
theorem dX2_areTailsRight_66 : decode cX2_areTailsRight 66 = .ok (.invokevirtual 27, 3) := by decide +kernel
theorem dX2_areTailsRight_69 : decode cX2_areTailsRight 69 = .ok (.iload 4, 2) := by decide +kernel
theorem dX2_areTailsRight_71 : decode cX2_areTailsRight 71 = .ok (.invokevirtual 82, 3) := by decide +kernel
theorem dX2_areTailsRight_74 : decode cX2_areTailsRight 74 = .ok (.ifCond .ne 5, 3) := by decide +kernel
theorem dX2_areTailsRight_77 : decode cX2_areTailsRight 77 = .ok (.iconst 0, 1) := by decide +kernel
theorem dX2_areTailsRight_78 : decode cX2_areTailsRight 78 = .ok (.ireturn, 1) := by decide +kernel
theorem dX2_areTailsRight_79 : decode cX2_areTailsRight 79 = .ok (.iinc 2 1, 3) := by decide +kernel
theorem dX2_areTailsRight_82 : decode cX2_areTailsRight 82 = .ok (.goto (-61), 3) := by decide +kernel
theorem dX2_areTailsRight_85 : decode cX2_areTailsRight 85 = .ok (.iconst 1, 1) := by decide +kernel
theorem dX2_areTailsRight_86 : decode cX2_areTailsRight 86 = .ok (.ireturn, 1) := by decide +kernel
theorem dX2_areInodesRight_0 : decode cX2_areInodesRight 0 = .ok (.aload_n 0, 1) := by decide +kernel
theorem dX2_areInodesRight_1 : decode cX2_areInodesRight 1 = .ok (.getfield 61, 3) := by decide +kernel
theorem dX2_areInodesRight_4 : decode cX2_areInodesRight 4 = .ok (.istore_n 1, 1) := by decide +kernel
theorem dX2_areInodesRight_5 : decode cX2_areInodesRight 5 = .ok (.iconst 1, 1) := by decide +kernel
theorem dX2_areInodesRight_6 : decode cX2_areInodesRight 6 = .ok (.istore_n 2, 1) := by decide +kernel
theorem dX2_areInodesRight_7 : decode cX2_areInodesRight 7 = .ok (.iload_n 2, 1) := by decide +kernel
theorem dX2_areInodesRight_8 : decode cX2_areInodesRight 8 = .ok (.aload_n 0, 1) := by decide +kernel
theorem dX2_areInodesRight_9 : decode cX2_areInodesRight 9 = .ok (.getfield 73, 3) := by decide +kernel
theorem dX2_areInodesRight_12 : decode cX2_areInodesRight 12 = .ok (.if_icmp .gt 63, 3) := by decide +kernel
theorem dX2_areInodesRight_15 : decode cX2_areInodesRight 15 = .ok (.aload_n 0, 1) := by decide +kernel
theorem dX2_areInodesRight_16 : decode cX2_areInodesRight 16 = .ok (.iload_n 1, 1) := by decide +kernel
theorem dX2_areInodesRight_17 : decode cX2_areInodesRight 17 = .ok (.invokestatic 86, 3) := by decide +kernel
theorem dX2_areInodesRight_20 : decode cX2_areInodesRight 20 = .ok (.istore_n 3, 1) := by decide +kernel
theorem dX2_areInodesRight_21 : decode cX2_areInodesRight 21 = .ok (.aload_n 0, 1) := by decide +kernel
theorem dX2_areInodesRight_22 : decode cX2_areInodesRight 22 = .ok (.iload_n 2, 1) := by decide +kernel
theorem dX2_areInodesRight_23 : decode cX2_areInodesRight 23 = .ok (.invokevirtual 90, 3) := by decide +kernel
theorem dX2_areInodesRight_26 : decode cX2_areInodesRight 26 = .ok (.iload_n 1, 1) := by decide +kernel
theorem dX2_areInodesRight_27 : decode cX2_areInodesRight 27 = .ok (.if_icmp .ne 17, 3) := by decide +kernel
theorem dX2_areInodesRight_30 : decode cX2_areInodesRight 30 = .ok (.iload_n 3, 1) := by decide +kernel
theorem dX2_areInodesRight_31 : decode cX2_areInodesRight 31 = .ok (.ifCond .eq 13, 3) := by decide +kernel
theorem dX2_areInodesRight_34 : decode cX2_areInodesRight 34 = .ok (.iload_n 1, 1) := by decide +kernel
theorem dX2_areInodesRight_35 : decode cX2_areInodesRight 35 = .ok (.iload_n 3, 1) := by decide +kernel
theorem dX2_areInodesRight_36 : decode cX2_areInodesRight 36 = .ok (.iadd, 1) := by decide +kernel
theorem dX2_areInodesRight_37 : decode cX2_areInodesRight 37 = .ok (.aload_n 0, 1) := by decide +kernel
theorem dX2_areInodesRight_38 : decode cX2_areInodesRight 38 = .ok (.getfield 64, 3) := by decide +kernel
theorem dX2_areInodesRight_41 : decode cX2_areInodesRight 41 = .ok (.if_icmp .le 5, 3) := by decide +kernel
theorem dX2_areInodesRight_44 : decode cX2_areInodesRight 44 = .ok (.iconst 0, 1) := by decide +kernel
theorem dX2_areInodesRight_45 : decode cX2_areInodesRight 45 = .ok (.ireturn, 1) := by decide +kernel
theorem dX2_areInodesRight_46 : decode cX2_areInodesRight 46 = .ok (.aload_n 0, 1) := by decide +kernel
theorem dX2_areInodesRight_47 : decode cX2_areInodesRight 47 = .ok (.iload_n 1, 1) := by decide +kernel
theorem dX2_areInodesRight_48 : decode cX2_areInodesRight 48 = .ok (.invokevirtual 51, 3) := by decide +kernel
theorem dX2_areInodesRight_51 : decode cX2_areInodesRight 51 = .ok (.iconst 2, 1) := by decide +kernel
theorem dX2_areInodesRight_52 : decode cX2_areInodesRight 52 = .ok (.if_icmp .ne 13, 3) := by decide +kernel
theorem dX2_areInodesRight_55 : decode cX2_areInodesRight 55 = .ok (.aload_n 0, 1) := by decide +kernel
theorem dX2_areInodesRight_56 : decode cX2_areInodesRight 56 = .ok (.iload_n 1, 1) := by decide +kernel
theorem dX2_areInodesRight_57 : decode cX2_areInodesRight 57 = .ok (.invokestatic 93, 3) := by decide +kernel
theorem dX2_areInodesRight_60 : decode cX2_areInodesRight 60 = .ok (.ifCond .ne 5, 3) := by decide +kernel
theorem dX2_areInodesRight_63 : decode cX2_areInodesRight 63 = .ok (.iconst 0, 1) := by decide +kernel
theorem dX2_areInodesRight_64 : decode cX2_areInodesRight 64 = .ok (.ireturn, 1) := by decide +kernel
theorem dX2_areInodesRight_65 : decode cX2_areInodesRight 65 = .ok (.iload_n 1, 1) := by decide +kernel
theorem dX2_areInodesRight_66 : decode cX2_areInodesRight 66 = .ok (.iload_n 3, 1) := by decide +kernel
theorem dX2_areInodesRight_67 : decode cX2_areInodesRight 67 = .ok (.iadd, 1) := by decide +kernel
theorem dX2_areInodesRight_68 : decode cX2_areInodesRight 68 = .ok (.istore_n 1, 1) := by decide +kernel
theorem dX2_areInodesRight_69 : decode cX2_areInodesRight 69 = .ok (.iinc 2 1, 3) := by decide +kernel
theorem dX2_areInodesRight_72 : decode cX2_areInodesRight 72 = .ok (.goto (-65), 3) := by decide +kernel
theorem dX2_areInodesRight_75 : decode cX2_areInodesRight 75 = .ok (.iload_n 1, 1) := by decide +kernel
theorem dX2_areInodesRight_76 : decode cX2_areInodesRight 76 = .ok (.aload_n 0, 1) := by decide +kernel
theorem dX2_areInodesRight_77 : decode cX2_areInodesRight 77 = .ok (.getfield 64, 3) := by decide +kernel
theorem dX2_areInodesRight_80 : decode cX2_areInodesRight 80 = .ok (.if_icmp .ne 7, 3) := by decide +kernel
theorem dX2_areInodesRight_83 : decode cX2_areInodesRight 83 = .ok (.iconst 1, 1) := by decide +kernel
theorem dX2_areInodesRight_84 : decode cX2_areInodesRight 84 = .ok (.goto 4, 3) := by decide +kernel
theorem dX2_areInodesRight_87 : decode cX2_areInodesRight 87 = .ok (.iconst 0, 1) := by decide +kernel
theorem dX2_areInodesRight_88 : decode cX2_areInodesRight 88 = .ok (.ireturn, 1) := by decide +kernel
theorem dX2_rowBytes_0 : decode cX2_rowBytes 0 = .ok (.aload_n 0, 1) := by decide +kernel
theorem dX2_rowBytes_1 : decode cX2_rowBytes 1 = .ok (.iload_n 1, 1) := by decide +kernel
theorem dX2_rowBytes_2 : decode cX2_rowBytes 2 = .ok (.invokevirtual 51, 3) := by decide +kernel
theorem dX2_rowBytes_5 : decode cX2_rowBytes 5 = .ok (.tableswitch 51 1 3 #[27, 30, 48], 27) := by decide +kernel
theorem dX2_rowBytes_32 : decode cX2_rowBytes 32 = .ok (.bipush 12, 2) := by decide +kernel
theorem dX2_rowBytes_34 : decode cX2_rowBytes 34 = .ok (.ireturn, 1) := by decide +kernel
theorem dX2_rowBytes_35 : decode cX2_rowBytes 35 = .ok (.bipush 12, 2) := by decide +kernel
theorem dX2_rowBytes_37 : decode cX2_rowBytes 37 = .ok (.iconst 2, 1) := by decide +kernel
theorem dX2_rowBytes_38 : decode cX2_rowBytes 38 = .ok (.aload_n 0, 1) := by decide +kernel
theorem dX2_rowBytes_39 : decode cX2_rowBytes 39 = .ok (.aload_n 0, 1) := by decide +kernel
theorem dX2_rowBytes_40 : decode cX2_rowBytes 40 = .ok (.iload_n 1, 1) := by decide +kernel
theorem dX2_rowBytes_41 : decode cX2_rowBytes 41 = .ok (.bipush 6, 2) := by decide +kernel
theorem dX2_rowBytes_43 : decode cX2_rowBytes 43 = .ok (.iadd, 1) := by decide +kernel
theorem dX2_rowBytes_44 : decode cX2_rowBytes 44 = .ok (.invokevirtual 27, 3) := by decide +kernel
theorem dX2_rowBytes_47 : decode cX2_rowBytes 47 = .ok (.invokevirtual 97, 3) := by decide +kernel
theorem dX2_rowBytes_50 : decode cX2_rowBytes 50 = .ok (.imul, 1) := by decide +kernel
theorem dX2_rowBytes_51 : decode cX2_rowBytes 51 = .ok (.iadd, 1) := by decide +kernel
theorem dX2_rowBytes_52 : decode cX2_rowBytes 52 = .ok (.ireturn, 1) := by decide +kernel
theorem dX2_rowBytes_53 : decode cX2_rowBytes 53 = .ok (.bipush 6, 2) := by decide +kernel
theorem dX2_rowBytes_55 : decode cX2_rowBytes 55 = .ok (.ireturn, 1) := by decide +kernel
theorem dX2_rowBytes_56 : decode cX2_rowBytes 56 = .ok (.iconst 0, 1) := by decide +kernel
theorem dX2_rowBytes_57 : decode cX2_rowBytes 57 = .ok (.ireturn, 1) := by decide +kernel
theorem dX2_isFileRight_0 : decode cX2_isFileRight 0 = .ok (.aload_n 0, 1) := by decide +kernel
theorem dX2_isFileRight_1 : decode cX2_isFileRight 1 = .ok (.iload_n 1, 1) := by decide +kernel
theorem dX2_isFileRight_2 : decode cX2_isFileRight 2 = .ok (.bipush 6, 2) := by decide +kernel
theorem dX2_isFileRight_4 : decode cX2_isFileRight 4 = .ok (.iadd, 1) := by decide +kernel
theorem dX2_isFileRight_5 : decode cX2_isFileRight 5 = .ok (.invokevirtual 27, 3) := by decide +kernel
theorem dX2_isFileRight_8 : decode cX2_isFileRight 8 = .ok (.istore_n 2, 1) := by decide +kernel
theorem dX2_isFileRight_9 : decode cX2_isFileRight 9 = .ok (.aload_n 0, 1) := by decide +kernel
theorem dX2_isFileRight_10 : decode cX2_isFileRight 10 = .ok (.iload_n 2, 1) := by decide +kernel
theorem dX2_isFileRight_11 : decode cX2_isFileRight 11 = .ok (.invokevirtual 97, 3) := by decide +kernel
theorem dX2_isFileRight_14 : decode cX2_isFileRight 14 = .ok (.istore_n 3, 1) := by decide +kernel
theorem dX2_isFileRight_15 : decode cX2_isFileRight 15 = .ok (.aload_n 0, 1) := by decide +kernel
theorem dX2_isFileRight_16 : decode cX2_isFileRight 16 = .ok (.iload_n 1, 1) := by decide +kernel
theorem dX2_isFileRight_17 : decode cX2_isFileRight 17 = .ok (.iload_n 2, 1) := by decide +kernel
theorem dX2_isFileRight_18 : decode cX2_isFileRight 18 = .ok (.iload_n 3, 1) := by decide +kernel
theorem dX2_isFileRight_19 : decode cX2_isFileRight 19 = .ok (.aload_n 0, 1) := by decide +kernel
theorem dX2_isFileRight_20 : decode cX2_isFileRight 20 = .ok (.getfield 54, 3) := by decide +kernel
theorem dX2_isFileRight_23 : decode cX2_isFileRight 23 = .ok (.imul, 1) := by decide +kernel
theorem dX2_isFileRight_24 : decode cX2_isFileRight 24 = .ok (.isub, 1) := by decide +kernel
theorem dX2_isFileRight_25 : decode cX2_isFileRight 25 = .ok (.invokestatic 100, 3) := by decide +kernel
theorem dX2_isFileRight_28 : decode cX2_isFileRight 28 = .ok (.ifCond .ne 5, 3) := by decide +kernel
theorem dX2_isFileRight_31 : decode cX2_isFileRight 31 = .ok (.iconst 0, 1) := by decide +kernel
theorem dX2_isFileRight_32 : decode cX2_isFileRight 32 = .ok (.ireturn, 1) := by decide +kernel
theorem dX2_isFileRight_33 : decode cX2_isFileRight 33 = .ok (.aload_n 0, 1) := by decide +kernel
theorem dX2_isFileRight_34 : decode cX2_isFileRight 34 = .ok (.iload_n 1, 1) := by decide +kernel
theorem dX2_isFileRight_35 : decode cX2_isFileRight 35 = .ok (.bipush 8, 2) := by decide +kernel
theorem dX2_isFileRight_37 : decode cX2_isFileRight 37 = .ok (.iadd, 1) := by decide +kernel
theorem dX2_isFileRight_38 : decode cX2_isFileRight 38 = .ok (.invokevirtual 27, 3) := by decide +kernel
theorem dX2_isFileRight_41 : decode cX2_isFileRight 41 = .ok (.istore 4, 2) := by decide +kernel
theorem dX2_isFileRight_43 : decode cX2_isFileRight 43 = .ok (.iconst 0, 1) := by decide +kernel
theorem dX2_isFileRight_44 : decode cX2_isFileRight 44 = .ok (.istore 5, 2) := by decide +kernel
theorem dX2_isFileRight_46 : decode cX2_isFileRight 46 = .ok (.iload 5, 2) := by decide +kernel
theorem dX2_isFileRight_48 : decode cX2_isFileRight 48 = .ok (.iload_n 3, 1) := by decide +kernel
theorem dX2_isFileRight_49 : decode cX2_isFileRight 49 = .ok (.if_icmp .ge 51, 3) := by decide +kernel
theorem dX2_isFileRight_52 : decode cX2_isFileRight 52 = .ok (.aload_n 0, 1) := by decide +kernel
theorem dX2_isFileRight_53 : decode cX2_isFileRight 53 = .ok (.iload_n 1, 1) := by decide +kernel
theorem dX2_isFileRight_54 : decode cX2_isFileRight 54 = .ok (.bipush 12, 2) := by decide +kernel
theorem dX2_isFileRight_56 : decode cX2_isFileRight 56 = .ok (.iadd, 1) := by decide +kernel
theorem dX2_isFileRight_57 : decode cX2_isFileRight 57 = .ok (.iconst 2, 1) := by decide +kernel
theorem dX2_isFileRight_58 : decode cX2_isFileRight 58 = .ok (.iload 5, 2) := by decide +kernel
theorem dX2_isFileRight_60 : decode cX2_isFileRight 60 = .ok (.imul, 1) := by decide +kernel
theorem dX2_isFileRight_61 : decode cX2_isFileRight 61 = .ok (.iadd, 1) := by decide +kernel
theorem dX2_isFileRight_62 : decode cX2_isFileRight 62 = .ok (.invokevirtual 27, 3) := by decide +kernel
theorem dX2_isFileRight_65 : decode cX2_isFileRight 65 = .ok (.istore 6, 2) := by decide +kernel
theorem dX2_isFileRight_67 : decode cX2_isFileRight 67 = .ok (.aload_n 0, 1) := by decide +kernel
theorem dX2_isFileRight_68 : decode cX2_isFileRight 68 = .ok (.iload 4, 2) := by decide +kernel
theorem dX2_isFileRight_70 : decode cX2_isFileRight 70 = .ok (.iload 6, 2) := by decide +kernel
theorem dX2_isFileRight_72 : decode cX2_isFileRight 72 = .ok (.aload_n 0, 1) := by decide +kernel
theorem dX2_isFileRight_73 : decode cX2_isFileRight 73 = .ok (.getfield 54, 3) := by decide +kernel
theorem dX2_isFileRight_76 : decode cX2_isFileRight 76 = .ok (.invokevirtual 82, 3) := by decide +kernel
theorem dX2_isFileRight_79 : decode cX2_isFileRight 79 = .ok (.ifCond .ne 5, 3) := by decide +kernel
theorem dX2_isFileRight_82 : decode cX2_isFileRight 82 = .ok (.iconst 0, 1) := by decide +kernel
theorem dX2_isFileRight_83 : decode cX2_isFileRight 83 = .ok (.ireturn, 1) := by decide +kernel
theorem dX2_isFileRight_84 : decode cX2_isFileRight 84 = .ok (.iload 4, 2) := by decide +kernel
theorem dX2_isFileRight_86 : decode cX2_isFileRight 86 = .ok (.iload 6, 2) := by decide +kernel
theorem dX2_isFileRight_88 : decode cX2_isFileRight 88 = .ok (.invokestatic 104, 3) := by decide +kernel
theorem dX2_isFileRight_91 : decode cX2_isFileRight 91 = .ok (.iadd, 1) := by decide +kernel
theorem dX2_isFileRight_92 : decode cX2_isFileRight 92 = .ok (.istore 4, 2) := by decide +kernel
theorem dX2_isFileRight_94 : decode cX2_isFileRight 94 = .ok (.iinc 5 1, 3) := by decide +kernel
theorem dX2_isFileRight_97 : decode cX2_isFileRight 97 = .ok (.goto (-51), 3) := by decide +kernel
theorem dX2_isFileRight_100 : decode cX2_isFileRight 100 = .ok (.iconst 1, 1) := by decide +kernel
theorem dX2_isFileRight_101 : decode cX2_isFileRight 101 = .ok (.ireturn, 1) := by decide +kernel
theorem dX2_isTailRight_0 : decode cX2_isTailRight 0 = .ok (.aload_n 0, 1) := by decide +kernel
theorem dX2_isTailRight_1 : decode cX2_isTailRight 1 = .ok (.iload_n 1, 1) := by decide +kernel
theorem dX2_isTailRight_2 : decode cX2_isTailRight 2 = .ok (.bipush 10, 2) := by decide +kernel
theorem dX2_isTailRight_4 : decode cX2_isTailRight 4 = .ok (.iadd, 1) := by decide +kernel
theorem dX2_isTailRight_5 : decode cX2_isTailRight 5 = .ok (.invokevirtual 51, 3) := by decide +kernel
theorem dX2_isTailRight_8 : decode cX2_isTailRight 8 = .ok (.istore_n 3, 1) := by decide +kernel
theorem dX2_isTailRight_9 : decode cX2_isTailRight 9 = .ok (.aload_n 0, 1) := by decide +kernel
theorem dX2_isTailRight_10 : decode cX2_isTailRight 10 = .ok (.iload_n 1, 1) := by decide +kernel
theorem dX2_isTailRight_11 : decode cX2_isTailRight 11 = .ok (.bipush 11, 2) := by decide +kernel
theorem dX2_isTailRight_13 : decode cX2_isTailRight 13 = .ok (.iadd, 1) := by decide +kernel
theorem dX2_isTailRight_14 : decode cX2_isTailRight 14 = .ok (.invokevirtual 51, 3) := by decide +kernel
theorem dX2_isTailRight_17 : decode cX2_isTailRight 17 = .ok (.istore 4, 2) := by decide +kernel
theorem dX2_isTailRight_19 : decode cX2_isTailRight 19 = .ok (.iload_n 2, 1) := by decide +kernel
theorem dX2_isTailRight_20 : decode cX2_isTailRight 20 = .ok (.ifCond .ne 18, 3) := by decide +kernel
theorem dX2_isTailRight_23 : decode cX2_isTailRight 23 = .ok (.iload_n 3, 1) := by decide +kernel
theorem dX2_isTailRight_24 : decode cX2_isTailRight 24 = .ok (.ifCond .ne 12, 3) := by decide +kernel
theorem dX2_isTailRight_27 : decode cX2_isTailRight 27 = .ok (.iload 4, 2) := by decide +kernel
theorem dX2_isTailRight_29 : decode cX2_isTailRight 29 = .ok (.ifCond .ne 7, 3) := by decide +kernel
theorem dX2_isTailRight_32 : decode cX2_isTailRight 32 = .ok (.iconst 1, 1) := by decide +kernel
theorem dX2_isTailRight_33 : decode cX2_isTailRight 33 = .ok (.goto 4, 3) := by decide +kernel
theorem dX2_isTailRight_36 : decode cX2_isTailRight 36 = .ok (.iconst 0, 1) := by decide +kernel
theorem dX2_isTailRight_37 : decode cX2_isTailRight 37 = .ok (.ireturn, 1) := by decide +kernel
theorem dX2_isTailRight_38 : decode cX2_isTailRight 38 = .ok (.iload_n 3, 1) := by decide +kernel
theorem dX2_isTailRight_39 : decode cX2_isTailRight 39 = .ok (.iconst 1, 1) := by decide +kernel
theorem dX2_isTailRight_40 : decode cX2_isTailRight 40 = .ok (.if_icmp .lt 35, 3) := by decide +kernel
theorem dX2_isTailRight_43 : decode cX2_isTailRight 43 = .ok (.iload_n 3, 1) := by decide +kernel
theorem dX2_isTailRight_44 : decode cX2_isTailRight 44 = .ok (.aload_n 0, 1) := by decide +kernel
theorem dX2_isTailRight_45 : decode cX2_isTailRight 45 = .ok (.invokevirtual 76, 3) := by decide +kernel
theorem dX2_isTailRight_48 : decode cX2_isTailRight 48 = .ok (.if_icmp .gt 27, 3) := by decide +kernel
theorem dX2_isTailRight_51 : decode cX2_isTailRight 51 = .ok (.iload 4, 2) := by decide +kernel
theorem dX2_isTailRight_53 : decode cX2_isTailRight 53 = .ok (.iload_n 2, 1) := by decide +kernel
theorem dX2_isTailRight_54 : decode cX2_isTailRight 54 = .ok (.iadd, 1) := by decide +kernel
theorem dX2_isTailRight_55 : decode cX2_isTailRight 55 = .ok (.aload_n 0, 1) := by decide +kernel
theorem dX2_isTailRight_56 : decode cX2_isTailRight 56 = .ok (.aload_n 0, 1) := by decide +kernel
theorem dX2_isTailRight_57 : decode cX2_isTailRight 57 = .ok (.iload_n 3, 1) := by decide +kernel
theorem dX2_isTailRight_58 : decode cX2_isTailRight 58 = .ok (.iconst 1, 1) := by decide +kernel
theorem dX2_isTailRight_59 : decode cX2_isTailRight 59 = .ok (.isub, 1) := by decide +kernel
theorem dX2_isTailRight_60 : decode cX2_isTailRight 60 = .ok (.invokevirtual 79, 3) := by decide +kernel
theorem dX2_isTailRight_63 : decode cX2_isTailRight 63 = .ok (.iconst 4, 1) := by decide +kernel
theorem dX2_isTailRight_64 : decode cX2_isTailRight 64 = .ok (.iadd, 1) := by decide +kernel
theorem dX2_isTailRight_65 : decode cX2_isTailRight 65 = .ok (.invokevirtual 51, 3) := by decide +kernel
theorem dX2_isTailRight_68 : decode cX2_isTailRight 68 = .ok (.if_icmp .gt 7, 3) := by decide +kernel
theorem dX2_isTailRight_71 : decode cX2_isTailRight 71 = .ok (.iconst 1, 1) := by decide +kernel
theorem dX2_isTailRight_72 : decode cX2_isTailRight 72 = .ok (.goto 4, 3) := by decide +kernel
theorem dX2_isTailRight_75 : decode cX2_isTailRight 75 = .ok (.iconst 0, 1) := by decide +kernel
theorem dX2_isTailRight_76 : decode cX2_isTailRight 76 = .ok (.ireturn, 1) := by decide +kernel
theorem dX2_areFoldersRight_0 : decode cX2_areFoldersRight 0 = .ok (.aload_n 0, 1) := by decide +kernel
theorem dX2_areFoldersRight_1 : decode cX2_areFoldersRight 1 = .ok (.getfield 64, 3) := by decide +kernel
theorem dX2_areFoldersRight_4 : decode cX2_areFoldersRight 4 = .ok (.istore_n 1, 1) := by decide +kernel
theorem dX2_areFoldersRight_5 : decode cX2_areFoldersRight 5 = .ok (.iconst 1, 1) := by decide +kernel
theorem dX2_areFoldersRight_6 : decode cX2_areFoldersRight 6 = .ok (.istore_n 2, 1) := by decide +kernel
theorem dX2_areFoldersRight_7 : decode cX2_areFoldersRight 7 = .ok (.iload_n 2, 1) := by decide +kernel
theorem dX2_areFoldersRight_8 : decode cX2_areFoldersRight 8 = .ok (.aload_n 0, 1) := by decide +kernel
theorem dX2_areFoldersRight_9 : decode cX2_areFoldersRight 9 = .ok (.getfield 73, 3) := by decide +kernel
theorem dX2_areFoldersRight_12 : decode cX2_areFoldersRight 12 = .ok (.if_icmp .gt 62, 3) := by decide +kernel
theorem dX2_areFoldersRight_15 : decode cX2_areFoldersRight 15 = .ok (.aload_n 0, 1) := by decide +kernel
theorem dX2_areFoldersRight_16 : decode cX2_areFoldersRight 16 = .ok (.iload_n 2, 1) := by decide +kernel
theorem dX2_areFoldersRight_17 : decode cX2_areFoldersRight 17 = .ok (.invokevirtual 107, 3) := by decide +kernel
theorem dX2_areFoldersRight_20 : decode cX2_areFoldersRight 20 = .ok (.iconst 1, 1) := by decide +kernel
theorem dX2_areFoldersRight_21 : decode cX2_areFoldersRight 21 = .ok (.if_icmp .ne 47, 3) := by decide +kernel
theorem dX2_areFoldersRight_24 : decode cX2_areFoldersRight 24 = .ok (.aload_n 0, 1) := by decide +kernel
theorem dX2_areFoldersRight_25 : decode cX2_areFoldersRight 25 = .ok (.iload_n 2, 1) := by decide +kernel
theorem dX2_areFoldersRight_26 : decode cX2_areFoldersRight 26 = .ok (.invokevirtual 110, 3) := by decide +kernel
theorem dX2_areFoldersRight_29 : decode cX2_areFoldersRight 29 = .ok (.istore_n 3, 1) := by decide +kernel
theorem dX2_areFoldersRight_30 : decode cX2_areFoldersRight 30 = .ok (.aload_n 0, 1) := by decide +kernel
theorem dX2_areFoldersRight_31 : decode cX2_areFoldersRight 31 = .ok (.iload_n 2, 1) := by decide +kernel
theorem dX2_areFoldersRight_32 : decode cX2_areFoldersRight 32 = .ok (.invokevirtual 113, 3) := by decide +kernel
theorem dX2_areFoldersRight_35 : decode cX2_areFoldersRight 35 = .ok (.iload_n 1, 1) := by decide +kernel
theorem dX2_areFoldersRight_36 : decode cX2_areFoldersRight 36 = .ok (.if_icmp .ne 24, 3) := by decide +kernel
theorem dX2_areFoldersRight_39 : decode cX2_areFoldersRight 39 = .ok (.iload_n 1, 1) := by decide +kernel
theorem dX2_areFoldersRight_40 : decode cX2_areFoldersRight 40 = .ok (.iconst 4, 1) := by decide +kernel
theorem dX2_areFoldersRight_41 : decode cX2_areFoldersRight 41 = .ok (.iload_n 3, 1) := by decide +kernel
theorem dX2_areFoldersRight_42 : decode cX2_areFoldersRight 42 = .ok (.imul, 1) := by decide +kernel
theorem dX2_areFoldersRight_43 : decode cX2_areFoldersRight 43 = .ok (.iadd, 1) := by decide +kernel
theorem dX2_areFoldersRight_44 : decode cX2_areFoldersRight 44 = .ok (.aload_n 0, 1) := by decide +kernel
theorem dX2_areFoldersRight_45 : decode cX2_areFoldersRight 45 = .ok (.getfield 67, 3) := by decide +kernel
theorem dX2_areFoldersRight_48 : decode cX2_areFoldersRight 48 = .ok (.if_icmp .gt 12, 3) := by decide +kernel
theorem dX2_areFoldersRight_51 : decode cX2_areFoldersRight 51 = .ok (.aload_n 0, 1) := by decide +kernel
theorem dX2_areFoldersRight_52 : decode cX2_areFoldersRight 52 = .ok (.iload_n 1, 1) := by decide +kernel
theorem dX2_areFoldersRight_53 : decode cX2_areFoldersRight 53 = .ok (.iload_n 3, 1) := by decide +kernel
theorem dX2_areFoldersRight_54 : decode cX2_areFoldersRight 54 = .ok (.invokestatic 116, 3) := by decide +kernel
theorem dX2_areFoldersRight_57 : decode cX2_areFoldersRight 57 = .ok (.ifCond .ne 5, 3) := by decide +kernel
theorem dX2_areFoldersRight_60 : decode cX2_areFoldersRight 60 = .ok (.iconst 0, 1) := by decide +kernel
theorem dX2_areFoldersRight_61 : decode cX2_areFoldersRight 61 = .ok (.ireturn, 1) := by decide +kernel
theorem dX2_areFoldersRight_62 : decode cX2_areFoldersRight 62 = .ok (.iload_n 1, 1) := by decide +kernel
theorem dX2_areFoldersRight_63 : decode cX2_areFoldersRight 63 = .ok (.iconst 4, 1) := by decide +kernel
theorem dX2_areFoldersRight_64 : decode cX2_areFoldersRight 64 = .ok (.iload_n 3, 1) := by decide +kernel
theorem dX2_areFoldersRight_65 : decode cX2_areFoldersRight 65 = .ok (.imul, 1) := by decide +kernel
theorem dX2_areFoldersRight_66 : decode cX2_areFoldersRight 66 = .ok (.iadd, 1) := by decide +kernel
theorem dX2_areFoldersRight_67 : decode cX2_areFoldersRight 67 = .ok (.istore_n 1, 1) := by decide +kernel
theorem dX2_areFoldersRight_68 : decode cX2_areFoldersRight 68 = .ok (.iinc 2 1, 3) := by decide +kernel
theorem dX2_areFoldersRight_71 : decode cX2_areFoldersRight 71 = .ok (.goto (-64), 3) := by decide +kernel
theorem dX2_areFoldersRight_74 : decode cX2_areFoldersRight 74 = .ok (.iload_n 1, 1) := by decide +kernel
theorem dX2_areFoldersRight_75 : decode cX2_areFoldersRight 75 = .ok (.aload_n 0, 1) := by decide +kernel
theorem dX2_areFoldersRight_76 : decode cX2_areFoldersRight 76 = .ok (.getfield 67, 3) := by decide +kernel
theorem dX2_areFoldersRight_79 : decode cX2_areFoldersRight 79 = .ok (.if_icmp .ne 7, 3) := by decide +kernel
theorem dX2_areFoldersRight_82 : decode cX2_areFoldersRight 82 = .ok (.iconst 1, 1) := by decide +kernel
theorem dX2_areFoldersRight_83 : decode cX2_areFoldersRight 83 = .ok (.goto 4, 3) := by decide +kernel
theorem dX2_areFoldersRight_86 : decode cX2_areFoldersRight 86 = .ok (.iconst 0, 1) := by decide +kernel
theorem dX2_areFoldersRight_87 : decode cX2_areFoldersRight 87 = .ok (.ireturn, 1) := by decide +kernel
theorem dX2_areNamesRight_0 : decode cX2_areNamesRight 0 = .ok (.iconst 0, 1) := by decide +kernel
theorem dX2_areNamesRight_1 : decode cX2_areNamesRight 1 = .ok (.istore_n 3, 1) := by decide +kernel
theorem dX2_areNamesRight_2 : decode cX2_areNamesRight 2 = .ok (.iconst 0, 1) := by decide +kernel
theorem dX2_areNamesRight_3 : decode cX2_areNamesRight 3 = .ok (.istore 4, 2) := by decide +kernel
theorem dX2_areNamesRight_5 : decode cX2_areNamesRight 5 = .ok (.iload 4, 2) := by decide +kernel
theorem dX2_areNamesRight_7 : decode cX2_areNamesRight 7 = .ok (.iload_n 2, 1) := by decide +kernel
theorem dX2_areNamesRight_8 : decode cX2_areNamesRight 8 = .ok (.if_icmp .ge 59, 3) := by decide +kernel
theorem dX2_areNamesRight_11 : decode cX2_areNamesRight 11 = .ok (.aload_n 0, 1) := by decide +kernel
theorem dX2_areNamesRight_12 : decode cX2_areNamesRight 12 = .ok (.iload_n 1, 1) := by decide +kernel
theorem dX2_areNamesRight_13 : decode cX2_areNamesRight 13 = .ok (.iconst 4, 1) := by decide +kernel
theorem dX2_areNamesRight_14 : decode cX2_areNamesRight 14 = .ok (.iload 4, 2) := by decide +kernel
theorem dX2_areNamesRight_16 : decode cX2_areNamesRight 16 = .ok (.imul, 1) := by decide +kernel
theorem dX2_areNamesRight_17 : decode cX2_areNamesRight 17 = .ok (.iadd, 1) := by decide +kernel
theorem dX2_areNamesRight_18 : decode cX2_areNamesRight 18 = .ok (.invokevirtual 27, 3) := by decide +kernel
theorem dX2_areNamesRight_21 : decode cX2_areNamesRight 21 = .ok (.istore 5, 2) := by decide +kernel
theorem dX2_areNamesRight_23 : decode cX2_areNamesRight 23 = .ok (.iload 5, 2) := by decide +kernel
theorem dX2_areNamesRight_25 : decode cX2_areNamesRight 25 = .ok (.iload_n 3, 1) := by decide +kernel
theorem dX2_areNamesRight_26 : decode cX2_areNamesRight 26 = .ok (.if_icmp .le 30, 3) := by decide +kernel
theorem dX2_areNamesRight_29 : decode cX2_areNamesRight 29 = .ok (.iload 5, 2) := by decide +kernel
theorem dX2_areNamesRight_31 : decode cX2_areNamesRight 31 = .ok (.sipush 999, 3) := by decide +kernel
theorem dX2_areNamesRight_34 : decode cX2_areNamesRight 34 = .ok (.if_icmp .gt 22, 3) := by decide +kernel
theorem dX2_areNamesRight_37 : decode cX2_areNamesRight 37 = .ok (.aload_n 0, 1) := by decide +kernel
theorem dX2_areNamesRight_38 : decode cX2_areNamesRight 38 = .ok (.aload_n 0, 1) := by decide +kernel
theorem dX2_areNamesRight_39 : decode cX2_areNamesRight 39 = .ok (.iload_n 1, 1) := by decide +kernel
theorem dX2_areNamesRight_40 : decode cX2_areNamesRight 40 = .ok (.iconst 4, 1) := by decide +kernel
theorem dX2_areNamesRight_41 : decode cX2_areNamesRight 41 = .ok (.iload 4, 2) := by decide +kernel
theorem dX2_areNamesRight_43 : decode cX2_areNamesRight 43 = .ok (.imul, 1) := by decide +kernel
theorem dX2_areNamesRight_44 : decode cX2_areNamesRight 44 = .ok (.iadd, 1) := by decide +kernel
theorem dX2_areNamesRight_45 : decode cX2_areNamesRight 45 = .ok (.iconst 2, 1) := by decide +kernel
theorem dX2_areNamesRight_46 : decode cX2_areNamesRight 46 = .ok (.iadd, 1) := by decide +kernel
theorem dX2_areNamesRight_47 : decode cX2_areNamesRight 47 = .ok (.invokevirtual 27, 3) := by decide +kernel
theorem dX2_areNamesRight_50 : decode cX2_areNamesRight 50 = .ok (.invokevirtual 119, 3) := by decide +kernel
theorem dX2_areNamesRight_53 : decode cX2_areNamesRight 53 = .ok (.ifCond .ne 5, 3) := by decide +kernel
theorem dX2_areNamesRight_56 : decode cX2_areNamesRight 56 = .ok (.iconst 0, 1) := by decide +kernel
theorem dX2_areNamesRight_57 : decode cX2_areNamesRight 57 = .ok (.ireturn, 1) := by decide +kernel
theorem dX2_areNamesRight_58 : decode cX2_areNamesRight 58 = .ok (.iload 5, 2) := by decide +kernel
theorem dX2_areNamesRight_60 : decode cX2_areNamesRight 60 = .ok (.istore_n 3, 1) := by decide +kernel
theorem dX2_areNamesRight_61 : decode cX2_areNamesRight 61 = .ok (.iinc 4 1, 3) := by decide +kernel
theorem dX2_areNamesRight_64 : decode cX2_areNamesRight 64 = .ok (.goto (-59), 3) := by decide +kernel
theorem dX2_areNamesRight_67 : decode cX2_areNamesRight 67 = .ok (.iconst 1, 1) := by decide +kernel
theorem dX2_areNamesRight_68 : decode cX2_areNamesRight 68 = .ok (.ireturn, 1) := by decide +kernel
theorem dX2_isTreeRight_0 : decode cX2_isTreeRight 0 = .ok (.aload_n 1, 1) := by decide +kernel
theorem dX2_isTreeRight_1 : decode cX2_isTreeRight 1 = .ok (.iconst 1, 1) := by decide +kernel
theorem dX2_isTreeRight_2 : decode cX2_isTreeRight 2 = .ok (.invokevirtual 107, 3) := by decide +kernel
theorem dX2_isTreeRight_5 : decode cX2_isTreeRight 5 = .ok (.iconst 1, 1) := by decide +kernel
theorem dX2_isTreeRight_6 : decode cX2_isTreeRight 6 = .ok (.if_icmp .ne 21, 3) := by decide +kernel
theorem dX2_isTreeRight_9 : decode cX2_isTreeRight 9 = .ok (.aload_n 1, 1) := by decide +kernel
theorem dX2_isTreeRight_10 : decode cX2_isTreeRight 10 = .ok (.iconst 1, 1) := by decide +kernel
theorem dX2_isTreeRight_11 : decode cX2_isTreeRight 11 = .ok (.invokevirtual 122, 3) := by decide +kernel
theorem dX2_isTreeRight_14 : decode cX2_isTreeRight 14 = .ok (.iconst 1, 1) := by decide +kernel
theorem dX2_isTreeRight_15 : decode cX2_isTreeRight 15 = .ok (.if_icmp .ne 12, 3) := by decide +kernel
theorem dX2_isTreeRight_18 : decode cX2_isTreeRight 18 = .ok (.aload_n 1, 1) := by decide +kernel
theorem dX2_isTreeRight_19 : decode cX2_isTreeRight 19 = .ok (.iconst 1, 1) := by decide +kernel
theorem dX2_isTreeRight_20 : decode cX2_isTreeRight 20 = .ok (.invokevirtual 125, 3) := by decide +kernel
theorem dX2_isTreeRight_23 : decode cX2_isTreeRight 23 = .ok (.iconst 1, 1) := by decide +kernel
theorem dX2_isTreeRight_24 : decode cX2_isTreeRight 24 = .ok (.if_icmp .eq 5, 3) := by decide +kernel
theorem dX2_isTreeRight_27 : decode cX2_isTreeRight 27 = .ok (.iconst 0, 1) := by decide +kernel
theorem dX2_isTreeRight_28 : decode cX2_isTreeRight 28 = .ok (.ireturn, 1) := by decide +kernel
theorem dX2_isTreeRight_29 : decode cX2_isTreeRight 29 = .ok (.aload_n 1, 1) := by decide +kernel
theorem dX2_isTreeRight_30 : decode cX2_isTreeRight 30 = .ok (.getfield 73, 3) := by decide +kernel
theorem dX2_isTreeRight_33 : decode cX2_isTreeRight 33 = .ok (.sipush 497, 3) := by decide +kernel
theorem dX2_isTreeRight_36 : decode cX2_isTreeRight 36 = .ok (.if_icmp .gt 20, 3) := by decide +kernel
theorem dX2_isTreeRight_39 : decode cX2_isTreeRight 39 = .ok (.aload_n 0, 1) := by decide +kernel
theorem dX2_isTreeRight_40 : decode cX2_isTreeRight 40 = .ok (.aload_n 1, 1) := by decide +kernel
theorem dX2_isTreeRight_41 : decode cX2_isTreeRight 41 = .ok (.invokevirtual 128, 3) := by decide +kernel
theorem dX2_isTreeRight_44 : decode cX2_isTreeRight 44 = .ok (.ifCond .eq 12, 3) := by decide +kernel
theorem dX2_isTreeRight_47 : decode cX2_isTreeRight 47 = .ok (.aload_n 0, 1) := by decide +kernel
theorem dX2_isTreeRight_48 : decode cX2_isTreeRight 48 = .ok (.getfield 9, 3) := by decide +kernel
theorem dX2_isTreeRight_51 : decode cX2_isTreeRight 51 = .ok (.iconst 1, 1) := by decide +kernel
theorem dX2_isTreeRight_52 : decode cX2_isTreeRight 52 = .ok (.iaload, 1) := by decide +kernel
theorem dX2_isTreeRight_53 : decode cX2_isTreeRight 53 = .ok (.ifCond .eq 5, 3) := by decide +kernel
theorem dX2_isTreeRight_56 : decode cX2_isTreeRight 56 = .ok (.iconst 0, 1) := by decide +kernel
theorem dX2_isTreeRight_57 : decode cX2_isTreeRight 57 = .ok (.ireturn, 1) := by decide +kernel
theorem dX2_isTreeRight_58 : decode cX2_isTreeRight 58 = .ok (.iconst 2, 1) := by decide +kernel
theorem dX2_isTreeRight_59 : decode cX2_isTreeRight 59 = .ok (.istore_n 2, 1) := by decide +kernel
theorem dX2_isTreeRight_60 : decode cX2_isTreeRight 60 = .ok (.iload_n 2, 1) := by decide +kernel
theorem dX2_isTreeRight_61 : decode cX2_isTreeRight 61 = .ok (.aload_n 1, 1) := by decide +kernel
theorem dX2_isTreeRight_62 : decode cX2_isTreeRight 62 = .ok (.getfield 73, 3) := by decide +kernel
theorem dX2_isTreeRight_65 : decode cX2_isTreeRight 65 = .ok (.if_icmp .gt 68, 3) := by decide +kernel
theorem dX2_isTreeRight_68 : decode cX2_isTreeRight 68 = .ok (.aload_n 1, 1) := by decide +kernel
theorem dX2_isTreeRight_69 : decode cX2_isTreeRight 69 = .ok (.iload_n 2, 1) := by decide +kernel
theorem dX2_isTreeRight_70 : decode cX2_isTreeRight 70 = .ok (.invokevirtual 107, 3) := by decide +kernel
theorem dX2_isTreeRight_73 : decode cX2_isTreeRight 73 = .ok (.istore_n 3, 1) := by decide +kernel
theorem dX2_isTreeRight_74 : decode cX2_isTreeRight 74 = .ok (.aload_n 0, 1) := by decide +kernel
theorem dX2_isTreeRight_75 : decode cX2_isTreeRight 75 = .ok (.getfield 9, 3) := by decide +kernel
theorem dX2_isTreeRight_78 : decode cX2_isTreeRight 78 = .ok (.iload_n 2, 1) := by decide +kernel
theorem dX2_isTreeRight_79 : decode cX2_isTreeRight 79 = .ok (.iaload, 1) := by decide +kernel
theorem dX2_isTreeRight_80 : decode cX2_isTreeRight 80 = .ok (.ifCond .eq 45, 3) := by decide +kernel
theorem dX2_isTreeRight_83 : decode cX2_isTreeRight 83 = .ok (.aload_n 0, 1) := by decide +kernel
theorem dX2_isTreeRight_84 : decode cX2_isTreeRight 84 = .ok (.getfield 9, 3) := by decide +kernel
theorem dX2_isTreeRight_87 : decode cX2_isTreeRight 87 = .ok (.iload_n 2, 1) := by decide +kernel
theorem dX2_isTreeRight_88 : decode cX2_isTreeRight 88 = .ok (.iaload, 1) := by decide +kernel
theorem dX2_isTreeRight_89 : decode cX2_isTreeRight 89 = .ok (.aload_n 1, 1) := by decide +kernel
theorem dX2_isTreeRight_90 : decode cX2_isTreeRight 90 = .ok (.iload_n 2, 1) := by decide +kernel
theorem dX2_isTreeRight_91 : decode cX2_isTreeRight 91 = .ok (.invokevirtual 122, 3) := by decide +kernel
theorem dX2_isTreeRight_94 : decode cX2_isTreeRight 94 = .ok (.if_icmp .ne 31, 3) := by decide +kernel
theorem dX2_isTreeRight_97 : decode cX2_isTreeRight 97 = .ok (.iload_n 3, 1) := by decide +kernel
theorem dX2_isTreeRight_98 : decode cX2_isTreeRight 98 = .ok (.iconst 2, 1) := by decide +kernel
theorem dX2_isTreeRight_99 : decode cX2_isTreeRight 99 = .ok (.if_icmp .eq 13, 3) := by decide +kernel
theorem dX2_isTreeRight_102 : decode cX2_isTreeRight 102 = .ok (.aload_n 0, 1) := by decide +kernel
theorem dX2_isTreeRight_103 : decode cX2_isTreeRight 103 = .ok (.getfield 9, 3) := by decide +kernel
theorem dX2_isTreeRight_106 : decode cX2_isTreeRight 106 = .ok (.iload_n 2, 1) := by decide +kernel
theorem dX2_isTreeRight_107 : decode cX2_isTreeRight 107 = .ok (.iaload, 1) := by decide +kernel
theorem dX2_isTreeRight_108 : decode cX2_isTreeRight 108 = .ok (.iconst 1, 1) := by decide +kernel
theorem dX2_isTreeRight_109 : decode cX2_isTreeRight 109 = .ok (.if_icmp .gt 16, 3) := by decide +kernel
theorem dX2_isTreeRight_112 : decode cX2_isTreeRight 112 = .ok (.iload_n 3, 1) := by decide +kernel
theorem dX2_isTreeRight_113 : decode cX2_isTreeRight 113 = .ok (.iconst 1, 1) := by decide +kernel
theorem dX2_isTreeRight_114 : decode cX2_isTreeRight 114 = .ok (.if_icmp .ne 13, 3) := by decide +kernel
theorem dX2_isTreeRight_117 : decode cX2_isTreeRight 117 = .ok (.aload_n 1, 1) := by decide +kernel
theorem dX2_isTreeRight_118 : decode cX2_isTreeRight 118 = .ok (.iload_n 2, 1) := by decide +kernel
theorem dX2_isTreeRight_119 : decode cX2_isTreeRight 119 = .ok (.invokestatic 131, 3) := by decide +kernel
theorem dX2_isTreeRight_122 : decode cX2_isTreeRight 122 = .ok (.ifCond .ne 5, 3) := by decide +kernel
theorem dX2_isTreeRight_125 : decode cX2_isTreeRight 125 = .ok (.iconst 0, 1) := by decide +kernel
theorem dX2_isTreeRight_126 : decode cX2_isTreeRight 126 = .ok (.ireturn, 1) := by decide +kernel
theorem dX2_isTreeRight_127 : decode cX2_isTreeRight 127 = .ok (.iinc 2 1, 3) := by decide +kernel
theorem dX2_isTreeRight_130 : decode cX2_isTreeRight 130 = .ok (.goto (-70), 3) := by decide +kernel
theorem dX2_isTreeRight_133 : decode cX2_isTreeRight 133 = .ok (.iconst 1, 1) := by decide +kernel
theorem dX2_isTreeRight_134 : decode cX2_isTreeRight 134 = .ok (.ireturn, 1) := by decide +kernel
theorem dX2_areFoldersNamedAtHome_0 : decode cX2_areFoldersNamedAtHome 0 = .ok (.aload_n 0, 1) := by decide +kernel
theorem dX2_areFoldersNamedAtHome_1 : decode cX2_areFoldersNamedAtHome 1 = .ok (.getfield 9, 3) := by decide +kernel
theorem dX2_areFoldersNamedAtHome_4 : decode cX2_areFoldersNamedAtHome 4 = .ok (.iconst 0, 1) := by decide +kernel
theorem dX2_areFoldersNamedAtHome_5 : decode cX2_areFoldersNamedAtHome 5 = .ok (.invokestatic 134, 3) := by decide +kernel
theorem dX2_areFoldersNamedAtHome_8 : decode cX2_areFoldersNamedAtHome 8 = .ok (.iconst 1, 1) := by decide +kernel
theorem dX2_areFoldersNamedAtHome_9 : decode cX2_areFoldersNamedAtHome 9 = .ok (.istore_n 2, 1) := by decide +kernel
theorem dX2_areFoldersNamedAtHome_10 : decode cX2_areFoldersNamedAtHome 10 = .ok (.iload_n 2, 1) := by decide +kernel
theorem dX2_areFoldersNamedAtHome_11 : decode cX2_areFoldersNamedAtHome 11 = .ok (.aload_n 1, 1) := by decide +kernel
theorem dX2_areFoldersNamedAtHome_12 : decode cX2_areFoldersNamedAtHome 12 = .ok (.getfield 73, 3) := by decide +kernel
theorem dX2_areFoldersNamedAtHome_15 : decode cX2_areFoldersNamedAtHome 15 = .ok (.if_icmp .gt 116, 3) := by decide +kernel
theorem dX2_areFoldersNamedAtHome_18 : decode cX2_areFoldersNamedAtHome 18 = .ok (.aload_n 1, 1) := by decide +kernel
theorem dX2_areFoldersNamedAtHome_19 : decode cX2_areFoldersNamedAtHome 19 = .ok (.iload_n 2, 1) := by decide +kernel
theorem dX2_areFoldersNamedAtHome_20 : decode cX2_areFoldersNamedAtHome 20 = .ok (.invokevirtual 107, 3) := by decide +kernel
theorem dX2_areFoldersNamedAtHome_23 : decode cX2_areFoldersNamedAtHome 23 = .ok (.iconst 1, 1) := by decide +kernel
theorem dX2_areFoldersNamedAtHome_24 : decode cX2_areFoldersNamedAtHome 24 = .ok (.if_icmp .ne 11, 3) := by decide +kernel
theorem dX2_areFoldersNamedAtHome_27 : decode cX2_areFoldersNamedAtHome 27 = .ok (.aload_n 1, 1) := by decide +kernel
theorem dX2_areFoldersNamedAtHome_28 : decode cX2_areFoldersNamedAtHome 28 = .ok (.iload_n 2, 1) := by decide +kernel
theorem dX2_areFoldersNamedAtHome_29 : decode cX2_areFoldersNamedAtHome 29 = .ok (.invokevirtual 110, 3) := by decide +kernel
theorem dX2_areFoldersNamedAtHome_32 : decode cX2_areFoldersNamedAtHome 32 = .ok (.goto 4, 3) := by decide +kernel
theorem dX2_areFoldersNamedAtHome_35 : decode cX2_areFoldersNamedAtHome 35 = .ok (.iconst 0, 1) := by decide +kernel
theorem dX2_areFoldersNamedAtHome_36 : decode cX2_areFoldersNamedAtHome 36 = .ok (.istore_n 3, 1) := by decide +kernel
theorem dX2_areFoldersNamedAtHome_37 : decode cX2_areFoldersNamedAtHome 37 = .ok (.iload_n 3, 1) := by decide +kernel
theorem dX2_areFoldersNamedAtHome_38 : decode cX2_areFoldersNamedAtHome 38 = .ok (.ifCond .ne 7, 3) := by decide +kernel
theorem dX2_areFoldersNamedAtHome_41 : decode cX2_areFoldersNamedAtHome 41 = .ok (.iconst 0, 1) := by decide +kernel
theorem dX2_areFoldersNamedAtHome_42 : decode cX2_areFoldersNamedAtHome 42 = .ok (.goto 8, 3) := by decide +kernel
theorem dX2_areFoldersNamedAtHome_45 : decode cX2_areFoldersNamedAtHome 45 = .ok (.aload_n 1, 1) := by decide +kernel
theorem dX2_areFoldersNamedAtHome_46 : decode cX2_areFoldersNamedAtHome 46 = .ok (.iload_n 2, 1) := by decide +kernel
theorem dX2_areFoldersNamedAtHome_47 : decode cX2_areFoldersNamedAtHome 47 = .ok (.invokevirtual 113, 3) := by decide +kernel
theorem dX2_areFoldersNamedAtHome_50 : decode cX2_areFoldersNamedAtHome 50 = .ok (.istore 4, 2) := by decide +kernel
theorem dX2_areFoldersNamedAtHome_52 : decode cX2_areFoldersNamedAtHome 52 = .ok (.iconst 0, 1) := by decide +kernel
theorem dX2_areFoldersNamedAtHome_53 : decode cX2_areFoldersNamedAtHome 53 = .ok (.istore 5, 2) := by decide +kernel
theorem dX2_areFoldersNamedAtHome_55 : decode cX2_areFoldersNamedAtHome 55 = .ok (.iload 5, 2) := by decide +kernel
theorem dX2_areFoldersNamedAtHome_57 : decode cX2_areFoldersNamedAtHome 57 = .ok (.iload_n 3, 1) := by decide +kernel
theorem dX2_areFoldersNamedAtHome_58 : decode cX2_areFoldersNamedAtHome 58 = .ok (.if_icmp .ge 67, 3) := by decide +kernel
theorem dX2_areFoldersNamedAtHome_61 : decode cX2_areFoldersNamedAtHome 61 = .ok (.aload_n 1, 1) := by decide +kernel
theorem dX2_areFoldersNamedAtHome_62 : decode cX2_areFoldersNamedAtHome 62 = .ok (.iload 4, 2) := by decide +kernel
theorem dX2_areFoldersNamedAtHome_64 : decode cX2_areFoldersNamedAtHome 64 = .ok (.iconst 4, 1) := by decide +kernel
theorem dX2_areFoldersNamedAtHome_65 : decode cX2_areFoldersNamedAtHome 65 = .ok (.iload 5, 2) := by decide +kernel
theorem dX2_areFoldersNamedAtHome_67 : decode cX2_areFoldersNamedAtHome 67 = .ok (.imul, 1) := by decide +kernel
theorem dX2_areFoldersNamedAtHome_68 : decode cX2_areFoldersNamedAtHome 68 = .ok (.iadd, 1) := by decide +kernel
theorem dX2_areFoldersNamedAtHome_69 : decode cX2_areFoldersNamedAtHome 69 = .ok (.iconst 2, 1) := by decide +kernel
theorem dX2_areFoldersNamedAtHome_70 : decode cX2_areFoldersNamedAtHome 70 = .ok (.iadd, 1) := by decide +kernel
theorem dX2_areFoldersNamedAtHome_71 : decode cX2_areFoldersNamedAtHome 71 = .ok (.invokevirtual 27, 3) := by decide +kernel
theorem dX2_areFoldersNamedAtHome_74 : decode cX2_areFoldersNamedAtHome 74 = .ok (.istore 6, 2) := by decide +kernel
theorem dX2_areFoldersNamedAtHome_76 : decode cX2_areFoldersNamedAtHome 76 = .ok (.aload_n 1, 1) := by decide +kernel
theorem dX2_areFoldersNamedAtHome_77 : decode cX2_areFoldersNamedAtHome 77 = .ok (.iload 6, 2) := by decide +kernel
theorem dX2_areFoldersNamedAtHome_79 : decode cX2_areFoldersNamedAtHome 79 = .ok (.invokevirtual 107, 3) := by decide +kernel
theorem dX2_areFoldersNamedAtHome_82 : decode cX2_areFoldersNamedAtHome 82 = .ok (.iconst 1, 1) := by decide +kernel
theorem dX2_areFoldersNamedAtHome_83 : decode cX2_areFoldersNamedAtHome 83 = .ok (.if_icmp .ne 15, 3) := by decide +kernel
theorem dX2_areFoldersNamedAtHome_86 : decode cX2_areFoldersNamedAtHome 86 = .ok (.aload_n 1, 1) := by decide +kernel
theorem dX2_areFoldersNamedAtHome_87 : decode cX2_areFoldersNamedAtHome 87 = .ok (.iload 6, 2) := by decide +kernel
theorem dX2_areFoldersNamedAtHome_89 : decode cX2_areFoldersNamedAtHome 89 = .ok (.invokevirtual 125, 3) := by decide +kernel
theorem dX2_areFoldersNamedAtHome_92 : decode cX2_areFoldersNamedAtHome 92 = .ok (.iload_n 2, 1) := by decide +kernel
theorem dX2_areFoldersNamedAtHome_93 : decode cX2_areFoldersNamedAtHome 93 = .ok (.if_icmp .eq 5, 3) := by decide +kernel
theorem dX2_areFoldersNamedAtHome_96 : decode cX2_areFoldersNamedAtHome 96 = .ok (.iconst 0, 1) := by decide +kernel
theorem dX2_areFoldersNamedAtHome_97 : decode cX2_areFoldersNamedAtHome 97 = .ok (.ireturn, 1) := by decide +kernel
theorem dX2_areFoldersNamedAtHome_98 : decode cX2_areFoldersNamedAtHome 98 = .ok (.iload 6, 2) := by decide +kernel
theorem dX2_areFoldersNamedAtHome_100 : decode cX2_areFoldersNamedAtHome 100 = .ok (.aload_n 0, 1) := by decide +kernel
theorem dX2_areFoldersNamedAtHome_101 : decode cX2_areFoldersNamedAtHome 101 = .ok (.getfield 9, 3) := by decide +kernel
theorem dX2_areFoldersNamedAtHome_104 : decode cX2_areFoldersNamedAtHome 104 = .ok (.arraylength, 1) := by decide +kernel
theorem dX2_areFoldersNamedAtHome_105 : decode cX2_areFoldersNamedAtHome 105 = .ok (.if_icmp .ge 14, 3) := by decide +kernel
theorem dX2_areFoldersNamedAtHome_108 : decode cX2_areFoldersNamedAtHome 108 = .ok (.aload_n 0, 1) := by decide +kernel
theorem dX2_areFoldersNamedAtHome_109 : decode cX2_areFoldersNamedAtHome 109 = .ok (.getfield 9, 3) := by decide +kernel
theorem dX2_areFoldersNamedAtHome_112 : decode cX2_areFoldersNamedAtHome 112 = .ok (.iload 6, 2) := by decide +kernel
theorem dX2_areFoldersNamedAtHome_114 : decode cX2_areFoldersNamedAtHome 114 = .ok (.dup2, 1) := by decide +kernel
theorem dX2_areFoldersNamedAtHome_115 : decode cX2_areFoldersNamedAtHome 115 = .ok (.iaload, 1) := by decide +kernel
theorem dX2_areFoldersNamedAtHome_116 : decode cX2_areFoldersNamedAtHome 116 = .ok (.iconst 1, 1) := by decide +kernel
theorem dX2_areFoldersNamedAtHome_117 : decode cX2_areFoldersNamedAtHome 117 = .ok (.iadd, 1) := by decide +kernel
theorem dX2_areFoldersNamedAtHome_118 : decode cX2_areFoldersNamedAtHome 118 = .ok (.iastore, 1) := by decide +kernel
theorem dX2_areFoldersNamedAtHome_119 : decode cX2_areFoldersNamedAtHome 119 = .ok (.iinc 5 1, 3) := by decide +kernel
theorem dX2_areFoldersNamedAtHome_122 : decode cX2_areFoldersNamedAtHome 122 = .ok (.goto (-67), 3) := by decide +kernel
theorem dX2_areFoldersNamedAtHome_125 : decode cX2_areFoldersNamedAtHome 125 = .ok (.iinc 2 1, 3) := by decide +kernel
theorem dX2_areFoldersNamedAtHome_128 : decode cX2_areFoldersNamedAtHome 128 = .ok (.goto (-118), 3) := by decide +kernel
theorem dX2_areFoldersNamedAtHome_131 : decode cX2_areFoldersNamedAtHome 131 = .ok (.iconst 1, 1) := by decide +kernel
theorem dX2_areFoldersNamedAtHome_132 : decode cX2_areFoldersNamedAtHome 132 = .ok (.ireturn, 1) := by decide +kernel
theorem dX2_comesToFirst_0 : decode cX2_comesToFirst 0 = .ok (.iload_n 1, 1) := by decide +kernel
theorem dX2_comesToFirst_1 : decode cX2_comesToFirst 1 = .ok (.istore_n 2, 1) := by decide +kernel
theorem dX2_comesToFirst_2 : decode cX2_comesToFirst 2 = .ok (.iconst 0, 1) := by decide +kernel
theorem dX2_comesToFirst_3 : decode cX2_comesToFirst 3 = .ok (.istore_n 3, 1) := by decide +kernel
theorem dX2_comesToFirst_4 : decode cX2_comesToFirst 4 = .ok (.iload_n 3, 1) := by decide +kernel
theorem dX2_comesToFirst_5 : decode cX2_comesToFirst 5 = .ok (.aload_n 0, 1) := by decide +kernel
theorem dX2_comesToFirst_6 : decode cX2_comesToFirst 6 = .ok (.getfield 73, 3) := by decide +kernel
theorem dX2_comesToFirst_9 : decode cX2_comesToFirst 9 = .ok (.if_icmp .ge 20, 3) := by decide +kernel
theorem dX2_comesToFirst_12 : decode cX2_comesToFirst 12 = .ok (.iload_n 2, 1) := by decide +kernel
theorem dX2_comesToFirst_13 : decode cX2_comesToFirst 13 = .ok (.iconst 1, 1) := by decide +kernel
theorem dX2_comesToFirst_14 : decode cX2_comesToFirst 14 = .ok (.if_icmp .eq 15, 3) := by decide +kernel
theorem dX2_comesToFirst_17 : decode cX2_comesToFirst 17 = .ok (.aload_n 0, 1) := by decide +kernel
theorem dX2_comesToFirst_18 : decode cX2_comesToFirst 18 = .ok (.iload_n 2, 1) := by decide +kernel
theorem dX2_comesToFirst_19 : decode cX2_comesToFirst 19 = .ok (.invokevirtual 125, 3) := by decide +kernel
theorem dX2_comesToFirst_22 : decode cX2_comesToFirst 22 = .ok (.istore_n 2, 1) := by decide +kernel
theorem dX2_comesToFirst_23 : decode cX2_comesToFirst 23 = .ok (.iinc 3 1, 3) := by decide +kernel
theorem dX2_comesToFirst_26 : decode cX2_comesToFirst 26 = .ok (.goto (-22), 3) := by decide +kernel
theorem dX2_comesToFirst_29 : decode cX2_comesToFirst 29 = .ok (.iload_n 2, 1) := by decide +kernel
theorem dX2_comesToFirst_30 : decode cX2_comesToFirst 30 = .ok (.iconst 1, 1) := by decide +kernel
theorem dX2_comesToFirst_31 : decode cX2_comesToFirst 31 = .ok (.if_icmp .ne 7, 3) := by decide +kernel
theorem dX2_comesToFirst_34 : decode cX2_comesToFirst 34 = .ok (.iconst 1, 1) := by decide +kernel
theorem dX2_comesToFirst_35 : decode cX2_comesToFirst 35 = .ok (.goto 4, 3) := by decide +kernel
theorem dX2_comesToFirst_38 : decode cX2_comesToFirst 38 = .ok (.iconst 0, 1) := by decide +kernel
theorem dX2_comesToFirst_39 : decode cX2_comesToFirst 39 = .ok (.ireturn, 1) := by decide +kernel
