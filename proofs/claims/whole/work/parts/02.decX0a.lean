theorem dX0_init_0 : decode cX0_init 0 = .ok (.aload_n 0, 1) := by decide +kernel
theorem dX0_init_1 : decode cX0_init 1 = .ok (.invokespecial 3, 3) := by decide +kernel
theorem dX0_init_4 : decode cX0_init 4 = .ok (.aload_n 0, 1) := by decide +kernel
theorem dX0_init_5 : decode cX0_init 5 = .ok (.new 9, 3) := by decide +kernel
theorem dX0_init_8 : decode cX0_init 8 = .ok (.dup, 1) := by decide +kernel
theorem dX0_init_9 : decode cX0_init 9 = .ok (.invokespecial 11, 3) := by decide +kernel
theorem dX0_init_12 : decode cX0_init 12 = .ok (.putfield 12, 3) := by decide +kernel
theorem dX0_init_15 : decode cX0_init 15 = .ok (.aload_n 0, 1) := by decide +kernel
theorem dX0_init_16 : decode cX0_init 16 = .ok (.bipush 32, 2) := by decide +kernel
theorem dX0_init_18 : decode cX0_init 18 = .ok (.newarray .int, 2) := by decide +kernel
theorem dX0_init_20 : decode cX0_init 20 = .ok (.putfield 18, 3) := by decide +kernel
theorem dX0_init_23 : decode cX0_init 23 = .ok (.aload_n 0, 1) := by decide +kernel
theorem dX0_init_24 : decode cX0_init 24 = .ok (.bipush 33, 2) := by decide +kernel
theorem dX0_init_26 : decode cX0_init 26 = .ok (.newarray .int, 2) := by decide +kernel
theorem dX0_init_28 : decode cX0_init 28 = .ok (.putfield 22, 3) := by decide +kernel
theorem dX0_init_31 : decode cX0_init 31 = .ok (.aload_n 0, 1) := by decide +kernel
theorem dX0_init_32 : decode cX0_init 32 = .ok (.bipush 33, 2) := by decide +kernel
theorem dX0_init_34 : decode cX0_init 34 = .ok (.newarray .int, 2) := by decide +kernel
theorem dX0_init_36 : decode cX0_init 36 = .ok (.putfield 25, 3) := by decide +kernel
theorem dX0_init_39 : decode cX0_init 39 = .ok (.aload_n 0, 1) := by decide +kernel
theorem dX0_init_40 : decode cX0_init 40 = .ok (.bipush 33, 2) := by decide +kernel
theorem dX0_init_42 : decode cX0_init 42 = .ok (.newarray .int, 2) := by decide +kernel
theorem dX0_init_44 : decode cX0_init 44 = .ok (.putfield 28, 3) := by decide +kernel
theorem dX0_init_47 : decode cX0_init 47 = .ok (.aload_n 0, 1) := by decide +kernel
theorem dX0_init_48 : decode cX0_init 48 = .ok (.sipush 396, 3) := by decide +kernel
theorem dX0_init_51 : decode cX0_init 51 = .ok (.newarray .int, 2) := by decide +kernel
theorem dX0_init_53 : decode cX0_init 53 = .ok (.putfield 31, 3) := by decide +kernel
theorem dX0_init_56 : decode cX0_init 56 = .ok (.aload_n 0, 1) := by decide +kernel
theorem dX0_init_57 : decode cX0_init 57 = .ok (.bipush 33, 2) := by decide +kernel
theorem dX0_init_59 : decode cX0_init 59 = .ok (.newarray .int, 2) := by decide +kernel
theorem dX0_init_61 : decode cX0_init 61 = .ok (.putfield 34, 3) := by decide +kernel
theorem dX0_init_64 : decode cX0_init 64 = .ok (.aload_n 0, 1) := by decide +kernel
theorem dX0_init_65 : decode cX0_init 65 = .ok (.bipush 33, 2) := by decide +kernel
theorem dX0_init_67 : decode cX0_init 67 = .ok (.newarray .int, 2) := by decide +kernel
theorem dX0_init_69 : decode cX0_init 69 = .ok (.putfield 37, 3) := by decide +kernel
theorem dX0_init_72 : decode cX0_init 72 = .ok (.aload_n 0, 1) := by decide +kernel
theorem dX0_init_73 : decode cX0_init 73 = .ok (.bipush 33, 2) := by decide +kernel
theorem dX0_init_75 : decode cX0_init 75 = .ok (.newarray .int, 2) := by decide +kernel
theorem dX0_init_77 : decode cX0_init 77 = .ok (.putfield 40, 3) := by decide +kernel
theorem dX0_init_80 : decode cX0_init 80 = .ok (.aload_n 0, 1) := by decide +kernel
theorem dX0_init_81 : decode cX0_init 81 = .ok (.bipush 32, 2) := by decide +kernel
theorem dX0_init_83 : decode cX0_init 83 = .ok (.newarray .int, 2) := by decide +kernel
theorem dX0_init_85 : decode cX0_init 85 = .ok (.putfield 43, 3) := by decide +kernel
theorem dX0_init_88 : decode cX0_init 88 = .ok (.aload_n 0, 1) := by decide +kernel
theorem dX0_init_89 : decode cX0_init 89 = .ok (.bipush 32, 2) := by decide +kernel
theorem dX0_init_91 : decode cX0_init 91 = .ok (.newarray .int, 2) := by decide +kernel
theorem dX0_init_93 : decode cX0_init 93 = .ok (.putfield 46, 3) := by decide +kernel
theorem dX0_init_96 : decode cX0_init 96 = .ok (.aload_n 0, 1) := by decide +kernel
theorem dX0_init_97 : decode cX0_init 97 = .ok (.bipush 32, 2) := by decide +kernel
theorem dX0_init_99 : decode cX0_init 99 = .ok (.newarray .int, 2) := by decide +kernel
theorem dX0_init_101 : decode cX0_init 101 = .ok (.putfield 49, 3) := by decide +kernel
theorem dX0_init_104 : decode cX0_init 104 = .ok (.aload_n 0, 1) := by decide +kernel
theorem dX0_init_105 : decode cX0_init 105 = .ok (.bipush 32, 2) := by decide +kernel
theorem dX0_init_107 : decode cX0_init 107 = .ok (.newarray .int, 2) := by decide +kernel
theorem dX0_init_109 : decode cX0_init 109 = .ok (.putfield 52, 3) := by decide +kernel
theorem dX0_init_112 : decode cX0_init 112 = .ok (.return_, 1) := by decide +kernel
theorem dX0_become_0 : decode cX0_become 0 = .ok (.aload_n 0, 1) := by decide +kernel
theorem dX0_become_1 : decode cX0_become 1 = .ok (.aload_n 1, 1) := by decide +kernel
theorem dX0_become_2 : decode cX0_become 2 = .ok (.invokevirtual 55, 3) := by decide +kernel
theorem dX0_become_5 : decode cX0_become 5 = .ok (.aload_n 0, 1) := by decide +kernel
theorem dX0_become_6 : decode cX0_become 6 = .ok (.iload_n 2, 1) := by decide +kernel
theorem dX0_become_7 : decode cX0_become 7 = .ok (.aload_n 3, 1) := by decide +kernel
theorem dX0_become_8 : decode cX0_become 8 = .ok (.invokevirtual 59, 3) := by decide +kernel
theorem dX0_become_11 : decode cX0_become 11 = .ok (.aload_n 0, 1) := by decide +kernel
theorem dX0_become_12 : decode cX0_become 12 = .ok (.aload_n 1, 1) := by decide +kernel
theorem dX0_become_13 : decode cX0_become 13 = .ok (.iload_n 2, 1) := by decide +kernel
theorem dX0_become_14 : decode cX0_become 14 = .ok (.aload_n 3, 1) := by decide +kernel
theorem dX0_become_15 : decode cX0_become 15 = .ok (.invokevirtual 63, 3) := by decide +kernel
theorem dX0_become_18 : decode cX0_become 18 = .ok (.aload_n 0, 1) := by decide +kernel
theorem dX0_become_19 : decode cX0_become 19 = .ok (.aload_n 1, 1) := by decide +kernel
theorem dX0_become_20 : decode cX0_become 20 = .ok (.iload_n 2, 1) := by decide +kernel
theorem dX0_become_21 : decode cX0_become 21 = .ok (.aload_n 3, 1) := by decide +kernel
theorem dX0_become_22 : decode cX0_become 22 = .ok (.invokevirtual 67, 3) := by decide +kernel
theorem dX0_become_25 : decode cX0_become 25 = .ok (.aload_n 3, 1) := by decide +kernel
theorem dX0_become_26 : decode cX0_become 26 = .ok (.bipush 6, 2) := by decide +kernel
theorem dX0_become_28 : decode cX0_become 28 = .ok (.aload_n 3, 1) := by decide +kernel
theorem dX0_become_29 : decode cX0_become 29 = .ok (.getfield 70, 3) := by decide +kernel
theorem dX0_become_32 : decode cX0_become 32 = .ok (.invokevirtual 76, 3) := by decide +kernel
theorem dX0_become_35 : decode cX0_become 35 = .ok (.aload_n 0, 1) := by decide +kernel
theorem dX0_become_36 : decode cX0_become 36 = .ok (.aload_n 1, 1) := by decide +kernel
theorem dX0_become_37 : decode cX0_become 37 = .ok (.iload_n 2, 1) := by decide +kernel
theorem dX0_become_38 : decode cX0_become 38 = .ok (.aload_n 3, 1) := by decide +kernel
theorem dX0_become_39 : decode cX0_become 39 = .ok (.invokevirtual 80, 3) := by decide +kernel
theorem dX0_become_42 : decode cX0_become 42 = .ok (.aload_n 3, 1) := by decide +kernel
theorem dX0_become_43 : decode cX0_become 43 = .ok (.bipush 8, 2) := by decide +kernel
theorem dX0_become_45 : decode cX0_become 45 = .ok (.aload_n 3, 1) := by decide +kernel
theorem dX0_become_46 : decode cX0_become 46 = .ok (.getfield 70, 3) := by decide +kernel
theorem dX0_become_49 : decode cX0_become 49 = .ok (.invokevirtual 76, 3) := by decide +kernel
theorem dX0_become_52 : decode cX0_become 52 = .ok (.aload_n 0, 1) := by decide +kernel
theorem dX0_become_53 : decode cX0_become 53 = .ok (.aload_n 1, 1) := by decide +kernel
theorem dX0_become_54 : decode cX0_become 54 = .ok (.aload_n 3, 1) := by decide +kernel
theorem dX0_become_55 : decode cX0_become 55 = .ok (.invokevirtual 83, 3) := by decide +kernel
theorem dX0_become_58 : decode cX0_become 58 = .ok (.aload_n 3, 1) := by decide +kernel
theorem dX0_become_59 : decode cX0_become 59 = .ok (.bipush 10, 2) := by decide +kernel
theorem dX0_become_61 : decode cX0_become 61 = .ok (.aload_n 3, 1) := by decide +kernel
theorem dX0_become_62 : decode cX0_become 62 = .ok (.getfield 70, 3) := by decide +kernel
theorem dX0_become_65 : decode cX0_become 65 = .ok (.invokevirtual 76, 3) := by decide +kernel
theorem dX0_become_68 : decode cX0_become 68 = .ok (.aload_n 0, 1) := by decide +kernel
theorem dX0_become_69 : decode cX0_become 69 = .ok (.aload_n 3, 1) := by decide +kernel
theorem dX0_become_70 : decode cX0_become 70 = .ok (.invokevirtual 87, 3) := by decide +kernel
theorem dX0_become_73 : decode cX0_become 73 = .ok (.aload_n 3, 1) := by decide +kernel
theorem dX0_become_74 : decode cX0_become 74 = .ok (.bipush 12, 2) := by decide +kernel
theorem dX0_become_76 : decode cX0_become 76 = .ok (.aload_n 3, 1) := by decide +kernel
theorem dX0_become_77 : decode cX0_become 77 = .ok (.getfield 70, 3) := by decide +kernel
theorem dX0_become_80 : decode cX0_become 80 = .ok (.invokevirtual 76, 3) := by decide +kernel
theorem dX0_become_83 : decode cX0_become 83 = .ok (.aload_n 0, 1) := by decide +kernel
theorem dX0_become_84 : decode cX0_become 84 = .ok (.aload_n 3, 1) := by decide +kernel
theorem dX0_become_85 : decode cX0_become 85 = .ok (.invokevirtual 91, 3) := by decide +kernel
theorem dX0_become_88 : decode cX0_become 88 = .ok (.aload_n 3, 1) := by decide +kernel
theorem dX0_become_89 : decode cX0_become 89 = .ok (.bipush 14, 2) := by decide +kernel
theorem dX0_become_91 : decode cX0_become 91 = .ok (.aload_n 3, 1) := by decide +kernel
theorem dX0_become_92 : decode cX0_become 92 = .ok (.getfield 70, 3) := by decide +kernel
theorem dX0_become_95 : decode cX0_become 95 = .ok (.invokevirtual 76, 3) := by decide +kernel
theorem dX0_become_98 : decode cX0_become 98 = .ok (.aload_n 3, 1) := by decide +kernel
theorem dX0_become_99 : decode cX0_become 99 = .ok (.bipush 16, 2) := by decide +kernel
theorem dX0_become_101 : decode cX0_become 101 = .ok (.aload_n 3, 1) := by decide +kernel
theorem dX0_become_102 : decode cX0_become 102 = .ok (.invokevirtual 94, 3) := by decide +kernel
theorem dX0_become_105 : decode cX0_become 105 = .ok (.invokevirtual 76, 3) := by decide +kernel
theorem dX0_become_108 : decode cX0_become 108 = .ok (.aload_n 3, 1) := by decide +kernel
theorem dX0_become_109 : decode cX0_become 109 = .ok (.invokevirtual 98, 3) := by decide +kernel
theorem dX0_become_112 : decode cX0_become 112 = .ok (.return_, 1) := by decide +kernel
theorem dX0_giveNumbers_0 : decode cX0_giveNumbers 0 = .ok (.aload_n 0, 1) := by decide +kernel
theorem dX0_giveNumbers_1 : decode cX0_giveNumbers 1 = .ok (.getfield 18, 3) := by decide +kernel
theorem dX0_giveNumbers_4 : decode cX0_giveNumbers 4 = .ok (.iconst 0, 1) := by decide +kernel
theorem dX0_giveNumbers_5 : decode cX0_giveNumbers 5 = .ok (.invokestatic 101, 3) := by decide +kernel
theorem dX0_giveNumbers_8 : decode cX0_giveNumbers 8 = .ok (.aload_n 0, 1) := by decide +kernel
theorem dX0_giveNumbers_9 : decode cX0_giveNumbers 9 = .ok (.getfield 18, 3) := by decide +kernel
theorem dX0_giveNumbers_12 : decode cX0_giveNumbers 12 = .ok (.iconst 0, 1) := by decide +kernel
theorem dX0_giveNumbers_13 : decode cX0_giveNumbers 13 = .ok (.iconst 1, 1) := by decide +kernel
theorem dX0_giveNumbers_14 : decode cX0_giveNumbers 14 = .ok (.iastore, 1) := by decide +kernel
theorem dX0_giveNumbers_15 : decode cX0_giveNumbers 15 = .ok (.aload_n 0, 1) := by decide +kernel
theorem dX0_giveNumbers_16 : decode cX0_giveNumbers 16 = .ok (.getfield 22, 3) := by decide +kernel
theorem dX0_giveNumbers_19 : decode cX0_giveNumbers 19 = .ok (.iconst 1, 1) := by decide +kernel
theorem dX0_giveNumbers_20 : decode cX0_giveNumbers 20 = .ok (.iconst 0, 1) := by decide +kernel
theorem dX0_giveNumbers_21 : decode cX0_giveNumbers 21 = .ok (.iastore, 1) := by decide +kernel
theorem dX0_giveNumbers_22 : decode cX0_giveNumbers 22 = .ok (.aload_n 0, 1) := by decide +kernel
theorem dX0_giveNumbers_23 : decode cX0_giveNumbers 23 = .ok (.iconst 1, 1) := by decide +kernel
theorem dX0_giveNumbers_24 : decode cX0_giveNumbers 24 = .ok (.putfield 107, 3) := by decide +kernel
theorem dX0_giveNumbers_27 : decode cX0_giveNumbers 27 = .ok (.iconst 1, 1) := by decide +kernel
theorem dX0_giveNumbers_28 : decode cX0_giveNumbers 28 = .ok (.istore_n 2, 1) := by decide +kernel
theorem dX0_giveNumbers_29 : decode cX0_giveNumbers 29 = .ok (.iload_n 2, 1) := by decide +kernel
theorem dX0_giveNumbers_30 : decode cX0_giveNumbers 30 = .ok (.aload_n 0, 1) := by decide +kernel
theorem dX0_giveNumbers_31 : decode cX0_giveNumbers 31 = .ok (.getfield 107, 3) := by decide +kernel
theorem dX0_giveNumbers_34 : decode cX0_giveNumbers 34 = .ok (.if_icmp .gt 38, 3) := by decide +kernel
theorem dX0_giveNumbers_37 : decode cX0_giveNumbers 37 = .ok (.iload_n 2, 1) := by decide +kernel
theorem dX0_giveNumbers_38 : decode cX0_giveNumbers 38 = .ok (.bipush 32, 2) := by decide +kernel
theorem dX0_giveNumbers_40 : decode cX0_giveNumbers 40 = .ok (.if_icmp .gt 32, 3) := by decide +kernel
theorem dX0_giveNumbers_43 : decode cX0_giveNumbers 43 = .ok (.aload_n 0, 1) := by decide +kernel
theorem dX0_giveNumbers_44 : decode cX0_giveNumbers 44 = .ok (.getfield 22, 3) := by decide +kernel
theorem dX0_giveNumbers_47 : decode cX0_giveNumbers 47 = .ok (.iload_n 2, 1) := by decide +kernel
theorem dX0_giveNumbers_48 : decode cX0_giveNumbers 48 = .ok (.iaload, 1) := by decide +kernel
theorem dX0_giveNumbers_49 : decode cX0_giveNumbers 49 = .ok (.istore_n 3, 1) := by decide +kernel
theorem dX0_giveNumbers_50 : decode cX0_giveNumbers 50 = .ok (.aload_n 1, 1) := by decide +kernel
theorem dX0_giveNumbers_51 : decode cX0_giveNumbers 51 = .ok (.getfield 110, 3) := by decide +kernel
theorem dX0_giveNumbers_54 : decode cX0_giveNumbers 54 = .ok (.iload_n 3, 1) := by decide +kernel
theorem dX0_giveNumbers_55 : decode cX0_giveNumbers 55 = .ok (.iaload, 1) := by decide +kernel
theorem dX0_giveNumbers_56 : decode cX0_giveNumbers 56 = .ok (.iconst 1, 1) := by decide +kernel
theorem dX0_giveNumbers_57 : decode cX0_giveNumbers 57 = .ok (.if_icmp .ne 9, 3) := by decide +kernel
theorem dX0_giveNumbers_60 : decode cX0_giveNumbers 60 = .ok (.aload_n 0, 1) := by decide +kernel
theorem dX0_giveNumbers_61 : decode cX0_giveNumbers 61 = .ok (.aload_n 1, 1) := by decide +kernel
theorem dX0_giveNumbers_62 : decode cX0_giveNumbers 62 = .ok (.iload_n 3, 1) := by decide +kernel
theorem dX0_giveNumbers_63 : decode cX0_giveNumbers 63 = .ok (.invokevirtual 115, 3) := by decide +kernel
theorem dX0_giveNumbers_66 : decode cX0_giveNumbers 66 = .ok (.iinc 2 1, 3) := by decide +kernel
theorem dX0_giveNumbers_69 : decode cX0_giveNumbers 69 = .ok (.goto (-40), 3) := by decide +kernel
theorem dX0_giveNumbers_72 : decode cX0_giveNumbers 72 = .ok (.return_, 1) := by decide +kernel
theorem dX0_giveNumbersBelow_0 : decode cX0_giveNumbersBelow 0 = .ok (.aload_n 1, 1) := by decide +kernel
theorem dX0_giveNumbersBelow_1 : decode cX0_giveNumbersBelow 1 = .ok (.iload_n 2, 1) := by decide +kernel
theorem dX0_giveNumbersBelow_2 : decode cX0_giveNumbersBelow 2 = .ok (.iconst 1, 1) := by decide +kernel
theorem dX0_giveNumbersBelow_3 : decode cX0_giveNumbersBelow 3 = .ok (.iadd, 1) := by decide +kernel
theorem dX0_giveNumbersBelow_4 : decode cX0_giveNumbersBelow 4 = .ok (.invokevirtual 119, 3) := by decide +kernel
theorem dX0_giveNumbersBelow_7 : decode cX0_giveNumbersBelow 7 = .ok (.istore_n 3, 1) := by decide +kernel
theorem dX0_giveNumbersBelow_8 : decode cX0_giveNumbersBelow 8 = .ok (.aload_n 1, 1) := by decide +kernel
theorem dX0_giveNumbersBelow_9 : decode cX0_giveNumbersBelow 9 = .ok (.iload_n 2, 1) := by decide +kernel
theorem dX0_giveNumbersBelow_10 : decode cX0_giveNumbersBelow 10 = .ok (.invokevirtual 119, 3) := by decide +kernel
theorem dX0_giveNumbersBelow_13 : decode cX0_giveNumbersBelow 13 = .ok (.istore 4, 2) := by decide +kernel
theorem dX0_giveNumbersBelow_15 : decode cX0_giveNumbersBelow 15 = .ok (.iload 4, 2) := by decide +kernel
theorem dX0_giveNumbersBelow_17 : decode cX0_giveNumbersBelow 17 = .ok (.iload_n 3, 1) := by decide +kernel
theorem dX0_giveNumbersBelow_18 : decode cX0_giveNumbersBelow 18 = .ok (.if_icmp .ge 69, 3) := by decide +kernel
theorem dX0_giveNumbersBelow_21 : decode cX0_giveNumbersBelow 21 = .ok (.aload_n 1, 1) := by decide +kernel
theorem dX0_giveNumbersBelow_22 : decode cX0_giveNumbersBelow 22 = .ok (.getfield 123, 3) := by decide +kernel
theorem dX0_giveNumbersBelow_25 : decode cX0_giveNumbersBelow 25 = .ok (.iload 4, 2) := by decide +kernel
theorem dX0_giveNumbersBelow_27 : decode cX0_giveNumbersBelow 27 = .ok (.iaload, 1) := by decide +kernel
theorem dX0_giveNumbersBelow_28 : decode cX0_giveNumbersBelow 28 = .ok (.istore 5, 2) := by decide +kernel
theorem dX0_giveNumbersBelow_30 : decode cX0_giveNumbersBelow 30 = .ok (.aload_n 0, 1) := by decide +kernel
theorem dX0_giveNumbersBelow_31 : decode cX0_giveNumbersBelow 31 = .ok (.getfield 18, 3) := by decide +kernel
theorem dX0_giveNumbersBelow_34 : decode cX0_giveNumbersBelow 34 = .ok (.iload 5, 2) := by decide +kernel
theorem dX0_giveNumbersBelow_36 : decode cX0_giveNumbersBelow 36 = .ok (.iaload, 1) := by decide +kernel
theorem dX0_giveNumbersBelow_37 : decode cX0_giveNumbersBelow 37 = .ok (.ifCond .ne 44, 3) := by decide +kernel
theorem dX0_giveNumbersBelow_40 : decode cX0_giveNumbersBelow 40 = .ok (.aload_n 0, 1) := by decide +kernel
theorem dX0_giveNumbersBelow_41 : decode cX0_giveNumbersBelow 41 = .ok (.getfield 107, 3) := by decide +kernel
theorem dX0_giveNumbersBelow_44 : decode cX0_giveNumbersBelow 44 = .ok (.bipush 32, 2) := by decide +kernel
theorem dX0_giveNumbersBelow_46 : decode cX0_giveNumbersBelow 46 = .ok (.if_icmp .ge 35, 3) := by decide +kernel
theorem dX0_giveNumbersBelow_49 : decode cX0_giveNumbersBelow 49 = .ok (.aload_n 0, 1) := by decide +kernel
theorem dX0_giveNumbersBelow_50 : decode cX0_giveNumbersBelow 50 = .ok (.dup, 1) := by decide +kernel
theorem dX0_giveNumbersBelow_51 : decode cX0_giveNumbersBelow 51 = .ok (.getfield 107, 3) := by decide +kernel
theorem dX0_giveNumbersBelow_54 : decode cX0_giveNumbersBelow 54 = .ok (.iconst 1, 1) := by decide +kernel
theorem dX0_giveNumbersBelow_55 : decode cX0_giveNumbersBelow 55 = .ok (.iadd, 1) := by decide +kernel
theorem dX0_giveNumbersBelow_56 : decode cX0_giveNumbersBelow 56 = .ok (.putfield 107, 3) := by decide +kernel
theorem dX0_giveNumbersBelow_59 : decode cX0_giveNumbersBelow 59 = .ok (.aload_n 0, 1) := by decide +kernel
theorem dX0_giveNumbersBelow_60 : decode cX0_giveNumbersBelow 60 = .ok (.getfield 18, 3) := by decide +kernel
theorem dX0_giveNumbersBelow_63 : decode cX0_giveNumbersBelow 63 = .ok (.iload 5, 2) := by decide +kernel
theorem dX0_giveNumbersBelow_65 : decode cX0_giveNumbersBelow 65 = .ok (.aload_n 0, 1) := by decide +kernel
theorem dX0_giveNumbersBelow_66 : decode cX0_giveNumbersBelow 66 = .ok (.getfield 107, 3) := by decide +kernel
theorem dX0_giveNumbersBelow_69 : decode cX0_giveNumbersBelow 69 = .ok (.iastore, 1) := by decide +kernel
theorem dX0_giveNumbersBelow_70 : decode cX0_giveNumbersBelow 70 = .ok (.aload_n 0, 1) := by decide +kernel
theorem dX0_giveNumbersBelow_71 : decode cX0_giveNumbersBelow 71 = .ok (.getfield 22, 3) := by decide +kernel
theorem dX0_giveNumbersBelow_74 : decode cX0_giveNumbersBelow 74 = .ok (.aload_n 0, 1) := by decide +kernel
theorem dX0_giveNumbersBelow_75 : decode cX0_giveNumbersBelow 75 = .ok (.getfield 107, 3) := by decide +kernel
theorem dX0_giveNumbersBelow_78 : decode cX0_giveNumbersBelow 78 = .ok (.iload 5, 2) := by decide +kernel
theorem dX0_giveNumbersBelow_80 : decode cX0_giveNumbersBelow 80 = .ok (.iastore, 1) := by decide +kernel
theorem dX0_giveNumbersBelow_81 : decode cX0_giveNumbersBelow 81 = .ok (.iinc 4 1, 3) := by decide +kernel
theorem dX0_giveNumbersBelow_84 : decode cX0_giveNumbersBelow 84 = .ok (.goto (-69), 3) := by decide +kernel
theorem dX0_giveNumbersBelow_87 : decode cX0_giveNumbersBelow 87 = .ok (.return_, 1) := by decide +kernel
theorem dX0_putHead_0 : decode cX0_putHead 0 = .ok (.aload_n 2, 1) := by decide +kernel
theorem dX0_putHead_1 : decode cX0_putHead 1 = .ok (.iconst 0, 1) := by decide +kernel
theorem dX0_putHead_2 : decode cX0_putHead 2 = .ok (.putfield 70, 3) := by decide +kernel
theorem dX0_putHead_5 : decode cX0_putHead 5 = .ok (.aload_n 2, 1) := by decide +kernel
theorem dX0_putHead_6 : decode cX0_putHead 6 = .ok (.bipush 84, 2) := by decide +kernel
theorem dX0_putHead_8 : decode cX0_putHead 8 = .ok (.invokevirtual 126, 3) := by decide +kernel
theorem dX0_putHead_11 : decode cX0_putHead 11 = .ok (.aload_n 2, 1) := by decide +kernel
theorem dX0_putHead_12 : decode cX0_putHead 12 = .ok (.bipush 73, 2) := by decide +kernel
theorem dX0_putHead_14 : decode cX0_putHead 14 = .ok (.invokevirtual 126, 3) := by decide +kernel
theorem dX0_putHead_17 : decode cX0_putHead 17 = .ok (.aload_n 2, 1) := by decide +kernel
theorem dX0_putHead_18 : decode cX0_putHead 18 = .ok (.iload_n 1, 1) := by decide +kernel
theorem dX0_putHead_19 : decode cX0_putHead 19 = .ok (.invokevirtual 126, 3) := by decide +kernel
theorem dX0_putHead_22 : decode cX0_putHead 22 = .ok (.aload_n 2, 1) := by decide +kernel
theorem dX0_putHead_23 : decode cX0_putHead 23 = .ok (.iconst 0, 1) := by decide +kernel
theorem dX0_putHead_24 : decode cX0_putHead 24 = .ok (.invokevirtual 126, 3) := by decide +kernel
theorem dX0_putHead_27 : decode cX0_putHead 27 = .ok (.aload_n 2, 1) := by decide +kernel
theorem dX0_putHead_28 : decode cX0_putHead 28 = .ok (.aload_n 0, 1) := by decide +kernel
theorem dX0_putHead_29 : decode cX0_putHead 29 = .ok (.getfield 107, 3) := by decide +kernel
theorem dX0_putHead_32 : decode cX0_putHead 32 = .ok (.invokevirtual 130, 3) := by decide +kernel
theorem dX0_putHead_35 : decode cX0_putHead 35 = .ok (.bipush 6, 2) := by decide +kernel
theorem dX0_putHead_37 : decode cX0_putHead 37 = .ok (.istore_n 3, 1) := by decide +kernel
theorem dX0_putHead_38 : decode cX0_putHead 38 = .ok (.iload_n 3, 1) := by decide +kernel
theorem dX0_putHead_39 : decode cX0_putHead 39 = .ok (.bipush 18, 2) := by decide +kernel
theorem dX0_putHead_41 : decode cX0_putHead 41 = .ok (.if_icmp .ge 14, 3) := by decide +kernel
theorem dX0_putHead_44 : decode cX0_putHead 44 = .ok (.aload_n 2, 1) := by decide +kernel
theorem dX0_putHead_45 : decode cX0_putHead 45 = .ok (.iconst 0, 1) := by decide +kernel
theorem dX0_putHead_46 : decode cX0_putHead 46 = .ok (.invokevirtual 130, 3) := by decide +kernel
theorem dX0_putHead_49 : decode cX0_putHead 49 = .ok (.iinc 3 2, 3) := by decide +kernel
theorem dX0_putHead_52 : decode cX0_putHead 52 = .ok (.goto (-14), 3) := by decide +kernel
theorem dX0_putHead_55 : decode cX0_putHead 55 = .ok (.return_, 1) := by decide +kernel
theorem dX0_putBlocks_0 : decode cX0_putBlocks 0 = .ok (.iconst 1, 1) := by decide +kernel
theorem dX0_putBlocks_1 : decode cX0_putBlocks 1 = .ok (.istore 4, 2) := by decide +kernel
theorem dX0_putBlocks_3 : decode cX0_putBlocks 3 = .ok (.iload 4, 2) := by decide +kernel
theorem dX0_putBlocks_5 : decode cX0_putBlocks 5 = .ok (.aload_n 0, 1) := by decide +kernel
theorem dX0_putBlocks_6 : decode cX0_putBlocks 6 = .ok (.getfield 107, 3) := by decide +kernel
theorem dX0_putBlocks_9 : decode cX0_putBlocks 9 = .ok (.if_icmp .gt 58, 3) := by decide +kernel
theorem dX0_putBlocks_12 : decode cX0_putBlocks 12 = .ok (.aload_n 0, 1) := by decide +kernel
theorem dX0_putBlocks_13 : decode cX0_putBlocks 13 = .ok (.getfield 25, 3) := by decide +kernel
theorem dX0_putBlocks_16 : decode cX0_putBlocks 16 = .ok (.iload 4, 2) := by decide +kernel
theorem dX0_putBlocks_18 : decode cX0_putBlocks 18 = .ok (.aload_n 0, 1) := by decide +kernel
theorem dX0_putBlocks_19 : decode cX0_putBlocks 19 = .ok (.aload_n 1, 1) := by decide +kernel
theorem dX0_putBlocks_20 : decode cX0_putBlocks 20 = .ok (.iload 4, 2) := by decide +kernel
theorem dX0_putBlocks_22 : decode cX0_putBlocks 22 = .ok (.invokevirtual 133, 3) := by decide +kernel
theorem dX0_putBlocks_25 : decode cX0_putBlocks 25 = .ok (.iastore, 1) := by decide +kernel
theorem dX0_putBlocks_26 : decode cX0_putBlocks 26 = .ok (.aload_n 1, 1) := by decide +kernel
theorem dX0_putBlocks_27 : decode cX0_putBlocks 27 = .ok (.getfield 110, 3) := by decide +kernel
theorem dX0_putBlocks_30 : decode cX0_putBlocks 30 = .ok (.aload_n 0, 1) := by decide +kernel
theorem dX0_putBlocks_31 : decode cX0_putBlocks 31 = .ok (.getfield 22, 3) := by decide +kernel
theorem dX0_putBlocks_34 : decode cX0_putBlocks 34 = .ok (.iload 4, 2) := by decide +kernel
theorem dX0_putBlocks_36 : decode cX0_putBlocks 36 = .ok (.iaload, 1) := by decide +kernel
theorem dX0_putBlocks_37 : decode cX0_putBlocks 37 = .ok (.iaload, 1) := by decide +kernel
theorem dX0_putBlocks_38 : decode cX0_putBlocks 38 = .ok (.iconst 2, 1) := by decide +kernel
theorem dX0_putBlocks_39 : decode cX0_putBlocks 39 = .ok (.if_icmp .ne 22, 3) := by decide +kernel
theorem dX0_putBlocks_42 : decode cX0_putBlocks 42 = .ok (.aload_n 0, 1) := by decide +kernel
theorem dX0_putBlocks_43 : decode cX0_putBlocks 43 = .ok (.getfield 25, 3) := by decide +kernel
theorem dX0_putBlocks_46 : decode cX0_putBlocks 46 = .ok (.iload 4, 2) := by decide +kernel
theorem dX0_putBlocks_48 : decode cX0_putBlocks 48 = .ok (.iaload, 1) := by decide +kernel
theorem dX0_putBlocks_49 : decode cX0_putBlocks 49 = .ok (.ifCond .ne 12, 3) := by decide +kernel
theorem dX0_putBlocks_52 : decode cX0_putBlocks 52 = .ok (.aload_n 0, 1) := by decide +kernel
theorem dX0_putBlocks_53 : decode cX0_putBlocks 53 = .ok (.aload_n 1, 1) := by decide +kernel
theorem dX0_putBlocks_54 : decode cX0_putBlocks 54 = .ok (.iload 4, 2) := by decide +kernel
theorem dX0_putBlocks_56 : decode cX0_putBlocks 56 = .ok (.iload_n 2, 1) := by decide +kernel
theorem dX0_putBlocks_57 : decode cX0_putBlocks 57 = .ok (.aload_n 3, 1) := by decide +kernel
theorem dX0_putBlocks_58 : decode cX0_putBlocks 58 = .ok (.invokevirtual 137, 3) := by decide +kernel
theorem dX0_putBlocks_61 : decode cX0_putBlocks 61 = .ok (.iinc 4 1, 3) := by decide +kernel
theorem dX0_putBlocks_64 : decode cX0_putBlocks 64 = .ok (.goto (-61), 3) := by decide +kernel
theorem dX0_putBlocks_67 : decode cX0_putBlocks 67 = .ok (.return_, 1) := by decide +kernel
theorem dX0_findTwin_0 : decode cX0_findTwin 0 = .ok (.aload_n 0, 1) := by decide +kernel
theorem dX0_findTwin_1 : decode cX0_findTwin 1 = .ok (.getfield 22, 3) := by decide +kernel
theorem dX0_findTwin_4 : decode cX0_findTwin 4 = .ok (.iload_n 2, 1) := by decide +kernel
theorem dX0_findTwin_5 : decode cX0_findTwin 5 = .ok (.iaload, 1) := by decide +kernel
theorem dX0_findTwin_6 : decode cX0_findTwin 6 = .ok (.istore_n 3, 1) := by decide +kernel
theorem dX0_findTwin_7 : decode cX0_findTwin 7 = .ok (.aload_n 1, 1) := by decide +kernel
theorem dX0_findTwin_8 : decode cX0_findTwin 8 = .ok (.getfield 110, 3) := by decide +kernel
theorem dX0_findTwin_11 : decode cX0_findTwin 11 = .ok (.iload_n 3, 1) := by decide +kernel
theorem dX0_findTwin_12 : decode cX0_findTwin 12 = .ok (.iaload, 1) := by decide +kernel
theorem dX0_findTwin_13 : decode cX0_findTwin 13 = .ok (.iconst 2, 1) := by decide +kernel
theorem dX0_findTwin_14 : decode cX0_findTwin 14 = .ok (.if_icmp .ne 12, 3) := by decide +kernel
theorem dX0_findTwin_17 : decode cX0_findTwin 17 = .ok (.aload_n 1, 1) := by decide +kernel
theorem dX0_findTwin_18 : decode cX0_findTwin 18 = .ok (.getfield 141, 3) := by decide +kernel
theorem dX0_findTwin_21 : decode cX0_findTwin 21 = .ok (.iload_n 3, 1) := by decide +kernel
theorem dX0_findTwin_22 : decode cX0_findTwin 22 = .ok (.iaload, 1) := by decide +kernel
theorem dX0_findTwin_23 : decode cX0_findTwin 23 = .ok (.ifCond .ne 5, 3) := by decide +kernel
theorem dX0_findTwin_26 : decode cX0_findTwin 26 = .ok (.iconst 0, 1) := by decide +kernel
theorem dX0_findTwin_27 : decode cX0_findTwin 27 = .ok (.ireturn, 1) := by decide +kernel
theorem dX0_findTwin_28 : decode cX0_findTwin 28 = .ok (.iconst 1, 1) := by decide +kernel
theorem dX0_findTwin_29 : decode cX0_findTwin 29 = .ok (.istore 4, 2) := by decide +kernel
theorem dX0_findTwin_31 : decode cX0_findTwin 31 = .ok (.iload 4, 2) := by decide +kernel
theorem dX0_findTwin_33 : decode cX0_findTwin 33 = .ok (.iload_n 2, 1) := by decide +kernel
theorem dX0_findTwin_34 : decode cX0_findTwin 34 = .ok (.if_icmp .ge 42, 3) := by decide +kernel
theorem dX0_findTwin_37 : decode cX0_findTwin 37 = .ok (.aload_n 0, 1) := by decide +kernel
theorem dX0_findTwin_38 : decode cX0_findTwin 38 = .ok (.getfield 22, 3) := by decide +kernel
theorem dX0_findTwin_41 : decode cX0_findTwin 41 = .ok (.iload 4, 2) := by decide +kernel
theorem dX0_findTwin_43 : decode cX0_findTwin 43 = .ok (.iaload, 1) := by decide +kernel
theorem dX0_findTwin_44 : decode cX0_findTwin 44 = .ok (.istore 5, 2) := by decide +kernel
theorem dX0_findTwin_46 : decode cX0_findTwin 46 = .ok (.aload_n 1, 1) := by decide +kernel
theorem dX0_findTwin_47 : decode cX0_findTwin 47 = .ok (.getfield 110, 3) := by decide +kernel
theorem dX0_findTwin_50 : decode cX0_findTwin 50 = .ok (.iload 5, 2) := by decide +kernel
theorem dX0_findTwin_52 : decode cX0_findTwin 52 = .ok (.iaload, 1) := by decide +kernel
theorem dX0_findTwin_53 : decode cX0_findTwin 53 = .ok (.iconst 2, 1) := by decide +kernel
theorem dX0_findTwin_54 : decode cX0_findTwin 54 = .ok (.if_icmp .ne 16, 3) := by decide +kernel
theorem dX0_findTwin_57 : decode cX0_findTwin 57 = .ok (.aload_n 1, 1) := by decide +kernel
theorem dX0_findTwin_58 : decode cX0_findTwin 58 = .ok (.iload_n 3, 1) := by decide +kernel
theorem dX0_findTwin_59 : decode cX0_findTwin 59 = .ok (.iload 5, 2) := by decide +kernel
theorem dX0_findTwin_61 : decode cX0_findTwin 61 = .ok (.invokevirtual 144, 3) := by decide +kernel
theorem dX0_findTwin_64 : decode cX0_findTwin 64 = .ok (.ifCond .eq 6, 3) := by decide +kernel
theorem dX0_findTwin_67 : decode cX0_findTwin 67 = .ok (.iload 4, 2) := by decide +kernel
theorem dX0_findTwin_69 : decode cX0_findTwin 69 = .ok (.ireturn, 1) := by decide +kernel
theorem dX0_findTwin_70 : decode cX0_findTwin 70 = .ok (.iinc 4 1, 3) := by decide +kernel
theorem dX0_findTwin_73 : decode cX0_findTwin 73 = .ok (.goto (-42), 3) := by decide +kernel
theorem dX0_findTwin_76 : decode cX0_findTwin 76 = .ok (.iconst 0, 1) := by decide +kernel
theorem dX0_findTwin_77 : decode cX0_findTwin 77 = .ok (.ireturn, 1) := by decide +kernel
theorem dX0_putBlocksOf_0 : decode cX0_putBlocksOf 0 = .ok (.aload_n 0, 1) := by decide +kernel
theorem dX0_putBlocksOf_1 : decode cX0_putBlocksOf 1 = .ok (.getfield 22, 3) := by decide +kernel
theorem dX0_putBlocksOf_4 : decode cX0_putBlocksOf 4 = .ok (.iload_n 2, 1) := by decide +kernel
theorem dX0_putBlocksOf_5 : decode cX0_putBlocksOf 5 = .ok (.iaload, 1) := by decide +kernel
theorem dX0_putBlocksOf_6 : decode cX0_putBlocksOf 6 = .ok (.istore 5, 2) := by decide +kernel
theorem dX0_putBlocksOf_8 : decode cX0_putBlocksOf 8 = .ok (.aload_n 1, 1) := by decide +kernel
theorem dX0_putBlocksOf_9 : decode cX0_putBlocksOf 9 = .ok (.getfield 141, 3) := by decide +kernel
theorem dX0_putBlocksOf_12 : decode cX0_putBlocksOf 12 = .ok (.iload 5, 2) := by decide +kernel
theorem dX0_putBlocksOf_14 : decode cX0_putBlocksOf 14 = .ok (.iaload, 1) := by decide +kernel
theorem dX0_putBlocksOf_15 : decode cX0_putBlocksOf 15 = .ok (.iload_n 3, 1) := by decide +kernel
theorem dX0_putBlocksOf_16 : decode cX0_putBlocksOf 16 = .ok (.invokestatic 148, 3) := by decide +kernel
theorem dX0_putBlocksOf_19 : decode cX0_putBlocksOf 19 = .ok (.istore 6, 2) := by decide +kernel
theorem dX0_putBlocksOf_21 : decode cX0_putBlocksOf 21 = .ok (.aload_n 0, 1) := by decide +kernel
theorem dX0_putBlocksOf_22 : decode cX0_putBlocksOf 22 = .ok (.getfield 28, 3) := by decide +kernel
theorem dX0_putBlocksOf_25 : decode cX0_putBlocksOf 25 = .ok (.iload_n 2, 1) := by decide +kernel
theorem dX0_putBlocksOf_26 : decode cX0_putBlocksOf 26 = .ok (.iload 6, 2) := by decide +kernel
theorem dX0_putBlocksOf_28 : decode cX0_putBlocksOf 28 = .ok (.ifCond .ne 7, 3) := by decide +kernel
theorem dX0_putBlocksOf_31 : decode cX0_putBlocksOf 31 = .ok (.iconst 0, 1) := by decide +kernel
theorem dX0_putBlocksOf_32 : decode cX0_putBlocksOf 32 = .ok (.goto 8, 3) := by decide +kernel
theorem dX0_putBlocksOf_35 : decode cX0_putBlocksOf 35 = .ok (.aload 4, 2) := by decide +kernel
theorem dX0_putBlocksOf_37 : decode cX0_putBlocksOf 37 = .ok (.getfield 70, 3) := by decide +kernel
theorem dX0_putBlocksOf_40 : decode cX0_putBlocksOf 40 = .ok (.iastore, 1) := by decide +kernel
theorem dX0_putBlocksOf_41 : decode cX0_putBlocksOf 41 = .ok (.iconst 0, 1) := by decide +kernel
theorem dX0_putBlocksOf_42 : decode cX0_putBlocksOf 42 = .ok (.istore 7, 2) := by decide +kernel
theorem dX0_putBlocksOf_44 : decode cX0_putBlocksOf 44 = .ok (.iload 7, 2) := by decide +kernel
theorem dX0_putBlocksOf_46 : decode cX0_putBlocksOf 46 = .ok (.iload 6, 2) := by decide +kernel
theorem dX0_putBlocksOf_48 : decode cX0_putBlocksOf 48 = .ok (.if_icmp .ge 45, 3) := by decide +kernel
theorem dX0_putBlocksOf_51 : decode cX0_putBlocksOf 51 = .ok (.aload_n 0, 1) := by decide +kernel
theorem dX0_putBlocksOf_52 : decode cX0_putBlocksOf 52 = .ok (.getfield 31, 3) := by decide +kernel
theorem dX0_putBlocksOf_55 : decode cX0_putBlocksOf 55 = .ok (.iload_n 2, 1) := by decide +kernel
theorem dX0_putBlocksOf_56 : decode cX0_putBlocksOf 56 = .ok (.bipush 12, 2) := by decide +kernel
theorem dX0_putBlocksOf_58 : decode cX0_putBlocksOf 58 = .ok (.imul, 1) := by decide +kernel
theorem dX0_putBlocksOf_59 : decode cX0_putBlocksOf 59 = .ok (.iload 7, 2) := by decide +kernel
theorem dX0_putBlocksOf_61 : decode cX0_putBlocksOf 61 = .ok (.iadd, 1) := by decide +kernel
theorem dX0_putBlocksOf_62 : decode cX0_putBlocksOf 62 = .ok (.aload_n 0, 1) := by decide +kernel
theorem dX0_putBlocksOf_63 : decode cX0_putBlocksOf 63 = .ok (.getfield 12, 3) := by decide +kernel
theorem dX0_putBlocksOf_66 : decode cX0_putBlocksOf 66 = .ok (.aload_n 1, 1) := by decide +kernel
theorem dX0_putBlocksOf_67 : decode cX0_putBlocksOf 67 = .ok (.getfield 152, 3) := by decide +kernel
theorem dX0_putBlocksOf_70 : decode cX0_putBlocksOf 70 = .ok (.iload 5, 2) := by decide +kernel
theorem dX0_putBlocksOf_72 : decode cX0_putBlocksOf 72 = .ok (.bipush 100, 2) := by decide +kernel
theorem dX0_putBlocksOf_74 : decode cX0_putBlocksOf 74 = .ok (.imul, 1) := by decide +kernel
theorem dX0_putBlocksOf_75 : decode cX0_putBlocksOf 75 = .ok (.iload 7, 2) := by decide +kernel
theorem dX0_putBlocksOf_77 : decode cX0_putBlocksOf 77 = .ok (.iload_n 3, 1) := by decide +kernel
theorem dX0_putBlocksOf_78 : decode cX0_putBlocksOf 78 = .ok (.imul, 1) := by decide +kernel
theorem dX0_putBlocksOf_79 : decode cX0_putBlocksOf 79 = .ok (.iadd, 1) := by decide +kernel
theorem dX0_putBlocksOf_80 : decode cX0_putBlocksOf 80 = .ok (.iload_n 3, 1) := by decide +kernel
theorem dX0_putBlocksOf_81 : decode cX0_putBlocksOf 81 = .ok (.aload 4, 2) := by decide +kernel
theorem dX0_putBlocksOf_83 : decode cX0_putBlocksOf 83 = .ok (.invokevirtual 155, 3) := by decide +kernel
theorem dX0_putBlocksOf_86 : decode cX0_putBlocksOf 86 = .ok (.iastore, 1) := by decide +kernel
theorem dX0_putBlocksOf_87 : decode cX0_putBlocksOf 87 = .ok (.iinc 7 1, 3) := by decide +kernel
theorem dX0_putBlocksOf_90 : decode cX0_putBlocksOf 90 = .ok (.goto (-46), 3) := by decide +kernel
theorem dX0_putBlocksOf_93 : decode cX0_putBlocksOf 93 = .ok (.return_, 1) := by decide +kernel
theorem dX0_putTailBlocks_0 : decode cX0_putTailBlocks 0 = .ok (.aload_n 0, 1) := by decide +kernel
theorem dX0_putTailBlocks_1 : decode cX0_putTailBlocks 1 = .ok (.iconst 0, 1) := by decide +kernel
theorem dX0_putTailBlocks_2 : decode cX0_putTailBlocks 2 = .ok (.putfield 159, 3) := by decide +kernel
theorem dX0_putTailBlocks_5 : decode cX0_putTailBlocks 5 = .ok (.aload_n 0, 1) := by decide +kernel
theorem dX0_putTailBlocks_6 : decode cX0_putTailBlocks 6 = .ok (.iconst 0, 1) := by decide +kernel
theorem dX0_putTailBlocks_7 : decode cX0_putTailBlocks 7 = .ok (.putfield 162, 3) := by decide +kernel
theorem dX0_putTailBlocks_10 : decode cX0_putTailBlocks 10 = .ok (.iconst 1, 1) := by decide +kernel
theorem dX0_putTailBlocks_11 : decode cX0_putTailBlocks 11 = .ok (.istore 4, 2) := by decide +kernel
theorem dX0_putTailBlocks_13 : decode cX0_putTailBlocks 13 = .ok (.iload 4, 2) := by decide +kernel
theorem dX0_putTailBlocks_15 : decode cX0_putTailBlocks 15 = .ok (.aload_n 0, 1) := by decide +kernel
theorem dX0_putTailBlocks_16 : decode cX0_putTailBlocks 16 = .ok (.getfield 107, 3) := by decide +kernel
theorem dX0_putTailBlocks_19 : decode cX0_putTailBlocks 19 = .ok (.if_icmp .gt 103, 3) := by decide +kernel
theorem dX0_putTailBlocks_22 : decode cX0_putTailBlocks 22 = .ok (.aload_n 0, 1) := by decide +kernel
theorem dX0_putTailBlocks_23 : decode cX0_putTailBlocks 23 = .ok (.getfield 22, 3) := by decide +kernel
theorem dX0_putTailBlocks_26 : decode cX0_putTailBlocks 26 = .ok (.iload 4, 2) := by decide +kernel
theorem dX0_putTailBlocks_28 : decode cX0_putTailBlocks 28 = .ok (.iaload, 1) := by decide +kernel
theorem dX0_putTailBlocks_29 : decode cX0_putTailBlocks 29 = .ok (.istore 5, 2) := by decide +kernel
theorem dX0_putTailBlocks_31 : decode cX0_putTailBlocks 31 = .ok (.aload_n 0, 1) := by decide +kernel
theorem dX0_putTailBlocks_32 : decode cX0_putTailBlocks 32 = .ok (.getfield 34, 3) := by decide +kernel
theorem dX0_putTailBlocks_35 : decode cX0_putTailBlocks 35 = .ok (.iload 4, 2) := by decide +kernel
theorem dX0_putTailBlocks_37 : decode cX0_putTailBlocks 37 = .ok (.iconst 0, 1) := by decide +kernel
theorem dX0_putTailBlocks_38 : decode cX0_putTailBlocks 38 = .ok (.iastore, 1) := by decide +kernel
theorem dX0_putTailBlocks_39 : decode cX0_putTailBlocks 39 = .ok (.aload_n 0, 1) := by decide +kernel
theorem dX0_putTailBlocks_40 : decode cX0_putTailBlocks 40 = .ok (.getfield 37, 3) := by decide +kernel
theorem dX0_putTailBlocks_43 : decode cX0_putTailBlocks 43 = .ok (.iload 4, 2) := by decide +kernel
theorem dX0_putTailBlocks_45 : decode cX0_putTailBlocks 45 = .ok (.iconst 0, 1) := by decide +kernel
theorem dX0_putTailBlocks_46 : decode cX0_putTailBlocks 46 = .ok (.iastore, 1) := by decide +kernel
theorem dX0_putTailBlocks_47 : decode cX0_putTailBlocks 47 = .ok (.aload_n 1, 1) := by decide +kernel
theorem dX0_putTailBlocks_48 : decode cX0_putTailBlocks 48 = .ok (.getfield 110, 3) := by decide +kernel
theorem dX0_putTailBlocks_51 : decode cX0_putTailBlocks 51 = .ok (.iload 5, 2) := by decide +kernel
theorem dX0_putTailBlocks_53 : decode cX0_putTailBlocks 53 = .ok (.iaload, 1) := by decide +kernel
theorem dX0_putTailBlocks_54 : decode cX0_putTailBlocks 54 = .ok (.iconst 2, 1) := by decide +kernel
theorem dX0_putTailBlocks_55 : decode cX0_putTailBlocks 55 = .ok (.if_icmp .ne 61, 3) := by decide +kernel
theorem dX0_putTailBlocks_58 : decode cX0_putTailBlocks 58 = .ok (.aload_n 0, 1) := by decide +kernel
theorem dX0_putTailBlocks_59 : decode cX0_putTailBlocks 59 = .ok (.getfield 25, 3) := by decide +kernel
theorem dX0_putTailBlocks_62 : decode cX0_putTailBlocks 62 = .ok (.iload 4, 2) := by decide +kernel
theorem dX0_putTailBlocks_64 : decode cX0_putTailBlocks 64 = .ok (.iaload, 1) := by decide +kernel
theorem dX0_putTailBlocks_65 : decode cX0_putTailBlocks 65 = .ok (.ifCond .ne 51, 3) := by decide +kernel
theorem dX0_putTailBlocks_68 : decode cX0_putTailBlocks 68 = .ok (.aload_n 1, 1) := by decide +kernel
theorem dX0_putTailBlocks_69 : decode cX0_putTailBlocks 69 = .ok (.getfield 141, 3) := by decide +kernel
theorem dX0_putTailBlocks_72 : decode cX0_putTailBlocks 72 = .ok (.iload 5, 2) := by decide +kernel
theorem dX0_putTailBlocks_74 : decode cX0_putTailBlocks 74 = .ok (.iaload, 1) := by decide +kernel
theorem dX0_putTailBlocks_75 : decode cX0_putTailBlocks 75 = .ok (.aload_n 1, 1) := by decide +kernel
theorem dX0_putTailBlocks_76 : decode cX0_putTailBlocks 76 = .ok (.getfield 141, 3) := by decide +kernel
theorem dX0_putTailBlocks_79 : decode cX0_putTailBlocks 79 = .ok (.iload 5, 2) := by decide +kernel
theorem dX0_putTailBlocks_81 : decode cX0_putTailBlocks 81 = .ok (.iaload, 1) := by decide +kernel
theorem dX0_putTailBlocks_82 : decode cX0_putTailBlocks 82 = .ok (.iload_n 2, 1) := by decide +kernel
theorem dX0_putTailBlocks_83 : decode cX0_putTailBlocks 83 = .ok (.invokestatic 148, 3) := by decide +kernel
theorem dX0_putTailBlocks_86 : decode cX0_putTailBlocks 86 = .ok (.iload_n 2, 1) := by decide +kernel
theorem dX0_putTailBlocks_87 : decode cX0_putTailBlocks 87 = .ok (.imul, 1) := by decide +kernel
theorem dX0_putTailBlocks_88 : decode cX0_putTailBlocks 88 = .ok (.isub, 1) := by decide +kernel
theorem dX0_putTailBlocks_89 : decode cX0_putTailBlocks 89 = .ok (.istore 6, 2) := by decide +kernel
theorem dX0_putTailBlocks_91 : decode cX0_putTailBlocks 91 = .ok (.aload_n 0, 1) := by decide +kernel
theorem dX0_putTailBlocks_92 : decode cX0_putTailBlocks 92 = .ok (.getfield 162, 3) := by decide +kernel
theorem dX0_putTailBlocks_95 : decode cX0_putTailBlocks 95 = .ok (.iload 6, 2) := by decide +kernel
theorem dX0_putTailBlocks_97 : decode cX0_putTailBlocks 97 = .ok (.iadd, 1) := by decide +kernel
theorem dX0_putTailBlocks_98 : decode cX0_putTailBlocks 98 = .ok (.iload_n 2, 1) := by decide +kernel
theorem dX0_putTailBlocks_99 : decode cX0_putTailBlocks 99 = .ok (.if_icmp .le 8, 3) := by decide +kernel
theorem dX0_putTailBlocks_102 : decode cX0_putTailBlocks 102 = .ok (.aload_n 0, 1) := by decide +kernel
theorem dX0_putTailBlocks_103 : decode cX0_putTailBlocks 103 = .ok (.aload_n 3, 1) := by decide +kernel
theorem dX0_putTailBlocks_104 : decode cX0_putTailBlocks 104 = .ok (.invokevirtual 165, 3) := by decide +kernel
theorem dX0_putTailBlocks_107 : decode cX0_putTailBlocks 107 = .ok (.aload_n 0, 1) := by decide +kernel
theorem dX0_putTailBlocks_108 : decode cX0_putTailBlocks 108 = .ok (.aload_n 1, 1) := by decide +kernel
theorem dX0_putTailBlocks_109 : decode cX0_putTailBlocks 109 = .ok (.iload 4, 2) := by decide +kernel
theorem dX0_putTailBlocks_111 : decode cX0_putTailBlocks 111 = .ok (.iload 6, 2) := by decide +kernel
theorem dX0_putTailBlocks_113 : decode cX0_putTailBlocks 113 = .ok (.invokevirtual 168, 3) := by decide +kernel
theorem dX0_putTailBlocks_116 : decode cX0_putTailBlocks 116 = .ok (.iinc 4 1, 3) := by decide +kernel
theorem dX0_putTailBlocks_119 : decode cX0_putTailBlocks 119 = .ok (.goto (-106), 3) := by decide +kernel
theorem dX0_putTailBlocks_122 : decode cX0_putTailBlocks 122 = .ok (.aload_n 0, 1) := by decide +kernel
theorem dX0_putTailBlocks_123 : decode cX0_putTailBlocks 123 = .ok (.getfield 162, 3) := by decide +kernel
theorem dX0_putTailBlocks_126 : decode cX0_putTailBlocks 126 = .ok (.ifCond .le 8, 3) := by decide +kernel
theorem dX0_putTailBlocks_129 : decode cX0_putTailBlocks 129 = .ok (.aload_n 0, 1) := by decide +kernel
theorem dX0_putTailBlocks_130 : decode cX0_putTailBlocks 130 = .ok (.aload_n 3, 1) := by decide +kernel
theorem dX0_putTailBlocks_131 : decode cX0_putTailBlocks 131 = .ok (.invokevirtual 165, 3) := by decide +kernel
theorem dX0_putTailBlocks_134 : decode cX0_putTailBlocks 134 = .ok (.return_, 1) := by decide +kernel
theorem dX0_joinTail_0 : decode cX0_joinTail 0 = .ok (.iload_n 3, 1) := by decide +kernel
theorem dX0_joinTail_1 : decode cX0_joinTail 1 = .ok (.ifCond .ne 4, 3) := by decide +kernel
theorem dX0_joinTail_4 : decode cX0_joinTail 4 = .ok (.return_, 1) := by decide +kernel
theorem dX0_joinTail_5 : decode cX0_joinTail 5 = .ok (.aload_n 0, 1) := by decide +kernel
theorem dX0_joinTail_6 : decode cX0_joinTail 6 = .ok (.getfield 22, 3) := by decide +kernel
theorem dX0_joinTail_9 : decode cX0_joinTail 9 = .ok (.iload_n 2, 1) := by decide +kernel
theorem dX0_joinTail_10 : decode cX0_joinTail 10 = .ok (.iaload, 1) := by decide +kernel
theorem dX0_joinTail_11 : decode cX0_joinTail 11 = .ok (.istore 4, 2) := by decide +kernel
theorem dX0_joinTail_13 : decode cX0_joinTail 13 = .ok (.iload 4, 2) := by decide +kernel
theorem dX0_joinTail_15 : decode cX0_joinTail 15 = .ok (.bipush 100, 2) := by decide +kernel
theorem dX0_joinTail_17 : decode cX0_joinTail 17 = .ok (.imul, 1) := by decide +kernel
theorem dX0_joinTail_18 : decode cX0_joinTail 18 = .ok (.aload_n 1, 1) := by decide +kernel
theorem dX0_joinTail_19 : decode cX0_joinTail 19 = .ok (.getfield 141, 3) := by decide +kernel
theorem dX0_joinTail_22 : decode cX0_joinTail 22 = .ok (.iload 4, 2) := by decide +kernel
theorem dX0_joinTail_24 : decode cX0_joinTail 24 = .ok (.iaload, 1) := by decide +kernel
theorem dX0_joinTail_25 : decode cX0_joinTail 25 = .ok (.iadd, 1) := by decide +kernel
theorem dX0_joinTail_26 : decode cX0_joinTail 26 = .ok (.iload_n 3, 1) := by decide +kernel
theorem dX0_joinTail_27 : decode cX0_joinTail 27 = .ok (.isub, 1) := by decide +kernel
theorem dX0_joinTail_28 : decode cX0_joinTail 28 = .ok (.istore 5, 2) := by decide +kernel
theorem dX0_joinTail_30 : decode cX0_joinTail 30 = .ok (.aload_n 0, 1) := by decide +kernel
theorem dX0_joinTail_31 : decode cX0_joinTail 31 = .ok (.getfield 34, 3) := by decide +kernel
theorem dX0_joinTail_34 : decode cX0_joinTail 34 = .ok (.iload_n 2, 1) := by decide +kernel
theorem dX0_joinTail_35 : decode cX0_joinTail 35 = .ok (.aload_n 0, 1) := by decide +kernel
theorem dX0_joinTail_36 : decode cX0_joinTail 36 = .ok (.getfield 159, 3) := by decide +kernel
theorem dX0_joinTail_39 : decode cX0_joinTail 39 = .ok (.iconst 1, 1) := by decide +kernel
theorem dX0_joinTail_40 : decode cX0_joinTail 40 = .ok (.iadd, 1) := by decide +kernel
theorem dX0_joinTail_41 : decode cX0_joinTail 41 = .ok (.iastore, 1) := by decide +kernel
theorem dX0_joinTail_42 : decode cX0_joinTail 42 = .ok (.aload_n 0, 1) := by decide +kernel
theorem dX0_joinTail_43 : decode cX0_joinTail 43 = .ok (.getfield 37, 3) := by decide +kernel
theorem dX0_joinTail_46 : decode cX0_joinTail 46 = .ok (.iload_n 2, 1) := by decide +kernel
theorem dX0_joinTail_47 : decode cX0_joinTail 47 = .ok (.aload_n 0, 1) := by decide +kernel
theorem dX0_joinTail_48 : decode cX0_joinTail 48 = .ok (.getfield 162, 3) := by decide +kernel
theorem dX0_joinTail_51 : decode cX0_joinTail 51 = .ok (.iastore, 1) := by decide +kernel
theorem dX0_joinTail_52 : decode cX0_joinTail 52 = .ok (.iconst 0, 1) := by decide +kernel
theorem dX0_joinTail_53 : decode cX0_joinTail 53 = .ok (.istore 6, 2) := by decide +kernel
theorem dX0_joinTail_55 : decode cX0_joinTail 55 = .ok (.iload 6, 2) := by decide +kernel
theorem dX0_joinTail_57 : decode cX0_joinTail 57 = .ok (.iload_n 3, 1) := by decide +kernel
theorem dX0_joinTail_58 : decode cX0_joinTail 58 = .ok (.if_icmp .ge 47, 3) := by decide +kernel
theorem dX0_joinTail_61 : decode cX0_joinTail 61 = .ok (.aload_n 0, 1) := by decide +kernel
theorem dX0_joinTail_62 : decode cX0_joinTail 62 = .ok (.getfield 162, 3) := by decide +kernel
theorem dX0_joinTail_65 : decode cX0_joinTail 65 = .ok (.bipush 32, 2) := by decide +kernel
theorem dX0_joinTail_67 : decode cX0_joinTail 67 = .ok (.if_icmp .ge 38, 3) := by decide +kernel
theorem dX0_joinTail_70 : decode cX0_joinTail 70 = .ok (.aload_n 0, 1) := by decide +kernel
theorem dX0_joinTail_71 : decode cX0_joinTail 71 = .ok (.getfield 52, 3) := by decide +kernel
theorem dX0_joinTail_74 : decode cX0_joinTail 74 = .ok (.aload_n 0, 1) := by decide +kernel
theorem dX0_joinTail_75 : decode cX0_joinTail 75 = .ok (.getfield 162, 3) := by decide +kernel
theorem dX0_joinTail_78 : decode cX0_joinTail 78 = .ok (.aload_n 1, 1) := by decide +kernel
theorem dX0_joinTail_79 : decode cX0_joinTail 79 = .ok (.getfield 152, 3) := by decide +kernel
theorem dX0_joinTail_82 : decode cX0_joinTail 82 = .ok (.iload 5, 2) := by decide +kernel
theorem dX0_joinTail_84 : decode cX0_joinTail 84 = .ok (.iload 6, 2) := by decide +kernel
theorem dX0_joinTail_86 : decode cX0_joinTail 86 = .ok (.iadd, 1) := by decide +kernel
theorem dX0_joinTail_87 : decode cX0_joinTail 87 = .ok (.iaload, 1) := by decide +kernel
theorem dX0_joinTail_88 : decode cX0_joinTail 88 = .ok (.iastore, 1) := by decide +kernel
theorem dX0_joinTail_89 : decode cX0_joinTail 89 = .ok (.aload_n 0, 1) := by decide +kernel
theorem dX0_joinTail_90 : decode cX0_joinTail 90 = .ok (.dup, 1) := by decide +kernel
theorem dX0_joinTail_91 : decode cX0_joinTail 91 = .ok (.getfield 162, 3) := by decide +kernel
theorem dX0_joinTail_94 : decode cX0_joinTail 94 = .ok (.iconst 1, 1) := by decide +kernel
theorem dX0_joinTail_95 : decode cX0_joinTail 95 = .ok (.iadd, 1) := by decide +kernel
theorem dX0_joinTail_96 : decode cX0_joinTail 96 = .ok (.putfield 162, 3) := by decide +kernel
theorem dX0_joinTail_99 : decode cX0_joinTail 99 = .ok (.iinc 6 1, 3) := by decide +kernel
theorem dX0_joinTail_102 : decode cX0_joinTail 102 = .ok (.goto (-47), 3) := by decide +kernel
theorem dX0_joinTail_105 : decode cX0_joinTail 105 = .ok (.return_, 1) := by decide +kernel
theorem dX0_closeTailBlock_0 : decode cX0_closeTailBlock 0 = .ok (.aload_n 0, 1) := by decide +kernel
theorem dX0_closeTailBlock_1 : decode cX0_closeTailBlock 1 = .ok (.getfield 159, 3) := by decide +kernel
theorem dX0_closeTailBlock_4 : decode cX0_closeTailBlock 4 = .ok (.bipush 32, 2) := by decide +kernel
theorem dX0_closeTailBlock_6 : decode cX0_closeTailBlock 6 = .ok (.if_icmp .ge 65, 3) := by decide +kernel
theorem dX0_closeTailBlock_9 : decode cX0_closeTailBlock 9 = .ok (.aload_n 0, 1) := by decide +kernel
theorem dX0_closeTailBlock_10 : decode cX0_closeTailBlock 10 = .ok (.getfield 43, 3) := by decide +kernel
theorem dX0_closeTailBlock_13 : decode cX0_closeTailBlock 13 = .ok (.aload_n 0, 1) := by decide +kernel
theorem dX0_closeTailBlock_14 : decode cX0_closeTailBlock 14 = .ok (.getfield 159, 3) := by decide +kernel
theorem dX0_closeTailBlock_17 : decode cX0_closeTailBlock 17 = .ok (.aload_n 1, 1) := by decide +kernel
theorem dX0_closeTailBlock_18 : decode cX0_closeTailBlock 18 = .ok (.getfield 70, 3) := by decide +kernel
theorem dX0_closeTailBlock_21 : decode cX0_closeTailBlock 21 = .ok (.iastore, 1) := by decide +kernel
theorem dX0_closeTailBlock_22 : decode cX0_closeTailBlock 22 = .ok (.aload_n 0, 1) := by decide +kernel
theorem dX0_closeTailBlock_23 : decode cX0_closeTailBlock 23 = .ok (.getfield 46, 3) := by decide +kernel
theorem dX0_closeTailBlock_26 : decode cX0_closeTailBlock 26 = .ok (.aload_n 0, 1) := by decide +kernel
theorem dX0_closeTailBlock_27 : decode cX0_closeTailBlock 27 = .ok (.getfield 159, 3) := by decide +kernel
theorem dX0_closeTailBlock_30 : decode cX0_closeTailBlock 30 = .ok (.aload_n 0, 1) := by decide +kernel
theorem dX0_closeTailBlock_31 : decode cX0_closeTailBlock 31 = .ok (.getfield 12, 3) := by decide +kernel
theorem dX0_closeTailBlock_34 : decode cX0_closeTailBlock 34 = .ok (.aload_n 0, 1) := by decide +kernel
theorem dX0_closeTailBlock_35 : decode cX0_closeTailBlock 35 = .ok (.getfield 52, 3) := by decide +kernel
theorem dX0_closeTailBlock_38 : decode cX0_closeTailBlock 38 = .ok (.iconst 0, 1) := by decide +kernel
theorem dX0_closeTailBlock_39 : decode cX0_closeTailBlock 39 = .ok (.aload_n 0, 1) := by decide +kernel
theorem dX0_closeTailBlock_40 : decode cX0_closeTailBlock 40 = .ok (.getfield 162, 3) := by decide +kernel
theorem dX0_closeTailBlock_43 : decode cX0_closeTailBlock 43 = .ok (.aload_n 1, 1) := by decide +kernel
theorem dX0_closeTailBlock_44 : decode cX0_closeTailBlock 44 = .ok (.invokevirtual 155, 3) := by decide +kernel
theorem dX0_closeTailBlock_47 : decode cX0_closeTailBlock 47 = .ok (.iastore, 1) := by decide +kernel
theorem dX0_closeTailBlock_48 : decode cX0_closeTailBlock 48 = .ok (.aload_n 0, 1) := by decide +kernel
theorem dX0_closeTailBlock_49 : decode cX0_closeTailBlock 49 = .ok (.getfield 49, 3) := by decide +kernel
theorem dX0_closeTailBlock_52 : decode cX0_closeTailBlock 52 = .ok (.aload_n 0, 1) := by decide +kernel
theorem dX0_closeTailBlock_53 : decode cX0_closeTailBlock 53 = .ok (.getfield 159, 3) := by decide +kernel
theorem dX0_closeTailBlock_56 : decode cX0_closeTailBlock 56 = .ok (.aload_n 0, 1) := by decide +kernel
theorem dX0_closeTailBlock_57 : decode cX0_closeTailBlock 57 = .ok (.getfield 162, 3) := by decide +kernel
theorem dX0_closeTailBlock_60 : decode cX0_closeTailBlock 60 = .ok (.iastore, 1) := by decide +kernel
theorem dX0_closeTailBlock_61 : decode cX0_closeTailBlock 61 = .ok (.aload_n 0, 1) := by decide +kernel
theorem dX0_closeTailBlock_62 : decode cX0_closeTailBlock 62 = .ok (.dup, 1) := by decide +kernel
theorem dX0_closeTailBlock_63 : decode cX0_closeTailBlock 63 = .ok (.getfield 159, 3) := by decide +kernel
theorem dX0_closeTailBlock_66 : decode cX0_closeTailBlock 66 = .ok (.iconst 1, 1) := by decide +kernel
theorem dX0_closeTailBlock_67 : decode cX0_closeTailBlock 67 = .ok (.iadd, 1) := by decide +kernel
theorem dX0_closeTailBlock_68 : decode cX0_closeTailBlock 68 = .ok (.putfield 159, 3) := by decide +kernel
theorem dX0_closeTailBlock_71 : decode cX0_closeTailBlock 71 = .ok (.aload_n 0, 1) := by decide +kernel
theorem dX0_closeTailBlock_72 : decode cX0_closeTailBlock 72 = .ok (.iconst 0, 1) := by decide +kernel
theorem dX0_closeTailBlock_73 : decode cX0_closeTailBlock 73 = .ok (.putfield 162, 3) := by decide +kernel
theorem dX0_closeTailBlock_76 : decode cX0_closeTailBlock 76 = .ok (.return_, 1) := by decide +kernel
theorem dX0_putInodes_0 : decode cX0_putInodes 0 = .ok (.aload_n 3, 1) := by decide +kernel
theorem dX0_putInodes_1 : decode cX0_putInodes 1 = .ok (.getfield 70, 3) := by decide +kernel
theorem dX0_putInodes_4 : decode cX0_putInodes 4 = .ok (.istore 4, 2) := by decide +kernel
theorem dX0_putInodes_6 : decode cX0_putInodes 6 = .ok (.iconst 0, 1) := by decide +kernel
theorem dX0_putInodes_7 : decode cX0_putInodes 7 = .ok (.istore 5, 2) := by decide +kernel
theorem dX0_putInodes_9 : decode cX0_putInodes 9 = .ok (.iconst 1, 1) := by decide +kernel
theorem dX0_putInodes_10 : decode cX0_putInodes 10 = .ok (.istore 6, 2) := by decide +kernel
theorem dX0_putInodes_12 : decode cX0_putInodes 12 = .ok (.iload 6, 2) := by decide +kernel
theorem dX0_putInodes_14 : decode cX0_putInodes 14 = .ok (.aload_n 0, 1) := by decide +kernel
theorem dX0_putInodes_15 : decode cX0_putInodes 15 = .ok (.getfield 107, 3) := by decide +kernel
theorem dX0_putInodes_18 : decode cX0_putInodes 18 = .ok (.if_icmp .gt 180, 3) := by decide +kernel
theorem dX0_putInodes_21 : decode cX0_putInodes 21 = .ok (.aload_n 0, 1) := by decide +kernel
theorem dX0_putInodes_22 : decode cX0_putInodes 22 = .ok (.getfield 22, 3) := by decide +kernel
theorem dX0_putInodes_25 : decode cX0_putInodes 25 = .ok (.iload 6, 2) := by decide +kernel
theorem dX0_putInodes_27 : decode cX0_putInodes 27 = .ok (.iaload, 1) := by decide +kernel
theorem dX0_putInodes_28 : decode cX0_putInodes 28 = .ok (.istore 7, 2) := by decide +kernel
theorem dX0_putInodes_30 : decode cX0_putInodes 30 = .ok (.aload_n 0, 1) := by decide +kernel
theorem dX0_putInodes_31 : decode cX0_putInodes 31 = .ok (.getfield 40, 3) := by decide +kernel
theorem dX0_putInodes_34 : decode cX0_putInodes 34 = .ok (.iload 6, 2) := by decide +kernel
theorem dX0_putInodes_36 : decode cX0_putInodes 36 = .ok (.aload_n 3, 1) := by decide +kernel
theorem dX0_putInodes_37 : decode cX0_putInodes 37 = .ok (.getfield 70, 3) := by decide +kernel
theorem dX0_putInodes_40 : decode cX0_putInodes 40 = .ok (.iload 4, 2) := by decide +kernel
theorem dX0_putInodes_42 : decode cX0_putInodes 42 = .ok (.isub, 1) := by decide +kernel
theorem dX0_putInodes_43 : decode cX0_putInodes 43 = .ok (.iastore, 1) := by decide +kernel
theorem dX0_putInodes_44 : decode cX0_putInodes 44 = .ok (.aload_n 3, 1) := by decide +kernel
theorem dX0_putInodes_45 : decode cX0_putInodes 45 = .ok (.aload_n 1, 1) := by decide +kernel
theorem dX0_putInodes_46 : decode cX0_putInodes 46 = .ok (.getfield 110, 3) := by decide +kernel
theorem dX0_putInodes_49 : decode cX0_putInodes 49 = .ok (.iload 7, 2) := by decide +kernel
theorem dX0_putInodes_51 : decode cX0_putInodes 51 = .ok (.iaload, 1) := by decide +kernel
theorem dX0_putInodes_52 : decode cX0_putInodes 52 = .ok (.invokevirtual 126, 3) := by decide +kernel
theorem dX0_putInodes_55 : decode cX0_putInodes 55 = .ok (.aload_n 3, 1) := by decide +kernel
theorem dX0_putInodes_56 : decode cX0_putInodes 56 = .ok (.aload_n 1, 1) := by decide +kernel
theorem dX0_putInodes_57 : decode cX0_putInodes 57 = .ok (.getfield 172, 3) := by decide +kernel
theorem dX0_putInodes_60 : decode cX0_putInodes 60 = .ok (.iload 7, 2) := by decide +kernel
theorem dX0_putInodes_62 : decode cX0_putInodes 62 = .ok (.iaload, 1) := by decide +kernel
theorem dX0_putInodes_63 : decode cX0_putInodes 63 = .ok (.invokevirtual 130, 3) := by decide +kernel
theorem dX0_putInodes_66 : decode cX0_putInodes 66 = .ok (.aload_n 3, 1) := by decide +kernel
theorem dX0_putInodes_67 : decode cX0_putInodes 67 = .ok (.aload_n 1, 1) := by decide +kernel
theorem dX0_putInodes_68 : decode cX0_putInodes 68 = .ok (.getfield 175, 3) := by decide +kernel
theorem dX0_putInodes_71 : decode cX0_putInodes 71 = .ok (.iload 7, 2) := by decide +kernel
theorem dX0_putInodes_73 : decode cX0_putInodes 73 = .ok (.iaload, 1) := by decide +kernel
theorem dX0_putInodes_74 : decode cX0_putInodes 74 = .ok (.invokevirtual 130, 3) := by decide +kernel
theorem dX0_putInodes_77 : decode cX0_putInodes 77 = .ok (.aload_n 3, 1) := by decide +kernel
theorem dX0_putInodes_78 : decode cX0_putInodes 78 = .ok (.iload 6, 2) := by decide +kernel
theorem dX0_putInodes_80 : decode cX0_putInodes 80 = .ok (.iconst 1, 1) := by decide +kernel
theorem dX0_putInodes_81 : decode cX0_putInodes 81 = .ok (.if_icmp .ne 7, 3) := by decide +kernel
theorem dX0_putInodes_84 : decode cX0_putInodes 84 = .ok (.iconst 1, 1) := by decide +kernel
theorem dX0_putInodes_85 : decode cX0_putInodes 85 = .ok (.goto 10, 3) := by decide +kernel
theorem dX0_putInodes_88 : decode cX0_putInodes 88 = .ok (.aload_n 1, 1) := by decide +kernel
theorem dX0_putInodes_89 : decode cX0_putInodes 89 = .ok (.getfield 178, 3) := by decide +kernel
theorem dX0_putInodes_92 : decode cX0_putInodes 92 = .ok (.iload 7, 2) := by decide +kernel
theorem dX0_putInodes_94 : decode cX0_putInodes 94 = .ok (.iaload, 1) := by decide +kernel
theorem dX0_putInodes_95 : decode cX0_putInodes 95 = .ok (.invokevirtual 126, 3) := by decide +kernel
theorem dX0_putInodes_98 : decode cX0_putInodes 98 = .ok (.aload_n 1, 1) := by decide +kernel
theorem dX0_putInodes_99 : decode cX0_putInodes 99 = .ok (.getfield 110, 3) := by decide +kernel
theorem dX0_putInodes_102 : decode cX0_putInodes 102 = .ok (.iload 7, 2) := by decide +kernel
theorem dX0_putInodes_104 : decode cX0_putInodes 104 = .ok (.iaload, 1) := by decide +kernel
theorem dX0_putInodes_105 : decode cX0_putInodes 105 = .ok (.iconst 1, 1) := by decide +kernel
theorem dX0_putInodes_106 : decode cX0_putInodes 106 = .ok (.if_icmp .ne 60, 3) := by decide +kernel
theorem dX0_putInodes_109 : decode cX0_putInodes 109 = .ok (.aload_n 1, 1) := by decide +kernel
theorem dX0_putInodes_110 : decode cX0_putInodes 110 = .ok (.iload 7, 2) := by decide +kernel
theorem dX0_putInodes_112 : decode cX0_putInodes 112 = .ok (.iconst 1, 1) := by decide +kernel
theorem dX0_putInodes_113 : decode cX0_putInodes 113 = .ok (.iadd, 1) := by decide +kernel
theorem dX0_putInodes_114 : decode cX0_putInodes 114 = .ok (.invokevirtual 119, 3) := by decide +kernel
theorem dX0_putInodes_117 : decode cX0_putInodes 117 = .ok (.aload_n 1, 1) := by decide +kernel
theorem dX0_putInodes_118 : decode cX0_putInodes 118 = .ok (.iload 7, 2) := by decide +kernel
theorem dX0_putInodes_120 : decode cX0_putInodes 120 = .ok (.invokevirtual 119, 3) := by decide +kernel
theorem dX0_putInodes_123 : decode cX0_putInodes 123 = .ok (.isub, 1) := by decide +kernel
theorem dX0_putInodes_124 : decode cX0_putInodes 124 = .ok (.istore 8, 2) := by decide +kernel
theorem dX0_putInodes_126 : decode cX0_putInodes 126 = .ok (.aload_n 3, 1) := by decide +kernel
theorem dX0_putInodes_127 : decode cX0_putInodes 127 = .ok (.iload 5, 2) := by decide +kernel
theorem dX0_putInodes_129 : decode cX0_putInodes 129 = .ok (.invokevirtual 130, 3) := by decide +kernel
theorem dX0_putInodes_132 : decode cX0_putInodes 132 = .ok (.aload_n 3, 1) := by decide +kernel
theorem dX0_putInodes_133 : decode cX0_putInodes 133 = .ok (.iload 8, 2) := by decide +kernel
theorem dX0_putInodes_135 : decode cX0_putInodes 135 = .ok (.invokevirtual 130, 3) := by decide +kernel
theorem dX0_putInodes_138 : decode cX0_putInodes 138 = .ok (.aload_n 3, 1) := by decide +kernel
theorem dX0_putInodes_139 : decode cX0_putInodes 139 = .ok (.aload_n 0, 1) := by decide +kernel
theorem dX0_putInodes_140 : decode cX0_putInodes 140 = .ok (.getfield 18, 3) := by decide +kernel
theorem dX0_putInodes_143 : decode cX0_putInodes 143 = .ok (.aload_n 1, 1) := by decide +kernel
theorem dX0_putInodes_144 : decode cX0_putInodes 144 = .ok (.getfield 181, 3) := by decide +kernel
theorem dX0_putInodes_147 : decode cX0_putInodes 147 = .ok (.iload 7, 2) := by decide +kernel
theorem dX0_putInodes_149 : decode cX0_putInodes 149 = .ok (.iaload, 1) := by decide +kernel
theorem dX0_putInodes_150 : decode cX0_putInodes 150 = .ok (.iaload, 1) := by decide +kernel
theorem dX0_putInodes_151 : decode cX0_putInodes 151 = .ok (.invokevirtual 130, 3) := by decide +kernel
theorem dX0_putInodes_154 : decode cX0_putInodes 154 = .ok (.iload 5, 2) := by decide +kernel
theorem dX0_putInodes_156 : decode cX0_putInodes 156 = .ok (.iconst 4, 1) := by decide +kernel
theorem dX0_putInodes_157 : decode cX0_putInodes 157 = .ok (.iload 8, 2) := by decide +kernel
theorem dX0_putInodes_159 : decode cX0_putInodes 159 = .ok (.imul, 1) := by decide +kernel
theorem dX0_putInodes_160 : decode cX0_putInodes 160 = .ok (.iadd, 1) := by decide +kernel
theorem dX0_putInodes_161 : decode cX0_putInodes 161 = .ok (.istore 5, 2) := by decide +kernel
theorem dX0_putInodes_163 : decode cX0_putInodes 163 = .ok (.goto 29, 3) := by decide +kernel
theorem dX0_putInodes_166 : decode cX0_putInodes 166 = .ok (.aload_n 1, 1) := by decide +kernel
theorem dX0_putInodes_167 : decode cX0_putInodes 167 = .ok (.getfield 110, 3) := by decide +kernel
theorem dX0_putInodes_170 : decode cX0_putInodes 170 = .ok (.iload 7, 2) := by decide +kernel
theorem dX0_putInodes_172 : decode cX0_putInodes 172 = .ok (.iaload, 1) := by decide +kernel
theorem dX0_putInodes_173 : decode cX0_putInodes 173 = .ok (.iconst 2, 1) := by decide +kernel
theorem dX0_putInodes_174 : decode cX0_putInodes 174 = .ok (.if_icmp .ne 18, 3) := by decide +kernel
theorem dX0_putInodes_177 : decode cX0_putInodes 177 = .ok (.aload_n 0, 1) := by decide +kernel
theorem dX0_putInodes_178 : decode cX0_putInodes 178 = .ok (.iload 6, 2) := by decide +kernel
theorem dX0_putInodes_180 : decode cX0_putInodes 180 = .ok (.aload_n 1, 1) := by decide +kernel
theorem dX0_putInodes_181 : decode cX0_putInodes 181 = .ok (.getfield 141, 3) := by decide +kernel
theorem dX0_putInodes_184 : decode cX0_putInodes 184 = .ok (.iload 7, 2) := by decide +kernel
theorem dX0_putInodes_186 : decode cX0_putInodes 186 = .ok (.iaload, 1) := by decide +kernel
theorem dX0_putInodes_187 : decode cX0_putInodes 187 = .ok (.iload_n 2, 1) := by decide +kernel
theorem dX0_putInodes_188 : decode cX0_putInodes 188 = .ok (.aload_n 3, 1) := by decide +kernel
theorem dX0_putInodes_189 : decode cX0_putInodes 189 = .ok (.invokevirtual 184, 3) := by decide +kernel
theorem dX0_putInodes_192 : decode cX0_putInodes 192 = .ok (.iinc 6 1, 3) := by decide +kernel
theorem dX0_putInodes_195 : decode cX0_putInodes 195 = .ok (.goto (-183), 3) := by decide +kernel
theorem dX0_putInodes_198 : decode cX0_putInodes 198 = .ok (.return_, 1) := by decide +kernel
theorem dX0_putFileRow_0 : decode cX0_putFileRow 0 = .ok (.aload_n 0, 1) := by decide +kernel
theorem dX0_putFileRow_1 : decode cX0_putFileRow 1 = .ok (.getfield 25, 3) := by decide +kernel
theorem dX0_putFileRow_4 : decode cX0_putFileRow 4 = .ok (.iload_n 1, 1) := by decide +kernel
theorem dX0_putFileRow_5 : decode cX0_putFileRow 5 = .ok (.iaload, 1) := by decide +kernel
theorem dX0_putFileRow_6 : decode cX0_putFileRow 6 = .ok (.ifCond .ne 7, 3) := by decide +kernel
theorem dX0_putFileRow_9 : decode cX0_putFileRow 9 = .ok (.iload_n 1, 1) := by decide +kernel
theorem dX0_putFileRow_10 : decode cX0_putFileRow 10 = .ok (.goto 9, 3) := by decide +kernel
theorem dX0_putFileRow_13 : decode cX0_putFileRow 13 = .ok (.aload_n 0, 1) := by decide +kernel
theorem dX0_putFileRow_14 : decode cX0_putFileRow 14 = .ok (.getfield 25, 3) := by decide +kernel
theorem dX0_putFileRow_17 : decode cX0_putFileRow 17 = .ok (.iload_n 1, 1) := by decide +kernel
theorem dX0_putFileRow_18 : decode cX0_putFileRow 18 = .ok (.iaload, 1) := by decide +kernel
theorem dX0_putFileRow_19 : decode cX0_putFileRow 19 = .ok (.istore 5, 2) := by decide +kernel
theorem dX0_putFileRow_21 : decode cX0_putFileRow 21 = .ok (.iload_n 2, 1) := by decide +kernel
theorem dX0_putFileRow_22 : decode cX0_putFileRow 22 = .ok (.iload_n 3, 1) := by decide +kernel
theorem dX0_putFileRow_23 : decode cX0_putFileRow 23 = .ok (.invokestatic 148, 3) := by decide +kernel
theorem dX0_putFileRow_26 : decode cX0_putFileRow 26 = .ok (.istore 6, 2) := by decide +kernel
theorem dX0_putFileRow_28 : decode cX0_putFileRow 28 = .ok (.aload 4, 2) := by decide +kernel
theorem dX0_putFileRow_30 : decode cX0_putFileRow 30 = .ok (.iload_n 2, 1) := by decide +kernel
theorem dX0_putFileRow_31 : decode cX0_putFileRow 31 = .ok (.invokevirtual 130, 3) := by decide +kernel
theorem dX0_putFileRow_34 : decode cX0_putFileRow 34 = .ok (.aload 4, 2) := by decide +kernel
theorem dX0_putFileRow_36 : decode cX0_putFileRow 36 = .ok (.aload_n 0, 1) := by decide +kernel
theorem dX0_putFileRow_37 : decode cX0_putFileRow 37 = .ok (.getfield 28, 3) := by decide +kernel
theorem dX0_putFileRow_40 : decode cX0_putFileRow 40 = .ok (.iload 5, 2) := by decide +kernel
theorem dX0_putFileRow_42 : decode cX0_putFileRow 42 = .ok (.iaload, 1) := by decide +kernel
theorem dX0_putFileRow_43 : decode cX0_putFileRow 43 = .ok (.invokevirtual 130, 3) := by decide +kernel
theorem dX0_putFileRow_46 : decode cX0_putFileRow 46 = .ok (.aload 4, 2) := by decide +kernel
theorem dX0_putFileRow_48 : decode cX0_putFileRow 48 = .ok (.aload_n 0, 1) := by decide +kernel
theorem dX0_putFileRow_49 : decode cX0_putFileRow 49 = .ok (.getfield 34, 3) := by decide +kernel
theorem dX0_putFileRow_52 : decode cX0_putFileRow 52 = .ok (.iload 5, 2) := by decide +kernel
theorem dX0_putFileRow_54 : decode cX0_putFileRow 54 = .ok (.iaload, 1) := by decide +kernel
theorem dX0_putFileRow_55 : decode cX0_putFileRow 55 = .ok (.invokevirtual 126, 3) := by decide +kernel
theorem dX0_putFileRow_58 : decode cX0_putFileRow 58 = .ok (.aload 4, 2) := by decide +kernel
theorem dX0_putFileRow_60 : decode cX0_putFileRow 60 = .ok (.aload_n 0, 1) := by decide +kernel
theorem dX0_putFileRow_61 : decode cX0_putFileRow 61 = .ok (.getfield 37, 3) := by decide +kernel
theorem dX0_putFileRow_64 : decode cX0_putFileRow 64 = .ok (.iload 5, 2) := by decide +kernel
theorem dX0_putFileRow_66 : decode cX0_putFileRow 66 = .ok (.iaload, 1) := by decide +kernel
theorem dX0_putFileRow_67 : decode cX0_putFileRow 67 = .ok (.invokevirtual 126, 3) := by decide +kernel
theorem dX0_putFileRow_70 : decode cX0_putFileRow 70 = .ok (.iconst 0, 1) := by decide +kernel
theorem dX0_putFileRow_71 : decode cX0_putFileRow 71 = .ok (.istore 7, 2) := by decide +kernel
theorem dX0_putFileRow_73 : decode cX0_putFileRow 73 = .ok (.iload 7, 2) := by decide +kernel
theorem dX0_putFileRow_75 : decode cX0_putFileRow 75 = .ok (.iload 6, 2) := by decide +kernel
theorem dX0_putFileRow_77 : decode cX0_putFileRow 77 = .ok (.if_icmp .ge 27, 3) := by decide +kernel
theorem dX0_putFileRow_80 : decode cX0_putFileRow 80 = .ok (.aload 4, 2) := by decide +kernel
theorem dX0_putFileRow_82 : decode cX0_putFileRow 82 = .ok (.aload_n 0, 1) := by decide +kernel
theorem dX0_putFileRow_83 : decode cX0_putFileRow 83 = .ok (.getfield 31, 3) := by decide +kernel
theorem dX0_putFileRow_86 : decode cX0_putFileRow 86 = .ok (.iload 5, 2) := by decide +kernel
theorem dX0_putFileRow_88 : decode cX0_putFileRow 88 = .ok (.bipush 12, 2) := by decide +kernel
theorem dX0_putFileRow_90 : decode cX0_putFileRow 90 = .ok (.imul, 1) := by decide +kernel
theorem dX0_putFileRow_91 : decode cX0_putFileRow 91 = .ok (.iload 7, 2) := by decide +kernel
theorem dX0_putFileRow_93 : decode cX0_putFileRow 93 = .ok (.iadd, 1) := by decide +kernel
theorem dX0_putFileRow_94 : decode cX0_putFileRow 94 = .ok (.iaload, 1) := by decide +kernel
theorem dX0_putFileRow_95 : decode cX0_putFileRow 95 = .ok (.invokevirtual 130, 3) := by decide +kernel
theorem dX0_putFileRow_98 : decode cX0_putFileRow 98 = .ok (.iinc 7 1, 3) := by decide +kernel
theorem dX0_putFileRow_101 : decode cX0_putFileRow 101 = .ok (.goto (-28), 3) := by decide +kernel
theorem dX0_putFileRow_104 : decode cX0_putFileRow 104 = .ok (.return_, 1) := by decide +kernel
theorem dX0_putFolders_0 : decode cX0_putFolders 0 = .ok (.iconst 1, 1) := by decide +kernel
theorem dX0_putFolders_1 : decode cX0_putFolders 1 = .ok (.istore_n 3, 1) := by decide +kernel
theorem dX0_putFolders_2 : decode cX0_putFolders 2 = .ok (.iload_n 3, 1) := by decide +kernel
theorem dX0_putFolders_3 : decode cX0_putFolders 3 = .ok (.aload_n 0, 1) := by decide +kernel
theorem dX0_putFolders_4 : decode cX0_putFolders 4 = .ok (.getfield 107, 3) := by decide +kernel
theorem dX0_putFolders_7 : decode cX0_putFolders 7 = .ok (.if_icmp .gt 74, 3) := by decide +kernel
theorem dX0_putFolders_10 : decode cX0_putFolders 10 = .ok (.aload_n 0, 1) := by decide +kernel
theorem dX0_putFolders_11 : decode cX0_putFolders 11 = .ok (.getfield 22, 3) := by decide +kernel
theorem dX0_putFolders_14 : decode cX0_putFolders 14 = .ok (.iload_n 3, 1) := by decide +kernel
theorem dX0_putFolders_15 : decode cX0_putFolders 15 = .ok (.iaload, 1) := by decide +kernel
theorem dX0_putFolders_16 : decode cX0_putFolders 16 = .ok (.istore 4, 2) := by decide +kernel
theorem dX0_putFolders_18 : decode cX0_putFolders 18 = .ok (.aload_n 1, 1) := by decide +kernel
theorem dX0_putFolders_19 : decode cX0_putFolders 19 = .ok (.iload 4, 2) := by decide +kernel
theorem dX0_putFolders_21 : decode cX0_putFolders 21 = .ok (.iconst 1, 1) := by decide +kernel
theorem dX0_putFolders_22 : decode cX0_putFolders 22 = .ok (.iadd, 1) := by decide +kernel
theorem dX0_putFolders_23 : decode cX0_putFolders 23 = .ok (.invokevirtual 119, 3) := by decide +kernel
theorem dX0_putFolders_26 : decode cX0_putFolders 26 = .ok (.istore 5, 2) := by decide +kernel
theorem dX0_putFolders_28 : decode cX0_putFolders 28 = .ok (.aload_n 1, 1) := by decide +kernel
theorem dX0_putFolders_29 : decode cX0_putFolders 29 = .ok (.iload 4, 2) := by decide +kernel
theorem dX0_putFolders_31 : decode cX0_putFolders 31 = .ok (.invokevirtual 119, 3) := by decide +kernel
theorem dX0_putFolders_34 : decode cX0_putFolders 34 = .ok (.istore 6, 2) := by decide +kernel
theorem dX0_putFolders_36 : decode cX0_putFolders 36 = .ok (.iload 6, 2) := by decide +kernel
theorem dX0_putFolders_38 : decode cX0_putFolders 38 = .ok (.iload 5, 2) := by decide +kernel
theorem dX0_putFolders_40 : decode cX0_putFolders 40 = .ok (.if_icmp .ge 35, 3) := by decide +kernel
theorem dX0_putFolders_43 : decode cX0_putFolders 43 = .ok (.aload_n 2, 1) := by decide +kernel
theorem dX0_putFolders_44 : decode cX0_putFolders 44 = .ok (.aload_n 1, 1) := by decide +kernel
theorem dX0_putFolders_45 : decode cX0_putFolders 45 = .ok (.iload 6, 2) := by decide +kernel
theorem dX0_putFolders_47 : decode cX0_putFolders 47 = .ok (.invokevirtual 188, 3) := by decide +kernel
theorem dX0_putFolders_50 : decode cX0_putFolders 50 = .ok (.invokevirtual 130, 3) := by decide +kernel
theorem dX0_putFolders_53 : decode cX0_putFolders 53 = .ok (.aload_n 2, 1) := by decide +kernel
theorem dX0_putFolders_54 : decode cX0_putFolders 54 = .ok (.aload_n 0, 1) := by decide +kernel
theorem dX0_putFolders_55 : decode cX0_putFolders 55 = .ok (.getfield 18, 3) := by decide +kernel
theorem dX0_putFolders_58 : decode cX0_putFolders 58 = .ok (.aload_n 1, 1) := by decide +kernel
theorem dX0_putFolders_59 : decode cX0_putFolders 59 = .ok (.getfield 123, 3) := by decide +kernel
theorem dX0_putFolders_62 : decode cX0_putFolders 62 = .ok (.iload 6, 2) := by decide +kernel
theorem dX0_putFolders_64 : decode cX0_putFolders 64 = .ok (.iaload, 1) := by decide +kernel
theorem dX0_putFolders_65 : decode cX0_putFolders 65 = .ok (.iaload, 1) := by decide +kernel
theorem dX0_putFolders_66 : decode cX0_putFolders 66 = .ok (.invokevirtual 130, 3) := by decide +kernel
theorem dX0_putFolders_69 : decode cX0_putFolders 69 = .ok (.iinc 6 1, 3) := by decide +kernel
theorem dX0_putFolders_72 : decode cX0_putFolders 72 = .ok (.goto (-36), 3) := by decide +kernel
theorem dX0_putFolders_75 : decode cX0_putFolders 75 = .ok (.iinc 3 1, 3) := by decide +kernel
theorem dX0_putFolders_78 : decode cX0_putFolders 78 = .ok (.goto (-76), 3) := by decide +kernel
theorem dX0_putFolders_81 : decode cX0_putFolders 81 = .ok (.return_, 1) := by decide +kernel
theorem dX0_putTails_0 : decode cX0_putTails 0 = .ok (.iconst 0, 1) := by decide +kernel
theorem dX0_putTails_1 : decode cX0_putTails 1 = .ok (.istore_n 2, 1) := by decide +kernel
theorem dX0_putTails_2 : decode cX0_putTails 2 = .ok (.iload_n 2, 1) := by decide +kernel
theorem dX0_putTails_3 : decode cX0_putTails 3 = .ok (.aload_n 0, 1) := by decide +kernel
theorem dX0_putTails_4 : decode cX0_putTails 4 = .ok (.getfield 159, 3) := by decide +kernel
theorem dX0_putTails_7 : decode cX0_putTails 7 = .ok (.if_icmp .ge 39, 3) := by decide +kernel
theorem dX0_putTails_10 : decode cX0_putTails 10 = .ok (.aload_n 1, 1) := by decide +kernel
theorem dX0_putTails_11 : decode cX0_putTails 11 = .ok (.aload_n 0, 1) := by decide +kernel
theorem dX0_putTails_12 : decode cX0_putTails 12 = .ok (.getfield 43, 3) := by decide +kernel
theorem dX0_putTails_15 : decode cX0_putTails 15 = .ok (.iload_n 2, 1) := by decide +kernel
theorem dX0_putTails_16 : decode cX0_putTails 16 = .ok (.iaload, 1) := by decide +kernel
theorem dX0_putTails_17 : decode cX0_putTails 17 = .ok (.invokevirtual 130, 3) := by decide +kernel
theorem dX0_putTails_20 : decode cX0_putTails 20 = .ok (.aload_n 1, 1) := by decide +kernel
theorem dX0_putTails_21 : decode cX0_putTails 21 = .ok (.aload_n 0, 1) := by decide +kernel
theorem dX0_putTails_22 : decode cX0_putTails 22 = .ok (.getfield 46, 3) := by decide +kernel
theorem dX0_putTails_25 : decode cX0_putTails 25 = .ok (.iload_n 2, 1) := by decide +kernel
theorem dX0_putTails_26 : decode cX0_putTails 26 = .ok (.iaload, 1) := by decide +kernel
theorem dX0_putTails_27 : decode cX0_putTails 27 = .ok (.invokevirtual 130, 3) := by decide +kernel
theorem dX0_putTails_30 : decode cX0_putTails 30 = .ok (.aload_n 1, 1) := by decide +kernel
theorem dX0_putTails_31 : decode cX0_putTails 31 = .ok (.aload_n 0, 1) := by decide +kernel
theorem dX0_putTails_32 : decode cX0_putTails 32 = .ok (.getfield 49, 3) := by decide +kernel
theorem dX0_putTails_35 : decode cX0_putTails 35 = .ok (.iload_n 2, 1) := by decide +kernel
theorem dX0_putTails_36 : decode cX0_putTails 36 = .ok (.iaload, 1) := by decide +kernel
theorem dX0_putTails_37 : decode cX0_putTails 37 = .ok (.invokevirtual 126, 3) := by decide +kernel
theorem dX0_putTails_40 : decode cX0_putTails 40 = .ok (.iinc 2 1, 3) := by decide +kernel
theorem dX0_putTails_43 : decode cX0_putTails 43 = .ok (.goto (-41), 3) := by decide +kernel
theorem dX0_putTails_46 : decode cX0_putTails 46 = .ok (.return_, 1) := by decide +kernel
theorem dX0_putExports_0 : decode cX0_putExports 0 = .ok (.iconst 1, 1) := by decide +kernel
theorem dX0_putExports_1 : decode cX0_putExports 1 = .ok (.istore_n 2, 1) := by decide +kernel
theorem dX0_putExports_2 : decode cX0_putExports 2 = .ok (.iload_n 2, 1) := by decide +kernel
theorem dX0_putExports_3 : decode cX0_putExports 3 = .ok (.aload_n 0, 1) := by decide +kernel
theorem dX0_putExports_4 : decode cX0_putExports 4 = .ok (.getfield 107, 3) := by decide +kernel
theorem dX0_putExports_7 : decode cX0_putExports 7 = .ok (.if_icmp .gt 19, 3) := by decide +kernel
theorem dX0_putExports_10 : decode cX0_putExports 10 = .ok (.aload_n 1, 1) := by decide +kernel
theorem dX0_putExports_11 : decode cX0_putExports 11 = .ok (.aload_n 0, 1) := by decide +kernel
theorem dX0_putExports_12 : decode cX0_putExports 12 = .ok (.getfield 40, 3) := by decide +kernel
theorem dX0_putExports_15 : decode cX0_putExports 15 = .ok (.iload_n 2, 1) := by decide +kernel
theorem dX0_putExports_16 : decode cX0_putExports 16 = .ok (.iaload, 1) := by decide +kernel
theorem dX0_putExports_17 : decode cX0_putExports 17 = .ok (.invokevirtual 130, 3) := by decide +kernel
theorem dX0_putExports_20 : decode cX0_putExports 20 = .ok (.iinc 2 1, 3) := by decide +kernel
theorem dX0_putExports_23 : decode cX0_putExports 23 = .ok (.goto (-21), 3) := by decide +kernel
theorem dX0_putExports_26 : decode cX0_putExports 26 = .ok (.return_, 1) := by decide +kernel
theorem dX0_wholeBlocks_0 : decode cX0_wholeBlocks 0 = .ok (.iload_n 1, 1) := by decide +kernel
theorem dX0_wholeBlocks_1 : decode cX0_wholeBlocks 1 = .ok (.iconst 1, 1) := by decide +kernel
theorem dX0_wholeBlocks_2 : decode cX0_wholeBlocks 2 = .ok (.if_icmp .ge 7, 3) := by decide +kernel
theorem dX0_wholeBlocks_5 : decode cX0_wholeBlocks 5 = .ok (.iconst 0, 1) := by decide +kernel
theorem dX0_wholeBlocks_6 : decode cX0_wholeBlocks 6 = .ok (.goto 6, 3) := by decide +kernel
theorem dX0_wholeBlocks_9 : decode cX0_wholeBlocks 9 = .ok (.iload_n 0, 1) := by decide +kernel
theorem dX0_wholeBlocks_10 : decode cX0_wholeBlocks 10 = .ok (.iload_n 1, 1) := by decide +kernel
theorem dX0_wholeBlocks_11 : decode cX0_wholeBlocks 11 = .ok (.idiv, 1) := by decide +kernel
theorem dX0_wholeBlocks_12 : decode cX0_wholeBlocks 12 = .ok (.ireturn, 1) := by decide +kernel
