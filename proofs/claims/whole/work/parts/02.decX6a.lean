theorem dX6_init_0 : decode cX6_init 0 = .ok (.aload_n 0, 1) := by decide +kernel
theorem dX6_init_1 : decode cX6_init 1 = .ok (.invokespecial 3, 3) := by decide +kernel
theorem dX6_init_4 : decode cX6_init 4 = .ok (.aload_n 0, 1) := by decide +kernel
theorem dX6_init_5 : decode cX6_init 5 = .ok (.new 9, 3) := by decide +kernel
theorem dX6_init_8 : decode cX6_init 8 = .ok (.dup, 1) := by decide +kernel
theorem dX6_init_9 : decode cX6_init 9 = .ok (.invokespecial 11, 3) := by decide +kernel
theorem dX6_init_12 : decode cX6_init 12 = .ok (.putfield 12, 3) := by decide +kernel
theorem dX6_init_15 : decode cX6_init 15 = .ok (.aload_n 0, 1) := by decide +kernel
theorem dX6_init_16 : decode cX6_init 16 = .ok (.iconst 3, 1) := by decide +kernel
theorem dX6_init_17 : decode cX6_init 17 = .ok (.anewarray 16, 3) := by decide +kernel
theorem dX6_init_20 : decode cX6_init 20 = .ok (.putfield 18, 3) := by decide +kernel
theorem dX6_init_23 : decode cX6_init 23 = .ok (.iconst 0, 1) := by decide +kernel
theorem dX6_init_24 : decode cX6_init 24 = .ok (.istore_n 1, 1) := by decide +kernel
theorem dX6_init_25 : decode cX6_init 25 = .ok (.iload_n 1, 1) := by decide +kernel
theorem dX6_init_26 : decode cX6_init 26 = .ok (.iconst 3, 1) := by decide +kernel
theorem dX6_init_27 : decode cX6_init 27 = .ok (.if_icmp .ge 25, 3) := by decide +kernel
theorem dX6_init_30 : decode cX6_init 30 = .ok (.aload_n 0, 1) := by decide +kernel
theorem dX6_init_31 : decode cX6_init 31 = .ok (.getfield 18, 3) := by decide +kernel
theorem dX6_init_34 : decode cX6_init 34 = .ok (.iload_n 1, 1) := by decide +kernel
theorem dX6_init_35 : decode cX6_init 35 = .ok (.new 16, 3) := by decide +kernel
theorem dX6_init_38 : decode cX6_init 38 = .ok (.dup, 1) := by decide +kernel
theorem dX6_init_39 : decode cX6_init 39 = .ok (.sipush 5581, 3) := by decide +kernel
theorem dX6_init_42 : decode cX6_init 42 = .ok (.invokespecial 22, 3) := by decide +kernel
theorem dX6_init_45 : decode cX6_init 45 = .ok (.aastore, 1) := by decide +kernel
theorem dX6_init_46 : decode cX6_init 46 = .ok (.iinc 1 1, 3) := by decide +kernel
theorem dX6_init_49 : decode cX6_init 49 = .ok (.goto (-24), 3) := by decide +kernel
theorem dX6_init_52 : decode cX6_init 52 = .ok (.aload_n 0, 1) := by decide +kernel
theorem dX6_init_53 : decode cX6_init 53 = .ok (.new 16, 3) := by decide +kernel
theorem dX6_init_56 : decode cX6_init 56 = .ok (.dup, 1) := by decide +kernel
theorem dX6_init_57 : decode cX6_init 57 = .ok (.sipush 4000, 3) := by decide +kernel
theorem dX6_init_60 : decode cX6_init 60 = .ok (.invokespecial 22, 3) := by decide +kernel
theorem dX6_init_63 : decode cX6_init 63 = .ok (.putfield 25, 3) := by decide +kernel
theorem dX6_init_66 : decode cX6_init 66 = .ok (.aload_n 0, 1) := by decide +kernel
theorem dX6_init_67 : decode cX6_init 67 = .ok (.new 29, 3) := by decide +kernel
theorem dX6_init_70 : decode cX6_init 70 = .ok (.dup, 1) := by decide +kernel
theorem dX6_init_71 : decode cX6_init 71 = .ok (.invokespecial 31, 3) := by decide +kernel
theorem dX6_init_74 : decode cX6_init 74 = .ok (.putfield 32, 3) := by decide +kernel
theorem dX6_init_77 : decode cX6_init 77 = .ok (.aload_n 0, 1) := by decide +kernel
theorem dX6_init_78 : decode cX6_init 78 = .ok (.new 36, 3) := by decide +kernel
theorem dX6_init_81 : decode cX6_init 81 = .ok (.dup, 1) := by decide +kernel
theorem dX6_init_82 : decode cX6_init 82 = .ok (.invokespecial 38, 3) := by decide +kernel
theorem dX6_init_85 : decode cX6_init 85 = .ok (.putfield 39, 3) := by decide +kernel
theorem dX6_init_88 : decode cX6_init 88 = .ok (.aload_n 0, 1) := by decide +kernel
theorem dX6_init_89 : decode cX6_init 89 = .ok (.new 43, 3) := by decide +kernel
theorem dX6_init_92 : decode cX6_init 92 = .ok (.dup, 1) := by decide +kernel
theorem dX6_init_93 : decode cX6_init 93 = .ok (.invokespecial 45, 3) := by decide +kernel
theorem dX6_init_96 : decode cX6_init 96 = .ok (.putfield 46, 3) := by decide +kernel
theorem dX6_init_99 : decode cX6_init 99 = .ok (.return_, 1) := by decide +kernel
theorem dX6_folder_0 : decode cX6_folder 0 = .ok (.aload_n 0, 1) := by decide +kernel
theorem dX6_folder_1 : decode cX6_folder 1 = .ok (.iload_n 1, 1) := by decide +kernel
theorem dX6_folder_2 : decode cX6_folder 2 = .ok (.iload_n 2, 1) := by decide +kernel
theorem dX6_folder_3 : decode cX6_folder 3 = .ok (.iconst 1, 1) := by decide +kernel
theorem dX6_folder_4 : decode cX6_folder 4 = .ok (.invokevirtual 50, 3) := by decide +kernel
theorem dX6_folder_7 : decode cX6_folder 7 = .ok (.ireturn, 1) := by decide +kernel
theorem dX6_file_0 : decode cX6_file 0 = .ok (.aload_n 0, 1) := by decide +kernel
theorem dX6_file_1 : decode cX6_file 1 = .ok (.iload_n 1, 1) := by decide +kernel
theorem dX6_file_2 : decode cX6_file 2 = .ok (.iload_n 2, 1) := by decide +kernel
theorem dX6_file_3 : decode cX6_file 3 = .ok (.iconst 2, 1) := by decide +kernel
theorem dX6_file_4 : decode cX6_file 4 = .ok (.invokevirtual 50, 3) := by decide +kernel
theorem dX6_file_7 : decode cX6_file 7 = .ok (.ireturn, 1) := by decide +kernel
theorem dX6_hide_0 : decode cX6_hide 0 = .ok (.aload_n 0, 1) := by decide +kernel
theorem dX6_hide_1 : decode cX6_hide 1 = .ok (.iload_n 1, 1) := by decide +kernel
theorem dX6_hide_2 : decode cX6_hide 2 = .ok (.iload_n 2, 1) := by decide +kernel
theorem dX6_hide_3 : decode cX6_hide 3 = .ok (.iconst 3, 1) := by decide +kernel
theorem dX6_hide_4 : decode cX6_hide 4 = .ok (.invokevirtual 50, 3) := by decide +kernel
theorem dX6_hide_7 : decode cX6_hide 7 = .ok (.ireturn, 1) := by decide +kernel
theorem dX6_link_0 : decode cX6_link 0 = .ok (.aload_n 0, 1) := by decide +kernel
theorem dX6_link_1 : decode cX6_link 1 = .ok (.getfield 12, 3) := by decide +kernel
theorem dX6_link_4 : decode cX6_link 4 = .ok (.iload_n 1, 1) := by decide +kernel
theorem dX6_link_5 : decode cX6_link 5 = .ok (.invokevirtual 54, 3) := by decide +kernel
theorem dX6_link_8 : decode cX6_link 8 = .ok (.ifCond .eq 14, 3) := by decide +kernel
theorem dX6_link_11 : decode cX6_link 11 = .ok (.aload_n 0, 1) := by decide +kernel
theorem dX6_link_12 : decode cX6_link 12 = .ok (.getfield 12, 3) := by decide +kernel
theorem dX6_link_15 : decode cX6_link 15 = .ok (.iload_n 3, 1) := by decide +kernel
theorem dX6_link_16 : decode cX6_link 16 = .ok (.invokevirtual 54, 3) := by decide +kernel
theorem dX6_link_19 : decode cX6_link 19 = .ok (.ifCond .ne 5, 3) := by decide +kernel
theorem dX6_link_22 : decode cX6_link 22 = .ok (.iconst (-1), 1) := by decide +kernel
theorem dX6_link_23 : decode cX6_link 23 = .ok (.ireturn, 1) := by decide +kernel
theorem dX6_link_24 : decode cX6_link 24 = .ok (.iload_n 2, 1) := by decide +kernel
theorem dX6_link_25 : decode cX6_link 25 = .ok (.invokestatic 58, 3) := by decide +kernel
theorem dX6_link_28 : decode cX6_link 28 = .ok (.ifCond .ne 6, 3) := by decide +kernel
theorem dX6_link_31 : decode cX6_link 31 = .ok (.bipush (-2), 2) := by decide +kernel
theorem dX6_link_33 : decode cX6_link 33 = .ok (.ireturn, 1) := by decide +kernel
theorem dX6_link_34 : decode cX6_link 34 = .ok (.aload_n 0, 1) := by decide +kernel
theorem dX6_link_35 : decode cX6_link 35 = .ok (.getfield 12, 3) := by decide +kernel
theorem dX6_link_38 : decode cX6_link 38 = .ok (.iload_n 1, 1) := by decide +kernel
theorem dX6_link_39 : decode cX6_link 39 = .ok (.iload_n 2, 1) := by decide +kernel
theorem dX6_link_40 : decode cX6_link 40 = .ok (.invokevirtual 61, 3) := by decide +kernel
theorem dX6_link_43 : decode cX6_link 43 = .ok (.ifCond .eq 16, 3) := by decide +kernel
theorem dX6_link_46 : decode cX6_link 46 = .ok (.aload_n 0, 1) := by decide +kernel
theorem dX6_link_47 : decode cX6_link 47 = .ok (.getfield 12, 3) := by decide +kernel
theorem dX6_link_50 : decode cX6_link 50 = .ok (.getfield 65, 3) := by decide +kernel
theorem dX6_link_53 : decode cX6_link 53 = .ok (.iload_n 3, 1) := by decide +kernel
theorem dX6_link_54 : decode cX6_link 54 = .ok (.iaload, 1) := by decide +kernel
theorem dX6_link_55 : decode cX6_link 55 = .ok (.iconst 2, 1) := by decide +kernel
theorem dX6_link_56 : decode cX6_link 56 = .ok (.if_icmp .eq 6, 3) := by decide +kernel
theorem dX6_link_59 : decode cX6_link 59 = .ok (.bipush (-3), 2) := by decide +kernel
theorem dX6_link_61 : decode cX6_link 61 = .ok (.ireturn, 1) := by decide +kernel
theorem dX6_link_62 : decode cX6_link 62 = .ok (.aload_n 0, 1) := by decide +kernel
theorem dX6_link_63 : decode cX6_link 63 = .ok (.getfield 12, 3) := by decide +kernel
theorem dX6_link_66 : decode cX6_link 66 = .ok (.getfield 69, 3) := by decide +kernel
theorem dX6_link_69 : decode cX6_link 69 = .ok (.iload_n 3, 1) := by decide +kernel
theorem dX6_link_70 : decode cX6_link 70 = .ok (.iaload, 1) := by decide +kernel
theorem dX6_link_71 : decode cX6_link 71 = .ok (.bipush 9, 2) := by decide +kernel
theorem dX6_link_73 : decode cX6_link 73 = .ok (.if_icmp .lt 6, 3) := by decide +kernel
theorem dX6_link_76 : decode cX6_link 76 = .ok (.bipush (-4), 2) := by decide +kernel
theorem dX6_link_78 : decode cX6_link 78 = .ok (.ireturn, 1) := by decide +kernel
theorem dX6_link_79 : decode cX6_link 79 = .ok (.aload_n 0, 1) := by decide +kernel
theorem dX6_link_80 : decode cX6_link 80 = .ok (.getfield 12, 3) := by decide +kernel
theorem dX6_link_83 : decode cX6_link 83 = .ok (.iload_n 1, 1) := by decide +kernel
theorem dX6_link_84 : decode cX6_link 84 = .ok (.iload_n 2, 1) := by decide +kernel
theorem dX6_link_85 : decode cX6_link 85 = .ok (.iload_n 3, 1) := by decide +kernel
theorem dX6_link_86 : decode cX6_link 86 = .ok (.invokevirtual 72, 3) := by decide +kernel
theorem dX6_link_89 : decode cX6_link 89 = .ok (.ireturn, 1) := by decide +kernel
theorem dX6_data_0 : decode cX6_data 0 = .ok (.aload_n 0, 1) := by decide +kernel
theorem dX6_data_1 : decode cX6_data 1 = .ok (.getfield 12, 3) := by decide +kernel
theorem dX6_data_4 : decode cX6_data 4 = .ok (.iload_n 1, 1) := by decide +kernel
theorem dX6_data_5 : decode cX6_data 5 = .ok (.invokevirtual 54, 3) := by decide +kernel
theorem dX6_data_8 : decode cX6_data 8 = .ok (.ifCond .ne 5, 3) := by decide +kernel
theorem dX6_data_11 : decode cX6_data 11 = .ok (.iconst (-1), 1) := by decide +kernel
theorem dX6_data_12 : decode cX6_data 12 = .ok (.ireturn, 1) := by decide +kernel
theorem dX6_data_13 : decode cX6_data 13 = .ok (.iload_n 2, 1) := by decide +kernel
theorem dX6_data_14 : decode cX6_data 14 = .ok (.ifCond .lt 21, 3) := by decide +kernel
theorem dX6_data_17 : decode cX6_data 17 = .ok (.iload_n 2, 1) := by decide +kernel
theorem dX6_data_18 : decode cX6_data 18 = .ok (.sipush 255, 3) := by decide +kernel
theorem dX6_data_21 : decode cX6_data 21 = .ok (.if_icmp .gt 14, 3) := by decide +kernel
theorem dX6_data_24 : decode cX6_data 24 = .ok (.iload_n 3, 1) := by decide +kernel
theorem dX6_data_25 : decode cX6_data 25 = .ok (.iconst 1, 1) := by decide +kernel
theorem dX6_data_26 : decode cX6_data 26 = .ok (.if_icmp .lt 9, 3) := by decide +kernel
theorem dX6_data_29 : decode cX6_data 29 = .ok (.iload_n 3, 1) := by decide +kernel
theorem dX6_data_30 : decode cX6_data 30 = .ok (.bipush 100, 2) := by decide +kernel
theorem dX6_data_32 : decode cX6_data 32 = .ok (.if_icmp .le 6, 3) := by decide +kernel
theorem dX6_data_35 : decode cX6_data 35 = .ok (.bipush (-2), 2) := by decide +kernel
theorem dX6_data_37 : decode cX6_data 37 = .ok (.ireturn, 1) := by decide +kernel
theorem dX6_data_38 : decode cX6_data 38 = .ok (.aload_n 0, 1) := by decide +kernel
theorem dX6_data_39 : decode cX6_data 39 = .ok (.getfield 12, 3) := by decide +kernel
theorem dX6_data_42 : decode cX6_data 42 = .ok (.getfield 65, 3) := by decide +kernel
theorem dX6_data_45 : decode cX6_data 45 = .ok (.iload_n 1, 1) := by decide +kernel
theorem dX6_data_46 : decode cX6_data 46 = .ok (.iaload, 1) := by decide +kernel
theorem dX6_data_47 : decode cX6_data 47 = .ok (.iconst 2, 1) := by decide +kernel
theorem dX6_data_48 : decode cX6_data 48 = .ok (.if_icmp .eq 6, 3) := by decide +kernel
theorem dX6_data_51 : decode cX6_data 51 = .ok (.bipush (-3), 2) := by decide +kernel
theorem dX6_data_53 : decode cX6_data 53 = .ok (.ireturn, 1) := by decide +kernel
theorem dX6_data_54 : decode cX6_data 54 = .ok (.aload_n 0, 1) := by decide +kernel
theorem dX6_data_55 : decode cX6_data 55 = .ok (.getfield 12, 3) := by decide +kernel
theorem dX6_data_58 : decode cX6_data 58 = .ok (.getfield 75, 3) := by decide +kernel
theorem dX6_data_61 : decode cX6_data 61 = .ok (.iload_n 1, 1) := by decide +kernel
theorem dX6_data_62 : decode cX6_data 62 = .ok (.iaload, 1) := by decide +kernel
theorem dX6_data_63 : decode cX6_data 63 = .ok (.iload_n 3, 1) := by decide +kernel
theorem dX6_data_64 : decode cX6_data 64 = .ok (.iadd, 1) := by decide +kernel
theorem dX6_data_65 : decode cX6_data 65 = .ok (.bipush 100, 2) := by decide +kernel
theorem dX6_data_67 : decode cX6_data 67 = .ok (.if_icmp .le 6, 3) := by decide +kernel
theorem dX6_data_70 : decode cX6_data 70 = .ok (.bipush (-4), 2) := by decide +kernel
theorem dX6_data_72 : decode cX6_data 72 = .ok (.ireturn, 1) := by decide +kernel
theorem dX6_data_73 : decode cX6_data 73 = .ok (.aload_n 0, 1) := by decide +kernel
theorem dX6_data_74 : decode cX6_data 74 = .ok (.getfield 12, 3) := by decide +kernel
theorem dX6_data_77 : decode cX6_data 77 = .ok (.iload_n 1, 1) := by decide +kernel
theorem dX6_data_78 : decode cX6_data 78 = .ok (.iload_n 2, 1) := by decide +kernel
theorem dX6_data_79 : decode cX6_data 79 = .ok (.iload_n 3, 1) := by decide +kernel
theorem dX6_data_80 : decode cX6_data 80 = .ok (.invokevirtual 78, 3) := by decide +kernel
theorem dX6_data_83 : decode cX6_data 83 = .ok (.ireturn, 1) := by decide +kernel
theorem dX6_owner_0 : decode cX6_owner 0 = .ok (.aload_n 0, 1) := by decide +kernel
theorem dX6_owner_1 : decode cX6_owner 1 = .ok (.getfield 12, 3) := by decide +kernel
theorem dX6_owner_4 : decode cX6_owner 4 = .ok (.iload_n 1, 1) := by decide +kernel
theorem dX6_owner_5 : decode cX6_owner 5 = .ok (.invokevirtual 54, 3) := by decide +kernel
theorem dX6_owner_8 : decode cX6_owner 8 = .ok (.ifCond .ne 5, 3) := by decide +kernel
theorem dX6_owner_11 : decode cX6_owner 11 = .ok (.iconst (-1), 1) := by decide +kernel
theorem dX6_owner_12 : decode cX6_owner 12 = .ok (.ireturn, 1) := by decide +kernel
theorem dX6_owner_13 : decode cX6_owner 13 = .ok (.iload_n 2, 1) := by decide +kernel
theorem dX6_owner_14 : decode cX6_owner 14 = .ok (.invokestatic 81, 3) := by decide +kernel
theorem dX6_owner_17 : decode cX6_owner 17 = .ok (.ifCond .eq 10, 3) := by decide +kernel
theorem dX6_owner_20 : decode cX6_owner 20 = .ok (.iload_n 3, 1) := by decide +kernel
theorem dX6_owner_21 : decode cX6_owner 21 = .ok (.invokestatic 81, 3) := by decide +kernel
theorem dX6_owner_24 : decode cX6_owner 24 = .ok (.ifCond .ne 6, 3) := by decide +kernel
theorem dX6_owner_27 : decode cX6_owner 27 = .ok (.bipush (-2), 2) := by decide +kernel
theorem dX6_owner_29 : decode cX6_owner 29 = .ok (.ireturn, 1) := by decide +kernel
theorem dX6_owner_30 : decode cX6_owner 30 = .ok (.aload_n 0, 1) := by decide +kernel
theorem dX6_owner_31 : decode cX6_owner 31 = .ok (.getfield 12, 3) := by decide +kernel
theorem dX6_owner_34 : decode cX6_owner 34 = .ok (.getfield 84, 3) := by decide +kernel
theorem dX6_owner_37 : decode cX6_owner 37 = .ok (.iload_n 1, 1) := by decide +kernel
theorem dX6_owner_38 : decode cX6_owner 38 = .ok (.iload_n 2, 1) := by decide +kernel
theorem dX6_owner_39 : decode cX6_owner 39 = .ok (.iastore, 1) := by decide +kernel
theorem dX6_owner_40 : decode cX6_owner 40 = .ok (.aload_n 0, 1) := by decide +kernel
theorem dX6_owner_41 : decode cX6_owner 41 = .ok (.getfield 12, 3) := by decide +kernel
theorem dX6_owner_44 : decode cX6_owner 44 = .ok (.getfield 87, 3) := by decide +kernel
theorem dX6_owner_47 : decode cX6_owner 47 = .ok (.iload_n 1, 1) := by decide +kernel
theorem dX6_owner_48 : decode cX6_owner 48 = .ok (.iload_n 3, 1) := by decide +kernel
theorem dX6_owner_49 : decode cX6_owner 49 = .ok (.iastore, 1) := by decide +kernel
theorem dX6_owner_50 : decode cX6_owner 50 = .ok (.iconst 1, 1) := by decide +kernel
theorem dX6_owner_51 : decode cX6_owner 51 = .ok (.ireturn, 1) := by decide +kernel
theorem dX6_clear_0 : decode cX6_clear 0 = .ok (.aload_n 0, 1) := by decide +kernel
theorem dX6_clear_1 : decode cX6_clear 1 = .ok (.getfield 12, 3) := by decide +kernel
theorem dX6_clear_4 : decode cX6_clear 4 = .ok (.getfield 90, 3) := by decide +kernel
theorem dX6_clear_7 : decode cX6_clear 7 = .ok (.istore_n 1, 1) := by decide +kernel
theorem dX6_clear_8 : decode cX6_clear 8 = .ok (.aload_n 0, 1) := by decide +kernel
theorem dX6_clear_9 : decode cX6_clear 9 = .ok (.getfield 12, 3) := by decide +kernel
theorem dX6_clear_12 : decode cX6_clear 12 = .ok (.invokevirtual 94, 3) := by decide +kernel
theorem dX6_clear_15 : decode cX6_clear 15 = .ok (.iload_n 1, 1) := by decide +kernel
theorem dX6_clear_16 : decode cX6_clear 16 = .ok (.ireturn, 1) := by decide +kernel
theorem dX6_build_0 : decode cX6_build 0 = .ok (.iload_n 1, 1) := by decide +kernel
theorem dX6_build_1 : decode cX6_build 1 = .ok (.invokestatic 97, 3) := by decide +kernel
theorem dX6_build_4 : decode cX6_build 4 = .ok (.ifCond .ne 6, 3) := by decide +kernel
theorem dX6_build_7 : decode cX6_build 7 = .ok (.bipush (-2), 2) := by decide +kernel
theorem dX6_build_9 : decode cX6_build 9 = .ok (.ireturn, 1) := by decide +kernel
theorem dX6_build_10 : decode cX6_build 10 = .ok (.aload_n 0, 1) := by decide +kernel
theorem dX6_build_11 : decode cX6_build 11 = .ok (.getfield 100, 3) := by decide +kernel
theorem dX6_build_14 : decode cX6_build 14 = .ok (.iconst 3, 1) := by decide +kernel
theorem dX6_build_15 : decode cX6_build 15 = .ok (.if_icmp .lt 6, 3) := by decide +kernel
theorem dX6_build_18 : decode cX6_build 18 = .ok (.bipush (-4), 2) := by decide +kernel
theorem dX6_build_20 : decode cX6_build 20 = .ok (.ireturn, 1) := by decide +kernel
theorem dX6_build_21 : decode cX6_build 21 = .ok (.aload_n 0, 1) := by decide +kernel
theorem dX6_build_22 : decode cX6_build 22 = .ok (.getfield 32, 3) := by decide +kernel
theorem dX6_build_25 : decode cX6_build 25 = .ok (.aload_n 0, 1) := by decide +kernel
theorem dX6_build_26 : decode cX6_build 26 = .ok (.getfield 12, 3) := by decide +kernel
theorem dX6_build_29 : decode cX6_build 29 = .ok (.iload_n 1, 1) := by decide +kernel
theorem dX6_build_30 : decode cX6_build 30 = .ok (.aload_n 0, 1) := by decide +kernel
theorem dX6_build_31 : decode cX6_build 31 = .ok (.getfield 18, 3) := by decide +kernel
theorem dX6_build_34 : decode cX6_build 34 = .ok (.aload_n 0, 1) := by decide +kernel
theorem dX6_build_35 : decode cX6_build 35 = .ok (.getfield 100, 3) := by decide +kernel
theorem dX6_build_38 : decode cX6_build 38 = .ok (.aaload, 1) := by decide +kernel
theorem dX6_build_39 : decode cX6_build 39 = .ok (.invokevirtual 103, 3) := by decide +kernel
theorem dX6_build_42 : decode cX6_build 42 = .ok (.aload_n 0, 1) := by decide +kernel
theorem dX6_build_43 : decode cX6_build 43 = .ok (.dup, 1) := by decide +kernel
theorem dX6_build_44 : decode cX6_build 44 = .ok (.getfield 100, 3) := by decide +kernel
theorem dX6_build_47 : decode cX6_build 47 = .ok (.iconst 1, 1) := by decide +kernel
theorem dX6_build_48 : decode cX6_build 48 = .ok (.iadd, 1) := by decide +kernel
theorem dX6_build_49 : decode cX6_build 49 = .ok (.putfield 100, 3) := by decide +kernel
theorem dX6_build_52 : decode cX6_build 52 = .ok (.aload_n 0, 1) := by decide +kernel
theorem dX6_build_53 : decode cX6_build 53 = .ok (.getfield 100, 3) := by decide +kernel
theorem dX6_build_56 : decode cX6_build 56 = .ok (.iconst 1, 1) := by decide +kernel
theorem dX6_build_57 : decode cX6_build 57 = .ok (.isub, 1) := by decide +kernel
theorem dX6_build_58 : decode cX6_build 58 = .ok (.ireturn, 1) := by decide +kernel
theorem dX6_feed_0 : decode cX6_feed 0 = .ok (.aload_n 0, 1) := by decide +kernel
theorem dX6_feed_1 : decode cX6_feed 1 = .ok (.getfield 25, 3) := by decide +kernel
theorem dX6_feed_4 : decode cX6_feed 4 = .ok (.getfield 107, 3) := by decide +kernel
theorem dX6_feed_7 : decode cX6_feed 7 = .ok (.bipush 20, 2) := by decide +kernel
theorem dX6_feed_9 : decode cX6_feed 9 = .ok (.iadd, 1) := by decide +kernel
theorem dX6_feed_10 : decode cX6_feed 10 = .ok (.sipush 4000, 3) := by decide +kernel
theorem dX6_feed_13 : decode cX6_feed 13 = .ok (.if_icmp .le 6, 3) := by decide +kernel
theorem dX6_feed_16 : decode cX6_feed 16 = .ok (.bipush (-4), 2) := by decide +kernel
theorem dX6_feed_18 : decode cX6_feed 18 = .ok (.ireturn, 1) := by decide +kernel
theorem dX6_feed_19 : decode cX6_feed 19 = .ok (.aload_n 0, 1) := by decide +kernel
theorem dX6_feed_20 : decode cX6_feed 20 = .ok (.getfield 25, 3) := by decide +kernel
theorem dX6_feed_23 : decode cX6_feed 23 = .ok (.iload_n 1, 1) := by decide +kernel
theorem dX6_feed_24 : decode cX6_feed 24 = .ok (.invokevirtual 110, 3) := by decide +kernel
theorem dX6_feed_27 : decode cX6_feed 27 = .ok (.aload_n 0, 1) := by decide +kernel
theorem dX6_feed_28 : decode cX6_feed 28 = .ok (.getfield 25, 3) := by decide +kernel
theorem dX6_feed_31 : decode cX6_feed 31 = .ok (.iload_n 2, 1) := by decide +kernel
theorem dX6_feed_32 : decode cX6_feed 32 = .ok (.invokevirtual 110, 3) := by decide +kernel
theorem dX6_feed_35 : decode cX6_feed 35 = .ok (.aload_n 0, 1) := by decide +kernel
theorem dX6_feed_36 : decode cX6_feed 36 = .ok (.getfield 25, 3) := by decide +kernel
theorem dX6_feed_39 : decode cX6_feed 39 = .ok (.iload_n 3, 1) := by decide +kernel
theorem dX6_feed_40 : decode cX6_feed 40 = .ok (.invokevirtual 110, 3) := by decide +kernel
theorem dX6_feed_43 : decode cX6_feed 43 = .ok (.aload_n 0, 1) := by decide +kernel
theorem dX6_feed_44 : decode cX6_feed 44 = .ok (.getfield 25, 3) := by decide +kernel
theorem dX6_feed_47 : decode cX6_feed 47 = .ok (.iload 4, 2) := by decide +kernel
theorem dX6_feed_49 : decode cX6_feed 49 = .ok (.invokevirtual 110, 3) := by decide +kernel
theorem dX6_feed_52 : decode cX6_feed 52 = .ok (.aload_n 0, 1) := by decide +kernel
theorem dX6_feed_53 : decode cX6_feed 53 = .ok (.getfield 25, 3) := by decide +kernel
theorem dX6_feed_56 : decode cX6_feed 56 = .ok (.iload 5, 2) := by decide +kernel
theorem dX6_feed_58 : decode cX6_feed 58 = .ok (.invokevirtual 110, 3) := by decide +kernel
theorem dX6_feed_61 : decode cX6_feed 61 = .ok (.aload_n 0, 1) := by decide +kernel
theorem dX6_feed_62 : decode cX6_feed 62 = .ok (.getfield 25, 3) := by decide +kernel
theorem dX6_feed_65 : decode cX6_feed 65 = .ok (.getfield 107, 3) := by decide +kernel
theorem dX6_feed_68 : decode cX6_feed 68 = .ok (.ireturn, 1) := by decide +kernel
theorem dX6_end_0 : decode cX6_end 0 = .ok (.iload_n 1, 1) := by decide +kernel
theorem dX6_end_1 : decode cX6_end 1 = .ok (.ifCond .lt 14, 3) := by decide +kernel
theorem dX6_end_4 : decode cX6_end 4 = .ok (.iload_n 1, 1) := by decide +kernel
theorem dX6_end_5 : decode cX6_end 5 = .ok (.aload_n 0, 1) := by decide +kernel
theorem dX6_end_6 : decode cX6_end 6 = .ok (.getfield 25, 3) := by decide +kernel
theorem dX6_end_9 : decode cX6_end 9 = .ok (.getfield 107, 3) := by decide +kernel
theorem dX6_end_12 : decode cX6_end 12 = .ok (.if_icmp .le 6, 3) := by decide +kernel
theorem dX6_end_15 : decode cX6_end 15 = .ok (.bipush (-2), 2) := by decide +kernel
theorem dX6_end_17 : decode cX6_end 17 = .ok (.ireturn, 1) := by decide +kernel
theorem dX6_end_18 : decode cX6_end 18 = .ok (.aload_n 0, 1) := by decide +kernel
theorem dX6_end_19 : decode cX6_end 19 = .ok (.getfield 25, 3) := by decide +kernel
theorem dX6_end_22 : decode cX6_end 22 = .ok (.iload_n 1, 1) := by decide +kernel
theorem dX6_end_23 : decode cX6_end 23 = .ok (.putfield 107, 3) := by decide +kernel
theorem dX6_end_26 : decode cX6_end 26 = .ok (.iload_n 1, 1) := by decide +kernel
theorem dX6_end_27 : decode cX6_end 27 = .ok (.ireturn, 1) := by decide +kernel
theorem dX6_load_0 : decode cX6_load 0 = .ok (.aload_n 0, 1) := by decide +kernel
theorem dX6_load_1 : decode cX6_load 1 = .ok (.getfield 100, 3) := by decide +kernel
theorem dX6_load_4 : decode cX6_load 4 = .ok (.iconst 3, 1) := by decide +kernel
theorem dX6_load_5 : decode cX6_load 5 = .ok (.if_icmp .lt 6, 3) := by decide +kernel
theorem dX6_load_8 : decode cX6_load 8 = .ok (.bipush (-4), 2) := by decide +kernel
theorem dX6_load_10 : decode cX6_load 10 = .ok (.ireturn, 1) := by decide +kernel
theorem dX6_load_11 : decode cX6_load 11 = .ok (.aload_n 0, 1) := by decide +kernel
theorem dX6_load_12 : decode cX6_load 12 = .ok (.getfield 39, 3) := by decide +kernel
theorem dX6_load_15 : decode cX6_load 15 = .ok (.aload_n 0, 1) := by decide +kernel
theorem dX6_load_16 : decode cX6_load 16 = .ok (.getfield 25, 3) := by decide +kernel
theorem dX6_load_19 : decode cX6_load 19 = .ok (.invokevirtual 113, 3) := by decide +kernel
theorem dX6_load_22 : decode cX6_load 22 = .ok (.istore_n 1, 1) := by decide +kernel
theorem dX6_load_23 : decode cX6_load 23 = .ok (.iload_n 1, 1) := by decide +kernel
theorem dX6_load_24 : decode cX6_load 24 = .ok (.ifCond .ne 29, 3) := by decide +kernel
theorem dX6_load_27 : decode cX6_load 27 = .ok (.aload_n 0, 1) := by decide +kernel
theorem dX6_load_28 : decode cX6_load 28 = .ok (.getfield 18, 3) := by decide +kernel
theorem dX6_load_31 : decode cX6_load 31 = .ok (.aload_n 0, 1) := by decide +kernel
theorem dX6_load_32 : decode cX6_load 32 = .ok (.getfield 100, 3) := by decide +kernel
theorem dX6_load_35 : decode cX6_load 35 = .ok (.aaload, 1) := by decide +kernel
theorem dX6_load_36 : decode cX6_load 36 = .ok (.aload_n 0, 1) := by decide +kernel
theorem dX6_load_37 : decode cX6_load 37 = .ok (.getfield 25, 3) := by decide +kernel
theorem dX6_load_40 : decode cX6_load 40 = .ok (.invokevirtual 117, 3) := by decide +kernel
theorem dX6_load_43 : decode cX6_load 43 = .ok (.aload_n 0, 1) := by decide +kernel
theorem dX6_load_44 : decode cX6_load 44 = .ok (.dup, 1) := by decide +kernel
theorem dX6_load_45 : decode cX6_load 45 = .ok (.getfield 100, 3) := by decide +kernel
theorem dX6_load_48 : decode cX6_load 48 = .ok (.iconst 1, 1) := by decide +kernel
theorem dX6_load_49 : decode cX6_load 49 = .ok (.iadd, 1) := by decide +kernel
theorem dX6_load_50 : decode cX6_load 50 = .ok (.putfield 100, 3) := by decide +kernel
theorem dX6_load_53 : decode cX6_load 53 = .ok (.aload_n 0, 1) := by decide +kernel
theorem dX6_load_54 : decode cX6_load 54 = .ok (.getfield 25, 3) := by decide +kernel
theorem dX6_load_57 : decode cX6_load 57 = .ok (.iconst 0, 1) := by decide +kernel
theorem dX6_load_58 : decode cX6_load 58 = .ok (.putfield 107, 3) := by decide +kernel
theorem dX6_load_61 : decode cX6_load 61 = .ok (.iload_n 1, 1) := by decide +kernel
theorem dX6_load_62 : decode cX6_load 62 = .ok (.ifCond .ne 12, 3) := by decide +kernel
theorem dX6_load_65 : decode cX6_load 65 = .ok (.aload_n 0, 1) := by decide +kernel
theorem dX6_load_66 : decode cX6_load 66 = .ok (.getfield 100, 3) := by decide +kernel
theorem dX6_load_69 : decode cX6_load 69 = .ok (.iconst 1, 1) := by decide +kernel
theorem dX6_load_70 : decode cX6_load 70 = .ok (.isub, 1) := by decide +kernel
theorem dX6_load_71 : decode cX6_load 71 = .ok (.goto 7, 3) := by decide +kernel
theorem dX6_load_74 : decode cX6_load 74 = .ok (.bipush (-10), 2) := by decide +kernel
theorem dX6_load_76 : decode cX6_load 76 = .ok (.iload_n 1, 1) := by decide +kernel
theorem dX6_load_77 : decode cX6_load 77 = .ok (.isub, 1) := by decide +kernel
theorem dX6_load_78 : decode cX6_load 78 = .ok (.ireturn, 1) := by decide +kernel
theorem dX6_drop_0 : decode cX6_drop 0 = .ok (.aload_n 0, 1) := by decide +kernel
theorem dX6_drop_1 : decode cX6_drop 1 = .ok (.getfield 100, 3) := by decide +kernel
theorem dX6_drop_4 : decode cX6_drop 4 = .ok (.ifCond .eq 19, 3) := by decide +kernel
theorem dX6_drop_7 : decode cX6_drop 7 = .ok (.aload_n 0, 1) := by decide +kernel
theorem dX6_drop_8 : decode cX6_drop 8 = .ok (.getfield 46, 3) := by decide +kernel
theorem dX6_drop_11 : decode cX6_drop 11 = .ok (.aload_n 0, 1) := by decide +kernel
theorem dX6_drop_12 : decode cX6_drop 12 = .ok (.getfield 100, 3) := by decide +kernel
theorem dX6_drop_15 : decode cX6_drop 15 = .ok (.iconst 1, 1) := by decide +kernel
theorem dX6_drop_16 : decode cX6_drop 16 = .ok (.isub, 1) := by decide +kernel
theorem dX6_drop_17 : decode cX6_drop 17 = .ok (.invokevirtual 121, 3) := by decide +kernel
theorem dX6_drop_20 : decode cX6_drop 20 = .ok (.ifCond .eq 6, 3) := by decide +kernel
theorem dX6_drop_23 : decode cX6_drop 23 = .ok (.bipush (-3), 2) := by decide +kernel
theorem dX6_drop_25 : decode cX6_drop 25 = .ok (.ireturn, 1) := by decide +kernel
theorem dX6_drop_26 : decode cX6_drop 26 = .ok (.aload_n 0, 1) := by decide +kernel
theorem dX6_drop_27 : decode cX6_drop 27 = .ok (.dup, 1) := by decide +kernel
theorem dX6_drop_28 : decode cX6_drop 28 = .ok (.getfield 100, 3) := by decide +kernel
theorem dX6_drop_31 : decode cX6_drop 31 = .ok (.iconst 1, 1) := by decide +kernel
theorem dX6_drop_32 : decode cX6_drop 32 = .ok (.isub, 1) := by decide +kernel
theorem dX6_drop_33 : decode cX6_drop 33 = .ok (.putfield 100, 3) := by decide +kernel
theorem dX6_drop_36 : decode cX6_drop 36 = .ok (.aload_n 0, 1) := by decide +kernel
theorem dX6_drop_37 : decode cX6_drop 37 = .ok (.getfield 100, 3) := by decide +kernel
theorem dX6_drop_40 : decode cX6_drop 40 = .ok (.ireturn, 1) := by decide +kernel
theorem dX6_out_0 : decode cX6_out 0 = .ok (.aload_n 0, 1) := by decide +kernel
theorem dX6_out_1 : decode cX6_out 1 = .ok (.iload_n 1, 1) := by decide +kernel
theorem dX6_out_2 : decode cX6_out 2 = .ok (.invokevirtual 124, 3) := by decide +kernel
theorem dX6_out_5 : decode cX6_out 5 = .ok (.ifCond .ne 5, 3) := by decide +kernel
theorem dX6_out_8 : decode cX6_out 8 = .ok (.iconst (-1), 1) := by decide +kernel
theorem dX6_out_9 : decode cX6_out 9 = .ok (.ireturn, 1) := by decide +kernel
theorem dX6_out_10 : decode cX6_out 10 = .ok (.iload_n 2, 1) := by decide +kernel
theorem dX6_out_11 : decode cX6_out 11 = .ok (.ifCond .lt 16, 3) := by decide +kernel
theorem dX6_out_14 : decode cX6_out 14 = .ok (.iload_n 2, 1) := by decide +kernel
theorem dX6_out_15 : decode cX6_out 15 = .ok (.aload_n 0, 1) := by decide +kernel
theorem dX6_out_16 : decode cX6_out 16 = .ok (.getfield 18, 3) := by decide +kernel
theorem dX6_out_19 : decode cX6_out 19 = .ok (.iload_n 1, 1) := by decide +kernel
theorem dX6_out_20 : decode cX6_out 20 = .ok (.aaload, 1) := by decide +kernel
theorem dX6_out_21 : decode cX6_out 21 = .ok (.getfield 107, 3) := by decide +kernel
theorem dX6_out_24 : decode cX6_out 24 = .ok (.if_icmp .lt 11, 3) := by decide +kernel
theorem dX6_out_27 : decode cX6_out 27 = .ok (.new 127, 3) := by decide +kernel
theorem dX6_out_30 : decode cX6_out 30 = .ok (.dup, 1) := by decide +kernel
theorem dX6_out_31 : decode cX6_out 31 = .ok (.invokespecial 129, 3) := by decide +kernel
theorem dX6_out_34 : decode cX6_out 34 = .ok (.athrow, 1) := by decide +kernel
theorem dX6_out_35 : decode cX6_out 35 = .ok (.aload_n 0, 1) := by decide +kernel
theorem dX6_out_36 : decode cX6_out 36 = .ok (.getfield 18, 3) := by decide +kernel
theorem dX6_out_39 : decode cX6_out 39 = .ok (.iload_n 1, 1) := by decide +kernel
theorem dX6_out_40 : decode cX6_out 40 = .ok (.aaload, 1) := by decide +kernel
theorem dX6_out_41 : decode cX6_out 41 = .ok (.iload_n 2, 1) := by decide +kernel
theorem dX6_out_42 : decode cX6_out 42 = .ok (.invokevirtual 130, 3) := by decide +kernel
theorem dX6_out_45 : decode cX6_out 45 = .ok (.ireturn, 1) := by decide +kernel
theorem dX6_image_0 : decode cX6_image 0 = .ok (.aload_n 0, 1) := by decide +kernel
theorem dX6_image_1 : decode cX6_image 1 = .ok (.iload_n 1, 1) := by decide +kernel
theorem dX6_image_2 : decode cX6_image 2 = .ok (.invokevirtual 124, 3) := by decide +kernel
theorem dX6_image_5 : decode cX6_image 5 = .ok (.ifCond .ne 5, 3) := by decide +kernel
theorem dX6_image_8 : decode cX6_image 8 = .ok (.iconst (-1), 1) := by decide +kernel
theorem dX6_image_9 : decode cX6_image 9 = .ok (.ireturn, 1) := by decide +kernel
theorem dX6_image_10 : decode cX6_image 10 = .ok (.aload_n 0, 1) := by decide +kernel
theorem dX6_image_11 : decode cX6_image 11 = .ok (.getfield 18, 3) := by decide +kernel
theorem dX6_image_14 : decode cX6_image 14 = .ok (.iload_n 1, 1) := by decide +kernel
theorem dX6_image_15 : decode cX6_image 15 = .ok (.aaload, 1) := by decide +kernel
theorem dX6_image_16 : decode cX6_image 16 = .ok (.astore_n 3, 1) := by decide +kernel
theorem dX6_image_17 : decode cX6_image 17 = .ok (.iload_n 2, 1) := by decide +kernel
theorem dX6_image_18 : decode cX6_image 18 = .ok (.tableswitch 62 0 4 #[34, 39, 44, 49, 54], 34) := by decide +kernel
theorem dX6_image_52 : decode cX6_image 52 = .ok (.aload_n 3, 1) := by decide +kernel
theorem dX6_image_53 : decode cX6_image 53 = .ok (.getfield 107, 3) := by decide +kernel
theorem dX6_image_56 : decode cX6_image 56 = .ok (.ireturn, 1) := by decide +kernel
theorem dX6_image_57 : decode cX6_image 57 = .ok (.aload_n 3, 1) := by decide +kernel
theorem dX6_image_58 : decode cX6_image 58 = .ok (.getfield 134, 3) := by decide +kernel
theorem dX6_image_61 : decode cX6_image 61 = .ok (.ireturn, 1) := by decide +kernel
theorem dX6_image_62 : decode cX6_image 62 = .ok (.aload_n 3, 1) := by decide +kernel
theorem dX6_image_63 : decode cX6_image 63 = .ok (.getfield 137, 3) := by decide +kernel
theorem dX6_image_66 : decode cX6_image 66 = .ok (.ireturn, 1) := by decide +kernel
theorem dX6_image_67 : decode cX6_image 67 = .ok (.aload_n 3, 1) := by decide +kernel
theorem dX6_image_68 : decode cX6_image 68 = .ok (.invokevirtual 140, 3) := by decide +kernel
theorem dX6_image_71 : decode cX6_image 71 = .ok (.ireturn, 1) := by decide +kernel
theorem dX6_image_72 : decode cX6_image 72 = .ok (.aload_n 3, 1) := by decide +kernel
theorem dX6_image_73 : decode cX6_image 73 = .ok (.getfield 144, 3) := by decide +kernel
theorem dX6_image_76 : decode cX6_image 76 = .ok (.bipush 18, 2) := by decide +kernel
theorem dX6_image_78 : decode cX6_image 78 = .ok (.isub, 1) := by decide +kernel
theorem dX6_image_79 : decode cX6_image 79 = .ok (.ireturn, 1) := by decide +kernel
theorem dX6_image_80 : decode cX6_image 80 = .ok (.bipush (-2), 2) := by decide +kernel
theorem dX6_image_82 : decode cX6_image 82 = .ok (.ireturn, 1) := by decide +kernel
theorem dX6_same_0 : decode cX6_same 0 = .ok (.aload_n 0, 1) := by decide +kernel
theorem dX6_same_1 : decode cX6_same 1 = .ok (.iload_n 1, 1) := by decide +kernel
theorem dX6_same_2 : decode cX6_same 2 = .ok (.invokevirtual 124, 3) := by decide +kernel
theorem dX6_same_5 : decode cX6_same 5 = .ok (.ifCond .eq 11, 3) := by decide +kernel
theorem dX6_same_8 : decode cX6_same 8 = .ok (.aload_n 0, 1) := by decide +kernel
theorem dX6_same_9 : decode cX6_same 9 = .ok (.iload_n 2, 1) := by decide +kernel
theorem dX6_same_10 : decode cX6_same 10 = .ok (.invokevirtual 124, 3) := by decide +kernel
theorem dX6_same_13 : decode cX6_same 13 = .ok (.ifCond .ne 5, 3) := by decide +kernel
theorem dX6_same_16 : decode cX6_same 16 = .ok (.iconst (-1), 1) := by decide +kernel
theorem dX6_same_17 : decode cX6_same 17 = .ok (.ireturn, 1) := by decide +kernel
theorem dX6_same_18 : decode cX6_same 18 = .ok (.aload_n 0, 1) := by decide +kernel
theorem dX6_same_19 : decode cX6_same 19 = .ok (.getfield 18, 3) := by decide +kernel
theorem dX6_same_22 : decode cX6_same 22 = .ok (.iload_n 1, 1) := by decide +kernel
theorem dX6_same_23 : decode cX6_same 23 = .ok (.aaload, 1) := by decide +kernel
theorem dX6_same_24 : decode cX6_same 24 = .ok (.aload_n 0, 1) := by decide +kernel
theorem dX6_same_25 : decode cX6_same 25 = .ok (.getfield 18, 3) := by decide +kernel
theorem dX6_same_28 : decode cX6_same 28 = .ok (.iload_n 2, 1) := by decide +kernel
theorem dX6_same_29 : decode cX6_same 29 = .ok (.aaload, 1) := by decide +kernel
theorem dX6_same_30 : decode cX6_same 30 = .ok (.invokevirtual 147, 3) := by decide +kernel
theorem dX6_same_33 : decode cX6_same 33 = .ok (.ifCond .eq 7, 3) := by decide +kernel
theorem dX6_same_36 : decode cX6_same 36 = .ok (.iconst 1, 1) := by decide +kernel
theorem dX6_same_37 : decode cX6_same 37 = .ok (.goto 4, 3) := by decide +kernel
theorem dX6_same_40 : decode cX6_same 40 = .ok (.iconst 0, 1) := by decide +kernel
theorem dX6_same_41 : decode cX6_same 41 = .ok (.ireturn, 1) := by decide +kernel
theorem dX6_node_0 : decode cX6_node 0 = .ok (.aload_n 0, 1) := by decide +kernel
theorem dX6_node_1 : decode cX6_node 1 = .ok (.iload_n 1, 1) := by decide +kernel
theorem dX6_node_2 : decode cX6_node 2 = .ok (.invokevirtual 124, 3) := by decide +kernel
theorem dX6_node_5 : decode cX6_node 5 = .ok (.ifCond .ne 5, 3) := by decide +kernel
theorem dX6_node_8 : decode cX6_node 8 = .ok (.iconst (-1), 1) := by decide +kernel
theorem dX6_node_9 : decode cX6_node 9 = .ok (.ireturn, 1) := by decide +kernel
theorem dX6_node_10 : decode cX6_node 10 = .ok (.aload_n 0, 1) := by decide +kernel
theorem dX6_node_11 : decode cX6_node 11 = .ok (.getfield 18, 3) := by decide +kernel
theorem dX6_node_14 : decode cX6_node 14 = .ok (.iload_n 1, 1) := by decide +kernel
theorem dX6_node_15 : decode cX6_node 15 = .ok (.aaload, 1) := by decide +kernel
theorem dX6_node_16 : decode cX6_node 16 = .ok (.astore 4, 2) := by decide +kernel
theorem dX6_node_18 : decode cX6_node 18 = .ok (.aload 4, 2) := by decide +kernel
theorem dX6_node_20 : decode cX6_node 20 = .ok (.iload_n 2, 1) := by decide +kernel
theorem dX6_node_21 : decode cX6_node 21 = .ok (.invokevirtual 151, 3) := by decide +kernel
theorem dX6_node_24 : decode cX6_node 24 = .ok (.ifCond .ne 6, 3) := by decide +kernel
theorem dX6_node_27 : decode cX6_node 27 = .ok (.bipush (-2), 2) := by decide +kernel
theorem dX6_node_29 : decode cX6_node 29 = .ok (.ireturn, 1) := by decide +kernel
theorem dX6_node_30 : decode cX6_node 30 = .ok (.iload_n 3, 1) := by decide +kernel
theorem dX6_node_31 : decode cX6_node 31 = .ok (.tableswitch 68 0 4 #[33, 40, 47, 54, 61], 33) := by decide +kernel
theorem dX6_node_64 : decode cX6_node 64 = .ok (.aload 4, 2) := by decide +kernel
theorem dX6_node_66 : decode cX6_node 66 = .ok (.iload_n 2, 1) := by decide +kernel
theorem dX6_node_67 : decode cX6_node 67 = .ok (.invokevirtual 154, 3) := by decide +kernel
theorem dX6_node_70 : decode cX6_node 70 = .ok (.ireturn, 1) := by decide +kernel
theorem dX6_node_71 : decode cX6_node 71 = .ok (.aload 4, 2) := by decide +kernel
theorem dX6_node_73 : decode cX6_node 73 = .ok (.iload_n 2, 1) := by decide +kernel
theorem dX6_node_74 : decode cX6_node 74 = .ok (.invokevirtual 157, 3) := by decide +kernel
theorem dX6_node_77 : decode cX6_node 77 = .ok (.ireturn, 1) := by decide +kernel
theorem dX6_node_78 : decode cX6_node 78 = .ok (.aload 4, 2) := by decide +kernel
theorem dX6_node_80 : decode cX6_node 80 = .ok (.iload_n 2, 1) := by decide +kernel
theorem dX6_node_81 : decode cX6_node 81 = .ok (.invokevirtual 160, 3) := by decide +kernel
theorem dX6_node_84 : decode cX6_node 84 = .ok (.ireturn, 1) := by decide +kernel
theorem dX6_node_85 : decode cX6_node 85 = .ok (.aload 4, 2) := by decide +kernel
theorem dX6_node_87 : decode cX6_node 87 = .ok (.iload_n 2, 1) := by decide +kernel
theorem dX6_node_88 : decode cX6_node 88 = .ok (.invokevirtual 163, 3) := by decide +kernel
theorem dX6_node_91 : decode cX6_node 91 = .ok (.ireturn, 1) := by decide +kernel
theorem dX6_node_92 : decode cX6_node 92 = .ok (.aload 4, 2) := by decide +kernel
theorem dX6_node_94 : decode cX6_node 94 = .ok (.iload_n 2, 1) := by decide +kernel
theorem dX6_node_95 : decode cX6_node 95 = .ok (.invokevirtual 166, 3) := by decide +kernel
theorem dX6_node_98 : decode cX6_node 98 = .ok (.ireturn, 1) := by decide +kernel
theorem dX6_node_99 : decode cX6_node 99 = .ok (.bipush (-2), 2) := by decide +kernel
theorem dX6_node_101 : decode cX6_node 101 = .ok (.ireturn, 1) := by decide +kernel
theorem dX6_over_0 : decode cX6_over 0 = .ok (.aload_n 0, 1) := by decide +kernel
theorem dX6_over_1 : decode cX6_over 1 = .ok (.iload_n 1, 1) := by decide +kernel
theorem dX6_over_2 : decode cX6_over 2 = .ok (.invokevirtual 124, 3) := by decide +kernel
theorem dX6_over_5 : decode cX6_over 5 = .ok (.ifCond .ne 5, 3) := by decide +kernel
theorem dX6_over_8 : decode cX6_over 8 = .ok (.iconst (-1), 1) := by decide +kernel
theorem dX6_over_9 : decode cX6_over 9 = .ok (.ireturn, 1) := by decide +kernel
theorem dX6_over_10 : decode cX6_over 10 = .ok (.aload_n 0, 1) := by decide +kernel
theorem dX6_over_11 : decode cX6_over 11 = .ok (.getfield 46, 3) := by decide +kernel
theorem dX6_over_14 : decode cX6_over 14 = .ok (.iload_n 1, 1) := by decide +kernel
theorem dX6_over_15 : decode cX6_over 15 = .ok (.invokevirtual 121, 3) := by decide +kernel
theorem dX6_over_18 : decode cX6_over 18 = .ok (.ifCond .eq 6, 3) := by decide +kernel
theorem dX6_over_21 : decode cX6_over 21 = .ok (.bipush (-3), 2) := by decide +kernel
theorem dX6_over_23 : decode cX6_over 23 = .ok (.ireturn, 1) := by decide +kernel
theorem dX6_over_24 : decode cX6_over 24 = .ok (.aload_n 0, 1) := by decide +kernel
theorem dX6_over_25 : decode cX6_over 25 = .ok (.getfield 46, 3) := by decide +kernel
theorem dX6_over_28 : decode cX6_over 28 = .ok (.iload_n 1, 1) := by decide +kernel
theorem dX6_over_29 : decode cX6_over 29 = .ok (.aload_n 0, 1) := by decide +kernel
theorem dX6_over_30 : decode cX6_over 30 = .ok (.getfield 18, 3) := by decide +kernel
theorem dX6_over_33 : decode cX6_over 33 = .ok (.iload_n 1, 1) := by decide +kernel
theorem dX6_over_34 : decode cX6_over 34 = .ok (.aaload, 1) := by decide +kernel
theorem dX6_over_35 : decode cX6_over 35 = .ok (.invokevirtual 169, 3) := by decide +kernel
theorem dX6_over_38 : decode cX6_over 38 = .ok (.ireturn, 1) := by decide +kernel
theorem dX6_bare_0 : decode cX6_bare 0 = .ok (.aload_n 0, 1) := by decide +kernel
theorem dX6_bare_1 : decode cX6_bare 1 = .ok (.getfield 46, 3) := by decide +kernel
theorem dX6_bare_4 : decode cX6_bare 4 = .ok (.invokevirtual 173, 3) := by decide +kernel
theorem dX6_bare_7 : decode cX6_bare 7 = .ok (.ireturn, 1) := by decide +kernel
theorem dX6_look_0 : decode cX6_look 0 = .ok (.aload_n 0, 1) := by decide +kernel
theorem dX6_look_1 : decode cX6_look 1 = .ok (.getfield 46, 3) := by decide +kernel
theorem dX6_look_4 : decode cX6_look 4 = .ok (.iload_n 1, 1) := by decide +kernel
theorem dX6_look_5 : decode cX6_look 5 = .ok (.invokevirtual 176, 3) := by decide +kernel
theorem dX6_look_8 : decode cX6_look 8 = .ok (.ifCond .ne 5, 3) := by decide +kernel
theorem dX6_look_11 : decode cX6_look 11 = .ok (.iconst (-1), 1) := by decide +kernel
theorem dX6_look_12 : decode cX6_look 12 = .ok (.ireturn, 1) := by decide +kernel
theorem dX6_look_13 : decode cX6_look 13 = .ok (.iload_n 2, 1) := by decide +kernel
theorem dX6_look_14 : decode cX6_look 14 = .ok (.invokestatic 58, 3) := by decide +kernel
theorem dX6_look_17 : decode cX6_look 17 = .ok (.ifCond .ne 6, 3) := by decide +kernel
theorem dX6_look_20 : decode cX6_look 20 = .ok (.bipush (-2), 2) := by decide +kernel
theorem dX6_look_22 : decode cX6_look 22 = .ok (.ireturn, 1) := by decide +kernel
theorem dX6_look_23 : decode cX6_look 23 = .ok (.aload_n 0, 1) := by decide +kernel
theorem dX6_look_24 : decode cX6_look 24 = .ok (.getfield 46, 3) := by decide +kernel
theorem dX6_look_27 : decode cX6_look 27 = .ok (.iload_n 1, 1) := by decide +kernel
theorem dX6_look_28 : decode cX6_look 28 = .ok (.invokevirtual 179, 3) := by decide +kernel
theorem dX6_look_31 : decode cX6_look 31 = .ok (.iconst 1, 1) := by decide +kernel
theorem dX6_look_32 : decode cX6_look 32 = .ok (.if_icmp .eq 6, 3) := by decide +kernel
theorem dX6_look_35 : decode cX6_look 35 = .ok (.bipush (-3), 2) := by decide +kernel
theorem dX6_look_37 : decode cX6_look 37 = .ok (.ireturn, 1) := by decide +kernel
theorem dX6_look_38 : decode cX6_look 38 = .ok (.aload_n 0, 1) := by decide +kernel
theorem dX6_look_39 : decode cX6_look 39 = .ok (.getfield 46, 3) := by decide +kernel
theorem dX6_look_42 : decode cX6_look 42 = .ok (.iload_n 1, 1) := by decide +kernel
theorem dX6_look_43 : decode cX6_look 43 = .ok (.iload_n 2, 1) := by decide +kernel
theorem dX6_look_44 : decode cX6_look 44 = .ok (.invokevirtual 180, 3) := by decide +kernel
theorem dX6_look_47 : decode cX6_look 47 = .ok (.ireturn, 1) := by decide +kernel
theorem dX6_list_0 : decode cX6_list 0 = .ok (.aload_n 0, 1) := by decide +kernel
theorem dX6_list_1 : decode cX6_list 1 = .ok (.getfield 46, 3) := by decide +kernel
theorem dX6_list_4 : decode cX6_list 4 = .ok (.iload_n 1, 1) := by decide +kernel
theorem dX6_list_5 : decode cX6_list 5 = .ok (.invokevirtual 176, 3) := by decide +kernel
theorem dX6_list_8 : decode cX6_list 8 = .ok (.ifCond .ne 5, 3) := by decide +kernel
theorem dX6_list_11 : decode cX6_list 11 = .ok (.iconst (-1), 1) := by decide +kernel
theorem dX6_list_12 : decode cX6_list 12 = .ok (.ireturn, 1) := by decide +kernel
theorem dX6_list_13 : decode cX6_list 13 = .ok (.iload_n 2, 1) := by decide +kernel
theorem dX6_list_14 : decode cX6_list 14 = .ok (.ifCond .ge 6, 3) := by decide +kernel
theorem dX6_list_17 : decode cX6_list 17 = .ok (.bipush (-2), 2) := by decide +kernel
theorem dX6_list_19 : decode cX6_list 19 = .ok (.ireturn, 1) := by decide +kernel
theorem dX6_list_20 : decode cX6_list 20 = .ok (.aload_n 0, 1) := by decide +kernel
theorem dX6_list_21 : decode cX6_list 21 = .ok (.getfield 46, 3) := by decide +kernel
theorem dX6_list_24 : decode cX6_list 24 = .ok (.iload_n 1, 1) := by decide +kernel
theorem dX6_list_25 : decode cX6_list 25 = .ok (.invokevirtual 179, 3) := by decide +kernel
theorem dX6_list_28 : decode cX6_list 28 = .ok (.iconst 1, 1) := by decide +kernel
theorem dX6_list_29 : decode cX6_list 29 = .ok (.if_icmp .eq 6, 3) := by decide +kernel
theorem dX6_list_32 : decode cX6_list 32 = .ok (.bipush (-3), 2) := by decide +kernel
theorem dX6_list_34 : decode cX6_list 34 = .ok (.ireturn, 1) := by decide +kernel
theorem dX6_list_35 : decode cX6_list 35 = .ok (.aload_n 0, 1) := by decide +kernel
theorem dX6_list_36 : decode cX6_list 36 = .ok (.getfield 46, 3) := by decide +kernel
theorem dX6_list_39 : decode cX6_list 39 = .ok (.iload_n 1, 1) := by decide +kernel
theorem dX6_list_40 : decode cX6_list 40 = .ok (.iload_n 2, 1) := by decide +kernel
theorem dX6_list_41 : decode cX6_list 41 = .ok (.invokevirtual 184, 3) := by decide +kernel
theorem dX6_list_44 : decode cX6_list 44 = .ok (.ireturn, 1) := by decide +kernel
theorem dX6_view_0 : decode cX6_view 0 = .ok (.aload_n 0, 1) := by decide +kernel
theorem dX6_view_1 : decode cX6_view 1 = .ok (.getfield 46, 3) := by decide +kernel
theorem dX6_view_4 : decode cX6_view 4 = .ok (.iload_n 1, 1) := by decide +kernel
theorem dX6_view_5 : decode cX6_view 5 = .ok (.invokevirtual 176, 3) := by decide +kernel
theorem dX6_view_8 : decode cX6_view 8 = .ok (.ifCond .ne 5, 3) := by decide +kernel
theorem dX6_view_11 : decode cX6_view 11 = .ok (.iconst (-1), 1) := by decide +kernel
theorem dX6_view_12 : decode cX6_view 12 = .ok (.ireturn, 1) := by decide +kernel
theorem dX6_view_13 : decode cX6_view 13 = .ok (.iload_n 2, 1) := by decide +kernel
theorem dX6_view_14 : decode cX6_view 14 = .ok (.tableswitch 105 0 6 #[42, 51, 60, 69, 78, 87, 96], 42) := by decide +kernel
theorem dX6_view_56 : decode cX6_view 56 = .ok (.aload_n 0, 1) := by decide +kernel
theorem dX6_view_57 : decode cX6_view 57 = .ok (.getfield 46, 3) := by decide +kernel
theorem dX6_view_60 : decode cX6_view 60 = .ok (.iload_n 1, 1) := by decide +kernel
theorem dX6_view_61 : decode cX6_view 61 = .ok (.invokevirtual 179, 3) := by decide +kernel
theorem dX6_view_64 : decode cX6_view 64 = .ok (.ireturn, 1) := by decide +kernel
theorem dX6_view_65 : decode cX6_view 65 = .ok (.aload_n 0, 1) := by decide +kernel
theorem dX6_view_66 : decode cX6_view 66 = .ok (.getfield 46, 3) := by decide +kernel
theorem dX6_view_69 : decode cX6_view 69 = .ok (.iload_n 1, 1) := by decide +kernel
theorem dX6_view_70 : decode cX6_view 70 = .ok (.invokevirtual 187, 3) := by decide +kernel
theorem dX6_view_73 : decode cX6_view 73 = .ok (.ireturn, 1) := by decide +kernel
theorem dX6_view_74 : decode cX6_view 74 = .ok (.aload_n 0, 1) := by decide +kernel
theorem dX6_view_75 : decode cX6_view 75 = .ok (.getfield 46, 3) := by decide +kernel
theorem dX6_view_78 : decode cX6_view 78 = .ok (.iload_n 1, 1) := by decide +kernel
theorem dX6_view_79 : decode cX6_view 79 = .ok (.invokevirtual 190, 3) := by decide +kernel
theorem dX6_view_82 : decode cX6_view 82 = .ok (.ireturn, 1) := by decide +kernel
theorem dX6_view_83 : decode cX6_view 83 = .ok (.aload_n 0, 1) := by decide +kernel
theorem dX6_view_84 : decode cX6_view 84 = .ok (.getfield 46, 3) := by decide +kernel
theorem dX6_view_87 : decode cX6_view 87 = .ok (.iload_n 1, 1) := by decide +kernel
theorem dX6_view_88 : decode cX6_view 88 = .ok (.invokevirtual 193, 3) := by decide +kernel
theorem dX6_view_91 : decode cX6_view 91 = .ok (.ireturn, 1) := by decide +kernel
theorem dX6_view_92 : decode cX6_view 92 = .ok (.aload_n 0, 1) := by decide +kernel
theorem dX6_view_93 : decode cX6_view 93 = .ok (.getfield 46, 3) := by decide +kernel
theorem dX6_view_96 : decode cX6_view 96 = .ok (.iload_n 1, 1) := by decide +kernel
theorem dX6_view_97 : decode cX6_view 97 = .ok (.invokevirtual 194, 3) := by decide +kernel
theorem dX6_view_100 : decode cX6_view 100 = .ok (.ireturn, 1) := by decide +kernel
theorem dX6_view_101 : decode cX6_view 101 = .ok (.aload_n 0, 1) := by decide +kernel
theorem dX6_view_102 : decode cX6_view 102 = .ok (.getfield 46, 3) := by decide +kernel
theorem dX6_view_105 : decode cX6_view 105 = .ok (.iload_n 1, 1) := by decide +kernel
theorem dX6_view_106 : decode cX6_view 106 = .ok (.invokevirtual 195, 3) := by decide +kernel
theorem dX6_view_109 : decode cX6_view 109 = .ok (.ireturn, 1) := by decide +kernel
theorem dX6_view_110 : decode cX6_view 110 = .ok (.aload_n 0, 1) := by decide +kernel
theorem dX6_view_111 : decode cX6_view 111 = .ok (.getfield 46, 3) := by decide +kernel
theorem dX6_view_114 : decode cX6_view 114 = .ok (.iload_n 1, 1) := by decide +kernel
theorem dX6_view_115 : decode cX6_view 115 = .ok (.invokevirtual 196, 3) := by decide +kernel
theorem dX6_view_118 : decode cX6_view 118 = .ok (.ireturn, 1) := by decide +kernel
theorem dX6_view_119 : decode cX6_view 119 = .ok (.bipush (-2), 2) := by decide +kernel
theorem dX6_view_121 : decode cX6_view 121 = .ok (.ireturn, 1) := by decide +kernel
theorem dX6_read_0 : decode cX6_read 0 = .ok (.aload_n 0, 1) := by decide +kernel
theorem dX6_read_1 : decode cX6_read 1 = .ok (.getfield 46, 3) := by decide +kernel
theorem dX6_read_4 : decode cX6_read 4 = .ok (.iload_n 1, 1) := by decide +kernel
theorem dX6_read_5 : decode cX6_read 5 = .ok (.invokevirtual 176, 3) := by decide +kernel
theorem dX6_read_8 : decode cX6_read 8 = .ok (.ifCond .ne 5, 3) := by decide +kernel
theorem dX6_read_11 : decode cX6_read 11 = .ok (.iconst (-1), 1) := by decide +kernel
theorem dX6_read_12 : decode cX6_read 12 = .ok (.ireturn, 1) := by decide +kernel
theorem dX6_read_13 : decode cX6_read 13 = .ok (.iload_n 2, 1) := by decide +kernel
theorem dX6_read_14 : decode cX6_read 14 = .ok (.ifCond .ge 6, 3) := by decide +kernel
theorem dX6_read_17 : decode cX6_read 17 = .ok (.bipush (-2), 2) := by decide +kernel
theorem dX6_read_19 : decode cX6_read 19 = .ok (.ireturn, 1) := by decide +kernel
theorem dX6_read_20 : decode cX6_read 20 = .ok (.aload_n 0, 1) := by decide +kernel
theorem dX6_read_21 : decode cX6_read 21 = .ok (.getfield 46, 3) := by decide +kernel
theorem dX6_read_24 : decode cX6_read 24 = .ok (.iload_n 1, 1) := by decide +kernel
theorem dX6_read_25 : decode cX6_read 25 = .ok (.invokevirtual 179, 3) := by decide +kernel
theorem dX6_read_28 : decode cX6_read 28 = .ok (.iconst 2, 1) := by decide +kernel
theorem dX6_read_29 : decode cX6_read 29 = .ok (.if_icmp .eq 6, 3) := by decide +kernel
theorem dX6_read_32 : decode cX6_read 32 = .ok (.bipush (-3), 2) := by decide +kernel
theorem dX6_read_34 : decode cX6_read 34 = .ok (.ireturn, 1) := by decide +kernel
theorem dX6_read_35 : decode cX6_read 35 = .ok (.iload_n 2, 1) := by decide +kernel
theorem dX6_read_36 : decode cX6_read 36 = .ok (.aload_n 0, 1) := by decide +kernel
theorem dX6_read_37 : decode cX6_read 37 = .ok (.getfield 46, 3) := by decide +kernel
theorem dX6_read_40 : decode cX6_read 40 = .ok (.iload_n 1, 1) := by decide +kernel
theorem dX6_read_41 : decode cX6_read 41 = .ok (.invokevirtual 193, 3) := by decide +kernel
theorem dX6_read_44 : decode cX6_read 44 = .ok (.if_icmp .lt 6, 3) := by decide +kernel
theorem dX6_read_47 : decode cX6_read 47 = .ok (.bipush (-2), 2) := by decide +kernel
theorem dX6_read_49 : decode cX6_read 49 = .ok (.ireturn, 1) := by decide +kernel
theorem dX6_read_50 : decode cX6_read 50 = .ok (.aload_n 0, 1) := by decide +kernel
theorem dX6_read_51 : decode cX6_read 51 = .ok (.getfield 46, 3) := by decide +kernel
theorem dX6_read_54 : decode cX6_read 54 = .ok (.iload_n 1, 1) := by decide +kernel
theorem dX6_read_55 : decode cX6_read 55 = .ok (.iload_n 2, 1) := by decide +kernel
theorem dX6_read_56 : decode cX6_read 56 = .ok (.invokevirtual 199, 3) := by decide +kernel
theorem dX6_read_59 : decode cX6_read 59 = .ok (.ireturn, 1) := by decide +kernel
theorem dX6_count_0 : decode cX6_count 0 = .ok (.iload_n 1, 1) := by decide +kernel
theorem dX6_count_1 : decode cX6_count 1 = .ok (.tableswitch 72 0 4 #[35, 43, 48, 56, 64], 35) := by decide +kernel
theorem dX6_count_36 : decode cX6_count 36 = .ok (.aload_n 0, 1) := by decide +kernel
theorem dX6_count_37 : decode cX6_count 37 = .ok (.getfield 12, 3) := by decide +kernel
theorem dX6_count_40 : decode cX6_count 40 = .ok (.getfield 90, 3) := by decide +kernel
theorem dX6_count_43 : decode cX6_count 43 = .ok (.ireturn, 1) := by decide +kernel
theorem dX6_count_44 : decode cX6_count 44 = .ok (.aload_n 0, 1) := by decide +kernel
theorem dX6_count_45 : decode cX6_count 45 = .ok (.getfield 100, 3) := by decide +kernel
theorem dX6_count_48 : decode cX6_count 48 = .ok (.ireturn, 1) := by decide +kernel
theorem dX6_count_49 : decode cX6_count 49 = .ok (.aload_n 0, 1) := by decide +kernel
theorem dX6_count_50 : decode cX6_count 50 = .ok (.getfield 46, 3) := by decide +kernel
theorem dX6_count_53 : decode cX6_count 53 = .ok (.getfield 202, 3) := by decide +kernel
theorem dX6_count_56 : decode cX6_count 56 = .ok (.ireturn, 1) := by decide +kernel
theorem dX6_count_57 : decode cX6_count 57 = .ok (.aload_n 0, 1) := by decide +kernel
theorem dX6_count_58 : decode cX6_count 58 = .ok (.getfield 46, 3) := by decide +kernel
theorem dX6_count_61 : decode cX6_count 61 = .ok (.getfield 205, 3) := by decide +kernel
theorem dX6_count_64 : decode cX6_count 64 = .ok (.ireturn, 1) := by decide +kernel
theorem dX6_count_65 : decode cX6_count 65 = .ok (.aload_n 0, 1) := by decide +kernel
theorem dX6_count_66 : decode cX6_count 66 = .ok (.getfield 25, 3) := by decide +kernel
theorem dX6_count_69 : decode cX6_count 69 = .ok (.getfield 107, 3) := by decide +kernel
theorem dX6_count_72 : decode cX6_count 72 = .ok (.ireturn, 1) := by decide +kernel
theorem dX6_count_73 : decode cX6_count 73 = .ok (.bipush (-2), 2) := by decide +kernel
theorem dX6_count_75 : decode cX6_count 75 = .ok (.ireturn, 1) := by decide +kernel
theorem dX6_addBelow_0 : decode cX6_addBelow 0 = .ok (.aload_n 0, 1) := by decide +kernel
theorem dX6_addBelow_1 : decode cX6_addBelow 1 = .ok (.getfield 12, 3) := by decide +kernel
theorem dX6_addBelow_4 : decode cX6_addBelow 4 = .ok (.iload_n 1, 1) := by decide +kernel
theorem dX6_addBelow_5 : decode cX6_addBelow 5 = .ok (.invokevirtual 54, 3) := by decide +kernel
theorem dX6_addBelow_8 : decode cX6_addBelow 8 = .ok (.ifCond .ne 5, 3) := by decide +kernel
theorem dX6_addBelow_11 : decode cX6_addBelow 11 = .ok (.iconst (-1), 1) := by decide +kernel
theorem dX6_addBelow_12 : decode cX6_addBelow 12 = .ok (.ireturn, 1) := by decide +kernel
theorem dX6_addBelow_13 : decode cX6_addBelow 13 = .ok (.iload_n 2, 1) := by decide +kernel
theorem dX6_addBelow_14 : decode cX6_addBelow 14 = .ok (.invokestatic 58, 3) := by decide +kernel
theorem dX6_addBelow_17 : decode cX6_addBelow 17 = .ok (.ifCond .ne 6, 3) := by decide +kernel
theorem dX6_addBelow_20 : decode cX6_addBelow 20 = .ok (.bipush (-2), 2) := by decide +kernel
theorem dX6_addBelow_22 : decode cX6_addBelow 22 = .ok (.ireturn, 1) := by decide +kernel
theorem dX6_addBelow_23 : decode cX6_addBelow 23 = .ok (.aload_n 0, 1) := by decide +kernel
theorem dX6_addBelow_24 : decode cX6_addBelow 24 = .ok (.getfield 12, 3) := by decide +kernel
theorem dX6_addBelow_27 : decode cX6_addBelow 27 = .ok (.iload_n 1, 1) := by decide +kernel
theorem dX6_addBelow_28 : decode cX6_addBelow 28 = .ok (.iload_n 2, 1) := by decide +kernel
theorem dX6_addBelow_29 : decode cX6_addBelow 29 = .ok (.invokevirtual 61, 3) := by decide +kernel
theorem dX6_addBelow_32 : decode cX6_addBelow 32 = .ok (.ifCond .ne 6, 3) := by decide +kernel
theorem dX6_addBelow_35 : decode cX6_addBelow 35 = .ok (.bipush (-3), 2) := by decide +kernel
theorem dX6_addBelow_37 : decode cX6_addBelow 37 = .ok (.ireturn, 1) := by decide +kernel
theorem dX6_addBelow_38 : decode cX6_addBelow 38 = .ok (.aload_n 0, 1) := by decide +kernel
theorem dX6_addBelow_39 : decode cX6_addBelow 39 = .ok (.getfield 12, 3) := by decide +kernel
theorem dX6_addBelow_42 : decode cX6_addBelow 42 = .ok (.getfield 90, 3) := by decide +kernel
theorem dX6_addBelow_45 : decode cX6_addBelow 45 = .ok (.bipush 32, 2) := by decide +kernel
theorem dX6_addBelow_47 : decode cX6_addBelow 47 = .ok (.if_icmp .lt 6, 3) := by decide +kernel
theorem dX6_addBelow_50 : decode cX6_addBelow 50 = .ok (.bipush (-4), 2) := by decide +kernel
theorem dX6_addBelow_52 : decode cX6_addBelow 52 = .ok (.ireturn, 1) := by decide +kernel
theorem dX6_addBelow_53 : decode cX6_addBelow 53 = .ok (.aload_n 0, 1) := by decide +kernel
theorem dX6_addBelow_54 : decode cX6_addBelow 54 = .ok (.getfield 12, 3) := by decide +kernel
theorem dX6_addBelow_57 : decode cX6_addBelow 57 = .ok (.iload_n 1, 1) := by decide +kernel
theorem dX6_addBelow_58 : decode cX6_addBelow 58 = .ok (.iload_n 2, 1) := by decide +kernel
theorem dX6_addBelow_59 : decode cX6_addBelow 59 = .ok (.iload_n 3, 1) := by decide +kernel
theorem dX6_addBelow_60 : decode cX6_addBelow 60 = .ok (.invokevirtual 208, 3) := by decide +kernel
theorem dX6_addBelow_63 : decode cX6_addBelow 63 = .ok (.ireturn, 1) := by decide +kernel
theorem dX6_hasImage_0 : decode cX6_hasImage 0 = .ok (.iload_n 1, 1) := by decide +kernel
theorem dX6_hasImage_1 : decode cX6_hasImage 1 = .ok (.ifCond .lt 15, 3) := by decide +kernel
theorem dX6_hasImage_4 : decode cX6_hasImage 4 = .ok (.iload_n 1, 1) := by decide +kernel
theorem dX6_hasImage_5 : decode cX6_hasImage 5 = .ok (.aload_n 0, 1) := by decide +kernel
theorem dX6_hasImage_6 : decode cX6_hasImage 6 = .ok (.getfield 100, 3) := by decide +kernel
theorem dX6_hasImage_9 : decode cX6_hasImage 9 = .ok (.if_icmp .ge 7, 3) := by decide +kernel
theorem dX6_hasImage_12 : decode cX6_hasImage 12 = .ok (.iconst 1, 1) := by decide +kernel
theorem dX6_hasImage_13 : decode cX6_hasImage 13 = .ok (.goto 4, 3) := by decide +kernel
theorem dX6_hasImage_16 : decode cX6_hasImage 16 = .ok (.iconst 0, 1) := by decide +kernel
theorem dX6_hasImage_17 : decode cX6_hasImage 17 = .ok (.ireturn, 1) := by decide +kernel
theorem dX6_isName_0 : decode cX6_isName 0 = .ok (.iload_n 0, 1) := by decide +kernel
theorem dX6_isName_1 : decode cX6_isName 1 = .ok (.iconst 1, 1) := by decide +kernel
theorem dX6_isName_2 : decode cX6_isName 2 = .ok (.if_icmp .lt 14, 3) := by decide +kernel
theorem dX6_isName_5 : decode cX6_isName 5 = .ok (.iload_n 0, 1) := by decide +kernel
theorem dX6_isName_6 : decode cX6_isName 6 = .ok (.sipush 999, 3) := by decide +kernel
theorem dX6_isName_9 : decode cX6_isName 9 = .ok (.if_icmp .gt 7, 3) := by decide +kernel
theorem dX6_isName_12 : decode cX6_isName 12 = .ok (.iconst 1, 1) := by decide +kernel
theorem dX6_isName_13 : decode cX6_isName 13 = .ok (.goto 4, 3) := by decide +kernel
theorem dX6_isName_16 : decode cX6_isName 16 = .ok (.iconst 0, 1) := by decide +kernel
theorem dX6_isName_17 : decode cX6_isName 17 = .ok (.ireturn, 1) := by decide +kernel
theorem dX6_isWord_0 : decode cX6_isWord 0 = .ok (.iload_n 0, 1) := by decide +kernel
theorem dX6_isWord_1 : decode cX6_isWord 1 = .ok (.ifCond .lt 13, 3) := by decide +kernel
theorem dX6_isWord_4 : decode cX6_isWord 4 = .ok (.iload_n 0, 1) := by decide +kernel
theorem dX6_isWord_5 : decode cX6_isWord 5 = .ok (.ldc 211, 2) := by decide +kernel
theorem dX6_isWord_7 : decode cX6_isWord 7 = .ok (.if_icmp .gt 7, 3) := by decide +kernel
theorem dX6_isWord_10 : decode cX6_isWord 10 = .ok (.iconst 1, 1) := by decide +kernel
theorem dX6_isWord_11 : decode cX6_isWord 11 = .ok (.goto 4, 3) := by decide +kernel
theorem dX6_isWord_14 : decode cX6_isWord 14 = .ok (.iconst 0, 1) := by decide +kernel
theorem dX6_isWord_15 : decode cX6_isWord 15 = .ok (.ireturn, 1) := by decide +kernel
theorem dX6_isBlock_0 : decode cX6_isBlock 0 = .ok (.iload_n 0, 1) := by decide +kernel
theorem dX6_isBlock_1 : decode cX6_isBlock 1 = .ok (.bipush 8, 2) := by decide +kernel
theorem dX6_isBlock_3 : decode cX6_isBlock 3 = .ok (.if_icmp .eq 15, 3) := by decide +kernel
theorem dX6_isBlock_6 : decode cX6_isBlock 6 = .ok (.iload_n 0, 1) := by decide +kernel
theorem dX6_isBlock_7 : decode cX6_isBlock 7 = .ok (.bipush 16, 2) := by decide +kernel
theorem dX6_isBlock_9 : decode cX6_isBlock 9 = .ok (.if_icmp .eq 9, 3) := by decide +kernel
theorem dX6_isBlock_12 : decode cX6_isBlock 12 = .ok (.iload_n 0, 1) := by decide +kernel
theorem dX6_isBlock_13 : decode cX6_isBlock 13 = .ok (.bipush 32, 2) := by decide +kernel
theorem dX6_isBlock_15 : decode cX6_isBlock 15 = .ok (.if_icmp .ne 7, 3) := by decide +kernel
theorem dX6_isBlock_18 : decode cX6_isBlock 18 = .ok (.iconst 1, 1) := by decide +kernel
theorem dX6_isBlock_19 : decode cX6_isBlock 19 = .ok (.goto 4, 3) := by decide +kernel
theorem dX6_isBlock_22 : decode cX6_isBlock 22 = .ok (.iconst 0, 1) := by decide +kernel
theorem dX6_isBlock_23 : decode cX6_isBlock 23 = .ok (.ireturn, 1) := by decide +kernel
