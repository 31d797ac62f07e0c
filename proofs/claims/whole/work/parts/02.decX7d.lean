theorem dX7_load_13 : decode cX7_load 13 = .ok (.bipush (-4), 2) := by decide +kernel
theorem dX7_load_15 : decode cX7_load 15 = .ok (.ireturn, 1) := by decide +kernel
theorem dX7_load_16 : decode cX7_load 16 = .ok (.iconst 0, 1) := by decide +kernel
theorem dX7_load_17 : decode cX7_load 17 = .ok (.istore_n 1, 1) := by decide +kernel
theorem dX7_load_18 : decode cX7_load 18 = .ok (.iload_n 1, 1) := by decide +kernel
theorem dX7_load_19 : decode cX7_load 19 = .ok (.aload_n 0, 1) := by decide +kernel
theorem dX7_load_20 : decode cX7_load 20 = .ok (.getfield 195, 3) := by decide +kernel
theorem dX7_load_23 : decode cX7_load 23 = .ok (.if_icmp .ge 30, 3) := by decide +kernel
theorem dX7_load_26 : decode cX7_load 26 = .ok (.aload_n 0, 1) := by decide +kernel
theorem dX7_load_27 : decode cX7_load 27 = .ok (.getfield 34, 3) := by decide +kernel
theorem dX7_load_30 : decode cX7_load 30 = .ok (.sipush 6000, 3) := by decide +kernel
theorem dX7_load_33 : decode cX7_load 33 = .ok (.aload_n 0, 1) := by decide +kernel
theorem dX7_load_34 : decode cX7_load 34 = .ok (.getfield 168, 3) := by decide +kernel
theorem dX7_load_37 : decode cX7_load 37 = .ok (.imul, 1) := by decide +kernel
theorem dX7_load_38 : decode cX7_load 38 = .ok (.iload_n 1, 1) := by decide +kernel
theorem dX7_load_39 : decode cX7_load 39 = .ok (.iadd, 1) := by decide +kernel
theorem dX7_load_40 : decode cX7_load 40 = .ok (.aload_n 0, 1) := by decide +kernel
theorem dX7_load_41 : decode cX7_load 41 = .ok (.getfield 79, 3) := by decide +kernel
theorem dX7_load_44 : decode cX7_load 44 = .ok (.iload_n 1, 1) := by decide +kernel
theorem dX7_load_45 : decode cX7_load 45 = .ok (.iaload, 1) := by decide +kernel
theorem dX7_load_46 : decode cX7_load 46 = .ok (.iastore, 1) := by decide +kernel
theorem dX7_load_47 : decode cX7_load 47 = .ok (.iinc 1 1, 3) := by decide +kernel
theorem dX7_load_50 : decode cX7_load 50 = .ok (.goto (-32), 3) := by decide +kernel
theorem dX7_load_53 : decode cX7_load 53 = .ok (.aload_n 0, 1) := by decide +kernel
theorem dX7_load_54 : decode cX7_load 54 = .ok (.getfield 37, 3) := by decide +kernel
theorem dX7_load_57 : decode cX7_load 57 = .ok (.aload_n 0, 1) := by decide +kernel
theorem dX7_load_58 : decode cX7_load 58 = .ok (.getfield 168, 3) := by decide +kernel
theorem dX7_load_61 : decode cX7_load 61 = .ok (.aload_n 0, 1) := by decide +kernel
theorem dX7_load_62 : decode cX7_load 62 = .ok (.getfield 195, 3) := by decide +kernel
theorem dX7_load_65 : decode cX7_load 65 = .ok (.iastore, 1) := by decide +kernel
theorem dX7_load_66 : decode cX7_load 66 = .ok (.aload_n 0, 1) := by decide +kernel
theorem dX7_load_67 : decode cX7_load 67 = .ok (.iconst 0, 1) := by decide +kernel
theorem dX7_load_68 : decode cX7_load 68 = .ok (.putfield 195, 3) := by decide +kernel
theorem dX7_load_71 : decode cX7_load 71 = .ok (.aload_n 0, 1) := by decide +kernel
theorem dX7_load_72 : decode cX7_load 72 = .ok (.aload_n 0, 1) := by decide +kernel
theorem dX7_load_73 : decode cX7_load 73 = .ok (.getfield 168, 3) := by decide +kernel
theorem dX7_load_76 : decode cX7_load 76 = .ok (.invokevirtual 254, 3) := by decide +kernel
theorem dX7_load_79 : decode cX7_load 79 = .ok (.istore_n 1, 1) := by decide +kernel
theorem dX7_load_80 : decode cX7_load 80 = .ok (.iload_n 1, 1) := by decide +kernel
theorem dX7_load_81 : decode cX7_load 81 = .ok (.ifCond .le 8, 3) := by decide +kernel
theorem dX7_load_84 : decode cX7_load 84 = .ok (.bipush (-10), 2) := by decide +kernel
theorem dX7_load_86 : decode cX7_load 86 = .ok (.iload_n 1, 1) := by decide +kernel
theorem dX7_load_87 : decode cX7_load 87 = .ok (.isub, 1) := by decide +kernel
theorem dX7_load_88 : decode cX7_load 88 = .ok (.ireturn, 1) := by decide +kernel
theorem dX7_load_89 : decode cX7_load 89 = .ok (.aload_n 0, 1) := by decide +kernel
theorem dX7_load_90 : decode cX7_load 90 = .ok (.dup, 1) := by decide +kernel
theorem dX7_load_91 : decode cX7_load 91 = .ok (.getfield 168, 3) := by decide +kernel
theorem dX7_load_94 : decode cX7_load 94 = .ok (.iconst 1, 1) := by decide +kernel
theorem dX7_load_95 : decode cX7_load 95 = .ok (.iadd, 1) := by decide +kernel
theorem dX7_load_96 : decode cX7_load 96 = .ok (.putfield 168, 3) := by decide +kernel
theorem dX7_load_99 : decode cX7_load 99 = .ok (.aload_n 0, 1) := by decide +kernel
theorem dX7_load_100 : decode cX7_load 100 = .ok (.getfield 168, 3) := by decide +kernel
theorem dX7_load_103 : decode cX7_load 103 = .ok (.iconst 1, 1) := by decide +kernel
theorem dX7_load_104 : decode cX7_load 104 = .ok (.isub, 1) := by decide +kernel
theorem dX7_load_105 : decode cX7_load 105 = .ok (.ireturn, 1) := by decide +kernel
theorem dX7_isImage_0 : decode cX7_isImage 0 = .ok (.iload_n 1, 1) := by decide +kernel
theorem dX7_isImage_1 : decode cX7_isImage 1 = .ok (.iconst 0, 1) := by decide +kernel
theorem dX7_isImage_2 : decode cX7_isImage 2 = .ok (.aload_n 0, 1) := by decide +kernel
theorem dX7_isImage_3 : decode cX7_isImage 3 = .ok (.getfield 168, 3) := by decide +kernel
theorem dX7_isImage_6 : decode cX7_isImage 6 = .ok (.iconst 1, 1) := by decide +kernel
theorem dX7_isImage_7 : decode cX7_isImage 7 = .ok (.isub, 1) := by decide +kernel
theorem dX7_isImage_8 : decode cX7_isImage 8 = .ok (.invokestatic 101, 3) := by decide +kernel
theorem dX7_isImage_11 : decode cX7_isImage 11 = .ok (.ireturn, 1) := by decide +kernel
theorem dX7_isLaid_0 : decode cX7_isLaid 0 = .ok (.iconst 0, 1) := by decide +kernel
theorem dX7_isLaid_1 : decode cX7_isLaid 1 = .ok (.istore_n 2, 1) := by decide +kernel
theorem dX7_isLaid_2 : decode cX7_isLaid 2 = .ok (.iconst 0, 1) := by decide +kernel
theorem dX7_isLaid_3 : decode cX7_isLaid 3 = .ok (.istore_n 3, 1) := by decide +kernel
theorem dX7_isLaid_4 : decode cX7_isLaid 4 = .ok (.iload_n 3, 1) := by decide +kernel
theorem dX7_isLaid_5 : decode cX7_isLaid 5 = .ok (.aload_n 0, 1) := by decide +kernel
theorem dX7_isLaid_6 : decode cX7_isLaid 6 = .ok (.getfield 257, 3) := by decide +kernel
theorem dX7_isLaid_9 : decode cX7_isLaid 9 = .ok (.if_icmp .ge 29, 3) := by decide +kernel
theorem dX7_isLaid_12 : decode cX7_isLaid 12 = .ok (.iload_n 2, 1) := by decide +kernel
theorem dX7_isLaid_13 : decode cX7_isLaid 13 = .ok (.ifCond .ne 13, 3) := by decide +kernel
theorem dX7_isLaid_16 : decode cX7_isLaid 16 = .ok (.aload_n 0, 1) := by decide +kernel
theorem dX7_isLaid_17 : decode cX7_isLaid 17 = .ok (.getfield 82, 3) := by decide +kernel
theorem dX7_isLaid_20 : decode cX7_isLaid 20 = .ok (.iload_n 3, 1) := by decide +kernel
theorem dX7_isLaid_21 : decode cX7_isLaid 21 = .ok (.iaload, 1) := by decide +kernel
theorem dX7_isLaid_22 : decode cX7_isLaid 22 = .ok (.iload_n 1, 1) := by decide +kernel
theorem dX7_isLaid_23 : decode cX7_isLaid 23 = .ok (.if_icmp .ne 7, 3) := by decide +kernel
theorem dX7_isLaid_26 : decode cX7_isLaid 26 = .ok (.iconst 1, 1) := by decide +kernel
theorem dX7_isLaid_27 : decode cX7_isLaid 27 = .ok (.goto 4, 3) := by decide +kernel
theorem dX7_isLaid_30 : decode cX7_isLaid 30 = .ok (.iconst 0, 1) := by decide +kernel
theorem dX7_isLaid_31 : decode cX7_isLaid 31 = .ok (.istore_n 2, 1) := by decide +kernel
theorem dX7_isLaid_32 : decode cX7_isLaid 32 = .ok (.iinc 3 1, 3) := by decide +kernel
theorem dX7_isLaid_35 : decode cX7_isLaid 35 = .ok (.goto (-31), 3) := by decide +kernel
theorem dX7_isLaid_38 : decode cX7_isLaid 38 = .ok (.iload_n 2, 1) := by decide +kernel
theorem dX7_isLaid_39 : decode cX7_isLaid 39 = .ok (.ireturn, 1) := by decide +kernel
theorem dX7_drop_0 : decode cX7_drop 0 = .ok (.aload_n 0, 1) := by decide +kernel
theorem dX7_drop_1 : decode cX7_drop 1 = .ok (.iconst 0, 1) := by decide +kernel
theorem dX7_drop_2 : decode cX7_drop 2 = .ok (.putfield 98, 3) := by decide +kernel
theorem dX7_drop_5 : decode cX7_drop 5 = .ok (.aload_n 0, 1) := by decide +kernel
theorem dX7_drop_6 : decode cX7_drop 6 = .ok (.getfield 168, 3) := by decide +kernel
theorem dX7_drop_9 : decode cX7_drop 9 = .ok (.ifCond .eq 16, 3) := by decide +kernel
theorem dX7_drop_12 : decode cX7_drop 12 = .ok (.aload_n 0, 1) := by decide +kernel
theorem dX7_drop_13 : decode cX7_drop 13 = .ok (.aload_n 0, 1) := by decide +kernel
theorem dX7_drop_14 : decode cX7_drop 14 = .ok (.getfield 168, 3) := by decide +kernel
theorem dX7_drop_17 : decode cX7_drop 17 = .ok (.iconst 1, 1) := by decide +kernel
theorem dX7_drop_18 : decode cX7_drop 18 = .ok (.isub, 1) := by decide +kernel
theorem dX7_drop_19 : decode cX7_drop 19 = .ok (.invokevirtual 260, 3) := by decide +kernel
theorem dX7_drop_22 : decode cX7_drop 22 = .ok (.ifCond .eq 6, 3) := by decide +kernel
theorem dX7_drop_25 : decode cX7_drop 25 = .ok (.bipush (-3), 2) := by decide +kernel
theorem dX7_drop_27 : decode cX7_drop 27 = .ok (.ireturn, 1) := by decide +kernel
theorem dX7_drop_28 : decode cX7_drop 28 = .ok (.aload_n 0, 1) := by decide +kernel
theorem dX7_drop_29 : decode cX7_drop 29 = .ok (.dup, 1) := by decide +kernel
theorem dX7_drop_30 : decode cX7_drop 30 = .ok (.getfield 168, 3) := by decide +kernel
theorem dX7_drop_33 : decode cX7_drop 33 = .ok (.iconst 1, 1) := by decide +kernel
theorem dX7_drop_34 : decode cX7_drop 34 = .ok (.isub, 1) := by decide +kernel
theorem dX7_drop_35 : decode cX7_drop 35 = .ok (.putfield 168, 3) := by decide +kernel
theorem dX7_drop_38 : decode cX7_drop 38 = .ok (.aload_n 0, 1) := by decide +kernel
theorem dX7_drop_39 : decode cX7_drop 39 = .ok (.getfield 168, 3) := by decide +kernel
theorem dX7_drop_42 : decode cX7_drop 42 = .ok (.ireturn, 1) := by decide +kernel
theorem dX7_out_0 : decode cX7_out 0 = .ok (.aload_n 0, 1) := by decide +kernel
theorem dX7_out_1 : decode cX7_out 1 = .ok (.iconst 0, 1) := by decide +kernel
theorem dX7_out_2 : decode cX7_out 2 = .ok (.putfield 98, 3) := by decide +kernel
theorem dX7_out_5 : decode cX7_out 5 = .ok (.aload_n 0, 1) := by decide +kernel
theorem dX7_out_6 : decode cX7_out 6 = .ok (.iload_n 1, 1) := by decide +kernel
theorem dX7_out_7 : decode cX7_out 7 = .ok (.invokevirtual 263, 3) := by decide +kernel
theorem dX7_out_10 : decode cX7_out 10 = .ok (.ifCond .ne 5, 3) := by decide +kernel
theorem dX7_out_13 : decode cX7_out 13 = .ok (.iconst (-1), 1) := by decide +kernel
theorem dX7_out_14 : decode cX7_out 14 = .ok (.ireturn, 1) := by decide +kernel
theorem dX7_out_15 : decode cX7_out 15 = .ok (.iload_n 2, 1) := by decide +kernel
theorem dX7_out_16 : decode cX7_out 16 = .ok (.iconst 0, 1) := by decide +kernel
theorem dX7_out_17 : decode cX7_out 17 = .ok (.aload_n 0, 1) := by decide +kernel
theorem dX7_out_18 : decode cX7_out 18 = .ok (.getfield 37, 3) := by decide +kernel
theorem dX7_out_21 : decode cX7_out 21 = .ok (.iload_n 1, 1) := by decide +kernel
theorem dX7_out_22 : decode cX7_out 22 = .ok (.iaload, 1) := by decide +kernel
theorem dX7_out_23 : decode cX7_out 23 = .ok (.iconst 1, 1) := by decide +kernel
theorem dX7_out_24 : decode cX7_out 24 = .ok (.isub, 1) := by decide +kernel
theorem dX7_out_25 : decode cX7_out 25 = .ok (.invokestatic 101, 3) := by decide +kernel
theorem dX7_out_28 : decode cX7_out 28 = .ok (.ifCond .ne 10, 3) := by decide +kernel
theorem dX7_out_31 : decode cX7_out 31 = .ok (.aload_n 0, 1) := by decide +kernel
theorem dX7_out_32 : decode cX7_out 32 = .ok (.iconst 1, 1) := by decide +kernel
theorem dX7_out_33 : decode cX7_out 33 = .ok (.putfield 98, 3) := by decide +kernel
theorem dX7_out_36 : decode cX7_out 36 = .ok (.iconst 0, 1) := by decide +kernel
theorem dX7_out_37 : decode cX7_out 37 = .ok (.ireturn, 1) := by decide +kernel
theorem dX7_out_38 : decode cX7_out 38 = .ok (.aload_n 0, 1) := by decide +kernel
theorem dX7_out_39 : decode cX7_out 39 = .ok (.iload_n 1, 1) := by decide +kernel
theorem dX7_out_40 : decode cX7_out 40 = .ok (.iload_n 2, 1) := by decide +kernel
theorem dX7_out_41 : decode cX7_out 41 = .ok (.invokevirtual 198, 3) := by decide +kernel
theorem dX7_out_44 : decode cX7_out 44 = .ok (.ireturn, 1) := by decide +kernel
theorem dX7_image_0 : decode cX7_image 0 = .ok (.aload_n 0, 1) := by decide +kernel
theorem dX7_image_1 : decode cX7_image 1 = .ok (.iconst 0, 1) := by decide +kernel
theorem dX7_image_2 : decode cX7_image 2 = .ok (.putfield 98, 3) := by decide +kernel
theorem dX7_image_5 : decode cX7_image 5 = .ok (.aload_n 0, 1) := by decide +kernel
theorem dX7_image_6 : decode cX7_image 6 = .ok (.iload_n 1, 1) := by decide +kernel
theorem dX7_image_7 : decode cX7_image 7 = .ok (.invokevirtual 263, 3) := by decide +kernel
theorem dX7_image_10 : decode cX7_image 10 = .ok (.ifCond .ne 5, 3) := by decide +kernel
theorem dX7_image_13 : decode cX7_image 13 = .ok (.iconst (-1), 1) := by decide +kernel
theorem dX7_image_14 : decode cX7_image 14 = .ok (.ireturn, 1) := by decide +kernel
theorem dX7_image_15 : decode cX7_image 15 = .ok (.iload_n 2, 1) := by decide +kernel
theorem dX7_image_16 : decode cX7_image 16 = .ok (.tableswitch 73 0 4 #[36, 43, 50, 56, 62], 36) := by decide +kernel
theorem dX7_image_52 : decode cX7_image 52 = .ok (.aload_n 0, 1) := by decide +kernel
theorem dX7_image_53 : decode cX7_image 53 = .ok (.getfield 37, 3) := by decide +kernel
theorem dX7_image_56 : decode cX7_image 56 = .ok (.iload_n 1, 1) := by decide +kernel
theorem dX7_image_57 : decode cX7_image 57 = .ok (.iaload, 1) := by decide +kernel
theorem dX7_image_58 : decode cX7_image 58 = .ok (.ireturn, 1) := by decide +kernel
theorem dX7_image_59 : decode cX7_image 59 = .ok (.aload_n 0, 1) := by decide +kernel
theorem dX7_image_60 : decode cX7_image 60 = .ok (.iload_n 1, 1) := by decide +kernel
theorem dX7_image_61 : decode cX7_image 61 = .ok (.iconst 2, 1) := by decide +kernel
theorem dX7_image_62 : decode cX7_image 62 = .ok (.invokevirtual 198, 3) := by decide +kernel
theorem dX7_image_65 : decode cX7_image 65 = .ok (.ireturn, 1) := by decide +kernel
theorem dX7_image_66 : decode cX7_image 66 = .ok (.aload_n 0, 1) := by decide +kernel
theorem dX7_image_67 : decode cX7_image 67 = .ok (.iload_n 1, 1) := by decide +kernel
theorem dX7_image_68 : decode cX7_image 68 = .ok (.invokevirtual 207, 3) := by decide +kernel
theorem dX7_image_71 : decode cX7_image 71 = .ok (.ireturn, 1) := by decide +kernel
theorem dX7_image_72 : decode cX7_image 72 = .ok (.aload_n 0, 1) := by decide +kernel
theorem dX7_image_73 : decode cX7_image 73 = .ok (.iload_n 1, 1) := by decide +kernel
theorem dX7_image_74 : decode cX7_image 74 = .ok (.invokevirtual 232, 3) := by decide +kernel
theorem dX7_image_77 : decode cX7_image 77 = .ok (.ireturn, 1) := by decide +kernel
theorem dX7_image_78 : decode cX7_image 78 = .ok (.aload_n 0, 1) := by decide +kernel
theorem dX7_image_79 : decode cX7_image 79 = .ok (.iload_n 1, 1) := by decide +kernel
theorem dX7_image_80 : decode cX7_image 80 = .ok (.bipush 6, 2) := by decide +kernel
theorem dX7_image_82 : decode cX7_image 82 = .ok (.invokevirtual 201, 3) := by decide +kernel
theorem dX7_image_85 : decode cX7_image 85 = .ok (.bipush 18, 2) := by decide +kernel
theorem dX7_image_87 : decode cX7_image 87 = .ok (.isub, 1) := by decide +kernel
theorem dX7_image_88 : decode cX7_image 88 = .ok (.ireturn, 1) := by decide +kernel
theorem dX7_image_89 : decode cX7_image 89 = .ok (.bipush (-2), 2) := by decide +kernel
theorem dX7_image_91 : decode cX7_image 91 = .ok (.ireturn, 1) := by decide +kernel
theorem dX7_same_0 : decode cX7_same 0 = .ok (.aload_n 0, 1) := by decide +kernel
theorem dX7_same_1 : decode cX7_same 1 = .ok (.iconst 0, 1) := by decide +kernel
theorem dX7_same_2 : decode cX7_same 2 = .ok (.putfield 98, 3) := by decide +kernel
theorem dX7_same_5 : decode cX7_same 5 = .ok (.aload_n 0, 1) := by decide +kernel
theorem dX7_same_6 : decode cX7_same 6 = .ok (.iload_n 1, 1) := by decide +kernel
theorem dX7_same_7 : decode cX7_same 7 = .ok (.invokevirtual 263, 3) := by decide +kernel
theorem dX7_same_10 : decode cX7_same 10 = .ok (.ifCond .eq 11, 3) := by decide +kernel
theorem dX7_same_13 : decode cX7_same 13 = .ok (.aload_n 0, 1) := by decide +kernel
theorem dX7_same_14 : decode cX7_same 14 = .ok (.iload_n 2, 1) := by decide +kernel
theorem dX7_same_15 : decode cX7_same 15 = .ok (.invokevirtual 263, 3) := by decide +kernel
theorem dX7_same_18 : decode cX7_same 18 = .ok (.ifCond .ne 5, 3) := by decide +kernel
theorem dX7_same_21 : decode cX7_same 21 = .ok (.iconst (-1), 1) := by decide +kernel
theorem dX7_same_22 : decode cX7_same 22 = .ok (.ireturn, 1) := by decide +kernel
theorem dX7_same_23 : decode cX7_same 23 = .ok (.aload_n 0, 1) := by decide +kernel
theorem dX7_same_24 : decode cX7_same 24 = .ok (.getfield 37, 3) := by decide +kernel
theorem dX7_same_27 : decode cX7_same 27 = .ok (.iload_n 1, 1) := by decide +kernel
theorem dX7_same_28 : decode cX7_same 28 = .ok (.iaload, 1) := by decide +kernel
theorem dX7_same_29 : decode cX7_same 29 = .ok (.aload_n 0, 1) := by decide +kernel
theorem dX7_same_30 : decode cX7_same 30 = .ok (.getfield 37, 3) := by decide +kernel
theorem dX7_same_33 : decode cX7_same 33 = .ok (.iload_n 2, 1) := by decide +kernel
theorem dX7_same_34 : decode cX7_same 34 = .ok (.iaload, 1) := by decide +kernel
theorem dX7_same_35 : decode cX7_same 35 = .ok (.if_icmp .ne 7, 3) := by decide +kernel
theorem dX7_same_38 : decode cX7_same 38 = .ok (.iconst 1, 1) := by decide +kernel
theorem dX7_same_39 : decode cX7_same 39 = .ok (.goto 4, 3) := by decide +kernel
theorem dX7_same_42 : decode cX7_same 42 = .ok (.iconst 0, 1) := by decide +kernel
theorem dX7_same_43 : decode cX7_same 43 = .ok (.istore_n 3, 1) := by decide +kernel
theorem dX7_same_44 : decode cX7_same 44 = .ok (.iconst 0, 1) := by decide +kernel
theorem dX7_same_45 : decode cX7_same 45 = .ok (.istore 4, 2) := by decide +kernel
theorem dX7_same_47 : decode cX7_same 47 = .ok (.iload 4, 2) := by decide +kernel
theorem dX7_same_49 : decode cX7_same 49 = .ok (.aload_n 0, 1) := by decide +kernel
theorem dX7_same_50 : decode cX7_same 50 = .ok (.getfield 37, 3) := by decide +kernel
theorem dX7_same_53 : decode cX7_same 53 = .ok (.iload_n 1, 1) := by decide +kernel
theorem dX7_same_54 : decode cX7_same 54 = .ok (.iaload, 1) := by decide +kernel
theorem dX7_same_55 : decode cX7_same 55 = .ok (.if_icmp .ge 36, 3) := by decide +kernel
theorem dX7_same_58 : decode cX7_same 58 = .ok (.iload_n 3, 1) := by decide +kernel
theorem dX7_same_59 : decode cX7_same 59 = .ok (.ifCond .eq 32, 3) := by decide +kernel
theorem dX7_same_62 : decode cX7_same 62 = .ok (.aload_n 0, 1) := by decide +kernel
theorem dX7_same_63 : decode cX7_same 63 = .ok (.iload_n 1, 1) := by decide +kernel
theorem dX7_same_64 : decode cX7_same 64 = .ok (.iload 4, 2) := by decide +kernel
theorem dX7_same_66 : decode cX7_same 66 = .ok (.invokevirtual 198, 3) := by decide +kernel
theorem dX7_same_69 : decode cX7_same 69 = .ok (.aload_n 0, 1) := by decide +kernel
theorem dX7_same_70 : decode cX7_same 70 = .ok (.iload_n 2, 1) := by decide +kernel
theorem dX7_same_71 : decode cX7_same 71 = .ok (.iload 4, 2) := by decide +kernel
theorem dX7_same_73 : decode cX7_same 73 = .ok (.invokevirtual 198, 3) := by decide +kernel
theorem dX7_same_76 : decode cX7_same 76 = .ok (.if_icmp .ne 7, 3) := by decide +kernel
theorem dX7_same_79 : decode cX7_same 79 = .ok (.iconst 1, 1) := by decide +kernel
theorem dX7_same_80 : decode cX7_same 80 = .ok (.goto 4, 3) := by decide +kernel
theorem dX7_same_83 : decode cX7_same 83 = .ok (.iconst 0, 1) := by decide +kernel
theorem dX7_same_84 : decode cX7_same 84 = .ok (.istore_n 3, 1) := by decide +kernel
theorem dX7_same_85 : decode cX7_same 85 = .ok (.iinc 4 1, 3) := by decide +kernel
theorem dX7_same_88 : decode cX7_same 88 = .ok (.goto (-41), 3) := by decide +kernel
theorem dX7_same_91 : decode cX7_same 91 = .ok (.iload_n 3, 1) := by decide +kernel
theorem dX7_same_92 : decode cX7_same 92 = .ok (.ifCond .eq 7, 3) := by decide +kernel
theorem dX7_same_95 : decode cX7_same 95 = .ok (.iconst 1, 1) := by decide +kernel
theorem dX7_same_96 : decode cX7_same 96 = .ok (.goto 4, 3) := by decide +kernel
theorem dX7_same_99 : decode cX7_same 99 = .ok (.iconst 0, 1) := by decide +kernel
theorem dX7_same_100 : decode cX7_same 100 = .ok (.ireturn, 1) := by decide +kernel
theorem dX7_told_0 : decode cX7_told 0 = .ok (.aload_n 0, 1) := by decide +kernel
theorem dX7_told_1 : decode cX7_told 1 = .ok (.iload_n 1, 1) := by decide +kernel
theorem dX7_told_2 : decode cX7_told 2 = .ok (.iload_n 2, 1) := by decide +kernel
theorem dX7_told_3 : decode cX7_told 3 = .ok (.invokevirtual 226, 3) := by decide +kernel
theorem dX7_told_6 : decode cX7_told 6 = .ok (.istore 4, 2) := by decide +kernel
theorem dX7_told_8 : decode cX7_told 8 = .ok (.aload_n 0, 1) := by decide +kernel
theorem dX7_told_9 : decode cX7_told 9 = .ok (.iload_n 1, 1) := by decide +kernel
theorem dX7_told_10 : decode cX7_told 10 = .ok (.iload 4, 2) := by decide +kernel
theorem dX7_told_12 : decode cX7_told 12 = .ok (.invokevirtual 198, 3) := by decide +kernel
theorem dX7_told_15 : decode cX7_told 15 = .ok (.istore 5, 2) := by decide +kernel
theorem dX7_told_17 : decode cX7_told 17 = .ok (.iload_n 3, 1) := by decide +kernel
theorem dX7_told_18 : decode cX7_told 18 = .ok (.tableswitch 63 0 3 #[30, 33, 43, 53], 30) := by decide +kernel
theorem dX7_told_48 : decode cX7_told 48 = .ok (.iload 5, 2) := by decide +kernel
theorem dX7_told_50 : decode cX7_told 50 = .ok (.ireturn, 1) := by decide +kernel
theorem dX7_told_51 : decode cX7_told 51 = .ok (.aload_n 0, 1) := by decide +kernel
theorem dX7_told_52 : decode cX7_told 52 = .ok (.iload_n 1, 1) := by decide +kernel
theorem dX7_told_53 : decode cX7_told 53 = .ok (.iload 4, 2) := by decide +kernel
theorem dX7_told_55 : decode cX7_told 55 = .ok (.iconst 1, 1) := by decide +kernel
theorem dX7_told_56 : decode cX7_told 56 = .ok (.iadd, 1) := by decide +kernel
theorem dX7_told_57 : decode cX7_told 57 = .ok (.invokevirtual 201, 3) := by decide +kernel
theorem dX7_told_60 : decode cX7_told 60 = .ok (.ireturn, 1) := by decide +kernel
theorem dX7_told_61 : decode cX7_told 61 = .ok (.aload_n 0, 1) := by decide +kernel
theorem dX7_told_62 : decode cX7_told 62 = .ok (.iload_n 1, 1) := by decide +kernel
theorem dX7_told_63 : decode cX7_told 63 = .ok (.iload 4, 2) := by decide +kernel
theorem dX7_told_65 : decode cX7_told 65 = .ok (.iconst 3, 1) := by decide +kernel
theorem dX7_told_66 : decode cX7_told 66 = .ok (.iadd, 1) := by decide +kernel
theorem dX7_told_67 : decode cX7_told 67 = .ok (.invokevirtual 201, 3) := by decide +kernel
theorem dX7_told_70 : decode cX7_told 70 = .ok (.ireturn, 1) := by decide +kernel
theorem dX7_told_71 : decode cX7_told 71 = .ok (.aload_n 0, 1) := by decide +kernel
theorem dX7_told_72 : decode cX7_told 72 = .ok (.iload_n 1, 1) := by decide +kernel
theorem dX7_told_73 : decode cX7_told 73 = .ok (.iload 4, 2) := by decide +kernel
theorem dX7_told_75 : decode cX7_told 75 = .ok (.iconst 5, 1) := by decide +kernel
theorem dX7_told_76 : decode cX7_told 76 = .ok (.iadd, 1) := by decide +kernel
theorem dX7_told_77 : decode cX7_told 77 = .ok (.invokevirtual 198, 3) := by decide +kernel
theorem dX7_told_80 : decode cX7_told 80 = .ok (.ireturn, 1) := by decide +kernel
theorem dX7_told_81 : decode cX7_told 81 = .ok (.iload 5, 2) := by decide +kernel
theorem dX7_told_83 : decode cX7_told 83 = .ok (.iconst 1, 1) := by decide +kernel
theorem dX7_told_84 : decode cX7_told 84 = .ok (.if_icmp .ne 16, 3) := by decide +kernel
theorem dX7_told_87 : decode cX7_told 87 = .ok (.aload_n 0, 1) := by decide +kernel
theorem dX7_told_88 : decode cX7_told 88 = .ok (.iload_n 1, 1) := by decide +kernel
theorem dX7_told_89 : decode cX7_told 89 = .ok (.iload 4, 2) := by decide +kernel
theorem dX7_told_91 : decode cX7_told 91 = .ok (.bipush 8, 2) := by decide +kernel
theorem dX7_told_93 : decode cX7_told 93 = .ok (.iadd, 1) := by decide +kernel
theorem dX7_told_94 : decode cX7_told 94 = .ok (.invokevirtual 201, 3) := by decide +kernel
theorem dX7_told_97 : decode cX7_told 97 = .ok (.goto 23, 3) := by decide +kernel
theorem dX7_told_100 : decode cX7_told 100 = .ok (.iload 5, 2) := by decide +kernel
theorem dX7_told_102 : decode cX7_told 102 = .ok (.iconst 2, 1) := by decide +kernel
theorem dX7_told_103 : decode cX7_told 103 = .ok (.if_icmp .ne 16, 3) := by decide +kernel
theorem dX7_told_106 : decode cX7_told 106 = .ok (.aload_n 0, 1) := by decide +kernel
theorem dX7_told_107 : decode cX7_told 107 = .ok (.iload_n 1, 1) := by decide +kernel
theorem dX7_told_108 : decode cX7_told 108 = .ok (.iload 4, 2) := by decide +kernel
theorem dX7_told_110 : decode cX7_told 110 = .ok (.bipush 6, 2) := by decide +kernel
theorem dX7_told_112 : decode cX7_told 112 = .ok (.iadd, 1) := by decide +kernel
theorem dX7_told_113 : decode cX7_told 113 = .ok (.invokevirtual 201, 3) := by decide +kernel
theorem dX7_told_116 : decode cX7_told 116 = .ok (.goto 4, 3) := by decide +kernel
theorem dX7_told_119 : decode cX7_told 119 = .ok (.iconst 0, 1) := by decide +kernel
theorem dX7_told_120 : decode cX7_told 120 = .ok (.ireturn, 1) := by decide +kernel
theorem dX7_node_0 : decode cX7_node 0 = .ok (.aload_n 0, 1) := by decide +kernel
theorem dX7_node_1 : decode cX7_node 1 = .ok (.iconst 0, 1) := by decide +kernel
theorem dX7_node_2 : decode cX7_node 2 = .ok (.putfield 98, 3) := by decide +kernel
theorem dX7_node_5 : decode cX7_node 5 = .ok (.aload_n 0, 1) := by decide +kernel
theorem dX7_node_6 : decode cX7_node 6 = .ok (.iload_n 1, 1) := by decide +kernel
theorem dX7_node_7 : decode cX7_node 7 = .ok (.invokevirtual 263, 3) := by decide +kernel
theorem dX7_node_10 : decode cX7_node 10 = .ok (.ifCond .ne 5, 3) := by decide +kernel
theorem dX7_node_13 : decode cX7_node 13 = .ok (.iconst (-1), 1) := by decide +kernel
theorem dX7_node_14 : decode cX7_node 14 = .ok (.ireturn, 1) := by decide +kernel
theorem dX7_node_15 : decode cX7_node 15 = .ok (.iload_n 2, 1) := by decide +kernel
theorem dX7_node_16 : decode cX7_node 16 = .ok (.iconst 1, 1) := by decide +kernel
theorem dX7_node_17 : decode cX7_node 17 = .ok (.aload_n 0, 1) := by decide +kernel
theorem dX7_node_18 : decode cX7_node 18 = .ok (.iload_n 1, 1) := by decide +kernel
theorem dX7_node_19 : decode cX7_node 19 = .ok (.invokevirtual 207, 3) := by decide +kernel
theorem dX7_node_22 : decode cX7_node 22 = .ok (.invokestatic 101, 3) := by decide +kernel
theorem dX7_node_25 : decode cX7_node 25 = .ok (.ifCond .eq 22, 3) := by decide +kernel
theorem dX7_node_28 : decode cX7_node 28 = .ok (.iload_n 3, 1) := by decide +kernel
theorem dX7_node_29 : decode cX7_node 29 = .ok (.iconst 0, 1) := by decide +kernel
theorem dX7_node_30 : decode cX7_node 30 = .ok (.iconst 4, 1) := by decide +kernel
theorem dX7_node_31 : decode cX7_node 31 = .ok (.invokestatic 101, 3) := by decide +kernel
theorem dX7_node_34 : decode cX7_node 34 = .ok (.ifCond .eq 13, 3) := by decide +kernel
theorem dX7_node_37 : decode cX7_node 37 = .ok (.aload_n 0, 1) := by decide +kernel
theorem dX7_node_38 : decode cX7_node 38 = .ok (.iload_n 1, 1) := by decide +kernel
theorem dX7_node_39 : decode cX7_node 39 = .ok (.iload_n 2, 1) := by decide +kernel
theorem dX7_node_40 : decode cX7_node 40 = .ok (.iload_n 3, 1) := by decide +kernel
theorem dX7_node_41 : decode cX7_node 41 = .ok (.invokevirtual 266, 3) := by decide +kernel
theorem dX7_node_44 : decode cX7_node 44 = .ok (.goto 5, 3) := by decide +kernel
theorem dX7_node_47 : decode cX7_node 47 = .ok (.bipush (-2), 2) := by decide +kernel
theorem dX7_node_49 : decode cX7_node 49 = .ok (.ireturn, 1) := by decide +kernel
theorem dX7_first_0 : decode cX7_first 0 = .ok (.aload_n 0, 1) := by decide +kernel
theorem dX7_first_1 : decode cX7_first 1 = .ok (.aload_n 0, 1) := by decide +kernel
theorem dX7_first_2 : decode cX7_first 2 = .ok (.getfield 257, 3) := by decide +kernel
theorem dX7_first_5 : decode cX7_first 5 = .ok (.ifCond .ne 7, 3) := by decide +kernel
theorem dX7_first_8 : decode cX7_first 8 = .ok (.iconst 0, 1) := by decide +kernel
theorem dX7_first_9 : decode cX7_first 9 = .ok (.goto 4, 3) := by decide +kernel
theorem dX7_first_12 : decode cX7_first 12 = .ok (.iconst 1, 1) := by decide +kernel
theorem dX7_first_13 : decode cX7_first 13 = .ok (.putfield 269, 3) := by decide +kernel
theorem dX7_first_16 : decode cX7_first 16 = .ok (.aload_n 0, 1) := by decide +kernel
theorem dX7_first_17 : decode cX7_first 17 = .ok (.getfield 85, 3) := by decide +kernel
theorem dX7_first_20 : decode cX7_first 20 = .ok (.iconst 0, 1) := by decide +kernel
theorem dX7_first_21 : decode cX7_first 21 = .ok (.aload_n 0, 1) := by decide +kernel
theorem dX7_first_22 : decode cX7_first 22 = .ok (.getfield 257, 3) := by decide +kernel
theorem dX7_first_25 : decode cX7_first 25 = .ok (.iastore, 1) := by decide +kernel
theorem dX7_first_26 : decode cX7_first 26 = .ok (.iconst 0, 1) := by decide +kernel
theorem dX7_first_27 : decode cX7_first 27 = .ok (.istore_n 1, 1) := by decide +kernel
theorem dX7_first_28 : decode cX7_first 28 = .ok (.iload_n 1, 1) := by decide +kernel
theorem dX7_first_29 : decode cX7_first 29 = .ok (.aload_n 0, 1) := by decide +kernel
theorem dX7_first_30 : decode cX7_first 30 = .ok (.getfield 257, 3) := by decide +kernel
theorem dX7_first_33 : decode cX7_first 33 = .ok (.if_icmp .ge 35, 3) := by decide +kernel
theorem dX7_first_36 : decode cX7_first 36 = .ok (.aload_n 0, 1) := by decide +kernel
theorem dX7_first_37 : decode cX7_first 37 = .ok (.getfield 88, 3) := by decide +kernel
theorem dX7_first_40 : decode cX7_first 40 = .ok (.iload_n 1, 1) := by decide +kernel
theorem dX7_first_41 : decode cX7_first 41 = .ok (.aload_n 0, 1) := by decide +kernel
theorem dX7_first_42 : decode cX7_first 42 = .ok (.getfield 82, 3) := by decide +kernel
theorem dX7_first_45 : decode cX7_first 45 = .ok (.aload_n 0, 1) := by decide +kernel
theorem dX7_first_46 : decode cX7_first 46 = .ok (.getfield 257, 3) := by decide +kernel
theorem dX7_first_49 : decode cX7_first 49 = .ok (.iconst 1, 1) := by decide +kernel
theorem dX7_first_50 : decode cX7_first 50 = .ok (.isub, 1) := by decide +kernel
theorem dX7_first_51 : decode cX7_first 51 = .ok (.iload_n 1, 1) := by decide +kernel
theorem dX7_first_52 : decode cX7_first 52 = .ok (.isub, 1) := by decide +kernel
theorem dX7_first_53 : decode cX7_first 53 = .ok (.iaload, 1) := by decide +kernel
theorem dX7_first_54 : decode cX7_first 54 = .ok (.iastore, 1) := by decide +kernel
theorem dX7_first_55 : decode cX7_first 55 = .ok (.aload_n 0, 1) := by decide +kernel
theorem dX7_first_56 : decode cX7_first 56 = .ok (.getfield 91, 3) := by decide +kernel
theorem dX7_first_59 : decode cX7_first 59 = .ok (.iload_n 1, 1) := by decide +kernel
theorem dX7_first_60 : decode cX7_first 60 = .ok (.iconst 1, 1) := by decide +kernel
theorem dX7_first_61 : decode cX7_first 61 = .ok (.iastore, 1) := by decide +kernel
theorem dX7_first_62 : decode cX7_first 62 = .ok (.iinc 1 1, 3) := by decide +kernel
theorem dX7_first_65 : decode cX7_first 65 = .ok (.goto (-37), 3) := by decide +kernel
theorem dX7_first_68 : decode cX7_first 68 = .ok (.return_, 1) := by decide +kernel
theorem dX7_over_0 : decode cX7_over 0 = .ok (.aload_n 0, 1) := by decide +kernel
theorem dX7_over_1 : decode cX7_over 1 = .ok (.iconst 0, 1) := by decide +kernel
theorem dX7_over_2 : decode cX7_over 2 = .ok (.putfield 98, 3) := by decide +kernel
theorem dX7_over_5 : decode cX7_over 5 = .ok (.aload_n 0, 1) := by decide +kernel
theorem dX7_over_6 : decode cX7_over 6 = .ok (.iload_n 1, 1) := by decide +kernel
theorem dX7_over_7 : decode cX7_over 7 = .ok (.invokevirtual 263, 3) := by decide +kernel
theorem dX7_over_10 : decode cX7_over 10 = .ok (.ifCond .ne 5, 3) := by decide +kernel
theorem dX7_over_13 : decode cX7_over 13 = .ok (.iconst (-1), 1) := by decide +kernel
theorem dX7_over_14 : decode cX7_over 14 = .ok (.ireturn, 1) := by decide +kernel
theorem dX7_over_15 : decode cX7_over 15 = .ok (.aload_n 0, 1) := by decide +kernel
theorem dX7_over_16 : decode cX7_over 16 = .ok (.iload_n 1, 1) := by decide +kernel
theorem dX7_over_17 : decode cX7_over 17 = .ok (.invokevirtual 260, 3) := by decide +kernel
theorem dX7_over_20 : decode cX7_over 20 = .ok (.ifCond .eq 6, 3) := by decide +kernel
theorem dX7_over_23 : decode cX7_over 23 = .ok (.bipush (-3), 2) := by decide +kernel
theorem dX7_over_25 : decode cX7_over 25 = .ok (.ireturn, 1) := by decide +kernel
theorem dX7_over_26 : decode cX7_over 26 = .ok (.aload_n 0, 1) := by decide +kernel
theorem dX7_over_27 : decode cX7_over 27 = .ok (.getfield 82, 3) := by decide +kernel
theorem dX7_over_30 : decode cX7_over 30 = .ok (.aload_n 0, 1) := by decide +kernel
theorem dX7_over_31 : decode cX7_over 31 = .ok (.getfield 257, 3) := by decide +kernel
theorem dX7_over_34 : decode cX7_over 34 = .ok (.iload_n 1, 1) := by decide +kernel
theorem dX7_over_35 : decode cX7_over 35 = .ok (.iastore, 1) := by decide +kernel
theorem dX7_over_36 : decode cX7_over 36 = .ok (.aload_n 0, 1) := by decide +kernel
theorem dX7_over_37 : decode cX7_over 37 = .ok (.dup, 1) := by decide +kernel
theorem dX7_over_38 : decode cX7_over 38 = .ok (.getfield 257, 3) := by decide +kernel
theorem dX7_over_41 : decode cX7_over 41 = .ok (.iconst 1, 1) := by decide +kernel
theorem dX7_over_42 : decode cX7_over 42 = .ok (.iadd, 1) := by decide +kernel
theorem dX7_over_43 : decode cX7_over 43 = .ok (.putfield 257, 3) := by decide +kernel
theorem dX7_over_46 : decode cX7_over 46 = .ok (.aload_n 0, 1) := by decide +kernel
theorem dX7_over_47 : decode cX7_over 47 = .ok (.invokevirtual 272, 3) := by decide +kernel
theorem dX7_over_50 : decode cX7_over 50 = .ok (.aload_n 0, 1) := by decide +kernel
theorem dX7_over_51 : decode cX7_over 51 = .ok (.getfield 257, 3) := by decide +kernel
theorem dX7_over_54 : decode cX7_over 54 = .ok (.ireturn, 1) := by decide +kernel
theorem dX7_bare_0 : decode cX7_bare 0 = .ok (.aload_n 0, 1) := by decide +kernel
theorem dX7_bare_1 : decode cX7_bare 1 = .ok (.iconst 0, 1) := by decide +kernel
theorem dX7_bare_2 : decode cX7_bare 2 = .ok (.putfield 98, 3) := by decide +kernel
theorem dX7_bare_5 : decode cX7_bare 5 = .ok (.aload_n 0, 1) := by decide +kernel
theorem dX7_bare_6 : decode cX7_bare 6 = .ok (.getfield 257, 3) := by decide +kernel
theorem dX7_bare_9 : decode cX7_bare 9 = .ok (.istore_n 1, 1) := by decide +kernel
theorem dX7_bare_10 : decode cX7_bare 10 = .ok (.aload_n 0, 1) := by decide +kernel
theorem dX7_bare_11 : decode cX7_bare 11 = .ok (.iconst 0, 1) := by decide +kernel
theorem dX7_bare_12 : decode cX7_bare 12 = .ok (.putfield 257, 3) := by decide +kernel
theorem dX7_bare_15 : decode cX7_bare 15 = .ok (.aload_n 0, 1) := by decide +kernel
theorem dX7_bare_16 : decode cX7_bare 16 = .ok (.invokevirtual 272, 3) := by decide +kernel
theorem dX7_bare_19 : decode cX7_bare 19 = .ok (.iload_n 1, 1) := by decide +kernel
theorem dX7_bare_20 : decode cX7_bare 20 = .ok (.ireturn, 1) := by decide +kernel
theorem dX7_isView_0 : decode cX7_isView 0 = .ok (.iload_n 1, 1) := by decide +kernel
theorem dX7_isView_1 : decode cX7_isView 1 = .ok (.iconst 0, 1) := by decide +kernel
theorem dX7_isView_2 : decode cX7_isView 2 = .ok (.aload_n 0, 1) := by decide +kernel
theorem dX7_isView_3 : decode cX7_isView 3 = .ok (.getfield 269, 3) := by decide +kernel
theorem dX7_isView_6 : decode cX7_isView 6 = .ok (.iconst 1, 1) := by decide +kernel
theorem dX7_isView_7 : decode cX7_isView 7 = .ok (.isub, 1) := by decide +kernel
theorem dX7_isView_8 : decode cX7_isView 8 = .ok (.invokestatic 101, 3) := by decide +kernel
theorem dX7_isView_11 : decode cX7_isView 11 = .ok (.ireturn, 1) := by decide +kernel
theorem dX7_kindOf_0 : decode cX7_kindOf 0 = .ok (.aload_n 0, 1) := by decide +kernel
theorem dX7_kindOf_1 : decode cX7_kindOf 1 = .ok (.aload_n 0, 1) := by decide +kernel
theorem dX7_kindOf_2 : decode cX7_kindOf 2 = .ok (.getfield 88, 3) := by decide +kernel
theorem dX7_kindOf_5 : decode cX7_kindOf 5 = .ok (.iconst 3, 1) := by decide +kernel
theorem dX7_kindOf_6 : decode cX7_kindOf 6 = .ok (.iload_n 1, 1) := by decide +kernel
theorem dX7_kindOf_7 : decode cX7_kindOf 7 = .ok (.imul, 1) := by decide +kernel
theorem dX7_kindOf_8 : decode cX7_kindOf 8 = .ok (.iaload, 1) := by decide +kernel
theorem dX7_kindOf_9 : decode cX7_kindOf 9 = .ok (.aload_n 0, 1) := by decide +kernel
theorem dX7_kindOf_10 : decode cX7_kindOf 10 = .ok (.getfield 91, 3) := by decide +kernel
theorem dX7_kindOf_13 : decode cX7_kindOf 13 = .ok (.iconst 3, 1) := by decide +kernel
theorem dX7_kindOf_14 : decode cX7_kindOf 14 = .ok (.iload_n 1, 1) := by decide +kernel
theorem dX7_kindOf_15 : decode cX7_kindOf 15 = .ok (.imul, 1) := by decide +kernel
theorem dX7_kindOf_16 : decode cX7_kindOf 16 = .ok (.iaload, 1) := by decide +kernel
theorem dX7_kindOf_17 : decode cX7_kindOf 17 = .ok (.iconst 0, 1) := by decide +kernel
theorem dX7_kindOf_18 : decode cX7_kindOf 18 = .ok (.invokevirtual 266, 3) := by decide +kernel
theorem dX7_kindOf_21 : decode cX7_kindOf 21 = .ok (.ireturn, 1) := by decide +kernel
theorem dX7_child_0 : decode cX7_child 0 = .ok (.iconst 0, 1) := by decide +kernel
theorem dX7_child_1 : decode cX7_child 1 = .ok (.istore 4, 2) := by decide +kernel
theorem dX7_child_3 : decode cX7_child 3 = .ok (.iconst 0, 1) := by decide +kernel
theorem dX7_child_4 : decode cX7_child 4 = .ok (.istore 5, 2) := by decide +kernel
theorem dX7_child_6 : decode cX7_child 6 = .ok (.iload 5, 2) := by decide +kernel
theorem dX7_child_8 : decode cX7_child 8 = .ok (.aload_n 0, 1) := by decide +kernel
theorem dX7_child_9 : decode cX7_child 9 = .ok (.iload_n 1, 1) := by decide +kernel
theorem dX7_child_10 : decode cX7_child 10 = .ok (.iload_n 2, 1) := by decide +kernel
theorem dX7_child_11 : decode cX7_child 11 = .ok (.invokevirtual 238, 3) := by decide +kernel
theorem dX7_child_14 : decode cX7_child 14 = .ok (.if_icmp .ge 48, 3) := by decide +kernel
theorem dX7_child_17 : decode cX7_child 17 = .ok (.aload_n 0, 1) := by decide +kernel
theorem dX7_child_18 : decode cX7_child 18 = .ok (.iload_n 1, 1) := by decide +kernel
theorem dX7_child_19 : decode cX7_child 19 = .ok (.aload_n 0, 1) := by decide +kernel
theorem dX7_child_20 : decode cX7_child 20 = .ok (.iload_n 1, 1) := by decide +kernel
theorem dX7_child_21 : decode cX7_child 21 = .ok (.iload_n 2, 1) := by decide +kernel
theorem dX7_child_22 : decode cX7_child 22 = .ok (.invokevirtual 251, 3) := by decide +kernel
theorem dX7_child_25 : decode cX7_child 25 = .ok (.iload 5, 2) := by decide +kernel
theorem dX7_child_27 : decode cX7_child 27 = .ok (.iadd, 1) := by decide +kernel
theorem dX7_child_28 : decode cX7_child 28 = .ok (.invokevirtual 241, 3) := by decide +kernel
theorem dX7_child_31 : decode cX7_child 31 = .ok (.iload_n 3, 1) := by decide +kernel
theorem dX7_child_32 : decode cX7_child 32 = .ok (.if_icmp .ne 20, 3) := by decide +kernel
theorem dX7_child_35 : decode cX7_child 35 = .ok (.aload_n 0, 1) := by decide +kernel
theorem dX7_child_36 : decode cX7_child 36 = .ok (.iload_n 1, 1) := by decide +kernel
theorem dX7_child_37 : decode cX7_child 37 = .ok (.aload_n 0, 1) := by decide +kernel
theorem dX7_child_38 : decode cX7_child 38 = .ok (.iload_n 1, 1) := by decide +kernel
theorem dX7_child_39 : decode cX7_child 39 = .ok (.iload_n 2, 1) := by decide +kernel
theorem dX7_child_40 : decode cX7_child 40 = .ok (.invokevirtual 251, 3) := by decide +kernel
theorem dX7_child_43 : decode cX7_child 43 = .ok (.iload 5, 2) := by decide +kernel
theorem dX7_child_45 : decode cX7_child 45 = .ok (.iadd, 1) := by decide +kernel
theorem dX7_child_46 : decode cX7_child 46 = .ok (.invokevirtual 244, 3) := by decide +kernel
theorem dX7_child_49 : decode cX7_child 49 = .ok (.goto 5, 3) := by decide +kernel
theorem dX7_child_52 : decode cX7_child 52 = .ok (.iload 4, 2) := by decide +kernel
theorem dX7_child_54 : decode cX7_child 54 = .ok (.istore 4, 2) := by decide +kernel
theorem dX7_child_56 : decode cX7_child 56 = .ok (.iinc 5 1, 3) := by decide +kernel
theorem dX7_child_59 : decode cX7_child 59 = .ok (.goto (-53), 3) := by decide +kernel
theorem dX7_child_62 : decode cX7_child 62 = .ok (.iload 4, 2) := by decide +kernel
theorem dX7_child_64 : decode cX7_child 64 = .ok (.ireturn, 1) := by decide +kernel
theorem dX7_leads_0 : decode cX7_leads 0 = .ok (.iconst 0, 1) := by decide +kernel
theorem dX7_leads_1 : decode cX7_leads 1 = .ok (.istore_n 3, 1) := by decide +kernel
theorem dX7_leads_2 : decode cX7_leads 2 = .ok (.iconst 1, 1) := by decide +kernel
theorem dX7_leads_3 : decode cX7_leads 3 = .ok (.istore 4, 2) := by decide +kernel
theorem dX7_leads_5 : decode cX7_leads 5 = .ok (.iconst 0, 1) := by decide +kernel
theorem dX7_leads_6 : decode cX7_leads 6 = .ok (.istore 5, 2) := by decide +kernel
theorem dX7_leads_8 : decode cX7_leads 8 = .ok (.iload 5, 2) := by decide +kernel
theorem dX7_leads_10 : decode cX7_leads 10 = .ok (.aload_n 0, 1) := by decide +kernel
theorem dX7_leads_11 : decode cX7_leads 11 = .ok (.getfield 85, 3) := by decide +kernel
theorem dX7_leads_14 : decode cX7_leads 14 = .ok (.iload_n 1, 1) := by decide +kernel
theorem dX7_leads_15 : decode cX7_leads 15 = .ok (.iaload, 1) := by decide +kernel
theorem dX7_leads_16 : decode cX7_leads 16 = .ok (.if_icmp .ge 125, 3) := by decide +kernel
theorem dX7_leads_19 : decode cX7_leads 19 = .ok (.iload 4, 2) := by decide +kernel
theorem dX7_leads_21 : decode cX7_leads 21 = .ok (.ifCond .eq 120, 3) := by decide +kernel
theorem dX7_leads_24 : decode cX7_leads 24 = .ok (.aload_n 0, 1) := by decide +kernel
theorem dX7_leads_25 : decode cX7_leads 25 = .ok (.getfield 88, 3) := by decide +kernel
theorem dX7_leads_28 : decode cX7_leads 28 = .ok (.iconst 3, 1) := by decide +kernel
theorem dX7_leads_29 : decode cX7_leads 29 = .ok (.iload_n 1, 1) := by decide +kernel
theorem dX7_leads_30 : decode cX7_leads 30 = .ok (.imul, 1) := by decide +kernel
theorem dX7_leads_31 : decode cX7_leads 31 = .ok (.iload 5, 2) := by decide +kernel
theorem dX7_leads_33 : decode cX7_leads 33 = .ok (.iadd, 1) := by decide +kernel
theorem dX7_leads_34 : decode cX7_leads 34 = .ok (.iaload, 1) := by decide +kernel
theorem dX7_leads_35 : decode cX7_leads 35 = .ok (.istore 6, 2) := by decide +kernel
theorem dX7_leads_37 : decode cX7_leads 37 = .ok (.aload_n 0, 1) := by decide +kernel
theorem dX7_leads_38 : decode cX7_leads 38 = .ok (.iload 6, 2) := by decide +kernel
theorem dX7_leads_40 : decode cX7_leads 40 = .ok (.aload_n 0, 1) := by decide +kernel
theorem dX7_leads_41 : decode cX7_leads 41 = .ok (.getfield 91, 3) := by decide +kernel
theorem dX7_leads_44 : decode cX7_leads 44 = .ok (.iconst 3, 1) := by decide +kernel
theorem dX7_leads_45 : decode cX7_leads 45 = .ok (.iload_n 1, 1) := by decide +kernel
theorem dX7_leads_46 : decode cX7_leads 46 = .ok (.imul, 1) := by decide +kernel
theorem dX7_leads_47 : decode cX7_leads 47 = .ok (.iload 5, 2) := by decide +kernel
theorem dX7_leads_49 : decode cX7_leads 49 = .ok (.iadd, 1) := by decide +kernel
theorem dX7_leads_50 : decode cX7_leads 50 = .ok (.iaload, 1) := by decide +kernel
theorem dX7_leads_51 : decode cX7_leads 51 = .ok (.iload_n 2, 1) := by decide +kernel
theorem dX7_leads_52 : decode cX7_leads 52 = .ok (.invokevirtual 275, 3) := by decide +kernel
theorem dX7_leads_55 : decode cX7_leads 55 = .ok (.istore 7, 2) := by decide +kernel
theorem dX7_leads_57 : decode cX7_leads 57 = .ok (.iload 7, 2) := by decide +kernel
theorem dX7_leads_59 : decode cX7_leads 59 = .ok (.ifCond .le 76, 3) := by decide +kernel
theorem dX7_leads_62 : decode cX7_leads 62 = .ok (.aload_n 0, 1) := by decide +kernel
theorem dX7_leads_63 : decode cX7_leads 63 = .ok (.iload 6, 2) := by decide +kernel
theorem dX7_leads_65 : decode cX7_leads 65 = .ok (.iload 7, 2) := by decide +kernel
theorem dX7_leads_67 : decode cX7_leads 67 = .ok (.iconst 0, 1) := by decide +kernel
theorem dX7_leads_68 : decode cX7_leads 68 = .ok (.invokevirtual 266, 3) := by decide +kernel
theorem dX7_leads_71 : decode cX7_leads 71 = .ok (.istore 8, 2) := by decide +kernel
theorem dX7_leads_73 : decode cX7_leads 73 = .ok (.iload 8, 2) := by decide +kernel
theorem dX7_leads_75 : decode cX7_leads 75 = .ok (.iconst 1, 1) := by decide +kernel
theorem dX7_leads_76 : decode cX7_leads 76 = .ok (.if_icmp .eq 13, 3) := by decide +kernel
theorem dX7_leads_79 : decode cX7_leads 79 = .ok (.iload 8, 2) := by decide +kernel
theorem dX7_leads_81 : decode cX7_leads 81 = .ok (.iconst 2, 1) := by decide +kernel
theorem dX7_leads_82 : decode cX7_leads 82 = .ok (.if_icmp .ne 40, 3) := by decide +kernel
theorem dX7_leads_85 : decode cX7_leads 85 = .ok (.iload_n 3, 1) := by decide +kernel
theorem dX7_leads_86 : decode cX7_leads 86 = .ok (.ifCond .ne 36, 3) := by decide +kernel
theorem dX7_leads_89 : decode cX7_leads 89 = .ok (.aload_n 0, 1) := by decide +kernel
theorem dX7_leads_90 : decode cX7_leads 90 = .ok (.getfield 88, 3) := by decide +kernel
theorem dX7_leads_93 : decode cX7_leads 93 = .ok (.iconst 3, 1) := by decide +kernel
theorem dX7_leads_94 : decode cX7_leads 94 = .ok (.aload_n 0, 1) := by decide +kernel
theorem dX7_leads_95 : decode cX7_leads 95 = .ok (.getfield 269, 3) := by decide +kernel
theorem dX7_leads_98 : decode cX7_leads 98 = .ok (.imul, 1) := by decide +kernel
theorem dX7_leads_99 : decode cX7_leads 99 = .ok (.iload_n 3, 1) := by decide +kernel
theorem dX7_leads_100 : decode cX7_leads 100 = .ok (.iadd, 1) := by decide +kernel
theorem dX7_leads_101 : decode cX7_leads 101 = .ok (.iload 6, 2) := by decide +kernel
theorem dX7_leads_103 : decode cX7_leads 103 = .ok (.iastore, 1) := by decide +kernel
theorem dX7_leads_104 : decode cX7_leads 104 = .ok (.aload_n 0, 1) := by decide +kernel
theorem dX7_leads_105 : decode cX7_leads 105 = .ok (.getfield 91, 3) := by decide +kernel
theorem dX7_leads_108 : decode cX7_leads 108 = .ok (.iconst 3, 1) := by decide +kernel
theorem dX7_leads_109 : decode cX7_leads 109 = .ok (.aload_n 0, 1) := by decide +kernel
theorem dX7_leads_110 : decode cX7_leads 110 = .ok (.getfield 269, 3) := by decide +kernel
theorem dX7_leads_113 : decode cX7_leads 113 = .ok (.imul, 1) := by decide +kernel
theorem dX7_leads_114 : decode cX7_leads 114 = .ok (.iload_n 3, 1) := by decide +kernel
theorem dX7_leads_115 : decode cX7_leads 115 = .ok (.iadd, 1) := by decide +kernel
theorem dX7_leads_116 : decode cX7_leads 116 = .ok (.iload 7, 2) := by decide +kernel
theorem dX7_leads_118 : decode cX7_leads 118 = .ok (.iastore, 1) := by decide +kernel
theorem dX7_leads_119 : decode cX7_leads 119 = .ok (.iinc 3 1, 3) := by decide +kernel
theorem dX7_leads_122 : decode cX7_leads 122 = .ok (.iload 8, 2) := by decide +kernel
theorem dX7_leads_124 : decode cX7_leads 124 = .ok (.iconst 1, 1) := by decide +kernel
theorem dX7_leads_125 : decode cX7_leads 125 = .ok (.if_icmp .ne 7, 3) := by decide +kernel
theorem dX7_leads_128 : decode cX7_leads 128 = .ok (.iconst 1, 1) := by decide +kernel
theorem dX7_leads_129 : decode cX7_leads 129 = .ok (.goto 4, 3) := by decide +kernel
theorem dX7_leads_132 : decode cX7_leads 132 = .ok (.iconst 0, 1) := by decide +kernel
theorem dX7_leads_133 : decode cX7_leads 133 = .ok (.istore 4, 2) := by decide +kernel
theorem dX7_leads_135 : decode cX7_leads 135 = .ok (.iinc 5 1, 3) := by decide +kernel
theorem dX7_leads_138 : decode cX7_leads 138 = .ok (.goto (-130), 3) := by decide +kernel
theorem dX7_leads_141 : decode cX7_leads 141 = .ok (.aload_n 0, 1) := by decide +kernel
theorem dX7_leads_142 : decode cX7_leads 142 = .ok (.getfield 85, 3) := by decide +kernel
theorem dX7_leads_145 : decode cX7_leads 145 = .ok (.aload_n 0, 1) := by decide +kernel
theorem dX7_leads_146 : decode cX7_leads 146 = .ok (.getfield 269, 3) := by decide +kernel
theorem dX7_leads_149 : decode cX7_leads 149 = .ok (.iload_n 3, 1) := by decide +kernel
theorem dX7_leads_150 : decode cX7_leads 150 = .ok (.iastore, 1) := by decide +kernel
theorem dX7_leads_151 : decode cX7_leads 151 = .ok (.iload_n 3, 1) := by decide +kernel
theorem dX7_leads_152 : decode cX7_leads 152 = .ok (.ireturn, 1) := by decide +kernel
theorem dX7_look_0 : decode cX7_look 0 = .ok (.aload_n 0, 1) := by decide +kernel
theorem dX7_look_1 : decode cX7_look 1 = .ok (.iconst 0, 1) := by decide +kernel
theorem dX7_look_2 : decode cX7_look 2 = .ok (.putfield 98, 3) := by decide +kernel
theorem dX7_look_5 : decode cX7_look 5 = .ok (.aload_n 0, 1) := by decide +kernel
theorem dX7_look_6 : decode cX7_look 6 = .ok (.iload_n 1, 1) := by decide +kernel
theorem dX7_look_7 : decode cX7_look 7 = .ok (.invokevirtual 278, 3) := by decide +kernel
theorem dX7_look_10 : decode cX7_look 10 = .ok (.ifCond .ne 5, 3) := by decide +kernel
theorem dX7_look_13 : decode cX7_look 13 = .ok (.iconst (-1), 1) := by decide +kernel
theorem dX7_look_14 : decode cX7_look 14 = .ok (.ireturn, 1) := by decide +kernel
theorem dX7_look_15 : decode cX7_look 15 = .ok (.iload_n 2, 1) := by decide +kernel
theorem dX7_look_16 : decode cX7_look 16 = .ok (.iconst 1, 1) := by decide +kernel
theorem dX7_look_17 : decode cX7_look 17 = .ok (.sipush 999, 3) := by decide +kernel
theorem dX7_look_20 : decode cX7_look 20 = .ok (.invokestatic 101, 3) := by decide +kernel
theorem dX7_look_23 : decode cX7_look 23 = .ok (.ifCond .ne 6, 3) := by decide +kernel
theorem dX7_look_26 : decode cX7_look 26 = .ok (.bipush (-2), 2) := by decide +kernel
theorem dX7_look_28 : decode cX7_look 28 = .ok (.ireturn, 1) := by decide +kernel
theorem dX7_look_29 : decode cX7_look 29 = .ok (.aload_n 0, 1) := by decide +kernel
theorem dX7_look_30 : decode cX7_look 30 = .ok (.iload_n 1, 1) := by decide +kernel
theorem dX7_look_31 : decode cX7_look 31 = .ok (.invokevirtual 281, 3) := by decide +kernel
theorem dX7_look_34 : decode cX7_look 34 = .ok (.iconst 1, 1) := by decide +kernel
theorem dX7_look_35 : decode cX7_look 35 = .ok (.if_icmp .eq 6, 3) := by decide +kernel
theorem dX7_look_38 : decode cX7_look 38 = .ok (.bipush (-3), 2) := by decide +kernel
theorem dX7_look_40 : decode cX7_look 40 = .ok (.ireturn, 1) := by decide +kernel
theorem dX7_look_41 : decode cX7_look 41 = .ok (.aload_n 0, 1) := by decide +kernel
theorem dX7_look_42 : decode cX7_look 42 = .ok (.iload_n 1, 1) := by decide +kernel
theorem dX7_look_43 : decode cX7_look 43 = .ok (.iload_n 2, 1) := by decide +kernel
theorem dX7_look_44 : decode cX7_look 44 = .ok (.invokevirtual 284, 3) := by decide +kernel
theorem dX7_look_47 : decode cX7_look 47 = .ok (.istore_n 3, 1) := by decide +kernel
theorem dX7_look_48 : decode cX7_look 48 = .ok (.iload_n 3, 1) := by decide +kernel
theorem dX7_look_49 : decode cX7_look 49 = .ok (.ifCond .ne 5, 3) := by decide +kernel
theorem dX7_look_52 : decode cX7_look 52 = .ok (.iconst 0, 1) := by decide +kernel
theorem dX7_look_53 : decode cX7_look 53 = .ok (.ireturn, 1) := by decide +kernel
theorem dX7_look_54 : decode cX7_look 54 = .ok (.iconst 0, 1) := by decide +kernel
theorem dX7_look_55 : decode cX7_look 55 = .ok (.istore 4, 2) := by decide +kernel
theorem dX7_look_57 : decode cX7_look 57 = .ok (.iload 4, 2) := by decide +kernel
theorem dX7_look_59 : decode cX7_look 59 = .ok (.aload_n 0, 1) := by decide +kernel
theorem dX7_look_60 : decode cX7_look 60 = .ok (.getfield 269, 3) := by decide +kernel
theorem dX7_look_63 : decode cX7_look 63 = .ok (.if_icmp .ge 120, 3) := by decide +kernel
theorem dX7_look_66 : decode cX7_look 66 = .ok (.aload_n 0, 1) := by decide +kernel
theorem dX7_look_67 : decode cX7_look 67 = .ok (.getfield 85, 3) := by decide +kernel
theorem dX7_look_70 : decode cX7_look 70 = .ok (.iload 4, 2) := by decide +kernel
theorem dX7_look_72 : decode cX7_look 72 = .ok (.iaload, 1) := by decide +kernel
theorem dX7_look_73 : decode cX7_look 73 = .ok (.iload_n 3, 1) := by decide +kernel
theorem dX7_look_74 : decode cX7_look 74 = .ok (.if_icmp .ne 7, 3) := by decide +kernel
theorem dX7_look_77 : decode cX7_look 77 = .ok (.iconst 1, 1) := by decide +kernel
theorem dX7_look_78 : decode cX7_look 78 = .ok (.goto 4, 3) := by decide +kernel
theorem dX7_look_81 : decode cX7_look 81 = .ok (.iconst 0, 1) := by decide +kernel
theorem dX7_look_82 : decode cX7_look 82 = .ok (.istore 5, 2) := by decide +kernel
theorem dX7_look_84 : decode cX7_look 84 = .ok (.iconst 0, 1) := by decide +kernel
theorem dX7_look_85 : decode cX7_look 85 = .ok (.istore 6, 2) := by decide +kernel
theorem dX7_look_87 : decode cX7_look 87 = .ok (.iload 6, 2) := by decide +kernel
theorem dX7_look_89 : decode cX7_look 89 = .ok (.iload_n 3, 1) := by decide +kernel
theorem dX7_look_90 : decode cX7_look 90 = .ok (.if_icmp .ge 79, 3) := by decide +kernel
theorem dX7_look_93 : decode cX7_look 93 = .ok (.iload 5, 2) := by decide +kernel
theorem dX7_look_95 : decode cX7_look 95 = .ok (.ifCond .eq 74, 3) := by decide +kernel
theorem dX7_look_98 : decode cX7_look 98 = .ok (.aload_n 0, 1) := by decide +kernel
theorem dX7_look_99 : decode cX7_look 99 = .ok (.getfield 88, 3) := by decide +kernel
theorem dX7_look_102 : decode cX7_look 102 = .ok (.iconst 3, 1) := by decide +kernel
theorem dX7_look_103 : decode cX7_look 103 = .ok (.iload 4, 2) := by decide +kernel
theorem dX7_look_105 : decode cX7_look 105 = .ok (.imul, 1) := by decide +kernel
theorem dX7_look_106 : decode cX7_look 106 = .ok (.iload 6, 2) := by decide +kernel
theorem dX7_look_108 : decode cX7_look 108 = .ok (.iadd, 1) := by decide +kernel
theorem dX7_look_109 : decode cX7_look 109 = .ok (.iaload, 1) := by decide +kernel
theorem dX7_look_110 : decode cX7_look 110 = .ok (.aload_n 0, 1) := by decide +kernel
theorem dX7_look_111 : decode cX7_look 111 = .ok (.getfield 88, 3) := by decide +kernel
theorem dX7_look_114 : decode cX7_look 114 = .ok (.iconst 3, 1) := by decide +kernel
theorem dX7_look_115 : decode cX7_look 115 = .ok (.aload_n 0, 1) := by decide +kernel
theorem dX7_look_116 : decode cX7_look 116 = .ok (.getfield 269, 3) := by decide +kernel
theorem dX7_look_119 : decode cX7_look 119 = .ok (.imul, 1) := by decide +kernel
theorem dX7_look_120 : decode cX7_look 120 = .ok (.iload 6, 2) := by decide +kernel
theorem dX7_look_122 : decode cX7_look 122 = .ok (.iadd, 1) := by decide +kernel
theorem dX7_look_123 : decode cX7_look 123 = .ok (.iaload, 1) := by decide +kernel
theorem dX7_look_124 : decode cX7_look 124 = .ok (.if_icmp .ne 36, 3) := by decide +kernel
theorem dX7_look_127 : decode cX7_look 127 = .ok (.aload_n 0, 1) := by decide +kernel
theorem dX7_look_128 : decode cX7_look 128 = .ok (.getfield 91, 3) := by decide +kernel
theorem dX7_look_131 : decode cX7_look 131 = .ok (.iconst 3, 1) := by decide +kernel
theorem dX7_look_132 : decode cX7_look 132 = .ok (.iload 4, 2) := by decide +kernel
theorem dX7_look_134 : decode cX7_look 134 = .ok (.imul, 1) := by decide +kernel
theorem dX7_look_135 : decode cX7_look 135 = .ok (.iload 6, 2) := by decide +kernel
theorem dX7_look_137 : decode cX7_look 137 = .ok (.iadd, 1) := by decide +kernel
theorem dX7_look_138 : decode cX7_look 138 = .ok (.iaload, 1) := by decide +kernel
theorem dX7_look_139 : decode cX7_look 139 = .ok (.aload_n 0, 1) := by decide +kernel
theorem dX7_look_140 : decode cX7_look 140 = .ok (.getfield 91, 3) := by decide +kernel
theorem dX7_look_143 : decode cX7_look 143 = .ok (.iconst 3, 1) := by decide +kernel
theorem dX7_look_144 : decode cX7_look 144 = .ok (.aload_n 0, 1) := by decide +kernel
theorem dX7_look_145 : decode cX7_look 145 = .ok (.getfield 269, 3) := by decide +kernel
theorem dX7_look_148 : decode cX7_look 148 = .ok (.imul, 1) := by decide +kernel
theorem dX7_look_149 : decode cX7_look 149 = .ok (.iload 6, 2) := by decide +kernel
theorem dX7_look_151 : decode cX7_look 151 = .ok (.iadd, 1) := by decide +kernel
theorem dX7_look_152 : decode cX7_look 152 = .ok (.iaload, 1) := by decide +kernel
theorem dX7_look_153 : decode cX7_look 153 = .ok (.if_icmp .ne 7, 3) := by decide +kernel
theorem dX7_look_156 : decode cX7_look 156 = .ok (.iconst 1, 1) := by decide +kernel
theorem dX7_look_157 : decode cX7_look 157 = .ok (.goto 4, 3) := by decide +kernel
theorem dX7_look_160 : decode cX7_look 160 = .ok (.iconst 0, 1) := by decide +kernel
theorem dX7_look_161 : decode cX7_look 161 = .ok (.istore 5, 2) := by decide +kernel
theorem dX7_look_163 : decode cX7_look 163 = .ok (.iinc 6 1, 3) := by decide +kernel
theorem dX7_look_166 : decode cX7_look 166 = .ok (.goto (-79), 3) := by decide +kernel
theorem dX7_look_169 : decode cX7_look 169 = .ok (.iload 5, 2) := by decide +kernel
theorem dX7_look_171 : decode cX7_look 171 = .ok (.ifCond .eq 6, 3) := by decide +kernel
theorem dX7_look_174 : decode cX7_look 174 = .ok (.iload 4, 2) := by decide +kernel
theorem dX7_look_176 : decode cX7_look 176 = .ok (.ireturn, 1) := by decide +kernel
theorem dX7_look_177 : decode cX7_look 177 = .ok (.iinc 4 1, 3) := by decide +kernel
theorem dX7_look_180 : decode cX7_look 180 = .ok (.goto (-123), 3) := by decide +kernel
theorem dX7_look_183 : decode cX7_look 183 = .ok (.aload_n 0, 1) := by decide +kernel
theorem dX7_look_184 : decode cX7_look 184 = .ok (.getfield 269, 3) := by decide +kernel
theorem dX7_look_187 : decode cX7_look 187 = .ok (.bipush 60, 2) := by decide +kernel
theorem dX7_look_189 : decode cX7_look 189 = .ok (.if_icmp .ne 6, 3) := by decide +kernel
theorem dX7_look_192 : decode cX7_look 192 = .ok (.bipush (-4), 2) := by decide +kernel
theorem dX7_look_194 : decode cX7_look 194 = .ok (.ireturn, 1) := by decide +kernel
theorem dX7_look_195 : decode cX7_look 195 = .ok (.aload_n 0, 1) := by decide +kernel
theorem dX7_look_196 : decode cX7_look 196 = .ok (.dup, 1) := by decide +kernel
theorem dX7_look_197 : decode cX7_look 197 = .ok (.getfield 269, 3) := by decide +kernel
theorem dX7_look_200 : decode cX7_look 200 = .ok (.iconst 1, 1) := by decide +kernel
theorem dX7_look_201 : decode cX7_look 201 = .ok (.iadd, 1) := by decide +kernel
theorem dX7_look_202 : decode cX7_look 202 = .ok (.putfield 269, 3) := by decide +kernel
theorem dX7_look_205 : decode cX7_look 205 = .ok (.aload_n 0, 1) := by decide +kernel
theorem dX7_look_206 : decode cX7_look 206 = .ok (.getfield 269, 3) := by decide +kernel
theorem dX7_look_209 : decode cX7_look 209 = .ok (.iconst 1, 1) := by decide +kernel
theorem dX7_look_210 : decode cX7_look 210 = .ok (.isub, 1) := by decide +kernel
theorem dX7_look_211 : decode cX7_look 211 = .ok (.ireturn, 1) := by decide +kernel
theorem dX7_nextIn_0 : decode cX7_nextIn 0 = .ok (.iload_n 2, 1) := by decide +kernel
theorem dX7_nextIn_1 : decode cX7_nextIn 1 = .ok (.iconst 1, 1) := by decide +kernel
theorem dX7_nextIn_2 : decode cX7_nextIn 2 = .ok (.iadd, 1) := by decide +kernel
theorem dX7_nextIn_3 : decode cX7_nextIn 3 = .ok (.istore_n 3, 1) := by decide +kernel
theorem dX7_nextIn_4 : decode cX7_nextIn 4 = .ok (.iload_n 3, 1) := by decide +kernel
theorem dX7_nextIn_5 : decode cX7_nextIn 5 = .ok (.sipush 1000, 3) := by decide +kernel
theorem dX7_nextIn_8 : decode cX7_nextIn 8 = .ok (.if_icmp .ge 20, 3) := by decide +kernel
theorem dX7_nextIn_11 : decode cX7_nextIn 11 = .ok (.aload_n 0, 1) := by decide +kernel
theorem dX7_nextIn_12 : decode cX7_nextIn 12 = .ok (.iload_n 1, 1) := by decide +kernel
theorem dX7_nextIn_13 : decode cX7_nextIn 13 = .ok (.iload_n 3, 1) := by decide +kernel
theorem dX7_nextIn_14 : decode cX7_nextIn 14 = .ok (.invokevirtual 284, 3) := by decide +kernel
theorem dX7_nextIn_17 : decode cX7_nextIn 17 = .ok (.ifCond .le 5, 3) := by decide +kernel
theorem dX7_nextIn_20 : decode cX7_nextIn 20 = .ok (.iload_n 3, 1) := by decide +kernel
theorem dX7_nextIn_21 : decode cX7_nextIn 21 = .ok (.ireturn, 1) := by decide +kernel
theorem dX7_nextIn_22 : decode cX7_nextIn 22 = .ok (.iinc 3 1, 3) := by decide +kernel
theorem dX7_nextIn_25 : decode cX7_nextIn 25 = .ok (.goto (-21), 3) := by decide +kernel
theorem dX7_nextIn_28 : decode cX7_nextIn 28 = .ok (.sipush 1000, 3) := by decide +kernel
theorem dX7_nextIn_31 : decode cX7_nextIn 31 = .ok (.ireturn, 1) := by decide +kernel
theorem dX7_list_0 : decode cX7_list 0 = .ok (.aload_n 0, 1) := by decide +kernel
theorem dX7_list_1 : decode cX7_list 1 = .ok (.iconst 0, 1) := by decide +kernel
theorem dX7_list_2 : decode cX7_list 2 = .ok (.putfield 98, 3) := by decide +kernel
theorem dX7_list_5 : decode cX7_list 5 = .ok (.aload_n 0, 1) := by decide +kernel
theorem dX7_list_6 : decode cX7_list 6 = .ok (.iload_n 1, 1) := by decide +kernel
theorem dX7_list_7 : decode cX7_list 7 = .ok (.invokevirtual 278, 3) := by decide +kernel
theorem dX7_list_10 : decode cX7_list 10 = .ok (.ifCond .ne 5, 3) := by decide +kernel
theorem dX7_list_13 : decode cX7_list 13 = .ok (.iconst (-1), 1) := by decide +kernel
theorem dX7_list_14 : decode cX7_list 14 = .ok (.ireturn, 1) := by decide +kernel
theorem dX7_list_15 : decode cX7_list 15 = .ok (.iload_n 2, 1) := by decide +kernel
theorem dX7_list_16 : decode cX7_list 16 = .ok (.ifCond .ge 6, 3) := by decide +kernel
theorem dX7_list_19 : decode cX7_list 19 = .ok (.bipush (-2), 2) := by decide +kernel
theorem dX7_list_21 : decode cX7_list 21 = .ok (.ireturn, 1) := by decide +kernel
theorem dX7_list_22 : decode cX7_list 22 = .ok (.aload_n 0, 1) := by decide +kernel
theorem dX7_list_23 : decode cX7_list 23 = .ok (.iload_n 1, 1) := by decide +kernel
theorem dX7_list_24 : decode cX7_list 24 = .ok (.invokevirtual 281, 3) := by decide +kernel
theorem dX7_list_27 : decode cX7_list 27 = .ok (.iconst 1, 1) := by decide +kernel
theorem dX7_list_28 : decode cX7_list 28 = .ok (.if_icmp .eq 6, 3) := by decide +kernel
theorem dX7_list_31 : decode cX7_list 31 = .ok (.bipush (-3), 2) := by decide +kernel
theorem dX7_list_33 : decode cX7_list 33 = .ok (.ireturn, 1) := by decide +kernel
theorem dX7_list_34 : decode cX7_list 34 = .ok (.aload_n 0, 1) := by decide +kernel
theorem dX7_list_35 : decode cX7_list 35 = .ok (.iload_n 1, 1) := by decide +kernel
theorem dX7_list_36 : decode cX7_list 36 = .ok (.iconst 0, 1) := by decide +kernel
theorem dX7_list_37 : decode cX7_list 37 = .ok (.invokevirtual 287, 3) := by decide +kernel
theorem dX7_list_40 : decode cX7_list 40 = .ok (.istore_n 3, 1) := by decide +kernel
theorem dX7_list_41 : decode cX7_list 41 = .ok (.iconst 0, 1) := by decide +kernel
theorem dX7_list_42 : decode cX7_list 42 = .ok (.istore 4, 2) := by decide +kernel
theorem dX7_list_44 : decode cX7_list 44 = .ok (.iload 4, 2) := by decide +kernel
theorem dX7_list_46 : decode cX7_list 46 = .ok (.iload_n 2, 1) := by decide +kernel
theorem dX7_list_47 : decode cX7_list 47 = .ok (.if_icmp .ge 23, 3) := by decide +kernel
theorem dX7_list_50 : decode cX7_list 50 = .ok (.iload_n 3, 1) := by decide +kernel
theorem dX7_list_51 : decode cX7_list 51 = .ok (.sipush 1000, 3) := by decide +kernel
theorem dX7_list_54 : decode cX7_list 54 = .ok (.if_icmp .ge 16, 3) := by decide +kernel
theorem dX7_list_57 : decode cX7_list 57 = .ok (.aload_n 0, 1) := by decide +kernel
theorem dX7_list_58 : decode cX7_list 58 = .ok (.iload_n 1, 1) := by decide +kernel
theorem dX7_list_59 : decode cX7_list 59 = .ok (.iload_n 3, 1) := by decide +kernel
theorem dX7_list_60 : decode cX7_list 60 = .ok (.invokevirtual 287, 3) := by decide +kernel
theorem dX7_list_63 : decode cX7_list 63 = .ok (.istore_n 3, 1) := by decide +kernel
theorem dX7_list_64 : decode cX7_list 64 = .ok (.iinc 4 1, 3) := by decide +kernel
theorem dX7_list_67 : decode cX7_list 67 = .ok (.goto (-23), 3) := by decide +kernel
theorem dX7_list_70 : decode cX7_list 70 = .ok (.iload_n 3, 1) := by decide +kernel
theorem dX7_list_71 : decode cX7_list 71 = .ok (.sipush 1000, 3) := by decide +kernel
theorem dX7_list_74 : decode cX7_list 74 = .ok (.if_icmp .ge 7, 3) := by decide +kernel
theorem dX7_list_77 : decode cX7_list 77 = .ok (.iload_n 3, 1) := by decide +kernel
theorem dX7_list_78 : decode cX7_list 78 = .ok (.goto 4, 3) := by decide +kernel
theorem dX7_list_81 : decode cX7_list 81 = .ok (.iconst 0, 1) := by decide +kernel
theorem dX7_list_82 : decode cX7_list 82 = .ok (.ireturn, 1) := by decide +kernel
theorem dX7_namesIn_0 : decode cX7_namesIn 0 = .ok (.iconst 0, 1) := by decide +kernel
theorem dX7_namesIn_1 : decode cX7_namesIn 1 = .ok (.istore_n 2, 1) := by decide +kernel
theorem dX7_namesIn_2 : decode cX7_namesIn 2 = .ok (.aload_n 0, 1) := by decide +kernel
theorem dX7_namesIn_3 : decode cX7_namesIn 3 = .ok (.iload_n 1, 1) := by decide +kernel
theorem dX7_namesIn_4 : decode cX7_namesIn 4 = .ok (.iconst 0, 1) := by decide +kernel
theorem dX7_namesIn_5 : decode cX7_namesIn 5 = .ok (.invokevirtual 287, 3) := by decide +kernel
theorem dX7_namesIn_8 : decode cX7_namesIn 8 = .ok (.istore_n 3, 1) := by decide +kernel
theorem dX7_namesIn_9 : decode cX7_namesIn 9 = .ok (.iload_n 3, 1) := by decide +kernel
theorem dX7_namesIn_10 : decode cX7_namesIn 10 = .ok (.sipush 1000, 3) := by decide +kernel
theorem dX7_namesIn_13 : decode cX7_namesIn 13 = .ok (.if_icmp .ge 16, 3) := by decide +kernel
theorem dX7_namesIn_16 : decode cX7_namesIn 16 = .ok (.iinc 2 1, 3) := by decide +kernel
theorem dX7_namesIn_19 : decode cX7_namesIn 19 = .ok (.aload_n 0, 1) := by decide +kernel
theorem dX7_namesIn_20 : decode cX7_namesIn 20 = .ok (.iload_n 1, 1) := by decide +kernel
theorem dX7_namesIn_21 : decode cX7_namesIn 21 = .ok (.iload_n 3, 1) := by decide +kernel
theorem dX7_namesIn_22 : decode cX7_namesIn 22 = .ok (.invokevirtual 287, 3) := by decide +kernel
theorem dX7_namesIn_25 : decode cX7_namesIn 25 = .ok (.istore_n 3, 1) := by decide +kernel
theorem dX7_namesIn_26 : decode cX7_namesIn 26 = .ok (.goto (-17), 3) := by decide +kernel
theorem dX7_namesIn_29 : decode cX7_namesIn 29 = .ok (.iload_n 2, 1) := by decide +kernel
theorem dX7_namesIn_30 : decode cX7_namesIn 30 = .ok (.ireturn, 1) := by decide +kernel
theorem dX7_view_0 : decode cX7_view 0 = .ok (.aload_n 0, 1) := by decide +kernel
theorem dX7_view_1 : decode cX7_view 1 = .ok (.iconst 0, 1) := by decide +kernel
theorem dX7_view_2 : decode cX7_view 2 = .ok (.putfield 98, 3) := by decide +kernel
theorem dX7_view_5 : decode cX7_view 5 = .ok (.aload_n 0, 1) := by decide +kernel
theorem dX7_view_6 : decode cX7_view 6 = .ok (.iload_n 1, 1) := by decide +kernel
theorem dX7_view_7 : decode cX7_view 7 = .ok (.invokevirtual 278, 3) := by decide +kernel
theorem dX7_view_10 : decode cX7_view 10 = .ok (.ifCond .ne 5, 3) := by decide +kernel
theorem dX7_view_13 : decode cX7_view 13 = .ok (.iconst (-1), 1) := by decide +kernel
theorem dX7_view_14 : decode cX7_view 14 = .ok (.ireturn, 1) := by decide +kernel
theorem dX7_view_15 : decode cX7_view 15 = .ok (.aload_n 0, 1) := by decide +kernel
theorem dX7_view_16 : decode cX7_view 16 = .ok (.getfield 88, 3) := by decide +kernel
theorem dX7_view_19 : decode cX7_view 19 = .ok (.iconst 3, 1) := by decide +kernel
theorem dX7_view_20 : decode cX7_view 20 = .ok (.iload_n 1, 1) := by decide +kernel
theorem dX7_view_21 : decode cX7_view 21 = .ok (.imul, 1) := by decide +kernel
theorem dX7_view_22 : decode cX7_view 22 = .ok (.iaload, 1) := by decide +kernel
theorem dX7_view_23 : decode cX7_view 23 = .ok (.istore_n 3, 1) := by decide +kernel
theorem dX7_view_24 : decode cX7_view 24 = .ok (.aload_n 0, 1) := by decide +kernel
theorem dX7_view_25 : decode cX7_view 25 = .ok (.getfield 91, 3) := by decide +kernel
theorem dX7_view_28 : decode cX7_view 28 = .ok (.iconst 3, 1) := by decide +kernel
theorem dX7_view_29 : decode cX7_view 29 = .ok (.iload_n 1, 1) := by decide +kernel
theorem dX7_view_30 : decode cX7_view 30 = .ok (.imul, 1) := by decide +kernel
theorem dX7_view_31 : decode cX7_view 31 = .ok (.iaload, 1) := by decide +kernel
theorem dX7_view_32 : decode cX7_view 32 = .ok (.istore 4, 2) := by decide +kernel
theorem dX7_view_34 : decode cX7_view 34 = .ok (.iload_n 2, 1) := by decide +kernel
theorem dX7_view_35 : decode cX7_view 35 = .ok (.tableswitch 103 0 6 #[41, 47, 49, 52, 78, 87, 96], 41) := by decide +kernel
theorem dX7_view_76 : decode cX7_view 76 = .ok (.aload_n 0, 1) := by decide +kernel
theorem dX7_view_77 : decode cX7_view 77 = .ok (.iload_n 1, 1) := by decide +kernel
theorem dX7_view_78 : decode cX7_view 78 = .ok (.invokevirtual 281, 3) := by decide +kernel
theorem dX7_view_81 : decode cX7_view 81 = .ok (.ireturn, 1) := by decide +kernel
theorem dX7_view_82 : decode cX7_view 82 = .ok (.iload_n 3, 1) := by decide +kernel
theorem dX7_view_83 : decode cX7_view 83 = .ok (.ireturn, 1) := by decide +kernel
theorem dX7_view_84 : decode cX7_view 84 = .ok (.iload 4, 2) := by decide +kernel
theorem dX7_view_86 : decode cX7_view 86 = .ok (.ireturn, 1) := by decide +kernel
theorem dX7_view_87 : decode cX7_view 87 = .ok (.aload_n 0, 1) := by decide +kernel
theorem dX7_view_88 : decode cX7_view 88 = .ok (.iload_n 1, 1) := by decide +kernel
theorem dX7_view_89 : decode cX7_view 89 = .ok (.invokevirtual 281, 3) := by decide +kernel
theorem dX7_view_92 : decode cX7_view 92 = .ok (.iconst 1, 1) := by decide +kernel
theorem dX7_view_93 : decode cX7_view 93 = .ok (.if_icmp .ne 11, 3) := by decide +kernel
theorem dX7_view_96 : decode cX7_view 96 = .ok (.aload_n 0, 1) := by decide +kernel
theorem dX7_view_97 : decode cX7_view 97 = .ok (.iload_n 1, 1) := by decide +kernel
theorem dX7_view_98 : decode cX7_view 98 = .ok (.invokevirtual 290, 3) := by decide +kernel
theorem dX7_view_101 : decode cX7_view 101 = .ok (.goto 11, 3) := by decide +kernel
theorem dX7_view_104 : decode cX7_view 104 = .ok (.aload_n 0, 1) := by decide +kernel
theorem dX7_view_105 : decode cX7_view 105 = .ok (.iload_n 3, 1) := by decide +kernel
theorem dX7_view_106 : decode cX7_view 106 = .ok (.iload 4, 2) := by decide +kernel
theorem dX7_view_108 : decode cX7_view 108 = .ok (.iconst 4, 1) := by decide +kernel
theorem dX7_view_109 : decode cX7_view 109 = .ok (.invokevirtual 266, 3) := by decide +kernel
theorem dX7_view_112 : decode cX7_view 112 = .ok (.ireturn, 1) := by decide +kernel
theorem dX7_view_113 : decode cX7_view 113 = .ok (.aload_n 0, 1) := by decide +kernel
theorem dX7_view_114 : decode cX7_view 114 = .ok (.iload_n 3, 1) := by decide +kernel
theorem dX7_view_115 : decode cX7_view 115 = .ok (.iload 4, 2) := by decide +kernel
theorem dX7_view_117 : decode cX7_view 117 = .ok (.iconst 1, 1) := by decide +kernel
theorem dX7_view_118 : decode cX7_view 118 = .ok (.invokevirtual 266, 3) := by decide +kernel
theorem dX7_view_121 : decode cX7_view 121 = .ok (.ireturn, 1) := by decide +kernel
theorem dX7_view_122 : decode cX7_view 122 = .ok (.aload_n 0, 1) := by decide +kernel
theorem dX7_view_123 : decode cX7_view 123 = .ok (.iload_n 3, 1) := by decide +kernel
theorem dX7_view_124 : decode cX7_view 124 = .ok (.iload 4, 2) := by decide +kernel
theorem dX7_view_126 : decode cX7_view 126 = .ok (.iconst 2, 1) := by decide +kernel
theorem dX7_view_127 : decode cX7_view 127 = .ok (.invokevirtual 266, 3) := by decide +kernel
theorem dX7_view_130 : decode cX7_view 130 = .ok (.ireturn, 1) := by decide +kernel
theorem dX7_view_131 : decode cX7_view 131 = .ok (.aload_n 0, 1) := by decide +kernel
theorem dX7_view_132 : decode cX7_view 132 = .ok (.getfield 85, 3) := by decide +kernel
theorem dX7_view_135 : decode cX7_view 135 = .ok (.iload_n 1, 1) := by decide +kernel
theorem dX7_view_136 : decode cX7_view 136 = .ok (.iaload, 1) := by decide +kernel
theorem dX7_view_137 : decode cX7_view 137 = .ok (.ireturn, 1) := by decide +kernel
theorem dX7_view_138 : decode cX7_view 138 = .ok (.bipush (-2), 2) := by decide +kernel
theorem dX7_view_140 : decode cX7_view 140 = .ok (.ireturn, 1) := by decide +kernel
theorem dX7_opened_0 : decode cX7_opened 0 = .ok (.iload_n 3, 1) := by decide +kernel
theorem dX7_opened_1 : decode cX7_opened 1 = .ok (.ifCond .ne 5, 3) := by decide +kernel
theorem dX7_opened_4 : decode cX7_opened 4 = .ok (.iconst 0, 1) := by decide +kernel
theorem dX7_opened_5 : decode cX7_opened 5 = .ok (.ireturn, 1) := by decide +kernel
theorem dX7_opened_6 : decode cX7_opened 6 = .ok (.iload_n 3, 1) := by decide +kernel
theorem dX7_opened_7 : decode cX7_opened 7 = .ok (.ldc 158, 2) := by decide +kernel
theorem dX7_opened_9 : decode cX7_opened 9 = .ok (.if_icmp .lt 13, 3) := by decide +kernel
theorem dX7_opened_12 : decode cX7_opened 12 = .ok (.aload_n 0, 1) := by decide +kernel
theorem dX7_opened_13 : decode cX7_opened 13 = .ok (.iload_n 1, 1) := by decide +kernel
theorem dX7_opened_14 : decode cX7_opened 14 = .ok (.iload_n 2, 1) := by decide +kernel
theorem dX7_opened_15 : decode cX7_opened 15 = .ok (.iload 4, 2) := by decide +kernel
theorem dX7_opened_17 : decode cX7_opened 17 = .ok (.iadd, 1) := by decide +kernel
theorem dX7_opened_18 : decode cX7_opened 18 = .ok (.invokevirtual 198, 3) := by decide +kernel
theorem dX7_opened_21 : decode cX7_opened 21 = .ok (.ireturn, 1) := by decide +kernel
theorem dX7_opened_22 : decode cX7_opened 22 = .ok (.iload_n 2, 1) := by decide +kernel
theorem dX7_opened_23 : decode cX7_opened 23 = .ok (.istore 5, 2) := by decide +kernel
theorem dX7_opened_25 : decode cX7_opened 25 = .ok (.iconst 0, 1) := by decide +kernel
theorem dX7_opened_26 : decode cX7_opened 26 = .ok (.istore 6, 2) := by decide +kernel
theorem dX7_opened_28 : decode cX7_opened 28 = .ok (.aload_n 0, 1) := by decide +kernel
theorem dX7_opened_29 : decode cX7_opened 29 = .ok (.iload_n 1, 1) := by decide +kernel
theorem dX7_opened_30 : decode cX7_opened 30 = .ok (.iload 5, 2) := by decide +kernel
theorem dX7_opened_32 : decode cX7_opened 32 = .ok (.invokevirtual 198, 3) := by decide +kernel
theorem dX7_opened_35 : decode cX7_opened 35 = .ok (.istore 7, 2) := by decide +kernel
theorem dX7_opened_37 : decode cX7_opened 37 = .ok (.iload 7, 2) := by decide +kernel
theorem dX7_opened_39 : decode cX7_opened 39 = .ok (.sipush 128, 3) := by decide +kernel
theorem dX7_opened_42 : decode cX7_opened 42 = .ok (.if_icmp .ge 52, 3) := by decide +kernel
theorem dX7_opened_45 : decode cX7_opened 45 = .ok (.iload 4, 2) := by decide +kernel
theorem dX7_opened_47 : decode cX7_opened 47 = .ok (.iload 6, 2) := by decide +kernel
theorem dX7_opened_49 : decode cX7_opened 49 = .ok (.iload 7, 2) := by decide +kernel
theorem dX7_opened_51 : decode cX7_opened 51 = .ok (.iadd, 1) := by decide +kernel
theorem dX7_opened_52 : decode cX7_opened 52 = .ok (.iconst 1, 1) := by decide +kernel
theorem dX7_opened_53 : decode cX7_opened 53 = .ok (.iadd, 1) := by decide +kernel
theorem dX7_opened_54 : decode cX7_opened 54 = .ok (.if_icmp .ge 19, 3) := by decide +kernel
theorem dX7_opened_57 : decode cX7_opened 57 = .ok (.aload_n 0, 1) := by decide +kernel
theorem dX7_opened_58 : decode cX7_opened 58 = .ok (.iload_n 1, 1) := by decide +kernel
theorem dX7_opened_59 : decode cX7_opened 59 = .ok (.iload 5, 2) := by decide +kernel
theorem dX7_opened_61 : decode cX7_opened 61 = .ok (.iconst 1, 1) := by decide +kernel
theorem dX7_opened_62 : decode cX7_opened 62 = .ok (.iadd, 1) := by decide +kernel
theorem dX7_opened_63 : decode cX7_opened 63 = .ok (.iload 4, 2) := by decide +kernel
theorem dX7_opened_65 : decode cX7_opened 65 = .ok (.iadd, 1) := by decide +kernel
theorem dX7_opened_66 : decode cX7_opened 66 = .ok (.iload 6, 2) := by decide +kernel
theorem dX7_opened_68 : decode cX7_opened 68 = .ok (.isub, 1) := by decide +kernel
theorem dX7_opened_69 : decode cX7_opened 69 = .ok (.invokevirtual 198, 3) := by decide +kernel
theorem dX7_opened_72 : decode cX7_opened 72 = .ok (.ireturn, 1) := by decide +kernel
theorem dX7_opened_73 : decode cX7_opened 73 = .ok (.iload 6, 2) := by decide +kernel
theorem dX7_opened_75 : decode cX7_opened 75 = .ok (.iload 7, 2) := by decide +kernel
theorem dX7_opened_77 : decode cX7_opened 77 = .ok (.iconst 1, 1) := by decide +kernel
theorem dX7_opened_78 : decode cX7_opened 78 = .ok (.iadd, 1) := by decide +kernel
theorem dX7_opened_79 : decode cX7_opened 79 = .ok (.iadd, 1) := by decide +kernel
theorem dX7_opened_80 : decode cX7_opened 80 = .ok (.istore 6, 2) := by decide +kernel
theorem dX7_opened_82 : decode cX7_opened 82 = .ok (.iload 5, 2) := by decide +kernel
theorem dX7_opened_84 : decode cX7_opened 84 = .ok (.iload 7, 2) := by decide +kernel
theorem dX7_opened_86 : decode cX7_opened 86 = .ok (.iconst 2, 1) := by decide +kernel
theorem dX7_opened_87 : decode cX7_opened 87 = .ok (.iadd, 1) := by decide +kernel
theorem dX7_opened_88 : decode cX7_opened 88 = .ok (.iadd, 1) := by decide +kernel
theorem dX7_opened_89 : decode cX7_opened 89 = .ok (.istore 5, 2) := by decide +kernel
theorem dX7_opened_91 : decode cX7_opened 91 = .ok (.goto 55, 3) := by decide +kernel
theorem dX7_opened_94 : decode cX7_opened 94 = .ok (.iload 7, 2) := by decide +kernel
theorem dX7_opened_96 : decode cX7_opened 96 = .ok (.sipush 128, 3) := by decide +kernel
theorem dX7_opened_99 : decode cX7_opened 99 = .ok (.if_icmp .le 44, 3) := by decide +kernel
theorem dX7_opened_102 : decode cX7_opened 102 = .ok (.iload 4, 2) := by decide +kernel
theorem dX7_opened_104 : decode cX7_opened 104 = .ok (.iload 6, 2) := by decide +kernel
theorem dX7_opened_106 : decode cX7_opened 106 = .ok (.sipush 257, 3) := by decide +kernel
theorem dX7_opened_109 : decode cX7_opened 109 = .ok (.iadd, 1) := by decide +kernel
theorem dX7_opened_110 : decode cX7_opened 110 = .ok (.iload 7, 2) := by decide +kernel
theorem dX7_opened_112 : decode cX7_opened 112 = .ok (.isub, 1) := by decide +kernel
theorem dX7_opened_113 : decode cX7_opened 113 = .ok (.if_icmp .ge 13, 3) := by decide +kernel
theorem dX7_opened_116 : decode cX7_opened 116 = .ok (.aload_n 0, 1) := by decide +kernel
theorem dX7_opened_117 : decode cX7_opened 117 = .ok (.iload_n 1, 1) := by decide +kernel
theorem dX7_opened_118 : decode cX7_opened 118 = .ok (.iload 5, 2) := by decide +kernel
theorem dX7_opened_120 : decode cX7_opened 120 = .ok (.iconst 1, 1) := by decide +kernel
