theorem dX7_init_0 : decode cX7_init 0 = .ok (.aload_n 0, 1) := by decide +kernel
theorem dX7_init_1 : decode cX7_init 1 = .ok (.invokespecial 1, 3) := by decide +kernel
theorem dX7_init_4 : decode cX7_init 4 = .ok (.aload_n 0, 1) := by decide +kernel
theorem dX7_init_5 : decode cX7_init 5 = .ok (.bipush 32, 2) := by decide +kernel
theorem dX7_init_7 : decode cX7_init 7 = .ok (.newarray .int, 2) := by decide +kernel
theorem dX7_init_9 : decode cX7_init 9 = .ok (.putfield 7, 3) := by decide +kernel
theorem dX7_init_12 : decode cX7_init 12 = .ok (.aload_n 0, 1) := by decide +kernel
theorem dX7_init_13 : decode cX7_init 13 = .ok (.bipush 32, 2) := by decide +kernel
theorem dX7_init_15 : decode cX7_init 15 = .ok (.newarray .int, 2) := by decide +kernel
theorem dX7_init_17 : decode cX7_init 17 = .ok (.putfield 13, 3) := by decide +kernel
theorem dX7_init_20 : decode cX7_init 20 = .ok (.aload_n 0, 1) := by decide +kernel
theorem dX7_init_21 : decode cX7_init 21 = .ok (.bipush 32, 2) := by decide +kernel
theorem dX7_init_23 : decode cX7_init 23 = .ok (.newarray .int, 2) := by decide +kernel
theorem dX7_init_25 : decode cX7_init 25 = .ok (.putfield 16, 3) := by decide +kernel
theorem dX7_init_28 : decode cX7_init 28 = .ok (.aload_n 0, 1) := by decide +kernel
theorem dX7_init_29 : decode cX7_init 29 = .ok (.bipush 32, 2) := by decide +kernel
theorem dX7_init_31 : decode cX7_init 31 = .ok (.newarray .int, 2) := by decide +kernel
theorem dX7_init_33 : decode cX7_init 33 = .ok (.putfield 19, 3) := by decide +kernel
theorem dX7_init_36 : decode cX7_init 36 = .ok (.aload_n 0, 1) := by decide +kernel
theorem dX7_init_37 : decode cX7_init 37 = .ok (.sipush 3200, 3) := by decide +kernel
theorem dX7_init_40 : decode cX7_init 40 = .ok (.newarray .int, 2) := by decide +kernel
theorem dX7_init_42 : decode cX7_init 42 = .ok (.putfield 22, 3) := by decide +kernel
theorem dX7_init_45 : decode cX7_init 45 = .ok (.aload_n 0, 1) := by decide +kernel
theorem dX7_init_46 : decode cX7_init 46 = .ok (.sipush 300, 3) := by decide +kernel
theorem dX7_init_49 : decode cX7_init 49 = .ok (.newarray .int, 2) := by decide +kernel
theorem dX7_init_51 : decode cX7_init 51 = .ok (.putfield 25, 3) := by decide +kernel
theorem dX7_init_54 : decode cX7_init 54 = .ok (.aload_n 0, 1) := by decide +kernel
theorem dX7_init_55 : decode cX7_init 55 = .ok (.sipush 300, 3) := by decide +kernel
theorem dX7_init_58 : decode cX7_init 58 = .ok (.newarray .int, 2) := by decide +kernel
theorem dX7_init_60 : decode cX7_init 60 = .ok (.putfield 28, 3) := by decide +kernel
theorem dX7_init_63 : decode cX7_init 63 = .ok (.aload_n 0, 1) := by decide +kernel
theorem dX7_init_64 : decode cX7_init 64 = .ok (.sipush 300, 3) := by decide +kernel
theorem dX7_init_67 : decode cX7_init 67 = .ok (.newarray .int, 2) := by decide +kernel
theorem dX7_init_69 : decode cX7_init 69 = .ok (.putfield 31, 3) := by decide +kernel
theorem dX7_init_72 : decode cX7_init 72 = .ok (.aload_n 0, 1) := by decide +kernel
theorem dX7_init_73 : decode cX7_init 73 = .ok (.sipush 18000, 3) := by decide +kernel
theorem dX7_init_76 : decode cX7_init 76 = .ok (.newarray .int, 2) := by decide +kernel
theorem dX7_init_78 : decode cX7_init 78 = .ok (.putfield 34, 3) := by decide +kernel
theorem dX7_init_81 : decode cX7_init 81 = .ok (.aload_n 0, 1) := by decide +kernel
theorem dX7_init_82 : decode cX7_init 82 = .ok (.iconst 3, 1) := by decide +kernel
theorem dX7_init_83 : decode cX7_init 83 = .ok (.newarray .int, 2) := by decide +kernel
theorem dX7_init_85 : decode cX7_init 85 = .ok (.putfield 37, 3) := by decide +kernel
theorem dX7_init_88 : decode cX7_init 88 = .ok (.aload_n 0, 1) := by decide +kernel
theorem dX7_init_89 : decode cX7_init 89 = .ok (.bipush 32, 2) := by decide +kernel
theorem dX7_init_91 : decode cX7_init 91 = .ok (.newarray .int, 2) := by decide +kernel
theorem dX7_init_93 : decode cX7_init 93 = .ok (.putfield 40, 3) := by decide +kernel
theorem dX7_init_96 : decode cX7_init 96 = .ok (.aload_n 0, 1) := by decide +kernel
theorem dX7_init_97 : decode cX7_init 97 = .ok (.bipush 33, 2) := by decide +kernel
theorem dX7_init_99 : decode cX7_init 99 = .ok (.newarray .int, 2) := by decide +kernel
theorem dX7_init_101 : decode cX7_init 101 = .ok (.putfield 43, 3) := by decide +kernel
theorem dX7_init_104 : decode cX7_init 104 = .ok (.aload_n 0, 1) := by decide +kernel
theorem dX7_init_105 : decode cX7_init 105 = .ok (.bipush 32, 2) := by decide +kernel
theorem dX7_init_107 : decode cX7_init 107 = .ok (.newarray .int, 2) := by decide +kernel
theorem dX7_init_109 : decode cX7_init 109 = .ok (.putfield 46, 3) := by decide +kernel
theorem dX7_init_112 : decode cX7_init 112 = .ok (.aload_n 0, 1) := by decide +kernel
theorem dX7_init_113 : decode cX7_init 113 = .ok (.bipush 80, 2) := by decide +kernel
theorem dX7_init_115 : decode cX7_init 115 = .ok (.newarray .int, 2) := by decide +kernel
theorem dX7_init_117 : decode cX7_init 117 = .ok (.putfield 49, 3) := by decide +kernel
theorem dX7_init_120 : decode cX7_init 120 = .ok (.aload_n 0, 1) := by decide +kernel
theorem dX7_init_121 : decode cX7_init 121 = .ok (.bipush 33, 2) := by decide +kernel
theorem dX7_init_123 : decode cX7_init 123 = .ok (.newarray .int, 2) := by decide +kernel
theorem dX7_init_125 : decode cX7_init 125 = .ok (.putfield 52, 3) := by decide +kernel
theorem dX7_init_128 : decode cX7_init 128 = .ok (.aload_n 0, 1) := by decide +kernel
theorem dX7_init_129 : decode cX7_init 129 = .ok (.sipush 429, 3) := by decide +kernel
theorem dX7_init_132 : decode cX7_init 132 = .ok (.newarray .int, 2) := by decide +kernel
theorem dX7_init_134 : decode cX7_init 134 = .ok (.putfield 55, 3) := by decide +kernel
theorem dX7_init_137 : decode cX7_init 137 = .ok (.aload_n 0, 1) := by decide +kernel
theorem dX7_init_138 : decode cX7_init 138 = .ok (.bipush 33, 2) := by decide +kernel
theorem dX7_init_140 : decode cX7_init 140 = .ok (.newarray .int, 2) := by decide +kernel
theorem dX7_init_142 : decode cX7_init 142 = .ok (.putfield 58, 3) := by decide +kernel
theorem dX7_init_145 : decode cX7_init 145 = .ok (.aload_n 0, 1) := by decide +kernel
theorem dX7_init_146 : decode cX7_init 146 = .ok (.bipush 33, 2) := by decide +kernel
theorem dX7_init_148 : decode cX7_init 148 = .ok (.newarray .int, 2) := by decide +kernel
theorem dX7_init_150 : decode cX7_init 150 = .ok (.putfield 61, 3) := by decide +kernel
theorem dX7_init_153 : decode cX7_init 153 = .ok (.aload_n 0, 1) := by decide +kernel
theorem dX7_init_154 : decode cX7_init 154 = .ok (.bipush 32, 2) := by decide +kernel
theorem dX7_init_156 : decode cX7_init 156 = .ok (.newarray .int, 2) := by decide +kernel
theorem dX7_init_158 : decode cX7_init 158 = .ok (.putfield 64, 3) := by decide +kernel
theorem dX7_init_161 : decode cX7_init 161 = .ok (.aload_n 0, 1) := by decide +kernel
theorem dX7_init_162 : decode cX7_init 162 = .ok (.sipush 1024, 3) := by decide +kernel
theorem dX7_init_165 : decode cX7_init 165 = .ok (.newarray .int, 2) := by decide +kernel
theorem dX7_init_167 : decode cX7_init 167 = .ok (.putfield 67, 3) := by decide +kernel
theorem dX7_init_170 : decode cX7_init 170 = .ok (.aload_n 0, 1) := by decide +kernel
theorem dX7_init_171 : decode cX7_init 171 = .ok (.bipush 32, 2) := by decide +kernel
theorem dX7_init_173 : decode cX7_init 173 = .ok (.newarray .int, 2) := by decide +kernel
theorem dX7_init_175 : decode cX7_init 175 = .ok (.putfield 70, 3) := by decide +kernel
theorem dX7_init_178 : decode cX7_init 178 = .ok (.aload_n 0, 1) := by decide +kernel
theorem dX7_init_179 : decode cX7_init 179 = .ok (.bipush 32, 2) := by decide +kernel
theorem dX7_init_181 : decode cX7_init 181 = .ok (.newarray .int, 2) := by decide +kernel
theorem dX7_init_183 : decode cX7_init 183 = .ok (.putfield 73, 3) := by decide +kernel
theorem dX7_init_186 : decode cX7_init 186 = .ok (.aload_n 0, 1) := by decide +kernel
theorem dX7_init_187 : decode cX7_init 187 = .ok (.bipush 33, 2) := by decide +kernel
theorem dX7_init_189 : decode cX7_init 189 = .ok (.newarray .int, 2) := by decide +kernel
theorem dX7_init_191 : decode cX7_init 191 = .ok (.putfield 76, 3) := by decide +kernel
theorem dX7_init_194 : decode cX7_init 194 = .ok (.aload_n 0, 1) := by decide +kernel
theorem dX7_init_195 : decode cX7_init 195 = .ok (.sipush 4000, 3) := by decide +kernel
theorem dX7_init_198 : decode cX7_init 198 = .ok (.newarray .int, 2) := by decide +kernel
theorem dX7_init_200 : decode cX7_init 200 = .ok (.putfield 79, 3) := by decide +kernel
theorem dX7_init_203 : decode cX7_init 203 = .ok (.aload_n 0, 1) := by decide +kernel
theorem dX7_init_204 : decode cX7_init 204 = .ok (.iconst 3, 1) := by decide +kernel
theorem dX7_init_205 : decode cX7_init 205 = .ok (.newarray .int, 2) := by decide +kernel
theorem dX7_init_207 : decode cX7_init 207 = .ok (.putfield 82, 3) := by decide +kernel
theorem dX7_init_210 : decode cX7_init 210 = .ok (.aload_n 0, 1) := by decide +kernel
theorem dX7_init_211 : decode cX7_init 211 = .ok (.bipush 61, 2) := by decide +kernel
theorem dX7_init_213 : decode cX7_init 213 = .ok (.newarray .int, 2) := by decide +kernel
theorem dX7_init_215 : decode cX7_init 215 = .ok (.putfield 85, 3) := by decide +kernel
theorem dX7_init_218 : decode cX7_init 218 = .ok (.aload_n 0, 1) := by decide +kernel
theorem dX7_init_219 : decode cX7_init 219 = .ok (.sipush 183, 3) := by decide +kernel
theorem dX7_init_222 : decode cX7_init 222 = .ok (.newarray .int, 2) := by decide +kernel
theorem dX7_init_224 : decode cX7_init 224 = .ok (.putfield 88, 3) := by decide +kernel
theorem dX7_init_227 : decode cX7_init 227 = .ok (.aload_n 0, 1) := by decide +kernel
theorem dX7_init_228 : decode cX7_init 228 = .ok (.sipush 183, 3) := by decide +kernel
theorem dX7_init_231 : decode cX7_init 231 = .ok (.newarray .int, 2) := by decide +kernel
theorem dX7_init_233 : decode cX7_init 233 = .ok (.putfield 91, 3) := by decide +kernel
theorem dX7_init_236 : decode cX7_init 236 = .ok (.aload_n 0, 1) := by decide +kernel
theorem dX7_init_237 : decode cX7_init 237 = .ok (.iconst 1, 1) := by decide +kernel
theorem dX7_init_238 : decode cX7_init 238 = .ok (.putfield 94, 3) := by decide +kernel
theorem dX7_init_241 : decode cX7_init 241 = .ok (.aload_n 0, 1) := by decide +kernel
theorem dX7_init_242 : decode cX7_init 242 = .ok (.getfield 7, 3) := by decide +kernel
theorem dX7_init_245 : decode cX7_init 245 = .ok (.iconst 0, 1) := by decide +kernel
theorem dX7_init_246 : decode cX7_init 246 = .ok (.iconst 1, 1) := by decide +kernel
theorem dX7_init_247 : decode cX7_init 247 = .ok (.iastore, 1) := by decide +kernel
theorem dX7_init_248 : decode cX7_init 248 = .ok (.return_, 1) := by decide +kernel
theorem dX7_thrown_0 : decode cX7_thrown 0 = .ok (.aload_n 0, 1) := by decide +kernel
theorem dX7_thrown_1 : decode cX7_thrown 1 = .ok (.getfield 98, 3) := by decide +kernel
theorem dX7_thrown_4 : decode cX7_thrown 4 = .ok (.ireturn, 1) := by decide +kernel
theorem dX7_in_0 : decode cX7_in 0 = .ok (.iload_n 0, 1) := by decide +kernel
theorem dX7_in_1 : decode cX7_in 1 = .ok (.iload_n 1, 1) := by decide +kernel
theorem dX7_in_2 : decode cX7_in 2 = .ok (.if_icmp .lt 12, 3) := by decide +kernel
theorem dX7_in_5 : decode cX7_in 5 = .ok (.iload_n 0, 1) := by decide +kernel
theorem dX7_in_6 : decode cX7_in 6 = .ok (.iload_n 2, 1) := by decide +kernel
theorem dX7_in_7 : decode cX7_in 7 = .ok (.if_icmp .gt 7, 3) := by decide +kernel
theorem dX7_in_10 : decode cX7_in 10 = .ok (.iconst 1, 1) := by decide +kernel
theorem dX7_in_11 : decode cX7_in 11 = .ok (.goto 4, 3) := by decide +kernel
theorem dX7_in_14 : decode cX7_in 14 = .ok (.iconst 0, 1) := by decide +kernel
theorem dX7_in_15 : decode cX7_in 15 = .ok (.ireturn, 1) := by decide +kernel
theorem dX7_isNode_0 : decode cX7_isNode 0 = .ok (.iload_n 1, 1) := by decide +kernel
theorem dX7_isNode_1 : decode cX7_isNode 1 = .ok (.iconst 0, 1) := by decide +kernel
theorem dX7_isNode_2 : decode cX7_isNode 2 = .ok (.aload_n 0, 1) := by decide +kernel
theorem dX7_isNode_3 : decode cX7_isNode 3 = .ok (.getfield 94, 3) := by decide +kernel
theorem dX7_isNode_6 : decode cX7_isNode 6 = .ok (.iconst 1, 1) := by decide +kernel
theorem dX7_isNode_7 : decode cX7_isNode 7 = .ok (.isub, 1) := by decide +kernel
theorem dX7_isNode_8 : decode cX7_isNode 8 = .ok (.invokestatic 101, 3) := by decide +kernel
theorem dX7_isNode_11 : decode cX7_isNode 11 = .ok (.ireturn, 1) := by decide +kernel
theorem dX7_isThere_0 : decode cX7_isThere 0 = .ok (.iconst 0, 1) := by decide +kernel
theorem dX7_isThere_1 : decode cX7_isThere 1 = .ok (.istore_n 3, 1) := by decide +kernel
theorem dX7_isThere_2 : decode cX7_isThere 2 = .ok (.iconst 0, 1) := by decide +kernel
theorem dX7_isThere_3 : decode cX7_isThere 3 = .ok (.istore 4, 2) := by decide +kernel
theorem dX7_isThere_5 : decode cX7_isThere 5 = .ok (.iload 4, 2) := by decide +kernel
theorem dX7_isThere_7 : decode cX7_isThere 7 = .ok (.aload_n 0, 1) := by decide +kernel
theorem dX7_isThere_8 : decode cX7_isThere 8 = .ok (.getfield 105, 3) := by decide +kernel
theorem dX7_isThere_11 : decode cX7_isThere 11 = .ok (.if_icmp .ge 41, 3) := by decide +kernel
theorem dX7_isThere_14 : decode cX7_isThere 14 = .ok (.iload_n 3, 1) := by decide +kernel
theorem dX7_isThere_15 : decode cX7_isThere 15 = .ok (.ifCond .ne 25, 3) := by decide +kernel
theorem dX7_isThere_18 : decode cX7_isThere 18 = .ok (.aload_n 0, 1) := by decide +kernel
theorem dX7_isThere_19 : decode cX7_isThere 19 = .ok (.getfield 25, 3) := by decide +kernel
theorem dX7_isThere_22 : decode cX7_isThere 22 = .ok (.iload 4, 2) := by decide +kernel
theorem dX7_isThere_24 : decode cX7_isThere 24 = .ok (.iaload, 1) := by decide +kernel
theorem dX7_isThere_25 : decode cX7_isThere 25 = .ok (.iload_n 1, 1) := by decide +kernel
theorem dX7_isThere_26 : decode cX7_isThere 26 = .ok (.if_icmp .ne 18, 3) := by decide +kernel
theorem dX7_isThere_29 : decode cX7_isThere 29 = .ok (.aload_n 0, 1) := by decide +kernel
theorem dX7_isThere_30 : decode cX7_isThere 30 = .ok (.getfield 28, 3) := by decide +kernel
theorem dX7_isThere_33 : decode cX7_isThere 33 = .ok (.iload 4, 2) := by decide +kernel
theorem dX7_isThere_35 : decode cX7_isThere 35 = .ok (.iaload, 1) := by decide +kernel
theorem dX7_isThere_36 : decode cX7_isThere 36 = .ok (.iload_n 2, 1) := by decide +kernel
theorem dX7_isThere_37 : decode cX7_isThere 37 = .ok (.if_icmp .ne 7, 3) := by decide +kernel
theorem dX7_isThere_40 : decode cX7_isThere 40 = .ok (.iconst 1, 1) := by decide +kernel
theorem dX7_isThere_41 : decode cX7_isThere 41 = .ok (.goto 4, 3) := by decide +kernel
theorem dX7_isThere_44 : decode cX7_isThere 44 = .ok (.iconst 0, 1) := by decide +kernel
theorem dX7_isThere_45 : decode cX7_isThere 45 = .ok (.istore_n 3, 1) := by decide +kernel
theorem dX7_isThere_46 : decode cX7_isThere 46 = .ok (.iinc 4 1, 3) := by decide +kernel
theorem dX7_isThere_49 : decode cX7_isThere 49 = .ok (.goto (-44), 3) := by decide +kernel
theorem dX7_isThere_52 : decode cX7_isThere 52 = .ok (.iload_n 3, 1) := by decide +kernel
theorem dX7_isThere_53 : decode cX7_isThere 53 = .ok (.ireturn, 1) := by decide +kernel
theorem dX7_nameIt_0 : decode cX7_nameIt 0 = .ok (.aload_n 0, 1) := by decide +kernel
theorem dX7_nameIt_1 : decode cX7_nameIt 1 = .ok (.getfield 25, 3) := by decide +kernel
theorem dX7_nameIt_4 : decode cX7_nameIt 4 = .ok (.aload_n 0, 1) := by decide +kernel
theorem dX7_nameIt_5 : decode cX7_nameIt 5 = .ok (.getfield 105, 3) := by decide +kernel
theorem dX7_nameIt_8 : decode cX7_nameIt 8 = .ok (.iload_n 1, 1) := by decide +kernel
theorem dX7_nameIt_9 : decode cX7_nameIt 9 = .ok (.iastore, 1) := by decide +kernel
theorem dX7_nameIt_10 : decode cX7_nameIt 10 = .ok (.aload_n 0, 1) := by decide +kernel
theorem dX7_nameIt_11 : decode cX7_nameIt 11 = .ok (.getfield 28, 3) := by decide +kernel
theorem dX7_nameIt_14 : decode cX7_nameIt 14 = .ok (.aload_n 0, 1) := by decide +kernel
theorem dX7_nameIt_15 : decode cX7_nameIt 15 = .ok (.getfield 105, 3) := by decide +kernel
theorem dX7_nameIt_18 : decode cX7_nameIt 18 = .ok (.iload_n 2, 1) := by decide +kernel
theorem dX7_nameIt_19 : decode cX7_nameIt 19 = .ok (.iastore, 1) := by decide +kernel
theorem dX7_nameIt_20 : decode cX7_nameIt 20 = .ok (.aload_n 0, 1) := by decide +kernel
theorem dX7_nameIt_21 : decode cX7_nameIt 21 = .ok (.getfield 31, 3) := by decide +kernel
theorem dX7_nameIt_24 : decode cX7_nameIt 24 = .ok (.aload_n 0, 1) := by decide +kernel
theorem dX7_nameIt_25 : decode cX7_nameIt 25 = .ok (.getfield 105, 3) := by decide +kernel
theorem dX7_nameIt_28 : decode cX7_nameIt 28 = .ok (.iload_n 3, 1) := by decide +kernel
theorem dX7_nameIt_29 : decode cX7_nameIt 29 = .ok (.iastore, 1) := by decide +kernel
theorem dX7_nameIt_30 : decode cX7_nameIt 30 = .ok (.aload_n 0, 1) := by decide +kernel
theorem dX7_nameIt_31 : decode cX7_nameIt 31 = .ok (.dup, 1) := by decide +kernel
theorem dX7_nameIt_32 : decode cX7_nameIt 32 = .ok (.getfield 105, 3) := by decide +kernel
theorem dX7_nameIt_35 : decode cX7_nameIt 35 = .ok (.iconst 1, 1) := by decide +kernel
theorem dX7_nameIt_36 : decode cX7_nameIt 36 = .ok (.iadd, 1) := by decide +kernel
theorem dX7_nameIt_37 : decode cX7_nameIt 37 = .ok (.putfield 105, 3) := by decide +kernel
theorem dX7_nameIt_40 : decode cX7_nameIt 40 = .ok (.return_, 1) := by decide +kernel
theorem dX7_comes_0 : decode cX7_comes 0 = .ok (.aload_n 0, 1) := by decide +kernel
theorem dX7_comes_1 : decode cX7_comes 1 = .ok (.iconst 0, 1) := by decide +kernel
theorem dX7_comes_2 : decode cX7_comes 2 = .ok (.putfield 98, 3) := by decide +kernel
theorem dX7_comes_5 : decode cX7_comes 5 = .ok (.aload_n 0, 1) := by decide +kernel
theorem dX7_comes_6 : decode cX7_comes 6 = .ok (.iload_n 2, 1) := by decide +kernel
theorem dX7_comes_7 : decode cX7_comes 7 = .ok (.invokevirtual 108, 3) := by decide +kernel
theorem dX7_comes_10 : decode cX7_comes 10 = .ok (.ifCond .ne 5, 3) := by decide +kernel
theorem dX7_comes_13 : decode cX7_comes 13 = .ok (.iconst (-1), 1) := by decide +kernel
theorem dX7_comes_14 : decode cX7_comes 14 = .ok (.ireturn, 1) := by decide +kernel
theorem dX7_comes_15 : decode cX7_comes 15 = .ok (.iload_n 3, 1) := by decide +kernel
theorem dX7_comes_16 : decode cX7_comes 16 = .ok (.iconst 1, 1) := by decide +kernel
theorem dX7_comes_17 : decode cX7_comes 17 = .ok (.sipush 999, 3) := by decide +kernel
theorem dX7_comes_20 : decode cX7_comes 20 = .ok (.invokestatic 101, 3) := by decide +kernel
theorem dX7_comes_23 : decode cX7_comes 23 = .ok (.ifCond .ne 6, 3) := by decide +kernel
theorem dX7_comes_26 : decode cX7_comes 26 = .ok (.bipush (-2), 2) := by decide +kernel
theorem dX7_comes_28 : decode cX7_comes 28 = .ok (.ireturn, 1) := by decide +kernel
theorem dX7_comes_29 : decode cX7_comes 29 = .ok (.aload_n 0, 1) := by decide +kernel
theorem dX7_comes_30 : decode cX7_comes 30 = .ok (.getfield 7, 3) := by decide +kernel
theorem dX7_comes_33 : decode cX7_comes 33 = .ok (.iload_n 2, 1) := by decide +kernel
theorem dX7_comes_34 : decode cX7_comes 34 = .ok (.iaload, 1) := by decide +kernel
theorem dX7_comes_35 : decode cX7_comes 35 = .ok (.iconst 1, 1) := by decide +kernel
theorem dX7_comes_36 : decode cX7_comes 36 = .ok (.if_icmp .ne 12, 3) := by decide +kernel
theorem dX7_comes_39 : decode cX7_comes 39 = .ok (.aload_n 0, 1) := by decide +kernel
theorem dX7_comes_40 : decode cX7_comes 40 = .ok (.iload_n 2, 1) := by decide +kernel
theorem dX7_comes_41 : decode cX7_comes 41 = .ok (.iload_n 3, 1) := by decide +kernel
theorem dX7_comes_42 : decode cX7_comes 42 = .ok (.invokevirtual 112, 3) := by decide +kernel
theorem dX7_comes_45 : decode cX7_comes 45 = .ok (.ifCond .eq 6, 3) := by decide +kernel
theorem dX7_comes_48 : decode cX7_comes 48 = .ok (.bipush (-3), 2) := by decide +kernel
theorem dX7_comes_50 : decode cX7_comes 50 = .ok (.ireturn, 1) := by decide +kernel
theorem dX7_comes_51 : decode cX7_comes 51 = .ok (.aload_n 0, 1) := by decide +kernel
theorem dX7_comes_52 : decode cX7_comes 52 = .ok (.getfield 94, 3) := by decide +kernel
theorem dX7_comes_55 : decode cX7_comes 55 = .ok (.bipush 32, 2) := by decide +kernel
theorem dX7_comes_57 : decode cX7_comes 57 = .ok (.if_icmp .ne 6, 3) := by decide +kernel
theorem dX7_comes_60 : decode cX7_comes 60 = .ok (.bipush (-4), 2) := by decide +kernel
theorem dX7_comes_62 : decode cX7_comes 62 = .ok (.ireturn, 1) := by decide +kernel
theorem dX7_comes_63 : decode cX7_comes 63 = .ok (.aload_n 0, 1) := by decide +kernel
theorem dX7_comes_64 : decode cX7_comes 64 = .ok (.getfield 7, 3) := by decide +kernel
theorem dX7_comes_67 : decode cX7_comes 67 = .ok (.aload_n 0, 1) := by decide +kernel
theorem dX7_comes_68 : decode cX7_comes 68 = .ok (.getfield 94, 3) := by decide +kernel
theorem dX7_comes_71 : decode cX7_comes 71 = .ok (.iload_n 1, 1) := by decide +kernel
theorem dX7_comes_72 : decode cX7_comes 72 = .ok (.iastore, 1) := by decide +kernel
theorem dX7_comes_73 : decode cX7_comes 73 = .ok (.aload_n 0, 1) := by decide +kernel
theorem dX7_comes_74 : decode cX7_comes 74 = .ok (.getfield 13, 3) := by decide +kernel
theorem dX7_comes_77 : decode cX7_comes 77 = .ok (.aload_n 0, 1) := by decide +kernel
theorem dX7_comes_78 : decode cX7_comes 78 = .ok (.getfield 94, 3) := by decide +kernel
theorem dX7_comes_81 : decode cX7_comes 81 = .ok (.iconst 0, 1) := by decide +kernel
theorem dX7_comes_82 : decode cX7_comes 82 = .ok (.iastore, 1) := by decide +kernel
theorem dX7_comes_83 : decode cX7_comes 83 = .ok (.aload_n 0, 1) := by decide +kernel
theorem dX7_comes_84 : decode cX7_comes 84 = .ok (.getfield 16, 3) := by decide +kernel
theorem dX7_comes_87 : decode cX7_comes 87 = .ok (.aload_n 0, 1) := by decide +kernel
theorem dX7_comes_88 : decode cX7_comes 88 = .ok (.getfield 94, 3) := by decide +kernel
theorem dX7_comes_91 : decode cX7_comes 91 = .ok (.iconst 0, 1) := by decide +kernel
theorem dX7_comes_92 : decode cX7_comes 92 = .ok (.iastore, 1) := by decide +kernel
theorem dX7_comes_93 : decode cX7_comes 93 = .ok (.aload_n 0, 1) := by decide +kernel
theorem dX7_comes_94 : decode cX7_comes 94 = .ok (.getfield 19, 3) := by decide +kernel
theorem dX7_comes_97 : decode cX7_comes 97 = .ok (.aload_n 0, 1) := by decide +kernel
theorem dX7_comes_98 : decode cX7_comes 98 = .ok (.getfield 94, 3) := by decide +kernel
theorem dX7_comes_101 : decode cX7_comes 101 = .ok (.iconst 0, 1) := by decide +kernel
theorem dX7_comes_102 : decode cX7_comes 102 = .ok (.iastore, 1) := by decide +kernel
theorem dX7_comes_103 : decode cX7_comes 103 = .ok (.aload_n 0, 1) := by decide +kernel
theorem dX7_comes_104 : decode cX7_comes 104 = .ok (.iload_n 2, 1) := by decide +kernel
theorem dX7_comes_105 : decode cX7_comes 105 = .ok (.iload_n 3, 1) := by decide +kernel
theorem dX7_comes_106 : decode cX7_comes 106 = .ok (.aload_n 0, 1) := by decide +kernel
theorem dX7_comes_107 : decode cX7_comes 107 = .ok (.getfield 94, 3) := by decide +kernel
theorem dX7_comes_110 : decode cX7_comes 110 = .ok (.invokevirtual 116, 3) := by decide +kernel
theorem dX7_comes_113 : decode cX7_comes 113 = .ok (.aload_n 0, 1) := by decide +kernel
theorem dX7_comes_114 : decode cX7_comes 114 = .ok (.dup, 1) := by decide +kernel
theorem dX7_comes_115 : decode cX7_comes 115 = .ok (.getfield 94, 3) := by decide +kernel
theorem dX7_comes_118 : decode cX7_comes 118 = .ok (.iconst 1, 1) := by decide +kernel
theorem dX7_comes_119 : decode cX7_comes 119 = .ok (.iadd, 1) := by decide +kernel
theorem dX7_comes_120 : decode cX7_comes 120 = .ok (.putfield 94, 3) := by decide +kernel
theorem dX7_comes_123 : decode cX7_comes 123 = .ok (.aload_n 0, 1) := by decide +kernel
theorem dX7_comes_124 : decode cX7_comes 124 = .ok (.getfield 94, 3) := by decide +kernel
theorem dX7_comes_127 : decode cX7_comes 127 = .ok (.iconst 1, 1) := by decide +kernel
theorem dX7_comes_128 : decode cX7_comes 128 = .ok (.isub, 1) := by decide +kernel
theorem dX7_comes_129 : decode cX7_comes 129 = .ok (.ireturn, 1) := by decide +kernel
theorem dX7_folder_0 : decode cX7_folder 0 = .ok (.aload_n 0, 1) := by decide +kernel
theorem dX7_folder_1 : decode cX7_folder 1 = .ok (.iconst 1, 1) := by decide +kernel
theorem dX7_folder_2 : decode cX7_folder 2 = .ok (.iload_n 1, 1) := by decide +kernel
theorem dX7_folder_3 : decode cX7_folder 3 = .ok (.iload_n 2, 1) := by decide +kernel
theorem dX7_folder_4 : decode cX7_folder 4 = .ok (.invokevirtual 120, 3) := by decide +kernel
theorem dX7_folder_7 : decode cX7_folder 7 = .ok (.ireturn, 1) := by decide +kernel
theorem dX7_file_0 : decode cX7_file 0 = .ok (.aload_n 0, 1) := by decide +kernel
theorem dX7_file_1 : decode cX7_file 1 = .ok (.iconst 2, 1) := by decide +kernel
theorem dX7_file_2 : decode cX7_file 2 = .ok (.iload_n 1, 1) := by decide +kernel
theorem dX7_file_3 : decode cX7_file 3 = .ok (.iload_n 2, 1) := by decide +kernel
theorem dX7_file_4 : decode cX7_file 4 = .ok (.invokevirtual 120, 3) := by decide +kernel
theorem dX7_file_7 : decode cX7_file 7 = .ok (.ireturn, 1) := by decide +kernel
theorem dX7_hide_0 : decode cX7_hide 0 = .ok (.aload_n 0, 1) := by decide +kernel
theorem dX7_hide_1 : decode cX7_hide 1 = .ok (.iconst 3, 1) := by decide +kernel
theorem dX7_hide_2 : decode cX7_hide 2 = .ok (.iload_n 1, 1) := by decide +kernel
theorem dX7_hide_3 : decode cX7_hide 3 = .ok (.iload_n 2, 1) := by decide +kernel
theorem dX7_hide_4 : decode cX7_hide 4 = .ok (.invokevirtual 120, 3) := by decide +kernel
theorem dX7_hide_7 : decode cX7_hide 7 = .ok (.ireturn, 1) := by decide +kernel
theorem dX7_namesOf_0 : decode cX7_namesOf 0 = .ok (.iconst 0, 1) := by decide +kernel
theorem dX7_namesOf_1 : decode cX7_namesOf 1 = .ok (.istore_n 2, 1) := by decide +kernel
theorem dX7_namesOf_2 : decode cX7_namesOf 2 = .ok (.iconst 0, 1) := by decide +kernel
theorem dX7_namesOf_3 : decode cX7_namesOf 3 = .ok (.istore_n 3, 1) := by decide +kernel
theorem dX7_namesOf_4 : decode cX7_namesOf 4 = .ok (.iload_n 3, 1) := by decide +kernel
theorem dX7_namesOf_5 : decode cX7_namesOf 5 = .ok (.aload_n 0, 1) := by decide +kernel
theorem dX7_namesOf_6 : decode cX7_namesOf 6 = .ok (.getfield 105, 3) := by decide +kernel
theorem dX7_namesOf_9 : decode cX7_namesOf 9 = .ok (.if_icmp .ge 27, 3) := by decide +kernel
theorem dX7_namesOf_12 : decode cX7_namesOf 12 = .ok (.iload_n 2, 1) := by decide +kernel
theorem dX7_namesOf_13 : decode cX7_namesOf 13 = .ok (.aload_n 0, 1) := by decide +kernel
theorem dX7_namesOf_14 : decode cX7_namesOf 14 = .ok (.getfield 31, 3) := by decide +kernel
theorem dX7_namesOf_17 : decode cX7_namesOf 17 = .ok (.iload_n 3, 1) := by decide +kernel
theorem dX7_namesOf_18 : decode cX7_namesOf 18 = .ok (.iaload, 1) := by decide +kernel
theorem dX7_namesOf_19 : decode cX7_namesOf 19 = .ok (.iload_n 1, 1) := by decide +kernel
theorem dX7_namesOf_20 : decode cX7_namesOf 20 = .ok (.if_icmp .ne 7, 3) := by decide +kernel
theorem dX7_namesOf_23 : decode cX7_namesOf 23 = .ok (.iconst 1, 1) := by decide +kernel
theorem dX7_namesOf_24 : decode cX7_namesOf 24 = .ok (.goto 4, 3) := by decide +kernel
theorem dX7_namesOf_27 : decode cX7_namesOf 27 = .ok (.iconst 0, 1) := by decide +kernel
theorem dX7_namesOf_28 : decode cX7_namesOf 28 = .ok (.iadd, 1) := by decide +kernel
theorem dX7_namesOf_29 : decode cX7_namesOf 29 = .ok (.istore_n 2, 1) := by decide +kernel
theorem dX7_namesOf_30 : decode cX7_namesOf 30 = .ok (.iinc 3 1, 3) := by decide +kernel
theorem dX7_namesOf_33 : decode cX7_namesOf 33 = .ok (.goto (-29), 3) := by decide +kernel
theorem dX7_namesOf_36 : decode cX7_namesOf 36 = .ok (.iload_n 2, 1) := by decide +kernel
theorem dX7_namesOf_37 : decode cX7_namesOf 37 = .ok (.ireturn, 1) := by decide +kernel
theorem dX7_link_0 : decode cX7_link 0 = .ok (.aload_n 0, 1) := by decide +kernel
theorem dX7_link_1 : decode cX7_link 1 = .ok (.iconst 0, 1) := by decide +kernel
theorem dX7_link_2 : decode cX7_link 2 = .ok (.putfield 98, 3) := by decide +kernel
theorem dX7_link_5 : decode cX7_link 5 = .ok (.aload_n 0, 1) := by decide +kernel
theorem dX7_link_6 : decode cX7_link 6 = .ok (.iload_n 1, 1) := by decide +kernel
theorem dX7_link_7 : decode cX7_link 7 = .ok (.invokevirtual 108, 3) := by decide +kernel
theorem dX7_link_10 : decode cX7_link 10 = .ok (.ifCond .eq 11, 3) := by decide +kernel
theorem dX7_link_13 : decode cX7_link 13 = .ok (.aload_n 0, 1) := by decide +kernel
theorem dX7_link_14 : decode cX7_link 14 = .ok (.iload_n 3, 1) := by decide +kernel
theorem dX7_link_15 : decode cX7_link 15 = .ok (.invokevirtual 108, 3) := by decide +kernel
theorem dX7_link_18 : decode cX7_link 18 = .ok (.ifCond .ne 5, 3) := by decide +kernel
theorem dX7_link_21 : decode cX7_link 21 = .ok (.iconst (-1), 1) := by decide +kernel
theorem dX7_link_22 : decode cX7_link 22 = .ok (.ireturn, 1) := by decide +kernel
theorem dX7_link_23 : decode cX7_link 23 = .ok (.iload_n 2, 1) := by decide +kernel
theorem dX7_link_24 : decode cX7_link 24 = .ok (.iconst 1, 1) := by decide +kernel
theorem dX7_link_25 : decode cX7_link 25 = .ok (.sipush 999, 3) := by decide +kernel
theorem dX7_link_28 : decode cX7_link 28 = .ok (.invokestatic 101, 3) := by decide +kernel
theorem dX7_link_31 : decode cX7_link 31 = .ok (.ifCond .ne 6, 3) := by decide +kernel
theorem dX7_link_34 : decode cX7_link 34 = .ok (.bipush (-2), 2) := by decide +kernel
theorem dX7_link_36 : decode cX7_link 36 = .ok (.ireturn, 1) := by decide +kernel
theorem dX7_link_37 : decode cX7_link 37 = .ok (.aload_n 0, 1) := by decide +kernel
theorem dX7_link_38 : decode cX7_link 38 = .ok (.getfield 7, 3) := by decide +kernel
theorem dX7_link_41 : decode cX7_link 41 = .ok (.iload_n 1, 1) := by decide +kernel
theorem dX7_link_42 : decode cX7_link 42 = .ok (.iaload, 1) := by decide +kernel
theorem dX7_link_43 : decode cX7_link 43 = .ok (.iconst 1, 1) := by decide +kernel
theorem dX7_link_44 : decode cX7_link 44 = .ok (.if_icmp .ne 22, 3) := by decide +kernel
theorem dX7_link_47 : decode cX7_link 47 = .ok (.aload_n 0, 1) := by decide +kernel
theorem dX7_link_48 : decode cX7_link 48 = .ok (.iload_n 1, 1) := by decide +kernel
theorem dX7_link_49 : decode cX7_link 49 = .ok (.iload_n 2, 1) := by decide +kernel
theorem dX7_link_50 : decode cX7_link 50 = .ok (.invokevirtual 112, 3) := by decide +kernel
theorem dX7_link_53 : decode cX7_link 53 = .ok (.ifCond .ne 13, 3) := by decide +kernel
theorem dX7_link_56 : decode cX7_link 56 = .ok (.aload_n 0, 1) := by decide +kernel
theorem dX7_link_57 : decode cX7_link 57 = .ok (.getfield 7, 3) := by decide +kernel
theorem dX7_link_60 : decode cX7_link 60 = .ok (.iload_n 3, 1) := by decide +kernel
theorem dX7_link_61 : decode cX7_link 61 = .ok (.iaload, 1) := by decide +kernel
theorem dX7_link_62 : decode cX7_link 62 = .ok (.iconst 2, 1) := by decide +kernel
theorem dX7_link_63 : decode cX7_link 63 = .ok (.if_icmp .eq 6, 3) := by decide +kernel
theorem dX7_link_66 : decode cX7_link 66 = .ok (.bipush (-3), 2) := by decide +kernel
theorem dX7_link_68 : decode cX7_link 68 = .ok (.ireturn, 1) := by decide +kernel
theorem dX7_link_69 : decode cX7_link 69 = .ok (.aload_n 0, 1) := by decide +kernel
theorem dX7_link_70 : decode cX7_link 70 = .ok (.iload_n 3, 1) := by decide +kernel
theorem dX7_link_71 : decode cX7_link 71 = .ok (.invokevirtual 124, 3) := by decide +kernel
theorem dX7_link_74 : decode cX7_link 74 = .ok (.bipush 9, 2) := by decide +kernel
theorem dX7_link_76 : decode cX7_link 76 = .ok (.if_icmp .ne 6, 3) := by decide +kernel
theorem dX7_link_79 : decode cX7_link 79 = .ok (.bipush (-4), 2) := by decide +kernel
theorem dX7_link_81 : decode cX7_link 81 = .ok (.ireturn, 1) := by decide +kernel
theorem dX7_link_82 : decode cX7_link 82 = .ok (.aload_n 0, 1) := by decide +kernel
theorem dX7_link_83 : decode cX7_link 83 = .ok (.iload_n 1, 1) := by decide +kernel
theorem dX7_link_84 : decode cX7_link 84 = .ok (.iload_n 2, 1) := by decide +kernel
theorem dX7_link_85 : decode cX7_link 85 = .ok (.iload_n 3, 1) := by decide +kernel
theorem dX7_link_86 : decode cX7_link 86 = .ok (.invokevirtual 116, 3) := by decide +kernel
theorem dX7_link_89 : decode cX7_link 89 = .ok (.aload_n 0, 1) := by decide +kernel
theorem dX7_link_90 : decode cX7_link 90 = .ok (.iload_n 3, 1) := by decide +kernel
theorem dX7_link_91 : decode cX7_link 91 = .ok (.invokevirtual 124, 3) := by decide +kernel
theorem dX7_link_94 : decode cX7_link 94 = .ok (.ireturn, 1) := by decide +kernel
theorem dX7_data_0 : decode cX7_data 0 = .ok (.aload_n 0, 1) := by decide +kernel
theorem dX7_data_1 : decode cX7_data 1 = .ok (.iconst 0, 1) := by decide +kernel
theorem dX7_data_2 : decode cX7_data 2 = .ok (.putfield 98, 3) := by decide +kernel
theorem dX7_data_5 : decode cX7_data 5 = .ok (.aload_n 0, 1) := by decide +kernel
theorem dX7_data_6 : decode cX7_data 6 = .ok (.iload_n 1, 1) := by decide +kernel
theorem dX7_data_7 : decode cX7_data 7 = .ok (.invokevirtual 108, 3) := by decide +kernel
theorem dX7_data_10 : decode cX7_data 10 = .ok (.ifCond .ne 5, 3) := by decide +kernel
theorem dX7_data_13 : decode cX7_data 13 = .ok (.iconst (-1), 1) := by decide +kernel
theorem dX7_data_14 : decode cX7_data 14 = .ok (.ireturn, 1) := by decide +kernel
theorem dX7_data_15 : decode cX7_data 15 = .ok (.iload_n 2, 1) := by decide +kernel
theorem dX7_data_16 : decode cX7_data 16 = .ok (.iconst 0, 1) := by decide +kernel
theorem dX7_data_17 : decode cX7_data 17 = .ok (.sipush 255, 3) := by decide +kernel
theorem dX7_data_20 : decode cX7_data 20 = .ok (.invokestatic 101, 3) := by decide +kernel
theorem dX7_data_23 : decode cX7_data 23 = .ok (.ifCond .eq 13, 3) := by decide +kernel
theorem dX7_data_26 : decode cX7_data 26 = .ok (.iload_n 3, 1) := by decide +kernel
theorem dX7_data_27 : decode cX7_data 27 = .ok (.iconst 1, 1) := by decide +kernel
theorem dX7_data_28 : decode cX7_data 28 = .ok (.bipush 100, 2) := by decide +kernel
theorem dX7_data_30 : decode cX7_data 30 = .ok (.invokestatic 101, 3) := by decide +kernel
theorem dX7_data_33 : decode cX7_data 33 = .ok (.ifCond .ne 6, 3) := by decide +kernel
theorem dX7_data_36 : decode cX7_data 36 = .ok (.bipush (-2), 2) := by decide +kernel
theorem dX7_data_38 : decode cX7_data 38 = .ok (.ireturn, 1) := by decide +kernel
theorem dX7_data_39 : decode cX7_data 39 = .ok (.aload_n 0, 1) := by decide +kernel
theorem dX7_data_40 : decode cX7_data 40 = .ok (.getfield 7, 3) := by decide +kernel
theorem dX7_data_43 : decode cX7_data 43 = .ok (.iload_n 1, 1) := by decide +kernel
theorem dX7_data_44 : decode cX7_data 44 = .ok (.iaload, 1) := by decide +kernel
theorem dX7_data_45 : decode cX7_data 45 = .ok (.iconst 2, 1) := by decide +kernel
theorem dX7_data_46 : decode cX7_data 46 = .ok (.if_icmp .eq 6, 3) := by decide +kernel
theorem dX7_data_49 : decode cX7_data 49 = .ok (.bipush (-3), 2) := by decide +kernel
theorem dX7_data_51 : decode cX7_data 51 = .ok (.ireturn, 1) := by decide +kernel
theorem dX7_data_52 : decode cX7_data 52 = .ok (.aload_n 0, 1) := by decide +kernel
theorem dX7_data_53 : decode cX7_data 53 = .ok (.getfield 19, 3) := by decide +kernel
theorem dX7_data_56 : decode cX7_data 56 = .ok (.iload_n 1, 1) := by decide +kernel
theorem dX7_data_57 : decode cX7_data 57 = .ok (.iaload, 1) := by decide +kernel
theorem dX7_data_58 : decode cX7_data 58 = .ok (.iload_n 3, 1) := by decide +kernel
theorem dX7_data_59 : decode cX7_data 59 = .ok (.iadd, 1) := by decide +kernel
theorem dX7_data_60 : decode cX7_data 60 = .ok (.bipush 100, 2) := by decide +kernel
theorem dX7_data_62 : decode cX7_data 62 = .ok (.if_icmp .le 6, 3) := by decide +kernel
theorem dX7_data_65 : decode cX7_data 65 = .ok (.bipush (-4), 2) := by decide +kernel
theorem dX7_data_67 : decode cX7_data 67 = .ok (.ireturn, 1) := by decide +kernel
theorem dX7_data_68 : decode cX7_data 68 = .ok (.iconst 0, 1) := by decide +kernel
theorem dX7_data_69 : decode cX7_data 69 = .ok (.istore 4, 2) := by decide +kernel
theorem dX7_data_71 : decode cX7_data 71 = .ok (.iload 4, 2) := by decide +kernel
theorem dX7_data_73 : decode cX7_data 73 = .ok (.iload_n 3, 1) := by decide +kernel
theorem dX7_data_74 : decode cX7_data 74 = .ok (.if_icmp .ge 36, 3) := by decide +kernel
theorem dX7_data_77 : decode cX7_data 77 = .ok (.aload_n 0, 1) := by decide +kernel
theorem dX7_data_78 : decode cX7_data 78 = .ok (.getfield 22, 3) := by decide +kernel
theorem dX7_data_81 : decode cX7_data 81 = .ok (.bipush 100, 2) := by decide +kernel
theorem dX7_data_83 : decode cX7_data 83 = .ok (.iload_n 1, 1) := by decide +kernel
theorem dX7_data_84 : decode cX7_data 84 = .ok (.imul, 1) := by decide +kernel
theorem dX7_data_85 : decode cX7_data 85 = .ok (.aload_n 0, 1) := by decide +kernel
theorem dX7_data_86 : decode cX7_data 86 = .ok (.getfield 19, 3) := by decide +kernel
theorem dX7_data_89 : decode cX7_data 89 = .ok (.iload_n 1, 1) := by decide +kernel
theorem dX7_data_90 : decode cX7_data 90 = .ok (.iaload, 1) := by decide +kernel
theorem dX7_data_91 : decode cX7_data 91 = .ok (.iadd, 1) := by decide +kernel
theorem dX7_data_92 : decode cX7_data 92 = .ok (.iload_n 2, 1) := by decide +kernel
theorem dX7_data_93 : decode cX7_data 93 = .ok (.iastore, 1) := by decide +kernel
theorem dX7_data_94 : decode cX7_data 94 = .ok (.aload_n 0, 1) := by decide +kernel
theorem dX7_data_95 : decode cX7_data 95 = .ok (.getfield 19, 3) := by decide +kernel
theorem dX7_data_98 : decode cX7_data 98 = .ok (.iload_n 1, 1) := by decide +kernel
theorem dX7_data_99 : decode cX7_data 99 = .ok (.dup2, 1) := by decide +kernel
theorem dX7_data_100 : decode cX7_data 100 = .ok (.iaload, 1) := by decide +kernel
theorem dX7_data_101 : decode cX7_data 101 = .ok (.iconst 1, 1) := by decide +kernel
theorem dX7_data_102 : decode cX7_data 102 = .ok (.iadd, 1) := by decide +kernel
theorem dX7_data_103 : decode cX7_data 103 = .ok (.iastore, 1) := by decide +kernel
theorem dX7_data_104 : decode cX7_data 104 = .ok (.iinc 4 1, 3) := by decide +kernel
theorem dX7_data_107 : decode cX7_data 107 = .ok (.goto (-36), 3) := by decide +kernel
theorem dX7_data_110 : decode cX7_data 110 = .ok (.aload_n 0, 1) := by decide +kernel
theorem dX7_data_111 : decode cX7_data 111 = .ok (.getfield 19, 3) := by decide +kernel
theorem dX7_data_114 : decode cX7_data 114 = .ok (.iload_n 1, 1) := by decide +kernel
theorem dX7_data_115 : decode cX7_data 115 = .ok (.iaload, 1) := by decide +kernel
theorem dX7_data_116 : decode cX7_data 116 = .ok (.ireturn, 1) := by decide +kernel
theorem dX7_owner_0 : decode cX7_owner 0 = .ok (.aload_n 0, 1) := by decide +kernel
theorem dX7_owner_1 : decode cX7_owner 1 = .ok (.iconst 0, 1) := by decide +kernel
theorem dX7_owner_2 : decode cX7_owner 2 = .ok (.putfield 98, 3) := by decide +kernel
theorem dX7_owner_5 : decode cX7_owner 5 = .ok (.aload_n 0, 1) := by decide +kernel
theorem dX7_owner_6 : decode cX7_owner 6 = .ok (.iload_n 1, 1) := by decide +kernel
theorem dX7_owner_7 : decode cX7_owner 7 = .ok (.invokevirtual 108, 3) := by decide +kernel
theorem dX7_owner_10 : decode cX7_owner 10 = .ok (.ifCond .ne 5, 3) := by decide +kernel
theorem dX7_owner_13 : decode cX7_owner 13 = .ok (.iconst (-1), 1) := by decide +kernel
theorem dX7_owner_14 : decode cX7_owner 14 = .ok (.ireturn, 1) := by decide +kernel
theorem dX7_owner_15 : decode cX7_owner 15 = .ok (.iload_n 2, 1) := by decide +kernel
theorem dX7_owner_16 : decode cX7_owner 16 = .ok (.iconst 0, 1) := by decide +kernel
theorem dX7_owner_17 : decode cX7_owner 17 = .ok (.ldc 128, 2) := by decide +kernel
theorem dX7_owner_19 : decode cX7_owner 19 = .ok (.invokestatic 101, 3) := by decide +kernel
theorem dX7_owner_22 : decode cX7_owner 22 = .ok (.ifCond .eq 13, 3) := by decide +kernel
theorem dX7_owner_25 : decode cX7_owner 25 = .ok (.iload_n 3, 1) := by decide +kernel
theorem dX7_owner_26 : decode cX7_owner 26 = .ok (.iconst 0, 1) := by decide +kernel
theorem dX7_owner_27 : decode cX7_owner 27 = .ok (.ldc 128, 2) := by decide +kernel
theorem dX7_owner_29 : decode cX7_owner 29 = .ok (.invokestatic 101, 3) := by decide +kernel
theorem dX7_owner_32 : decode cX7_owner 32 = .ok (.ifCond .ne 6, 3) := by decide +kernel
theorem dX7_owner_35 : decode cX7_owner 35 = .ok (.bipush (-2), 2) := by decide +kernel
theorem dX7_owner_37 : decode cX7_owner 37 = .ok (.ireturn, 1) := by decide +kernel
theorem dX7_owner_38 : decode cX7_owner 38 = .ok (.aload_n 0, 1) := by decide +kernel
theorem dX7_owner_39 : decode cX7_owner 39 = .ok (.getfield 16, 3) := by decide +kernel
theorem dX7_owner_42 : decode cX7_owner 42 = .ok (.iload_n 1, 1) := by decide +kernel
theorem dX7_owner_43 : decode cX7_owner 43 = .ok (.iload_n 2, 1) := by decide +kernel
theorem dX7_owner_44 : decode cX7_owner 44 = .ok (.iastore, 1) := by decide +kernel
theorem dX7_owner_45 : decode cX7_owner 45 = .ok (.aload_n 0, 1) := by decide +kernel
theorem dX7_owner_46 : decode cX7_owner 46 = .ok (.getfield 13, 3) := by decide +kernel
theorem dX7_owner_49 : decode cX7_owner 49 = .ok (.iload_n 1, 1) := by decide +kernel
theorem dX7_owner_50 : decode cX7_owner 50 = .ok (.iload_n 3, 1) := by decide +kernel
theorem dX7_owner_51 : decode cX7_owner 51 = .ok (.iastore, 1) := by decide +kernel
theorem dX7_owner_52 : decode cX7_owner 52 = .ok (.iconst 1, 1) := by decide +kernel
theorem dX7_owner_53 : decode cX7_owner 53 = .ok (.ireturn, 1) := by decide +kernel
theorem dX7_clear_0 : decode cX7_clear 0 = .ok (.aload_n 0, 1) := by decide +kernel
theorem dX7_clear_1 : decode cX7_clear 1 = .ok (.iconst 0, 1) := by decide +kernel
theorem dX7_clear_2 : decode cX7_clear 2 = .ok (.putfield 98, 3) := by decide +kernel
theorem dX7_clear_5 : decode cX7_clear 5 = .ok (.aload_n 0, 1) := by decide +kernel
theorem dX7_clear_6 : decode cX7_clear 6 = .ok (.getfield 94, 3) := by decide +kernel
theorem dX7_clear_9 : decode cX7_clear 9 = .ok (.istore_n 1, 1) := by decide +kernel
theorem dX7_clear_10 : decode cX7_clear 10 = .ok (.aload_n 0, 1) := by decide +kernel
theorem dX7_clear_11 : decode cX7_clear 11 = .ok (.iconst 1, 1) := by decide +kernel
theorem dX7_clear_12 : decode cX7_clear 12 = .ok (.putfield 94, 3) := by decide +kernel
theorem dX7_clear_15 : decode cX7_clear 15 = .ok (.aload_n 0, 1) := by decide +kernel
theorem dX7_clear_16 : decode cX7_clear 16 = .ok (.iconst 0, 1) := by decide +kernel
theorem dX7_clear_17 : decode cX7_clear 17 = .ok (.putfield 105, 3) := by decide +kernel
theorem dX7_clear_20 : decode cX7_clear 20 = .ok (.aload_n 0, 1) := by decide +kernel
theorem dX7_clear_21 : decode cX7_clear 21 = .ok (.getfield 13, 3) := by decide +kernel
theorem dX7_clear_24 : decode cX7_clear 24 = .ok (.iconst 0, 1) := by decide +kernel
theorem dX7_clear_25 : decode cX7_clear 25 = .ok (.iconst 0, 1) := by decide +kernel
theorem dX7_clear_26 : decode cX7_clear 26 = .ok (.iastore, 1) := by decide +kernel
theorem dX7_clear_27 : decode cX7_clear 27 = .ok (.aload_n 0, 1) := by decide +kernel
theorem dX7_clear_28 : decode cX7_clear 28 = .ok (.getfield 16, 3) := by decide +kernel
theorem dX7_clear_31 : decode cX7_clear 31 = .ok (.iconst 0, 1) := by decide +kernel
theorem dX7_clear_32 : decode cX7_clear 32 = .ok (.iconst 0, 1) := by decide +kernel
theorem dX7_clear_33 : decode cX7_clear 33 = .ok (.iastore, 1) := by decide +kernel
theorem dX7_clear_34 : decode cX7_clear 34 = .ok (.iload_n 1, 1) := by decide +kernel
theorem dX7_clear_35 : decode cX7_clear 35 = .ok (.ireturn, 1) := by decide +kernel
theorem dX7_tell_0 : decode cX7_tell 0 = .ok (.aload_n 0, 1) := by decide +kernel
theorem dX7_tell_1 : decode cX7_tell 1 = .ok (.getfield 34, 3) := by decide +kernel
theorem dX7_tell_4 : decode cX7_tell 4 = .ok (.sipush 6000, 3) := by decide +kernel
theorem dX7_tell_7 : decode cX7_tell 7 = .ok (.aload_n 0, 1) := by decide +kernel
theorem dX7_tell_8 : decode cX7_tell 8 = .ok (.getfield 129, 3) := by decide +kernel
theorem dX7_tell_11 : decode cX7_tell 11 = .ok (.imul, 1) := by decide +kernel
theorem dX7_tell_12 : decode cX7_tell 12 = .ok (.aload_n 0, 1) := by decide +kernel
theorem dX7_tell_13 : decode cX7_tell 13 = .ok (.getfield 132, 3) := by decide +kernel
theorem dX7_tell_16 : decode cX7_tell 16 = .ok (.iadd, 1) := by decide +kernel
theorem dX7_tell_17 : decode cX7_tell 17 = .ok (.iload_n 1, 1) := by decide +kernel
theorem dX7_tell_18 : decode cX7_tell 18 = .ok (.iastore, 1) := by decide +kernel
theorem dX7_tell_19 : decode cX7_tell 19 = .ok (.aload_n 0, 1) := by decide +kernel
theorem dX7_tell_20 : decode cX7_tell 20 = .ok (.dup, 1) := by decide +kernel
theorem dX7_tell_21 : decode cX7_tell 21 = .ok (.getfield 132, 3) := by decide +kernel
theorem dX7_tell_24 : decode cX7_tell 24 = .ok (.iconst 1, 1) := by decide +kernel
theorem dX7_tell_25 : decode cX7_tell 25 = .ok (.iadd, 1) := by decide +kernel
theorem dX7_tell_26 : decode cX7_tell 26 = .ok (.putfield 132, 3) := by decide +kernel
theorem dX7_tell_29 : decode cX7_tell 29 = .ok (.return_, 1) := by decide +kernel
theorem dX7_tellWord_0 : decode cX7_tellWord 0 = .ok (.aload_n 0, 1) := by decide +kernel
theorem dX7_tellWord_1 : decode cX7_tellWord 1 = .ok (.iload_n 1, 1) := by decide +kernel
theorem dX7_tellWord_2 : decode cX7_tellWord 2 = .ok (.bipush 8, 2) := by decide +kernel
theorem dX7_tellWord_4 : decode cX7_tellWord 4 = .ok (.ishr, 1) := by decide +kernel
theorem dX7_tellWord_5 : decode cX7_tellWord 5 = .ok (.sipush 255, 3) := by decide +kernel
theorem dX7_tellWord_8 : decode cX7_tellWord 8 = .ok (.iand, 1) := by decide +kernel
theorem dX7_tellWord_9 : decode cX7_tellWord 9 = .ok (.invokevirtual 135, 3) := by decide +kernel
theorem dX7_tellWord_12 : decode cX7_tellWord 12 = .ok (.aload_n 0, 1) := by decide +kernel
theorem dX7_tellWord_13 : decode cX7_tellWord 13 = .ok (.iload_n 1, 1) := by decide +kernel
theorem dX7_tellWord_14 : decode cX7_tellWord 14 = .ok (.sipush 255, 3) := by decide +kernel
theorem dX7_tellWord_17 : decode cX7_tellWord 17 = .ok (.iand, 1) := by decide +kernel
theorem dX7_tellWord_18 : decode cX7_tellWord 18 = .ok (.invokevirtual 135, 3) := by decide +kernel
theorem dX7_tellWord_21 : decode cX7_tellWord 21 = .ok (.return_, 1) := by decide +kernel
theorem dX7_putWord_0 : decode cX7_putWord 0 = .ok (.aload_n 0, 1) := by decide +kernel
theorem dX7_putWord_1 : decode cX7_putWord 1 = .ok (.getfield 34, 3) := by decide +kernel
theorem dX7_putWord_4 : decode cX7_putWord 4 = .ok (.sipush 6000, 3) := by decide +kernel
theorem dX7_putWord_7 : decode cX7_putWord 7 = .ok (.aload_n 0, 1) := by decide +kernel
theorem dX7_putWord_8 : decode cX7_putWord 8 = .ok (.getfield 129, 3) := by decide +kernel
theorem dX7_putWord_11 : decode cX7_putWord 11 = .ok (.imul, 1) := by decide +kernel
theorem dX7_putWord_12 : decode cX7_putWord 12 = .ok (.iload_n 1, 1) := by decide +kernel
theorem dX7_putWord_13 : decode cX7_putWord 13 = .ok (.iadd, 1) := by decide +kernel
theorem dX7_putWord_14 : decode cX7_putWord 14 = .ok (.iload_n 2, 1) := by decide +kernel
theorem dX7_putWord_15 : decode cX7_putWord 15 = .ok (.bipush 8, 2) := by decide +kernel
theorem dX7_putWord_17 : decode cX7_putWord 17 = .ok (.ishr, 1) := by decide +kernel
theorem dX7_putWord_18 : decode cX7_putWord 18 = .ok (.sipush 255, 3) := by decide +kernel
theorem dX7_putWord_21 : decode cX7_putWord 21 = .ok (.iand, 1) := by decide +kernel
theorem dX7_putWord_22 : decode cX7_putWord 22 = .ok (.iastore, 1) := by decide +kernel
theorem dX7_putWord_23 : decode cX7_putWord 23 = .ok (.aload_n 0, 1) := by decide +kernel
theorem dX7_putWord_24 : decode cX7_putWord 24 = .ok (.getfield 34, 3) := by decide +kernel
theorem dX7_putWord_27 : decode cX7_putWord 27 = .ok (.sipush 6000, 3) := by decide +kernel
theorem dX7_putWord_30 : decode cX7_putWord 30 = .ok (.aload_n 0, 1) := by decide +kernel
theorem dX7_putWord_31 : decode cX7_putWord 31 = .ok (.getfield 129, 3) := by decide +kernel
theorem dX7_putWord_34 : decode cX7_putWord 34 = .ok (.imul, 1) := by decide +kernel
theorem dX7_putWord_35 : decode cX7_putWord 35 = .ok (.iload_n 1, 1) := by decide +kernel
theorem dX7_putWord_36 : decode cX7_putWord 36 = .ok (.iadd, 1) := by decide +kernel
theorem dX7_putWord_37 : decode cX7_putWord 37 = .ok (.iconst 1, 1) := by decide +kernel
theorem dX7_putWord_38 : decode cX7_putWord 38 = .ok (.iadd, 1) := by decide +kernel
theorem dX7_putWord_39 : decode cX7_putWord 39 = .ok (.iload_n 2, 1) := by decide +kernel
theorem dX7_putWord_40 : decode cX7_putWord 40 = .ok (.sipush 255, 3) := by decide +kernel
theorem dX7_putWord_43 : decode cX7_putWord 43 = .ok (.iand, 1) := by decide +kernel
theorem dX7_putWord_44 : decode cX7_putWord 44 = .ok (.iastore, 1) := by decide +kernel
theorem dX7_putWord_45 : decode cX7_putWord 45 = .ok (.return_, 1) := by decide +kernel
theorem dX7_nextName_0 : decode cX7_nextName 0 = .ok (.sipush 1000, 3) := by decide +kernel
theorem dX7_nextName_3 : decode cX7_nextName 3 = .ok (.istore_n 3, 1) := by decide +kernel
theorem dX7_nextName_4 : decode cX7_nextName 4 = .ok (.iconst 0, 1) := by decide +kernel
theorem dX7_nextName_5 : decode cX7_nextName 5 = .ok (.istore 4, 2) := by decide +kernel
theorem dX7_nextName_7 : decode cX7_nextName 7 = .ok (.iload 4, 2) := by decide +kernel
theorem dX7_nextName_9 : decode cX7_nextName 9 = .ok (.aload_n 0, 1) := by decide +kernel
theorem dX7_nextName_10 : decode cX7_nextName 10 = .ok (.getfield 105, 3) := by decide +kernel
theorem dX7_nextName_13 : decode cX7_nextName 13 = .ok (.if_icmp .ge 56, 3) := by decide +kernel
theorem dX7_nextName_16 : decode cX7_nextName 16 = .ok (.aload_n 0, 1) := by decide +kernel
theorem dX7_nextName_17 : decode cX7_nextName 17 = .ok (.getfield 25, 3) := by decide +kernel
theorem dX7_nextName_20 : decode cX7_nextName 20 = .ok (.iload 4, 2) := by decide +kernel
theorem dX7_nextName_22 : decode cX7_nextName 22 = .ok (.iaload, 1) := by decide +kernel
theorem dX7_nextName_23 : decode cX7_nextName 23 = .ok (.iload_n 1, 1) := by decide +kernel
theorem dX7_nextName_24 : decode cX7_nextName 24 = .ok (.if_icmp .ne 39, 3) := by decide +kernel
theorem dX7_nextName_27 : decode cX7_nextName 27 = .ok (.aload_n 0, 1) := by decide +kernel
theorem dX7_nextName_28 : decode cX7_nextName 28 = .ok (.getfield 28, 3) := by decide +kernel
theorem dX7_nextName_31 : decode cX7_nextName 31 = .ok (.iload 4, 2) := by decide +kernel
theorem dX7_nextName_33 : decode cX7_nextName 33 = .ok (.iaload, 1) := by decide +kernel
theorem dX7_nextName_34 : decode cX7_nextName 34 = .ok (.iload_n 2, 1) := by decide +kernel
theorem dX7_nextName_35 : decode cX7_nextName 35 = .ok (.if_icmp .le 28, 3) := by decide +kernel
theorem dX7_nextName_38 : decode cX7_nextName 38 = .ok (.aload_n 0, 1) := by decide +kernel
theorem dX7_nextName_39 : decode cX7_nextName 39 = .ok (.getfield 28, 3) := by decide +kernel
theorem dX7_nextName_42 : decode cX7_nextName 42 = .ok (.iload 4, 2) := by decide +kernel
theorem dX7_nextName_44 : decode cX7_nextName 44 = .ok (.iaload, 1) := by decide +kernel
theorem dX7_nextName_45 : decode cX7_nextName 45 = .ok (.iload_n 3, 1) := by decide +kernel
theorem dX7_nextName_46 : decode cX7_nextName 46 = .ok (.if_icmp .ge 17, 3) := by decide +kernel
theorem dX7_nextName_49 : decode cX7_nextName 49 = .ok (.aload_n 0, 1) := by decide +kernel
theorem dX7_nextName_50 : decode cX7_nextName 50 = .ok (.getfield 28, 3) := by decide +kernel
theorem dX7_nextName_53 : decode cX7_nextName 53 = .ok (.iload 4, 2) := by decide +kernel
theorem dX7_nextName_55 : decode cX7_nextName 55 = .ok (.iaload, 1) := by decide +kernel
theorem dX7_nextName_56 : decode cX7_nextName 56 = .ok (.istore_n 3, 1) := by decide +kernel
theorem dX7_nextName_57 : decode cX7_nextName 57 = .ok (.aload_n 0, 1) := by decide +kernel
theorem dX7_nextName_58 : decode cX7_nextName 58 = .ok (.iload 4, 2) := by decide +kernel
theorem dX7_nextName_60 : decode cX7_nextName 60 = .ok (.putfield 139, 3) := by decide +kernel
theorem dX7_nextName_63 : decode cX7_nextName 63 = .ok (.iinc 4 1, 3) := by decide +kernel
theorem dX7_nextName_66 : decode cX7_nextName 66 = .ok (.goto (-59), 3) := by decide +kernel
theorem dX7_nextName_69 : decode cX7_nextName 69 = .ok (.iload_n 3, 1) := by decide +kernel
theorem dX7_nextName_70 : decode cX7_nextName 70 = .ok (.ireturn, 1) := by decide +kernel
theorem dX7_number_0 : decode cX7_number 0 = .ok (.iconst 0, 1) := by decide +kernel
theorem dX7_number_1 : decode cX7_number 1 = .ok (.istore_n 1, 1) := by decide +kernel
theorem dX7_number_2 : decode cX7_number 2 = .ok (.iload_n 1, 1) := by decide +kernel
theorem dX7_number_3 : decode cX7_number 3 = .ok (.bipush 32, 2) := by decide +kernel
theorem dX7_number_5 : decode cX7_number 5 = .ok (.if_icmp .ge 16, 3) := by decide +kernel
theorem dX7_number_8 : decode cX7_number 8 = .ok (.aload_n 0, 1) := by decide +kernel
theorem dX7_number_9 : decode cX7_number 9 = .ok (.getfield 40, 3) := by decide +kernel
theorem dX7_number_12 : decode cX7_number 12 = .ok (.iload_n 1, 1) := by decide +kernel
theorem dX7_number_13 : decode cX7_number 13 = .ok (.iconst 0, 1) := by decide +kernel
theorem dX7_number_14 : decode cX7_number 14 = .ok (.iastore, 1) := by decide +kernel
theorem dX7_number_15 : decode cX7_number 15 = .ok (.iinc 1 1, 3) := by decide +kernel
theorem dX7_number_18 : decode cX7_number 18 = .ok (.goto (-16), 3) := by decide +kernel
theorem dX7_number_21 : decode cX7_number 21 = .ok (.aload_n 0, 1) := by decide +kernel
theorem dX7_number_22 : decode cX7_number 22 = .ok (.getfield 40, 3) := by decide +kernel
theorem dX7_number_25 : decode cX7_number 25 = .ok (.iconst 0, 1) := by decide +kernel
theorem dX7_number_26 : decode cX7_number 26 = .ok (.iconst 1, 1) := by decide +kernel
theorem dX7_number_27 : decode cX7_number 27 = .ok (.iastore, 1) := by decide +kernel
theorem dX7_number_28 : decode cX7_number 28 = .ok (.aload_n 0, 1) := by decide +kernel
theorem dX7_number_29 : decode cX7_number 29 = .ok (.getfield 43, 3) := by decide +kernel
theorem dX7_number_32 : decode cX7_number 32 = .ok (.iconst 1, 1) := by decide +kernel
theorem dX7_number_33 : decode cX7_number 33 = .ok (.iconst 0, 1) := by decide +kernel
theorem dX7_number_34 : decode cX7_number 34 = .ok (.iastore, 1) := by decide +kernel
theorem dX7_number_35 : decode cX7_number 35 = .ok (.aload_n 0, 1) := by decide +kernel
theorem dX7_number_36 : decode cX7_number 36 = .ok (.iconst 1, 1) := by decide +kernel
theorem dX7_number_37 : decode cX7_number 37 = .ok (.putfield 142, 3) := by decide +kernel
theorem dX7_number_40 : decode cX7_number 40 = .ok (.iconst 1, 1) := by decide +kernel
theorem dX7_number_41 : decode cX7_number 41 = .ok (.istore_n 1, 1) := by decide +kernel
theorem dX7_number_42 : decode cX7_number 42 = .ok (.iload_n 1, 1) := by decide +kernel
theorem dX7_number_43 : decode cX7_number 43 = .ok (.aload_n 0, 1) := by decide +kernel
theorem dX7_number_44 : decode cX7_number 44 = .ok (.getfield 142, 3) := by decide +kernel
theorem dX7_number_47 : decode cX7_number 47 = .ok (.if_icmp .gt 103, 3) := by decide +kernel
theorem dX7_number_50 : decode cX7_number 50 = .ok (.aload_n 0, 1) := by decide +kernel
theorem dX7_number_51 : decode cX7_number 51 = .ok (.getfield 43, 3) := by decide +kernel
theorem dX7_number_54 : decode cX7_number 54 = .ok (.iload_n 1, 1) := by decide +kernel
theorem dX7_number_55 : decode cX7_number 55 = .ok (.iaload, 1) := by decide +kernel
theorem dX7_number_56 : decode cX7_number 56 = .ok (.istore_n 2, 1) := by decide +kernel
theorem dX7_number_57 : decode cX7_number 57 = .ok (.aload_n 0, 1) := by decide +kernel
theorem dX7_number_58 : decode cX7_number 58 = .ok (.getfield 7, 3) := by decide +kernel
theorem dX7_number_61 : decode cX7_number 61 = .ok (.iload_n 2, 1) := by decide +kernel
theorem dX7_number_62 : decode cX7_number 62 = .ok (.iaload, 1) := by decide +kernel
theorem dX7_number_63 : decode cX7_number 63 = .ok (.iconst 1, 1) := by decide +kernel
theorem dX7_number_64 : decode cX7_number 64 = .ok (.if_icmp .ne 80, 3) := by decide +kernel
theorem dX7_number_67 : decode cX7_number 67 = .ok (.aload_n 0, 1) := by decide +kernel
theorem dX7_number_68 : decode cX7_number 68 = .ok (.iload_n 2, 1) := by decide +kernel
theorem dX7_number_69 : decode cX7_number 69 = .ok (.iconst 0, 1) := by decide +kernel
theorem dX7_number_70 : decode cX7_number 70 = .ok (.invokevirtual 145, 3) := by decide +kernel
theorem dX7_number_73 : decode cX7_number 73 = .ok (.istore_n 3, 1) := by decide +kernel
theorem dX7_number_74 : decode cX7_number 74 = .ok (.iload_n 3, 1) := by decide +kernel
theorem dX7_number_75 : decode cX7_number 75 = .ok (.sipush 1000, 3) := by decide +kernel
theorem dX7_number_78 : decode cX7_number 78 = .ok (.if_icmp .ge 66, 3) := by decide +kernel
theorem dX7_number_81 : decode cX7_number 81 = .ok (.aload_n 0, 1) := by decide +kernel
theorem dX7_number_82 : decode cX7_number 82 = .ok (.getfield 31, 3) := by decide +kernel
theorem dX7_number_85 : decode cX7_number 85 = .ok (.aload_n 0, 1) := by decide +kernel
theorem dX7_number_86 : decode cX7_number 86 = .ok (.getfield 139, 3) := by decide +kernel
theorem dX7_number_89 : decode cX7_number 89 = .ok (.iaload, 1) := by decide +kernel
theorem dX7_number_90 : decode cX7_number 90 = .ok (.istore 4, 2) := by decide +kernel
theorem dX7_number_92 : decode cX7_number 92 = .ok (.aload_n 0, 1) := by decide +kernel
theorem dX7_number_93 : decode cX7_number 93 = .ok (.getfield 40, 3) := by decide +kernel
theorem dX7_number_96 : decode cX7_number 96 = .ok (.iload 4, 2) := by decide +kernel
theorem dX7_number_98 : decode cX7_number 98 = .ok (.iaload, 1) := by decide +kernel
theorem dX7_number_99 : decode cX7_number 99 = .ok (.ifCond .ne 35, 3) := by decide +kernel
theorem dX7_number_102 : decode cX7_number 102 = .ok (.aload_n 0, 1) := by decide +kernel
theorem dX7_number_103 : decode cX7_number 103 = .ok (.dup, 1) := by decide +kernel
theorem dX7_number_104 : decode cX7_number 104 = .ok (.getfield 142, 3) := by decide +kernel
theorem dX7_number_107 : decode cX7_number 107 = .ok (.iconst 1, 1) := by decide +kernel
theorem dX7_number_108 : decode cX7_number 108 = .ok (.iadd, 1) := by decide +kernel
theorem dX7_number_109 : decode cX7_number 109 = .ok (.putfield 142, 3) := by decide +kernel
theorem dX7_number_112 : decode cX7_number 112 = .ok (.aload_n 0, 1) := by decide +kernel
theorem dX7_number_113 : decode cX7_number 113 = .ok (.getfield 40, 3) := by decide +kernel
theorem dX7_number_116 : decode cX7_number 116 = .ok (.iload 4, 2) := by decide +kernel
theorem dX7_number_118 : decode cX7_number 118 = .ok (.aload_n 0, 1) := by decide +kernel
theorem dX7_number_119 : decode cX7_number 119 = .ok (.getfield 142, 3) := by decide +kernel
theorem dX7_number_122 : decode cX7_number 122 = .ok (.iastore, 1) := by decide +kernel
theorem dX7_number_123 : decode cX7_number 123 = .ok (.aload_n 0, 1) := by decide +kernel
theorem dX7_number_124 : decode cX7_number 124 = .ok (.getfield 43, 3) := by decide +kernel
theorem dX7_number_127 : decode cX7_number 127 = .ok (.aload_n 0, 1) := by decide +kernel
theorem dX7_number_128 : decode cX7_number 128 = .ok (.getfield 142, 3) := by decide +kernel
theorem dX7_number_131 : decode cX7_number 131 = .ok (.iload 4, 2) := by decide +kernel
theorem dX7_number_133 : decode cX7_number 133 = .ok (.iastore, 1) := by decide +kernel
theorem dX7_number_134 : decode cX7_number 134 = .ok (.aload_n 0, 1) := by decide +kernel
theorem dX7_number_135 : decode cX7_number 135 = .ok (.iload_n 2, 1) := by decide +kernel
theorem dX7_number_136 : decode cX7_number 136 = .ok (.iload_n 3, 1) := by decide +kernel
theorem dX7_number_137 : decode cX7_number 137 = .ok (.invokevirtual 145, 3) := by decide +kernel
theorem dX7_number_140 : decode cX7_number 140 = .ok (.istore_n 3, 1) := by decide +kernel
theorem dX7_number_141 : decode cX7_number 141 = .ok (.goto (-67), 3) := by decide +kernel
theorem dX7_number_144 : decode cX7_number 144 = .ok (.iinc 1 1, 3) := by decide +kernel
theorem dX7_number_147 : decode cX7_number 147 = .ok (.goto (-105), 3) := by decide +kernel
theorem dX7_number_150 : decode cX7_number 150 = .ok (.return_, 1) := by decide +kernel
theorem dX7_alike_0 : decode cX7_alike 0 = .ok (.iload_n 1, 1) := by decide +kernel
theorem dX7_alike_1 : decode cX7_alike 1 = .ok (.istore_n 3, 1) := by decide +kernel
theorem dX7_alike_2 : decode cX7_alike 2 = .ok (.iload_n 3, 1) := by decide +kernel
theorem dX7_alike_3 : decode cX7_alike 3 = .ok (.iload_n 2, 1) := by decide +kernel
theorem dX7_alike_4 : decode cX7_alike 4 = .ok (.if_icmp .ge 24, 3) := by decide +kernel
theorem dX7_alike_7 : decode cX7_alike 7 = .ok (.aload_n 0, 1) := by decide +kernel
theorem dX7_alike_8 : decode cX7_alike 8 = .ok (.getfield 46, 3) := by decide +kernel
theorem dX7_alike_11 : decode cX7_alike 11 = .ok (.iload_n 3, 1) := by decide +kernel
theorem dX7_alike_12 : decode cX7_alike 12 = .ok (.iaload, 1) := by decide +kernel
theorem dX7_alike_13 : decode cX7_alike 13 = .ok (.aload_n 0, 1) := by decide +kernel
theorem dX7_alike_14 : decode cX7_alike 14 = .ok (.getfield 46, 3) := by decide +kernel
theorem dX7_alike_17 : decode cX7_alike 17 = .ok (.iload_n 1, 1) := by decide +kernel
theorem dX7_alike_18 : decode cX7_alike 18 = .ok (.iaload, 1) := by decide +kernel
theorem dX7_alike_19 : decode cX7_alike 19 = .ok (.if_icmp .ne 9, 3) := by decide +kernel
theorem dX7_alike_22 : decode cX7_alike 22 = .ok (.iinc 3 1, 3) := by decide +kernel
theorem dX7_alike_25 : decode cX7_alike 25 = .ok (.goto (-23), 3) := by decide +kernel
theorem dX7_alike_28 : decode cX7_alike 28 = .ok (.iload_n 3, 1) := by decide +kernel
theorem dX7_alike_29 : decode cX7_alike 29 = .ok (.iload_n 1, 1) := by decide +kernel
theorem dX7_alike_30 : decode cX7_alike 30 = .ok (.isub, 1) := by decide +kernel
theorem dX7_alike_31 : decode cX7_alike 31 = .ok (.ireturn, 1) := by decide +kernel
theorem dX7_pack_0 : decode cX7_pack 0 = .ok (.aload_n 0, 1) := by decide +kernel
theorem dX7_pack_1 : decode cX7_pack 1 = .ok (.iconst 0, 1) := by decide +kernel
theorem dX7_pack_2 : decode cX7_pack 2 = .ok (.putfield 149, 3) := by decide +kernel
theorem dX7_pack_5 : decode cX7_pack 5 = .ok (.iconst 0, 1) := by decide +kernel
theorem dX7_pack_6 : decode cX7_pack 6 = .ok (.istore_n 2, 1) := by decide +kernel
theorem dX7_pack_7 : decode cX7_pack 7 = .ok (.iload_n 2, 1) := by decide +kernel
theorem dX7_pack_8 : decode cX7_pack 8 = .ok (.iload_n 1, 1) := by decide +kernel
theorem dX7_pack_9 : decode cX7_pack 9 = .ok (.if_icmp .ge 162, 3) := by decide +kernel
theorem dX7_pack_12 : decode cX7_pack 12 = .ok (.aload_n 0, 1) := by decide +kernel
theorem dX7_pack_13 : decode cX7_pack 13 = .ok (.iload_n 2, 1) := by decide +kernel
theorem dX7_pack_14 : decode cX7_pack 14 = .ok (.iload_n 1, 1) := by decide +kernel
theorem dX7_pack_15 : decode cX7_pack 15 = .ok (.invokevirtual 152, 3) := by decide +kernel
theorem dX7_pack_18 : decode cX7_pack 18 = .ok (.istore_n 3, 1) := by decide +kernel
theorem dX7_pack_19 : decode cX7_pack 19 = .ok (.iload_n 3, 1) := by decide +kernel
theorem dX7_pack_20 : decode cX7_pack 20 = .ok (.iconst 3, 1) := by decide +kernel
theorem dX7_pack_21 : decode cX7_pack 21 = .ok (.if_icmp .lt 51, 3) := by decide +kernel
theorem dX7_pack_24 : decode cX7_pack 24 = .ok (.aload_n 0, 1) := by decide +kernel
theorem dX7_pack_25 : decode cX7_pack 25 = .ok (.getfield 49, 3) := by decide +kernel
theorem dX7_pack_28 : decode cX7_pack 28 = .ok (.aload_n 0, 1) := by decide +kernel
theorem dX7_pack_29 : decode cX7_pack 29 = .ok (.getfield 149, 3) := by decide +kernel
theorem dX7_pack_32 : decode cX7_pack 32 = .ok (.sipush 257, 3) := by decide +kernel
theorem dX7_pack_35 : decode cX7_pack 35 = .ok (.iload_n 3, 1) := by decide +kernel
theorem dX7_pack_36 : decode cX7_pack 36 = .ok (.isub, 1) := by decide +kernel
theorem dX7_pack_37 : decode cX7_pack 37 = .ok (.iastore, 1) := by decide +kernel
theorem dX7_pack_38 : decode cX7_pack 38 = .ok (.aload_n 0, 1) := by decide +kernel
theorem dX7_pack_39 : decode cX7_pack 39 = .ok (.getfield 49, 3) := by decide +kernel
theorem dX7_pack_42 : decode cX7_pack 42 = .ok (.aload_n 0, 1) := by decide +kernel
theorem dX7_pack_43 : decode cX7_pack 43 = .ok (.getfield 149, 3) := by decide +kernel
theorem dX7_pack_46 : decode cX7_pack 46 = .ok (.iconst 1, 1) := by decide +kernel
theorem dX7_pack_47 : decode cX7_pack 47 = .ok (.iadd, 1) := by decide +kernel
theorem dX7_pack_48 : decode cX7_pack 48 = .ok (.aload_n 0, 1) := by decide +kernel
theorem dX7_pack_49 : decode cX7_pack 49 = .ok (.getfield 46, 3) := by decide +kernel
theorem dX7_pack_52 : decode cX7_pack 52 = .ok (.iload_n 2, 1) := by decide +kernel
theorem dX7_pack_53 : decode cX7_pack 53 = .ok (.iaload, 1) := by decide +kernel
theorem dX7_pack_54 : decode cX7_pack 54 = .ok (.iastore, 1) := by decide +kernel
theorem dX7_pack_55 : decode cX7_pack 55 = .ok (.aload_n 0, 1) := by decide +kernel
theorem dX7_pack_56 : decode cX7_pack 56 = .ok (.dup, 1) := by decide +kernel
theorem dX7_pack_57 : decode cX7_pack 57 = .ok (.getfield 149, 3) := by decide +kernel
theorem dX7_pack_60 : decode cX7_pack 60 = .ok (.iconst 2, 1) := by decide +kernel
theorem dX7_pack_61 : decode cX7_pack 61 = .ok (.iadd, 1) := by decide +kernel
theorem dX7_pack_62 : decode cX7_pack 62 = .ok (.putfield 149, 3) := by decide +kernel
theorem dX7_pack_65 : decode cX7_pack 65 = .ok (.iload_n 2, 1) := by decide +kernel
theorem dX7_pack_66 : decode cX7_pack 66 = .ok (.iload_n 3, 1) := by decide +kernel
theorem dX7_pack_67 : decode cX7_pack 67 = .ok (.iadd, 1) := by decide +kernel
theorem dX7_pack_68 : decode cX7_pack 68 = .ok (.istore_n 2, 1) := by decide +kernel
theorem dX7_pack_69 : decode cX7_pack 69 = .ok (.goto 99, 3) := by decide +kernel
theorem dX7_pack_72 : decode cX7_pack 72 = .ok (.iload_n 2, 1) := by decide +kernel
theorem dX7_pack_73 : decode cX7_pack 73 = .ok (.istore 4, 2) := by decide +kernel
theorem dX7_pack_75 : decode cX7_pack 75 = .ok (.iload 4, 2) := by decide +kernel
theorem dX7_pack_77 : decode cX7_pack 77 = .ok (.iload_n 1, 1) := by decide +kernel
theorem dX7_pack_78 : decode cX7_pack 78 = .ok (.if_icmp .ge 20, 3) := by decide +kernel
theorem dX7_pack_81 : decode cX7_pack 81 = .ok (.aload_n 0, 1) := by decide +kernel
theorem dX7_pack_82 : decode cX7_pack 82 = .ok (.iload 4, 2) := by decide +kernel
theorem dX7_pack_84 : decode cX7_pack 84 = .ok (.iload_n 1, 1) := by decide +kernel
theorem dX7_pack_85 : decode cX7_pack 85 = .ok (.invokevirtual 152, 3) := by decide +kernel
theorem dX7_pack_88 : decode cX7_pack 88 = .ok (.iconst 3, 1) := by decide +kernel
theorem dX7_pack_89 : decode cX7_pack 89 = .ok (.if_icmp .ge 9, 3) := by decide +kernel
theorem dX7_pack_92 : decode cX7_pack 92 = .ok (.iinc 4 1, 3) := by decide +kernel
theorem dX7_pack_95 : decode cX7_pack 95 = .ok (.goto (-20), 3) := by decide +kernel
theorem dX7_pack_98 : decode cX7_pack 98 = .ok (.aload_n 0, 1) := by decide +kernel
theorem dX7_pack_99 : decode cX7_pack 99 = .ok (.getfield 49, 3) := by decide +kernel
theorem dX7_pack_102 : decode cX7_pack 102 = .ok (.aload_n 0, 1) := by decide +kernel
theorem dX7_pack_103 : decode cX7_pack 103 = .ok (.getfield 149, 3) := by decide +kernel
theorem dX7_pack_106 : decode cX7_pack 106 = .ok (.iload 4, 2) := by decide +kernel
theorem dX7_pack_108 : decode cX7_pack 108 = .ok (.iload_n 2, 1) := by decide +kernel
theorem dX7_pack_109 : decode cX7_pack 109 = .ok (.isub, 1) := by decide +kernel
theorem dX7_pack_110 : decode cX7_pack 110 = .ok (.iconst 1, 1) := by decide +kernel
theorem dX7_pack_111 : decode cX7_pack 111 = .ok (.isub, 1) := by decide +kernel
theorem dX7_pack_112 : decode cX7_pack 112 = .ok (.iastore, 1) := by decide +kernel
theorem dX7_pack_113 : decode cX7_pack 113 = .ok (.aload_n 0, 1) := by decide +kernel
theorem dX7_pack_114 : decode cX7_pack 114 = .ok (.dup, 1) := by decide +kernel
theorem dX7_pack_115 : decode cX7_pack 115 = .ok (.getfield 149, 3) := by decide +kernel
theorem dX7_pack_118 : decode cX7_pack 118 = .ok (.iconst 1, 1) := by decide +kernel
theorem dX7_pack_119 : decode cX7_pack 119 = .ok (.iadd, 1) := by decide +kernel
theorem dX7_pack_120 : decode cX7_pack 120 = .ok (.putfield 149, 3) := by decide +kernel
theorem dX7_pack_123 : decode cX7_pack 123 = .ok (.iload_n 2, 1) := by decide +kernel
theorem dX7_pack_124 : decode cX7_pack 124 = .ok (.istore 5, 2) := by decide +kernel
theorem dX7_pack_126 : decode cX7_pack 126 = .ok (.iload 5, 2) := by decide +kernel
theorem dX7_pack_128 : decode cX7_pack 128 = .ok (.iload 4, 2) := by decide +kernel
theorem dX7_pack_130 : decode cX7_pack 130 = .ok (.if_icmp .ge 35, 3) := by decide +kernel
theorem dX7_pack_133 : decode cX7_pack 133 = .ok (.aload_n 0, 1) := by decide +kernel
theorem dX7_pack_134 : decode cX7_pack 134 = .ok (.getfield 49, 3) := by decide +kernel
theorem dX7_pack_137 : decode cX7_pack 137 = .ok (.aload_n 0, 1) := by decide +kernel
theorem dX7_pack_138 : decode cX7_pack 138 = .ok (.getfield 149, 3) := by decide +kernel
theorem dX7_pack_141 : decode cX7_pack 141 = .ok (.aload_n 0, 1) := by decide +kernel
theorem dX7_pack_142 : decode cX7_pack 142 = .ok (.getfield 46, 3) := by decide +kernel
theorem dX7_pack_145 : decode cX7_pack 145 = .ok (.iload 5, 2) := by decide +kernel
theorem dX7_pack_147 : decode cX7_pack 147 = .ok (.iaload, 1) := by decide +kernel
theorem dX7_pack_148 : decode cX7_pack 148 = .ok (.iastore, 1) := by decide +kernel
theorem dX7_pack_149 : decode cX7_pack 149 = .ok (.aload_n 0, 1) := by decide +kernel
theorem dX7_pack_150 : decode cX7_pack 150 = .ok (.dup, 1) := by decide +kernel
theorem dX7_pack_151 : decode cX7_pack 151 = .ok (.getfield 149, 3) := by decide +kernel
theorem dX7_pack_154 : decode cX7_pack 154 = .ok (.iconst 1, 1) := by decide +kernel
theorem dX7_pack_155 : decode cX7_pack 155 = .ok (.iadd, 1) := by decide +kernel
theorem dX7_pack_156 : decode cX7_pack 156 = .ok (.putfield 149, 3) := by decide +kernel
theorem dX7_pack_159 : decode cX7_pack 159 = .ok (.iinc 5 1, 3) := by decide +kernel
theorem dX7_pack_162 : decode cX7_pack 162 = .ok (.goto (-36), 3) := by decide +kernel
theorem dX7_pack_165 : decode cX7_pack 165 = .ok (.iload 4, 2) := by decide +kernel
theorem dX7_pack_167 : decode cX7_pack 167 = .ok (.istore_n 2, 1) := by decide +kernel
theorem dX7_pack_168 : decode cX7_pack 168 = .ok (.goto (-161), 3) := by decide +kernel
theorem dX7_pack_171 : decode cX7_pack 171 = .ok (.return_, 1) := by decide +kernel
theorem dX7_store_0 : decode cX7_store 0 = .ok (.iconst 1, 1) := by decide +kernel
theorem dX7_store_1 : decode cX7_store 1 = .ok (.istore_n 2, 1) := by decide +kernel
theorem dX7_store_2 : decode cX7_store 2 = .ok (.iconst 0, 1) := by decide +kernel
theorem dX7_store_3 : decode cX7_store 3 = .ok (.istore_n 3, 1) := by decide +kernel
theorem dX7_store_4 : decode cX7_store 4 = .ok (.iload_n 3, 1) := by decide +kernel
theorem dX7_store_5 : decode cX7_store 5 = .ok (.iload_n 1, 1) := by decide +kernel
theorem dX7_store_6 : decode cX7_store 6 = .ok (.if_icmp .ge 28, 3) := by decide +kernel
theorem dX7_store_9 : decode cX7_store 9 = .ok (.iload_n 2, 1) := by decide +kernel
theorem dX7_store_10 : decode cX7_store 10 = .ok (.ifCond .eq 16, 3) := by decide +kernel
theorem dX7_store_13 : decode cX7_store 13 = .ok (.aload_n 0, 1) := by decide +kernel
theorem dX7_store_14 : decode cX7_store 14 = .ok (.getfield 46, 3) := by decide +kernel
theorem dX7_store_17 : decode cX7_store 17 = .ok (.iload_n 3, 1) := by decide +kernel
theorem dX7_store_18 : decode cX7_store 18 = .ok (.iaload, 1) := by decide +kernel
theorem dX7_store_19 : decode cX7_store 19 = .ok (.ifCond .ne 7, 3) := by decide +kernel
theorem dX7_store_22 : decode cX7_store 22 = .ok (.iconst 1, 1) := by decide +kernel
theorem dX7_store_23 : decode cX7_store 23 = .ok (.goto 4, 3) := by decide +kernel
theorem dX7_store_26 : decode cX7_store 26 = .ok (.iconst 0, 1) := by decide +kernel
theorem dX7_store_27 : decode cX7_store 27 = .ok (.istore_n 2, 1) := by decide +kernel
theorem dX7_store_28 : decode cX7_store 28 = .ok (.iinc 3 1, 3) := by decide +kernel
theorem dX7_store_31 : decode cX7_store 31 = .ok (.goto (-27), 3) := by decide +kernel
theorem dX7_store_34 : decode cX7_store 34 = .ok (.iload_n 2, 1) := by decide +kernel
theorem dX7_store_35 : decode cX7_store 35 = .ok (.ifCond .eq 5, 3) := by decide +kernel
theorem dX7_store_38 : decode cX7_store 38 = .ok (.iconst 0, 1) := by decide +kernel
theorem dX7_store_39 : decode cX7_store 39 = .ok (.ireturn, 1) := by decide +kernel
theorem dX7_store_40 : decode cX7_store 40 = .ok (.aload_n 0, 1) := by decide +kernel
theorem dX7_store_41 : decode cX7_store 41 = .ok (.iload_n 1, 1) := by decide +kernel
theorem dX7_store_42 : decode cX7_store 42 = .ok (.invokevirtual 155, 3) := by decide +kernel
theorem dX7_store_45 : decode cX7_store 45 = .ok (.aload_n 0, 1) := by decide +kernel
theorem dX7_store_46 : decode cX7_store 46 = .ok (.getfield 149, 3) := by decide +kernel
theorem dX7_store_49 : decode cX7_store 49 = .ok (.iload_n 1, 1) := by decide +kernel
theorem dX7_store_50 : decode cX7_store 50 = .ok (.if_icmp .ge 34, 3) := by decide +kernel
theorem dX7_store_53 : decode cX7_store 53 = .ok (.iconst 0, 1) := by decide +kernel
theorem dX7_store_54 : decode cX7_store 54 = .ok (.istore_n 3, 1) := by decide +kernel
theorem dX7_store_55 : decode cX7_store 55 = .ok (.iload_n 3, 1) := by decide +kernel
theorem dX7_store_56 : decode cX7_store 56 = .ok (.aload_n 0, 1) := by decide +kernel
theorem dX7_store_57 : decode cX7_store 57 = .ok (.getfield 149, 3) := by decide +kernel
theorem dX7_store_60 : decode cX7_store 60 = .ok (.if_icmp .ge 19, 3) := by decide +kernel
theorem dX7_store_63 : decode cX7_store 63 = .ok (.aload_n 0, 1) := by decide +kernel
theorem dX7_store_64 : decode cX7_store 64 = .ok (.aload_n 0, 1) := by decide +kernel
theorem dX7_store_65 : decode cX7_store 65 = .ok (.getfield 49, 3) := by decide +kernel
theorem dX7_store_68 : decode cX7_store 68 = .ok (.iload_n 3, 1) := by decide +kernel
theorem dX7_store_69 : decode cX7_store 69 = .ok (.iaload, 1) := by decide +kernel
theorem dX7_store_70 : decode cX7_store 70 = .ok (.invokevirtual 135, 3) := by decide +kernel
theorem dX7_store_73 : decode cX7_store 73 = .ok (.iinc 3 1, 3) := by decide +kernel
theorem dX7_store_76 : decode cX7_store 76 = .ok (.goto (-21), 3) := by decide +kernel
theorem dX7_store_79 : decode cX7_store 79 = .ok (.aload_n 0, 1) := by decide +kernel
theorem dX7_store_80 : decode cX7_store 80 = .ok (.getfield 149, 3) := by decide +kernel
theorem dX7_store_83 : decode cX7_store 83 = .ok (.ireturn, 1) := by decide +kernel
theorem dX7_store_84 : decode cX7_store 84 = .ok (.iconst 0, 1) := by decide +kernel
theorem dX7_store_85 : decode cX7_store 85 = .ok (.istore_n 3, 1) := by decide +kernel
theorem dX7_store_86 : decode cX7_store 86 = .ok (.iload_n 3, 1) := by decide +kernel
theorem dX7_store_87 : decode cX7_store 87 = .ok (.iload_n 1, 1) := by decide +kernel
theorem dX7_store_88 : decode cX7_store 88 = .ok (.if_icmp .ge 19, 3) := by decide +kernel
theorem dX7_store_91 : decode cX7_store 91 = .ok (.aload_n 0, 1) := by decide +kernel
theorem dX7_store_92 : decode cX7_store 92 = .ok (.aload_n 0, 1) := by decide +kernel
theorem dX7_store_93 : decode cX7_store 93 = .ok (.getfield 46, 3) := by decide +kernel
theorem dX7_store_96 : decode cX7_store 96 = .ok (.iload_n 3, 1) := by decide +kernel
theorem dX7_store_97 : decode cX7_store 97 = .ok (.iaload, 1) := by decide +kernel
theorem dX7_store_98 : decode cX7_store 98 = .ok (.invokevirtual 135, 3) := by decide +kernel
theorem dX7_store_101 : decode cX7_store 101 = .ok (.iinc 3 1, 3) := by decide +kernel
theorem dX7_store_104 : decode cX7_store 104 = .ok (.goto (-18), 3) := by decide +kernel
theorem dX7_store_107 : decode cX7_store 107 = .ok (.ldc 158, 2) := by decide +kernel
theorem dX7_store_109 : decode cX7_store 109 = .ok (.iload_n 1, 1) := by decide +kernel
theorem dX7_store_110 : decode cX7_store 110 = .ok (.iadd, 1) := by decide +kernel
theorem dX7_store_111 : decode cX7_store 111 = .ok (.ireturn, 1) := by decide +kernel
theorem dX7_isSameFile_0 : decode cX7_isSameFile 0 = .ok (.aload_n 0, 1) := by decide +kernel
theorem dX7_isSameFile_1 : decode cX7_isSameFile 1 = .ok (.getfield 19, 3) := by decide +kernel
theorem dX7_isSameFile_4 : decode cX7_isSameFile 4 = .ok (.iload_n 1, 1) := by decide +kernel
theorem dX7_isSameFile_5 : decode cX7_isSameFile 5 = .ok (.iaload, 1) := by decide +kernel
theorem dX7_isSameFile_6 : decode cX7_isSameFile 6 = .ok (.aload_n 0, 1) := by decide +kernel
theorem dX7_isSameFile_7 : decode cX7_isSameFile 7 = .ok (.getfield 19, 3) := by decide +kernel
theorem dX7_isSameFile_10 : decode cX7_isSameFile 10 = .ok (.iload_n 2, 1) := by decide +kernel
theorem dX7_isSameFile_11 : decode cX7_isSameFile 11 = .ok (.iaload, 1) := by decide +kernel
theorem dX7_isSameFile_12 : decode cX7_isSameFile 12 = .ok (.if_icmp .ne 7, 3) := by decide +kernel
theorem dX7_isSameFile_15 : decode cX7_isSameFile 15 = .ok (.iconst 1, 1) := by decide +kernel
theorem dX7_isSameFile_16 : decode cX7_isSameFile 16 = .ok (.goto 4, 3) := by decide +kernel
theorem dX7_isSameFile_19 : decode cX7_isSameFile 19 = .ok (.iconst 0, 1) := by decide +kernel
theorem dX7_isSameFile_20 : decode cX7_isSameFile 20 = .ok (.istore_n 3, 1) := by decide +kernel
theorem dX7_isSameFile_21 : decode cX7_isSameFile 21 = .ok (.iconst 0, 1) := by decide +kernel
theorem dX7_isSameFile_22 : decode cX7_isSameFile 22 = .ok (.istore 4, 2) := by decide +kernel
theorem dX7_isSameFile_24 : decode cX7_isSameFile 24 = .ok (.iload 4, 2) := by decide +kernel
theorem dX7_isSameFile_26 : decode cX7_isSameFile 26 = .ok (.aload_n 0, 1) := by decide +kernel
theorem dX7_isSameFile_27 : decode cX7_isSameFile 27 = .ok (.getfield 19, 3) := by decide +kernel
theorem dX7_isSameFile_30 : decode cX7_isSameFile 30 = .ok (.iload_n 1, 1) := by decide +kernel
theorem dX7_isSameFile_31 : decode cX7_isSameFile 31 = .ok (.iaload, 1) := by decide +kernel
theorem dX7_isSameFile_32 : decode cX7_isSameFile 32 = .ok (.if_icmp .ge 46, 3) := by decide +kernel
theorem dX7_isSameFile_35 : decode cX7_isSameFile 35 = .ok (.iload_n 3, 1) := by decide +kernel
theorem dX7_isSameFile_36 : decode cX7_isSameFile 36 = .ok (.ifCond .eq 42, 3) := by decide +kernel
theorem dX7_isSameFile_39 : decode cX7_isSameFile 39 = .ok (.aload_n 0, 1) := by decide +kernel
theorem dX7_isSameFile_40 : decode cX7_isSameFile 40 = .ok (.getfield 22, 3) := by decide +kernel
theorem dX7_isSameFile_43 : decode cX7_isSameFile 43 = .ok (.bipush 100, 2) := by decide +kernel
theorem dX7_isSameFile_45 : decode cX7_isSameFile 45 = .ok (.iload_n 1, 1) := by decide +kernel
theorem dX7_isSameFile_46 : decode cX7_isSameFile 46 = .ok (.imul, 1) := by decide +kernel
