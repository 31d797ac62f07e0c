theorem dX7_isSameFile_47 : decode cX7_isSameFile 47 = .ok (.iload 4, 2) := by decide +kernel
theorem dX7_isSameFile_49 : decode cX7_isSameFile 49 = .ok (.iadd, 1) := by decide +kernel
theorem dX7_isSameFile_50 : decode cX7_isSameFile 50 = .ok (.iaload, 1) := by decide +kernel
theorem dX7_isSameFile_51 : decode cX7_isSameFile 51 = .ok (.aload_n 0, 1) := by decide +kernel
theorem dX7_isSameFile_52 : decode cX7_isSameFile 52 = .ok (.getfield 22, 3) := by decide +kernel
theorem dX7_isSameFile_55 : decode cX7_isSameFile 55 = .ok (.bipush 100, 2) := by decide +kernel
theorem dX7_isSameFile_57 : decode cX7_isSameFile 57 = .ok (.iload_n 2, 1) := by decide +kernel
theorem dX7_isSameFile_58 : decode cX7_isSameFile 58 = .ok (.imul, 1) := by decide +kernel
theorem dX7_isSameFile_59 : decode cX7_isSameFile 59 = .ok (.iload 4, 2) := by decide +kernel
theorem dX7_isSameFile_61 : decode cX7_isSameFile 61 = .ok (.iadd, 1) := by decide +kernel
theorem dX7_isSameFile_62 : decode cX7_isSameFile 62 = .ok (.iaload, 1) := by decide +kernel
theorem dX7_isSameFile_63 : decode cX7_isSameFile 63 = .ok (.if_icmp .ne 7, 3) := by decide +kernel
theorem dX7_isSameFile_66 : decode cX7_isSameFile 66 = .ok (.iconst 1, 1) := by decide +kernel
theorem dX7_isSameFile_67 : decode cX7_isSameFile 67 = .ok (.goto 4, 3) := by decide +kernel
theorem dX7_isSameFile_70 : decode cX7_isSameFile 70 = .ok (.iconst 0, 1) := by decide +kernel
theorem dX7_isSameFile_71 : decode cX7_isSameFile 71 = .ok (.istore_n 3, 1) := by decide +kernel
theorem dX7_isSameFile_72 : decode cX7_isSameFile 72 = .ok (.iinc 4 1, 3) := by decide +kernel
theorem dX7_isSameFile_75 : decode cX7_isSameFile 75 = .ok (.goto (-51), 3) := by decide +kernel
theorem dX7_isSameFile_78 : decode cX7_isSameFile 78 = .ok (.iload_n 3, 1) := by decide +kernel
theorem dX7_isSameFile_79 : decode cX7_isSameFile 79 = .ok (.ireturn, 1) := by decide +kernel
theorem dX7_firstLike_0 : decode cX7_firstLike 0 = .ok (.aload_n 0, 1) := by decide +kernel
theorem dX7_firstLike_1 : decode cX7_firstLike 1 = .ok (.getfield 43, 3) := by decide +kernel
theorem dX7_firstLike_4 : decode cX7_firstLike 4 = .ok (.iload_n 1, 1) := by decide +kernel
theorem dX7_firstLike_5 : decode cX7_firstLike 5 = .ok (.iaload, 1) := by decide +kernel
theorem dX7_firstLike_6 : decode cX7_firstLike 6 = .ok (.istore_n 2, 1) := by decide +kernel
theorem dX7_firstLike_7 : decode cX7_firstLike 7 = .ok (.iconst 1, 1) := by decide +kernel
theorem dX7_firstLike_8 : decode cX7_firstLike 8 = .ok (.istore_n 3, 1) := by decide +kernel
theorem dX7_firstLike_9 : decode cX7_firstLike 9 = .ok (.iload_n 3, 1) := by decide +kernel
theorem dX7_firstLike_10 : decode cX7_firstLike 10 = .ok (.iload_n 1, 1) := by decide +kernel
theorem dX7_firstLike_11 : decode cX7_firstLike 11 = .ok (.if_icmp .ge 49, 3) := by decide +kernel
theorem dX7_firstLike_14 : decode cX7_firstLike 14 = .ok (.aload_n 0, 1) := by decide +kernel
theorem dX7_firstLike_15 : decode cX7_firstLike 15 = .ok (.getfield 19, 3) := by decide +kernel
theorem dX7_firstLike_18 : decode cX7_firstLike 18 = .ok (.iload_n 2, 1) := by decide +kernel
theorem dX7_firstLike_19 : decode cX7_firstLike 19 = .ok (.iaload, 1) := by decide +kernel
theorem dX7_firstLike_20 : decode cX7_firstLike 20 = .ok (.ifCond .le 40, 3) := by decide +kernel
theorem dX7_firstLike_23 : decode cX7_firstLike 23 = .ok (.aload_n 0, 1) := by decide +kernel
theorem dX7_firstLike_24 : decode cX7_firstLike 24 = .ok (.getfield 7, 3) := by decide +kernel
theorem dX7_firstLike_27 : decode cX7_firstLike 27 = .ok (.aload_n 0, 1) := by decide +kernel
theorem dX7_firstLike_28 : decode cX7_firstLike 28 = .ok (.getfield 43, 3) := by decide +kernel
theorem dX7_firstLike_31 : decode cX7_firstLike 31 = .ok (.iload_n 3, 1) := by decide +kernel
theorem dX7_firstLike_32 : decode cX7_firstLike 32 = .ok (.iaload, 1) := by decide +kernel
theorem dX7_firstLike_33 : decode cX7_firstLike 33 = .ok (.iaload, 1) := by decide +kernel
theorem dX7_firstLike_34 : decode cX7_firstLike 34 = .ok (.iconst 2, 1) := by decide +kernel
theorem dX7_firstLike_35 : decode cX7_firstLike 35 = .ok (.if_icmp .ne 19, 3) := by decide +kernel
theorem dX7_firstLike_38 : decode cX7_firstLike 38 = .ok (.aload_n 0, 1) := by decide +kernel
theorem dX7_firstLike_39 : decode cX7_firstLike 39 = .ok (.aload_n 0, 1) := by decide +kernel
theorem dX7_firstLike_40 : decode cX7_firstLike 40 = .ok (.getfield 43, 3) := by decide +kernel
theorem dX7_firstLike_43 : decode cX7_firstLike 43 = .ok (.iload_n 3, 1) := by decide +kernel
theorem dX7_firstLike_44 : decode cX7_firstLike 44 = .ok (.iaload, 1) := by decide +kernel
theorem dX7_firstLike_45 : decode cX7_firstLike 45 = .ok (.iload_n 2, 1) := by decide +kernel
theorem dX7_firstLike_46 : decode cX7_firstLike 46 = .ok (.invokevirtual 159, 3) := by decide +kernel
theorem dX7_firstLike_49 : decode cX7_firstLike 49 = .ok (.ifCond .eq 5, 3) := by decide +kernel
theorem dX7_firstLike_52 : decode cX7_firstLike 52 = .ok (.iload_n 3, 1) := by decide +kernel
theorem dX7_firstLike_53 : decode cX7_firstLike 53 = .ok (.ireturn, 1) := by decide +kernel
theorem dX7_firstLike_54 : decode cX7_firstLike 54 = .ok (.iinc 3 1, 3) := by decide +kernel
theorem dX7_firstLike_57 : decode cX7_firstLike 57 = .ok (.goto (-48), 3) := by decide +kernel
theorem dX7_firstLike_60 : decode cX7_firstLike 60 = .ok (.iload_n 1, 1) := by decide +kernel
theorem dX7_firstLike_61 : decode cX7_firstLike 61 = .ok (.ireturn, 1) := by decide +kernel
theorem dX7_tellFile_0 : decode cX7_tellFile 0 = .ok (.aload_n 0, 1) := by decide +kernel
theorem dX7_tellFile_1 : decode cX7_tellFile 1 = .ok (.getfield 43, 3) := by decide +kernel
theorem dX7_tellFile_4 : decode cX7_tellFile 4 = .ok (.iload_n 1, 1) := by decide +kernel
theorem dX7_tellFile_5 : decode cX7_tellFile 5 = .ok (.iaload, 1) := by decide +kernel
theorem dX7_tellFile_6 : decode cX7_tellFile 6 = .ok (.istore_n 3, 1) := by decide +kernel
theorem dX7_tellFile_7 : decode cX7_tellFile 7 = .ok (.aload_n 0, 1) := by decide +kernel
theorem dX7_tellFile_8 : decode cX7_tellFile 8 = .ok (.getfield 19, 3) := by decide +kernel
theorem dX7_tellFile_11 : decode cX7_tellFile 11 = .ok (.iload_n 3, 1) := by decide +kernel
theorem dX7_tellFile_12 : decode cX7_tellFile 12 = .ok (.iaload, 1) := by decide +kernel
theorem dX7_tellFile_13 : decode cX7_tellFile 13 = .ok (.iload_n 2, 1) := by decide +kernel
theorem dX7_tellFile_14 : decode cX7_tellFile 14 = .ok (.idiv, 1) := by decide +kernel
theorem dX7_tellFile_15 : decode cX7_tellFile 15 = .ok (.istore 4, 2) := by decide +kernel
theorem dX7_tellFile_17 : decode cX7_tellFile 17 = .ok (.aload_n 0, 1) := by decide +kernel
theorem dX7_tellFile_18 : decode cX7_tellFile 18 = .ok (.getfield 52, 3) := by decide +kernel
theorem dX7_tellFile_21 : decode cX7_tellFile 21 = .ok (.iload_n 1, 1) := by decide +kernel
theorem dX7_tellFile_22 : decode cX7_tellFile 22 = .ok (.iload 4, 2) := by decide +kernel
theorem dX7_tellFile_24 : decode cX7_tellFile 24 = .ok (.ifCond .ne 7, 3) := by decide +kernel
theorem dX7_tellFile_27 : decode cX7_tellFile 27 = .ok (.iconst 0, 1) := by decide +kernel
theorem dX7_tellFile_28 : decode cX7_tellFile 28 = .ok (.goto 7, 3) := by decide +kernel
theorem dX7_tellFile_31 : decode cX7_tellFile 31 = .ok (.aload_n 0, 1) := by decide +kernel
theorem dX7_tellFile_32 : decode cX7_tellFile 32 = .ok (.getfield 132, 3) := by decide +kernel
theorem dX7_tellFile_35 : decode cX7_tellFile 35 = .ok (.iastore, 1) := by decide +kernel
theorem dX7_tellFile_36 : decode cX7_tellFile 36 = .ok (.iconst 0, 1) := by decide +kernel
theorem dX7_tellFile_37 : decode cX7_tellFile 37 = .ok (.istore 5, 2) := by decide +kernel
theorem dX7_tellFile_39 : decode cX7_tellFile 39 = .ok (.iload 5, 2) := by decide +kernel
theorem dX7_tellFile_41 : decode cX7_tellFile 41 = .ok (.iload 4, 2) := by decide +kernel
theorem dX7_tellFile_43 : decode cX7_tellFile 43 = .ok (.if_icmp .ge 65, 3) := by decide +kernel
theorem dX7_tellFile_46 : decode cX7_tellFile 46 = .ok (.iconst 0, 1) := by decide +kernel
theorem dX7_tellFile_47 : decode cX7_tellFile 47 = .ok (.istore 6, 2) := by decide +kernel
theorem dX7_tellFile_49 : decode cX7_tellFile 49 = .ok (.iload 6, 2) := by decide +kernel
theorem dX7_tellFile_51 : decode cX7_tellFile 51 = .ok (.iload_n 2, 1) := by decide +kernel
theorem dX7_tellFile_52 : decode cX7_tellFile 52 = .ok (.if_icmp .ge 33, 3) := by decide +kernel
theorem dX7_tellFile_55 : decode cX7_tellFile 55 = .ok (.aload_n 0, 1) := by decide +kernel
theorem dX7_tellFile_56 : decode cX7_tellFile 56 = .ok (.getfield 46, 3) := by decide +kernel
theorem dX7_tellFile_59 : decode cX7_tellFile 59 = .ok (.iload 6, 2) := by decide +kernel
theorem dX7_tellFile_61 : decode cX7_tellFile 61 = .ok (.aload_n 0, 1) := by decide +kernel
theorem dX7_tellFile_62 : decode cX7_tellFile 62 = .ok (.getfield 22, 3) := by decide +kernel
theorem dX7_tellFile_65 : decode cX7_tellFile 65 = .ok (.bipush 100, 2) := by decide +kernel
theorem dX7_tellFile_67 : decode cX7_tellFile 67 = .ok (.iload_n 3, 1) := by decide +kernel
theorem dX7_tellFile_68 : decode cX7_tellFile 68 = .ok (.imul, 1) := by decide +kernel
theorem dX7_tellFile_69 : decode cX7_tellFile 69 = .ok (.iload_n 2, 1) := by decide +kernel
theorem dX7_tellFile_70 : decode cX7_tellFile 70 = .ok (.iload 5, 2) := by decide +kernel
theorem dX7_tellFile_72 : decode cX7_tellFile 72 = .ok (.imul, 1) := by decide +kernel
theorem dX7_tellFile_73 : decode cX7_tellFile 73 = .ok (.iadd, 1) := by decide +kernel
theorem dX7_tellFile_74 : decode cX7_tellFile 74 = .ok (.iload 6, 2) := by decide +kernel
theorem dX7_tellFile_76 : decode cX7_tellFile 76 = .ok (.iadd, 1) := by decide +kernel
theorem dX7_tellFile_77 : decode cX7_tellFile 77 = .ok (.iaload, 1) := by decide +kernel
theorem dX7_tellFile_78 : decode cX7_tellFile 78 = .ok (.iastore, 1) := by decide +kernel
theorem dX7_tellFile_79 : decode cX7_tellFile 79 = .ok (.iinc 6 1, 3) := by decide +kernel
theorem dX7_tellFile_82 : decode cX7_tellFile 82 = .ok (.goto (-33), 3) := by decide +kernel
theorem dX7_tellFile_85 : decode cX7_tellFile 85 = .ok (.aload_n 0, 1) := by decide +kernel
theorem dX7_tellFile_86 : decode cX7_tellFile 86 = .ok (.getfield 55, 3) := by decide +kernel
theorem dX7_tellFile_89 : decode cX7_tellFile 89 = .ok (.bipush 13, 2) := by decide +kernel
theorem dX7_tellFile_91 : decode cX7_tellFile 91 = .ok (.iload_n 1, 1) := by decide +kernel
theorem dX7_tellFile_92 : decode cX7_tellFile 92 = .ok (.imul, 1) := by decide +kernel
theorem dX7_tellFile_93 : decode cX7_tellFile 93 = .ok (.iload 5, 2) := by decide +kernel
theorem dX7_tellFile_95 : decode cX7_tellFile 95 = .ok (.iadd, 1) := by decide +kernel
theorem dX7_tellFile_96 : decode cX7_tellFile 96 = .ok (.aload_n 0, 1) := by decide +kernel
theorem dX7_tellFile_97 : decode cX7_tellFile 97 = .ok (.iload_n 2, 1) := by decide +kernel
theorem dX7_tellFile_98 : decode cX7_tellFile 98 = .ok (.invokevirtual 162, 3) := by decide +kernel
theorem dX7_tellFile_101 : decode cX7_tellFile 101 = .ok (.iastore, 1) := by decide +kernel
theorem dX7_tellFile_102 : decode cX7_tellFile 102 = .ok (.iinc 5 1, 3) := by decide +kernel
theorem dX7_tellFile_105 : decode cX7_tellFile 105 = .ok (.goto (-66), 3) := by decide +kernel
theorem dX7_tellFile_108 : decode cX7_tellFile 108 = .ok (.aload_n 0, 1) := by decide +kernel
theorem dX7_tellFile_109 : decode cX7_tellFile 109 = .ok (.getfield 19, 3) := by decide +kernel
theorem dX7_tellFile_112 : decode cX7_tellFile 112 = .ok (.iload_n 3, 1) := by decide +kernel
theorem dX7_tellFile_113 : decode cX7_tellFile 113 = .ok (.iaload, 1) := by decide +kernel
theorem dX7_tellFile_114 : decode cX7_tellFile 114 = .ok (.iload 4, 2) := by decide +kernel
theorem dX7_tellFile_116 : decode cX7_tellFile 116 = .ok (.iload_n 2, 1) := by decide +kernel
theorem dX7_tellFile_117 : decode cX7_tellFile 117 = .ok (.imul, 1) := by decide +kernel
theorem dX7_tellFile_118 : decode cX7_tellFile 118 = .ok (.isub, 1) := by decide +kernel
theorem dX7_tellFile_119 : decode cX7_tellFile 119 = .ok (.istore 5, 2) := by decide +kernel
theorem dX7_tellFile_121 : decode cX7_tellFile 121 = .ok (.aload_n 0, 1) := by decide +kernel
theorem dX7_tellFile_122 : decode cX7_tellFile 122 = .ok (.getfield 58, 3) := by decide +kernel
theorem dX7_tellFile_125 : decode cX7_tellFile 125 = .ok (.iload_n 1, 1) := by decide +kernel
theorem dX7_tellFile_126 : decode cX7_tellFile 126 = .ok (.iconst 0, 1) := by decide +kernel
theorem dX7_tellFile_127 : decode cX7_tellFile 127 = .ok (.iastore, 1) := by decide +kernel
theorem dX7_tellFile_128 : decode cX7_tellFile 128 = .ok (.aload_n 0, 1) := by decide +kernel
theorem dX7_tellFile_129 : decode cX7_tellFile 129 = .ok (.getfield 61, 3) := by decide +kernel
theorem dX7_tellFile_132 : decode cX7_tellFile 132 = .ok (.iload_n 1, 1) := by decide +kernel
theorem dX7_tellFile_133 : decode cX7_tellFile 133 = .ok (.iconst 0, 1) := by decide +kernel
theorem dX7_tellFile_134 : decode cX7_tellFile 134 = .ok (.iastore, 1) := by decide +kernel
theorem dX7_tellFile_135 : decode cX7_tellFile 135 = .ok (.iload 5, 2) := by decide +kernel
theorem dX7_tellFile_137 : decode cX7_tellFile 137 = .ok (.ifCond .le 141, 3) := by decide +kernel
theorem dX7_tellFile_140 : decode cX7_tellFile 140 = .ok (.aload_n 0, 1) := by decide +kernel
theorem dX7_tellFile_141 : decode cX7_tellFile 141 = .ok (.getfield 165, 3) := by decide +kernel
theorem dX7_tellFile_144 : decode cX7_tellFile 144 = .ok (.ifCond .eq 21, 3) := by decide +kernel
theorem dX7_tellFile_147 : decode cX7_tellFile 147 = .ok (.aload_n 0, 1) := by decide +kernel
theorem dX7_tellFile_148 : decode cX7_tellFile 148 = .ok (.getfield 64, 3) := by decide +kernel
theorem dX7_tellFile_151 : decode cX7_tellFile 151 = .ok (.aload_n 0, 1) := by decide +kernel
theorem dX7_tellFile_152 : decode cX7_tellFile 152 = .ok (.getfield 165, 3) := by decide +kernel
theorem dX7_tellFile_155 : decode cX7_tellFile 155 = .ok (.iconst 1, 1) := by decide +kernel
theorem dX7_tellFile_156 : decode cX7_tellFile 156 = .ok (.isub, 1) := by decide +kernel
theorem dX7_tellFile_157 : decode cX7_tellFile 157 = .ok (.iaload, 1) := by decide +kernel
theorem dX7_tellFile_158 : decode cX7_tellFile 158 = .ok (.iload 5, 2) := by decide +kernel
theorem dX7_tellFile_160 : decode cX7_tellFile 160 = .ok (.iadd, 1) := by decide +kernel
theorem dX7_tellFile_161 : decode cX7_tellFile 161 = .ok (.iload_n 2, 1) := by decide +kernel
theorem dX7_tellFile_162 : decode cX7_tellFile 162 = .ok (.if_icmp .le 23, 3) := by decide +kernel
theorem dX7_tellFile_165 : decode cX7_tellFile 165 = .ok (.aload_n 0, 1) := by decide +kernel
theorem dX7_tellFile_166 : decode cX7_tellFile 166 = .ok (.getfield 64, 3) := by decide +kernel
theorem dX7_tellFile_169 : decode cX7_tellFile 169 = .ok (.aload_n 0, 1) := by decide +kernel
theorem dX7_tellFile_170 : decode cX7_tellFile 170 = .ok (.getfield 165, 3) := by decide +kernel
theorem dX7_tellFile_173 : decode cX7_tellFile 173 = .ok (.iconst 0, 1) := by decide +kernel
theorem dX7_tellFile_174 : decode cX7_tellFile 174 = .ok (.iastore, 1) := by decide +kernel
theorem dX7_tellFile_175 : decode cX7_tellFile 175 = .ok (.aload_n 0, 1) := by decide +kernel
theorem dX7_tellFile_176 : decode cX7_tellFile 176 = .ok (.dup, 1) := by decide +kernel
theorem dX7_tellFile_177 : decode cX7_tellFile 177 = .ok (.getfield 165, 3) := by decide +kernel
theorem dX7_tellFile_180 : decode cX7_tellFile 180 = .ok (.iconst 1, 1) := by decide +kernel
theorem dX7_tellFile_181 : decode cX7_tellFile 181 = .ok (.iadd, 1) := by decide +kernel
theorem dX7_tellFile_182 : decode cX7_tellFile 182 = .ok (.putfield 165, 3) := by decide +kernel
theorem dX7_tellFile_185 : decode cX7_tellFile 185 = .ok (.aload_n 0, 1) := by decide +kernel
theorem dX7_tellFile_186 : decode cX7_tellFile 186 = .ok (.getfield 165, 3) := by decide +kernel
theorem dX7_tellFile_189 : decode cX7_tellFile 189 = .ok (.iconst 1, 1) := by decide +kernel
theorem dX7_tellFile_190 : decode cX7_tellFile 190 = .ok (.isub, 1) := by decide +kernel
theorem dX7_tellFile_191 : decode cX7_tellFile 191 = .ok (.istore 6, 2) := by decide +kernel
theorem dX7_tellFile_193 : decode cX7_tellFile 193 = .ok (.aload_n 0, 1) := by decide +kernel
theorem dX7_tellFile_194 : decode cX7_tellFile 194 = .ok (.getfield 58, 3) := by decide +kernel
theorem dX7_tellFile_197 : decode cX7_tellFile 197 = .ok (.iload_n 1, 1) := by decide +kernel
theorem dX7_tellFile_198 : decode cX7_tellFile 198 = .ok (.aload_n 0, 1) := by decide +kernel
theorem dX7_tellFile_199 : decode cX7_tellFile 199 = .ok (.getfield 165, 3) := by decide +kernel
theorem dX7_tellFile_202 : decode cX7_tellFile 202 = .ok (.iastore, 1) := by decide +kernel
theorem dX7_tellFile_203 : decode cX7_tellFile 203 = .ok (.aload_n 0, 1) := by decide +kernel
theorem dX7_tellFile_204 : decode cX7_tellFile 204 = .ok (.getfield 61, 3) := by decide +kernel
theorem dX7_tellFile_207 : decode cX7_tellFile 207 = .ok (.iload_n 1, 1) := by decide +kernel
theorem dX7_tellFile_208 : decode cX7_tellFile 208 = .ok (.aload_n 0, 1) := by decide +kernel
theorem dX7_tellFile_209 : decode cX7_tellFile 209 = .ok (.getfield 64, 3) := by decide +kernel
theorem dX7_tellFile_212 : decode cX7_tellFile 212 = .ok (.iload 6, 2) := by decide +kernel
theorem dX7_tellFile_214 : decode cX7_tellFile 214 = .ok (.iaload, 1) := by decide +kernel
theorem dX7_tellFile_215 : decode cX7_tellFile 215 = .ok (.iastore, 1) := by decide +kernel
theorem dX7_tellFile_216 : decode cX7_tellFile 216 = .ok (.iconst 0, 1) := by decide +kernel
theorem dX7_tellFile_217 : decode cX7_tellFile 217 = .ok (.istore 7, 2) := by decide +kernel
theorem dX7_tellFile_219 : decode cX7_tellFile 219 = .ok (.iload 7, 2) := by decide +kernel
theorem dX7_tellFile_221 : decode cX7_tellFile 221 = .ok (.iload 5, 2) := by decide +kernel
theorem dX7_tellFile_223 : decode cX7_tellFile 223 = .ok (.if_icmp .ge 55, 3) := by decide +kernel
theorem dX7_tellFile_226 : decode cX7_tellFile 226 = .ok (.aload_n 0, 1) := by decide +kernel
theorem dX7_tellFile_227 : decode cX7_tellFile 227 = .ok (.getfield 67, 3) := by decide +kernel
theorem dX7_tellFile_230 : decode cX7_tellFile 230 = .ok (.bipush 32, 2) := by decide +kernel
theorem dX7_tellFile_232 : decode cX7_tellFile 232 = .ok (.iload 6, 2) := by decide +kernel
theorem dX7_tellFile_234 : decode cX7_tellFile 234 = .ok (.imul, 1) := by decide +kernel
theorem dX7_tellFile_235 : decode cX7_tellFile 235 = .ok (.aload_n 0, 1) := by decide +kernel
theorem dX7_tellFile_236 : decode cX7_tellFile 236 = .ok (.getfield 64, 3) := by decide +kernel
theorem dX7_tellFile_239 : decode cX7_tellFile 239 = .ok (.iload 6, 2) := by decide +kernel
theorem dX7_tellFile_241 : decode cX7_tellFile 241 = .ok (.iaload, 1) := by decide +kernel
theorem dX7_tellFile_242 : decode cX7_tellFile 242 = .ok (.iadd, 1) := by decide +kernel
theorem dX7_tellFile_243 : decode cX7_tellFile 243 = .ok (.aload_n 0, 1) := by decide +kernel
theorem dX7_tellFile_244 : decode cX7_tellFile 244 = .ok (.getfield 22, 3) := by decide +kernel
theorem dX7_tellFile_247 : decode cX7_tellFile 247 = .ok (.bipush 100, 2) := by decide +kernel
theorem dX7_tellFile_249 : decode cX7_tellFile 249 = .ok (.iload_n 3, 1) := by decide +kernel
theorem dX7_tellFile_250 : decode cX7_tellFile 250 = .ok (.imul, 1) := by decide +kernel
theorem dX7_tellFile_251 : decode cX7_tellFile 251 = .ok (.iload_n 2, 1) := by decide +kernel
theorem dX7_tellFile_252 : decode cX7_tellFile 252 = .ok (.iload 4, 2) := by decide +kernel
theorem dX7_tellFile_254 : decode cX7_tellFile 254 = .ok (.imul, 1) := by decide +kernel
theorem dX7_tellFile_255 : decode cX7_tellFile 255 = .ok (.iadd, 1) := by decide +kernel
theorem dX7_tellFile_256 : decode cX7_tellFile 256 = .ok (.iload 7, 2) := by decide +kernel
theorem dX7_tellFile_258 : decode cX7_tellFile 258 = .ok (.iadd, 1) := by decide +kernel
theorem dX7_tellFile_259 : decode cX7_tellFile 259 = .ok (.iaload, 1) := by decide +kernel
theorem dX7_tellFile_260 : decode cX7_tellFile 260 = .ok (.iastore, 1) := by decide +kernel
theorem dX7_tellFile_261 : decode cX7_tellFile 261 = .ok (.aload_n 0, 1) := by decide +kernel
theorem dX7_tellFile_262 : decode cX7_tellFile 262 = .ok (.getfield 64, 3) := by decide +kernel
theorem dX7_tellFile_265 : decode cX7_tellFile 265 = .ok (.iload 6, 2) := by decide +kernel
theorem dX7_tellFile_267 : decode cX7_tellFile 267 = .ok (.dup2, 1) := by decide +kernel
theorem dX7_tellFile_268 : decode cX7_tellFile 268 = .ok (.iaload, 1) := by decide +kernel
theorem dX7_tellFile_269 : decode cX7_tellFile 269 = .ok (.iconst 1, 1) := by decide +kernel
theorem dX7_tellFile_270 : decode cX7_tellFile 270 = .ok (.iadd, 1) := by decide +kernel
theorem dX7_tellFile_271 : decode cX7_tellFile 271 = .ok (.iastore, 1) := by decide +kernel
theorem dX7_tellFile_272 : decode cX7_tellFile 272 = .ok (.iinc 7 1, 3) := by decide +kernel
theorem dX7_tellFile_275 : decode cX7_tellFile 275 = .ok (.goto (-56), 3) := by decide +kernel
theorem dX7_tellFile_278 : decode cX7_tellFile 278 = .ok (.return_, 1) := by decide +kernel
theorem dX7_build_0 : decode cX7_build 0 = .ok (.aload_n 0, 1) := by decide +kernel
theorem dX7_build_1 : decode cX7_build 1 = .ok (.iconst 0, 1) := by decide +kernel
theorem dX7_build_2 : decode cX7_build 2 = .ok (.putfield 98, 3) := by decide +kernel
theorem dX7_build_5 : decode cX7_build 5 = .ok (.iload_n 1, 1) := by decide +kernel
theorem dX7_build_6 : decode cX7_build 6 = .ok (.bipush 8, 2) := by decide +kernel
theorem dX7_build_8 : decode cX7_build 8 = .ok (.if_icmp .eq 18, 3) := by decide +kernel
theorem dX7_build_11 : decode cX7_build 11 = .ok (.iload_n 1, 1) := by decide +kernel
theorem dX7_build_12 : decode cX7_build 12 = .ok (.bipush 16, 2) := by decide +kernel
theorem dX7_build_14 : decode cX7_build 14 = .ok (.if_icmp .eq 12, 3) := by decide +kernel
theorem dX7_build_17 : decode cX7_build 17 = .ok (.iload_n 1, 1) := by decide +kernel
theorem dX7_build_18 : decode cX7_build 18 = .ok (.bipush 32, 2) := by decide +kernel
theorem dX7_build_20 : decode cX7_build 20 = .ok (.if_icmp .eq 6, 3) := by decide +kernel
theorem dX7_build_23 : decode cX7_build 23 = .ok (.bipush (-2), 2) := by decide +kernel
theorem dX7_build_25 : decode cX7_build 25 = .ok (.ireturn, 1) := by decide +kernel
theorem dX7_build_26 : decode cX7_build 26 = .ok (.aload_n 0, 1) := by decide +kernel
theorem dX7_build_27 : decode cX7_build 27 = .ok (.getfield 168, 3) := by decide +kernel
theorem dX7_build_30 : decode cX7_build 30 = .ok (.iconst 3, 1) := by decide +kernel
theorem dX7_build_31 : decode cX7_build 31 = .ok (.if_icmp .ne 6, 3) := by decide +kernel
theorem dX7_build_34 : decode cX7_build 34 = .ok (.bipush (-4), 2) := by decide +kernel
theorem dX7_build_36 : decode cX7_build 36 = .ok (.ireturn, 1) := by decide +kernel
theorem dX7_build_37 : decode cX7_build 37 = .ok (.aload_n 0, 1) := by decide +kernel
theorem dX7_build_38 : decode cX7_build 38 = .ok (.aload_n 0, 1) := by decide +kernel
theorem dX7_build_39 : decode cX7_build 39 = .ok (.getfield 168, 3) := by decide +kernel
theorem dX7_build_42 : decode cX7_build 42 = .ok (.putfield 129, 3) := by decide +kernel
theorem dX7_build_45 : decode cX7_build 45 = .ok (.aload_n 0, 1) := by decide +kernel
theorem dX7_build_46 : decode cX7_build 46 = .ok (.invokevirtual 171, 3) := by decide +kernel
theorem dX7_build_49 : decode cX7_build 49 = .ok (.aload_n 0, 1) := by decide +kernel
theorem dX7_build_50 : decode cX7_build 50 = .ok (.bipush 18, 2) := by decide +kernel
theorem dX7_build_52 : decode cX7_build 52 = .ok (.putfield 132, 3) := by decide +kernel
theorem dX7_build_55 : decode cX7_build 55 = .ok (.aload_n 0, 1) := by decide +kernel
theorem dX7_build_56 : decode cX7_build 56 = .ok (.iconst 0, 1) := by decide +kernel
theorem dX7_build_57 : decode cX7_build 57 = .ok (.putfield 165, 3) := by decide +kernel
theorem dX7_build_60 : decode cX7_build 60 = .ok (.iconst 1, 1) := by decide +kernel
theorem dX7_build_61 : decode cX7_build 61 = .ok (.istore_n 2, 1) := by decide +kernel
theorem dX7_build_62 : decode cX7_build 62 = .ok (.iload_n 2, 1) := by decide +kernel
theorem dX7_build_63 : decode cX7_build 63 = .ok (.aload_n 0, 1) := by decide +kernel
theorem dX7_build_64 : decode cX7_build 64 = .ok (.getfield 142, 3) := by decide +kernel
theorem dX7_build_67 : decode cX7_build 67 = .ok (.if_icmp .gt 120, 3) := by decide +kernel
theorem dX7_build_70 : decode cX7_build 70 = .ok (.aload_n 0, 1) := by decide +kernel
theorem dX7_build_71 : decode cX7_build 71 = .ok (.getfield 7, 3) := by decide +kernel
theorem dX7_build_74 : decode cX7_build 74 = .ok (.aload_n 0, 1) := by decide +kernel
theorem dX7_build_75 : decode cX7_build 75 = .ok (.getfield 43, 3) := by decide +kernel
theorem dX7_build_78 : decode cX7_build 78 = .ok (.iload_n 2, 1) := by decide +kernel
theorem dX7_build_79 : decode cX7_build 79 = .ok (.iaload, 1) := by decide +kernel
theorem dX7_build_80 : decode cX7_build 80 = .ok (.iaload, 1) := by decide +kernel
theorem dX7_build_81 : decode cX7_build 81 = .ok (.iconst 2, 1) := by decide +kernel
theorem dX7_build_82 : decode cX7_build 82 = .ok (.if_icmp .ne 99, 3) := by decide +kernel
theorem dX7_build_85 : decode cX7_build 85 = .ok (.aload_n 0, 1) := by decide +kernel
theorem dX7_build_86 : decode cX7_build 86 = .ok (.iload_n 2, 1) := by decide +kernel
theorem dX7_build_87 : decode cX7_build 87 = .ok (.invokevirtual 174, 3) := by decide +kernel
theorem dX7_build_90 : decode cX7_build 90 = .ok (.istore_n 3, 1) := by decide +kernel
theorem dX7_build_91 : decode cX7_build 91 = .ok (.iload_n 3, 1) := by decide +kernel
theorem dX7_build_92 : decode cX7_build 92 = .ok (.iload_n 2, 1) := by decide +kernel
theorem dX7_build_93 : decode cX7_build 93 = .ok (.if_icmp .ne 12, 3) := by decide +kernel
theorem dX7_build_96 : decode cX7_build 96 = .ok (.aload_n 0, 1) := by decide +kernel
theorem dX7_build_97 : decode cX7_build 97 = .ok (.iload_n 2, 1) := by decide +kernel
theorem dX7_build_98 : decode cX7_build 98 = .ok (.iload_n 1, 1) := by decide +kernel
theorem dX7_build_99 : decode cX7_build 99 = .ok (.invokevirtual 177, 3) := by decide +kernel
theorem dX7_build_102 : decode cX7_build 102 = .ok (.goto 79, 3) := by decide +kernel
theorem dX7_build_105 : decode cX7_build 105 = .ok (.aload_n 0, 1) := by decide +kernel
theorem dX7_build_106 : decode cX7_build 106 = .ok (.getfield 52, 3) := by decide +kernel
theorem dX7_build_109 : decode cX7_build 109 = .ok (.iload_n 2, 1) := by decide +kernel
theorem dX7_build_110 : decode cX7_build 110 = .ok (.aload_n 0, 1) := by decide +kernel
theorem dX7_build_111 : decode cX7_build 111 = .ok (.getfield 52, 3) := by decide +kernel
theorem dX7_build_114 : decode cX7_build 114 = .ok (.iload_n 3, 1) := by decide +kernel
theorem dX7_build_115 : decode cX7_build 115 = .ok (.iaload, 1) := by decide +kernel
theorem dX7_build_116 : decode cX7_build 116 = .ok (.iastore, 1) := by decide +kernel
theorem dX7_build_117 : decode cX7_build 117 = .ok (.aload_n 0, 1) := by decide +kernel
theorem dX7_build_118 : decode cX7_build 118 = .ok (.getfield 58, 3) := by decide +kernel
theorem dX7_build_121 : decode cX7_build 121 = .ok (.iload_n 2, 1) := by decide +kernel
theorem dX7_build_122 : decode cX7_build 122 = .ok (.aload_n 0, 1) := by decide +kernel
theorem dX7_build_123 : decode cX7_build 123 = .ok (.getfield 58, 3) := by decide +kernel
theorem dX7_build_126 : decode cX7_build 126 = .ok (.iload_n 3, 1) := by decide +kernel
theorem dX7_build_127 : decode cX7_build 127 = .ok (.iaload, 1) := by decide +kernel
theorem dX7_build_128 : decode cX7_build 128 = .ok (.iastore, 1) := by decide +kernel
theorem dX7_build_129 : decode cX7_build 129 = .ok (.aload_n 0, 1) := by decide +kernel
theorem dX7_build_130 : decode cX7_build 130 = .ok (.getfield 61, 3) := by decide +kernel
theorem dX7_build_133 : decode cX7_build 133 = .ok (.iload_n 2, 1) := by decide +kernel
theorem dX7_build_134 : decode cX7_build 134 = .ok (.aload_n 0, 1) := by decide +kernel
theorem dX7_build_135 : decode cX7_build 135 = .ok (.getfield 61, 3) := by decide +kernel
theorem dX7_build_138 : decode cX7_build 138 = .ok (.iload_n 3, 1) := by decide +kernel
theorem dX7_build_139 : decode cX7_build 139 = .ok (.iaload, 1) := by decide +kernel
theorem dX7_build_140 : decode cX7_build 140 = .ok (.iastore, 1) := by decide +kernel
theorem dX7_build_141 : decode cX7_build 141 = .ok (.iconst 0, 1) := by decide +kernel
theorem dX7_build_142 : decode cX7_build 142 = .ok (.istore 4, 2) := by decide +kernel
theorem dX7_build_144 : decode cX7_build 144 = .ok (.iload 4, 2) := by decide +kernel
theorem dX7_build_146 : decode cX7_build 146 = .ok (.bipush 13, 2) := by decide +kernel
theorem dX7_build_148 : decode cX7_build 148 = .ok (.if_icmp .ge 33, 3) := by decide +kernel
theorem dX7_build_151 : decode cX7_build 151 = .ok (.aload_n 0, 1) := by decide +kernel
theorem dX7_build_152 : decode cX7_build 152 = .ok (.getfield 55, 3) := by decide +kernel
theorem dX7_build_155 : decode cX7_build 155 = .ok (.bipush 13, 2) := by decide +kernel
theorem dX7_build_157 : decode cX7_build 157 = .ok (.iload_n 2, 1) := by decide +kernel
theorem dX7_build_158 : decode cX7_build 158 = .ok (.imul, 1) := by decide +kernel
theorem dX7_build_159 : decode cX7_build 159 = .ok (.iload 4, 2) := by decide +kernel
theorem dX7_build_161 : decode cX7_build 161 = .ok (.iadd, 1) := by decide +kernel
theorem dX7_build_162 : decode cX7_build 162 = .ok (.aload_n 0, 1) := by decide +kernel
theorem dX7_build_163 : decode cX7_build 163 = .ok (.getfield 55, 3) := by decide +kernel
theorem dX7_build_166 : decode cX7_build 166 = .ok (.bipush 13, 2) := by decide +kernel
theorem dX7_build_168 : decode cX7_build 168 = .ok (.iload_n 3, 1) := by decide +kernel
theorem dX7_build_169 : decode cX7_build 169 = .ok (.imul, 1) := by decide +kernel
theorem dX7_build_170 : decode cX7_build 170 = .ok (.iload 4, 2) := by decide +kernel
theorem dX7_build_172 : decode cX7_build 172 = .ok (.iadd, 1) := by decide +kernel
theorem dX7_build_173 : decode cX7_build 173 = .ok (.iaload, 1) := by decide +kernel
theorem dX7_build_174 : decode cX7_build 174 = .ok (.iastore, 1) := by decide +kernel
theorem dX7_build_175 : decode cX7_build 175 = .ok (.iinc 4 1, 3) := by decide +kernel
theorem dX7_build_178 : decode cX7_build 178 = .ok (.goto (-34), 3) := by decide +kernel
theorem dX7_build_181 : decode cX7_build 181 = .ok (.iinc 2 1, 3) := by decide +kernel
theorem dX7_build_184 : decode cX7_build 184 = .ok (.goto (-122), 3) := by decide +kernel
theorem dX7_build_187 : decode cX7_build 187 = .ok (.iconst 0, 1) := by decide +kernel
theorem dX7_build_188 : decode cX7_build 188 = .ok (.istore_n 2, 1) := by decide +kernel
theorem dX7_build_189 : decode cX7_build 189 = .ok (.iload_n 2, 1) := by decide +kernel
theorem dX7_build_190 : decode cX7_build 190 = .ok (.aload_n 0, 1) := by decide +kernel
theorem dX7_build_191 : decode cX7_build 191 = .ok (.getfield 165, 3) := by decide +kernel
theorem dX7_build_194 : decode cX7_build 194 = .ok (.if_icmp .ge 70, 3) := by decide +kernel
theorem dX7_build_197 : decode cX7_build 197 = .ok (.iconst 0, 1) := by decide +kernel
theorem dX7_build_198 : decode cX7_build 198 = .ok (.istore_n 3, 1) := by decide +kernel
theorem dX7_build_199 : decode cX7_build 199 = .ok (.iload_n 3, 1) := by decide +kernel
theorem dX7_build_200 : decode cX7_build 200 = .ok (.aload_n 0, 1) := by decide +kernel
theorem dX7_build_201 : decode cX7_build 201 = .ok (.getfield 64, 3) := by decide +kernel
theorem dX7_build_204 : decode cX7_build 204 = .ok (.iload_n 2, 1) := by decide +kernel
theorem dX7_build_205 : decode cX7_build 205 = .ok (.iaload, 1) := by decide +kernel
theorem dX7_build_206 : decode cX7_build 206 = .ok (.if_icmp .ge 26, 3) := by decide +kernel
theorem dX7_build_209 : decode cX7_build 209 = .ok (.aload_n 0, 1) := by decide +kernel
theorem dX7_build_210 : decode cX7_build 210 = .ok (.getfield 46, 3) := by decide +kernel
theorem dX7_build_213 : decode cX7_build 213 = .ok (.iload_n 3, 1) := by decide +kernel
theorem dX7_build_214 : decode cX7_build 214 = .ok (.aload_n 0, 1) := by decide +kernel
theorem dX7_build_215 : decode cX7_build 215 = .ok (.getfield 67, 3) := by decide +kernel
theorem dX7_build_218 : decode cX7_build 218 = .ok (.bipush 32, 2) := by decide +kernel
theorem dX7_build_220 : decode cX7_build 220 = .ok (.iload_n 2, 1) := by decide +kernel
theorem dX7_build_221 : decode cX7_build 221 = .ok (.imul, 1) := by decide +kernel
theorem dX7_build_222 : decode cX7_build 222 = .ok (.iload_n 3, 1) := by decide +kernel
theorem dX7_build_223 : decode cX7_build 223 = .ok (.iadd, 1) := by decide +kernel
theorem dX7_build_224 : decode cX7_build 224 = .ok (.iaload, 1) := by decide +kernel
theorem dX7_build_225 : decode cX7_build 225 = .ok (.iastore, 1) := by decide +kernel
theorem dX7_build_226 : decode cX7_build 226 = .ok (.iinc 3 1, 3) := by decide +kernel
theorem dX7_build_229 : decode cX7_build 229 = .ok (.goto (-30), 3) := by decide +kernel
theorem dX7_build_232 : decode cX7_build 232 = .ok (.aload_n 0, 1) := by decide +kernel
theorem dX7_build_233 : decode cX7_build 233 = .ok (.getfield 70, 3) := by decide +kernel
theorem dX7_build_236 : decode cX7_build 236 = .ok (.iload_n 2, 1) := by decide +kernel
theorem dX7_build_237 : decode cX7_build 237 = .ok (.aload_n 0, 1) := by decide +kernel
theorem dX7_build_238 : decode cX7_build 238 = .ok (.getfield 132, 3) := by decide +kernel
theorem dX7_build_241 : decode cX7_build 241 = .ok (.iastore, 1) := by decide +kernel
theorem dX7_build_242 : decode cX7_build 242 = .ok (.aload_n 0, 1) := by decide +kernel
theorem dX7_build_243 : decode cX7_build 243 = .ok (.getfield 73, 3) := by decide +kernel
theorem dX7_build_246 : decode cX7_build 246 = .ok (.iload_n 2, 1) := by decide +kernel
theorem dX7_build_247 : decode cX7_build 247 = .ok (.aload_n 0, 1) := by decide +kernel
theorem dX7_build_248 : decode cX7_build 248 = .ok (.aload_n 0, 1) := by decide +kernel
theorem dX7_build_249 : decode cX7_build 249 = .ok (.getfield 64, 3) := by decide +kernel
theorem dX7_build_252 : decode cX7_build 252 = .ok (.iload_n 2, 1) := by decide +kernel
theorem dX7_build_253 : decode cX7_build 253 = .ok (.iaload, 1) := by decide +kernel
theorem dX7_build_254 : decode cX7_build 254 = .ok (.invokevirtual 162, 3) := by decide +kernel
theorem dX7_build_257 : decode cX7_build 257 = .ok (.iastore, 1) := by decide +kernel
theorem dX7_build_258 : decode cX7_build 258 = .ok (.iinc 2 1, 3) := by decide +kernel
theorem dX7_build_261 : decode cX7_build 261 = .ok (.goto (-72), 3) := by decide +kernel
theorem dX7_build_264 : decode cX7_build 264 = .ok (.aload_n 0, 1) := by decide +kernel
theorem dX7_build_265 : decode cX7_build 265 = .ok (.getfield 132, 3) := by decide +kernel
theorem dX7_build_268 : decode cX7_build 268 = .ok (.istore_n 2, 1) := by decide +kernel
theorem dX7_build_269 : decode cX7_build 269 = .ok (.aload_n 0, 1) := by decide +kernel
theorem dX7_build_270 : decode cX7_build 270 = .ok (.iload_n 1, 1) := by decide +kernel
theorem dX7_build_271 : decode cX7_build 271 = .ok (.invokevirtual 181, 3) := by decide +kernel
theorem dX7_build_274 : decode cX7_build 274 = .ok (.aload_n 0, 1) := by decide +kernel
theorem dX7_build_275 : decode cX7_build 275 = .ok (.getfield 132, 3) := by decide +kernel
theorem dX7_build_278 : decode cX7_build 278 = .ok (.istore_n 3, 1) := by decide +kernel
theorem dX7_build_279 : decode cX7_build 279 = .ok (.iconst 1, 1) := by decide +kernel
theorem dX7_build_280 : decode cX7_build 280 = .ok (.istore 4, 2) := by decide +kernel
theorem dX7_build_282 : decode cX7_build 282 = .ok (.iload 4, 2) := by decide +kernel
theorem dX7_build_284 : decode cX7_build 284 = .ok (.aload_n 0, 1) := by decide +kernel
theorem dX7_build_285 : decode cX7_build 285 = .ok (.getfield 142, 3) := by decide +kernel
theorem dX7_build_288 : decode cX7_build 288 = .ok (.if_icmp .gt 89, 3) := by decide +kernel
theorem dX7_build_291 : decode cX7_build 291 = .ok (.aload_n 0, 1) := by decide +kernel
theorem dX7_build_292 : decode cX7_build 292 = .ok (.getfield 43, 3) := by decide +kernel
theorem dX7_build_295 : decode cX7_build 295 = .ok (.iload 4, 2) := by decide +kernel
theorem dX7_build_297 : decode cX7_build 297 = .ok (.iaload, 1) := by decide +kernel
theorem dX7_build_298 : decode cX7_build 298 = .ok (.istore 5, 2) := by decide +kernel
theorem dX7_build_300 : decode cX7_build 300 = .ok (.aload_n 0, 1) := by decide +kernel
theorem dX7_build_301 : decode cX7_build 301 = .ok (.getfield 7, 3) := by decide +kernel
theorem dX7_build_304 : decode cX7_build 304 = .ok (.iload 5, 2) := by decide +kernel
theorem dX7_build_306 : decode cX7_build 306 = .ok (.iaload, 1) := by decide +kernel
theorem dX7_build_307 : decode cX7_build 307 = .ok (.iconst 1, 1) := by decide +kernel
theorem dX7_build_308 : decode cX7_build 308 = .ok (.if_icmp .ne 13, 3) := by decide +kernel
theorem dX7_build_311 : decode cX7_build 311 = .ok (.aload_n 0, 1) := by decide +kernel
theorem dX7_build_312 : decode cX7_build 312 = .ok (.iload 5, 2) := by decide +kernel
theorem dX7_build_314 : decode cX7_build 314 = .ok (.iconst 0, 1) := by decide +kernel
theorem dX7_build_315 : decode cX7_build 315 = .ok (.invokevirtual 145, 3) := by decide +kernel
theorem dX7_build_318 : decode cX7_build 318 = .ok (.goto 6, 3) := by decide +kernel
theorem dX7_build_321 : decode cX7_build 321 = .ok (.sipush 1000, 3) := by decide +kernel
theorem dX7_build_324 : decode cX7_build 324 = .ok (.istore 6, 2) := by decide +kernel
theorem dX7_build_326 : decode cX7_build 326 = .ok (.iload 6, 2) := by decide +kernel
theorem dX7_build_328 : decode cX7_build 328 = .ok (.sipush 1000, 3) := by decide +kernel
theorem dX7_build_331 : decode cX7_build 331 = .ok (.if_icmp .ge 40, 3) := by decide +kernel
theorem dX7_build_334 : decode cX7_build 334 = .ok (.aload_n 0, 1) := by decide +kernel
theorem dX7_build_335 : decode cX7_build 335 = .ok (.iload 6, 2) := by decide +kernel
theorem dX7_build_337 : decode cX7_build 337 = .ok (.invokevirtual 184, 3) := by decide +kernel
theorem dX7_build_340 : decode cX7_build 340 = .ok (.aload_n 0, 1) := by decide +kernel
theorem dX7_build_341 : decode cX7_build 341 = .ok (.aload_n 0, 1) := by decide +kernel
theorem dX7_build_342 : decode cX7_build 342 = .ok (.getfield 40, 3) := by decide +kernel
theorem dX7_build_345 : decode cX7_build 345 = .ok (.aload_n 0, 1) := by decide +kernel
theorem dX7_build_346 : decode cX7_build 346 = .ok (.getfield 31, 3) := by decide +kernel
theorem dX7_build_349 : decode cX7_build 349 = .ok (.aload_n 0, 1) := by decide +kernel
theorem dX7_build_350 : decode cX7_build 350 = .ok (.getfield 139, 3) := by decide +kernel
theorem dX7_build_353 : decode cX7_build 353 = .ok (.iaload, 1) := by decide +kernel
theorem dX7_build_354 : decode cX7_build 354 = .ok (.iaload, 1) := by decide +kernel
theorem dX7_build_355 : decode cX7_build 355 = .ok (.invokevirtual 184, 3) := by decide +kernel
theorem dX7_build_358 : decode cX7_build 358 = .ok (.aload_n 0, 1) := by decide +kernel
theorem dX7_build_359 : decode cX7_build 359 = .ok (.iload 5, 2) := by decide +kernel
theorem dX7_build_361 : decode cX7_build 361 = .ok (.iload 6, 2) := by decide +kernel
theorem dX7_build_363 : decode cX7_build 363 = .ok (.invokevirtual 145, 3) := by decide +kernel
theorem dX7_build_366 : decode cX7_build 366 = .ok (.istore 6, 2) := by decide +kernel
theorem dX7_build_368 : decode cX7_build 368 = .ok (.goto (-42), 3) := by decide +kernel
theorem dX7_build_371 : decode cX7_build 371 = .ok (.iinc 4 1, 3) := by decide +kernel
theorem dX7_build_374 : decode cX7_build 374 = .ok (.goto (-92), 3) := by decide +kernel
theorem dX7_build_377 : decode cX7_build 377 = .ok (.aload_n 0, 1) := by decide +kernel
theorem dX7_build_378 : decode cX7_build 378 = .ok (.getfield 132, 3) := by decide +kernel
theorem dX7_build_381 : decode cX7_build 381 = .ok (.istore 4, 2) := by decide +kernel
theorem dX7_build_383 : decode cX7_build 383 = .ok (.iconst 0, 1) := by decide +kernel
theorem dX7_build_384 : decode cX7_build 384 = .ok (.istore 5, 2) := by decide +kernel
theorem dX7_build_386 : decode cX7_build 386 = .ok (.iload 5, 2) := by decide +kernel
theorem dX7_build_388 : decode cX7_build 388 = .ok (.aload_n 0, 1) := by decide +kernel
theorem dX7_build_389 : decode cX7_build 389 = .ok (.getfield 165, 3) := by decide +kernel
theorem dX7_build_392 : decode cX7_build 392 = .ok (.if_icmp .ge 42, 3) := by decide +kernel
theorem dX7_build_395 : decode cX7_build 395 = .ok (.aload_n 0, 1) := by decide +kernel
theorem dX7_build_396 : decode cX7_build 396 = .ok (.aload_n 0, 1) := by decide +kernel
theorem dX7_build_397 : decode cX7_build 397 = .ok (.getfield 70, 3) := by decide +kernel
theorem dX7_build_400 : decode cX7_build 400 = .ok (.iload 5, 2) := by decide +kernel
theorem dX7_build_402 : decode cX7_build 402 = .ok (.iaload, 1) := by decide +kernel
theorem dX7_build_403 : decode cX7_build 403 = .ok (.invokevirtual 184, 3) := by decide +kernel
theorem dX7_build_406 : decode cX7_build 406 = .ok (.aload_n 0, 1) := by decide +kernel
theorem dX7_build_407 : decode cX7_build 407 = .ok (.aload_n 0, 1) := by decide +kernel
theorem dX7_build_408 : decode cX7_build 408 = .ok (.getfield 73, 3) := by decide +kernel
theorem dX7_build_411 : decode cX7_build 411 = .ok (.iload 5, 2) := by decide +kernel
theorem dX7_build_413 : decode cX7_build 413 = .ok (.iaload, 1) := by decide +kernel
theorem dX7_build_414 : decode cX7_build 414 = .ok (.invokevirtual 184, 3) := by decide +kernel
theorem dX7_build_417 : decode cX7_build 417 = .ok (.aload_n 0, 1) := by decide +kernel
theorem dX7_build_418 : decode cX7_build 418 = .ok (.aload_n 0, 1) := by decide +kernel
theorem dX7_build_419 : decode cX7_build 419 = .ok (.getfield 64, 3) := by decide +kernel
theorem dX7_build_422 : decode cX7_build 422 = .ok (.iload 5, 2) := by decide +kernel
theorem dX7_build_424 : decode cX7_build 424 = .ok (.iaload, 1) := by decide +kernel
theorem dX7_build_425 : decode cX7_build 425 = .ok (.invokevirtual 135, 3) := by decide +kernel
theorem dX7_build_428 : decode cX7_build 428 = .ok (.iinc 5 1, 3) := by decide +kernel
theorem dX7_build_431 : decode cX7_build 431 = .ok (.goto (-45), 3) := by decide +kernel
theorem dX7_build_434 : decode cX7_build 434 = .ok (.aload_n 0, 1) := by decide +kernel
theorem dX7_build_435 : decode cX7_build 435 = .ok (.getfield 132, 3) := by decide +kernel
theorem dX7_build_438 : decode cX7_build 438 = .ok (.istore 5, 2) := by decide +kernel
theorem dX7_build_440 : decode cX7_build 440 = .ok (.iconst 1, 1) := by decide +kernel
theorem dX7_build_441 : decode cX7_build 441 = .ok (.istore 6, 2) := by decide +kernel
theorem dX7_build_443 : decode cX7_build 443 = .ok (.iload 6, 2) := by decide +kernel
theorem dX7_build_445 : decode cX7_build 445 = .ok (.aload_n 0, 1) := by decide +kernel
theorem dX7_build_446 : decode cX7_build 446 = .ok (.getfield 142, 3) := by decide +kernel
theorem dX7_build_449 : decode cX7_build 449 = .ok (.if_icmp .gt 20, 3) := by decide +kernel
theorem dX7_build_452 : decode cX7_build 452 = .ok (.aload_n 0, 1) := by decide +kernel
theorem dX7_build_453 : decode cX7_build 453 = .ok (.aload_n 0, 1) := by decide +kernel
theorem dX7_build_454 : decode cX7_build 454 = .ok (.getfield 76, 3) := by decide +kernel
theorem dX7_build_457 : decode cX7_build 457 = .ok (.iload 6, 2) := by decide +kernel
theorem dX7_build_459 : decode cX7_build 459 = .ok (.iaload, 1) := by decide +kernel
theorem dX7_build_460 : decode cX7_build 460 = .ok (.invokevirtual 184, 3) := by decide +kernel
theorem dX7_build_463 : decode cX7_build 463 = .ok (.iinc 6 1, 3) := by decide +kernel
theorem dX7_build_466 : decode cX7_build 466 = .ok (.goto (-23), 3) := by decide +kernel
theorem dX7_build_469 : decode cX7_build 469 = .ok (.aload_n 0, 1) := by decide +kernel
theorem dX7_build_470 : decode cX7_build 470 = .ok (.getfield 37, 3) := by decide +kernel
theorem dX7_build_473 : decode cX7_build 473 = .ok (.aload_n 0, 1) := by decide +kernel
theorem dX7_build_474 : decode cX7_build 474 = .ok (.getfield 129, 3) := by decide +kernel
theorem dX7_build_477 : decode cX7_build 477 = .ok (.aload_n 0, 1) := by decide +kernel
theorem dX7_build_478 : decode cX7_build 478 = .ok (.getfield 132, 3) := by decide +kernel
theorem dX7_build_481 : decode cX7_build 481 = .ok (.iastore, 1) := by decide +kernel
theorem dX7_build_482 : decode cX7_build 482 = .ok (.aload_n 0, 1) := by decide +kernel
theorem dX7_build_483 : decode cX7_build 483 = .ok (.iconst 0, 1) := by decide +kernel
theorem dX7_build_484 : decode cX7_build 484 = .ok (.putfield 132, 3) := by decide +kernel
theorem dX7_build_487 : decode cX7_build 487 = .ok (.aload_n 0, 1) := by decide +kernel
theorem dX7_build_488 : decode cX7_build 488 = .ok (.bipush 84, 2) := by decide +kernel
theorem dX7_build_490 : decode cX7_build 490 = .ok (.invokevirtual 135, 3) := by decide +kernel
theorem dX7_build_493 : decode cX7_build 493 = .ok (.aload_n 0, 1) := by decide +kernel
theorem dX7_build_494 : decode cX7_build 494 = .ok (.bipush 73, 2) := by decide +kernel
theorem dX7_build_496 : decode cX7_build 496 = .ok (.invokevirtual 135, 3) := by decide +kernel
theorem dX7_build_499 : decode cX7_build 499 = .ok (.aload_n 0, 1) := by decide +kernel
theorem dX7_build_500 : decode cX7_build 500 = .ok (.iload_n 1, 1) := by decide +kernel
theorem dX7_build_501 : decode cX7_build 501 = .ok (.invokevirtual 135, 3) := by decide +kernel
theorem dX7_build_504 : decode cX7_build 504 = .ok (.aload_n 0, 1) := by decide +kernel
theorem dX7_build_505 : decode cX7_build 505 = .ok (.iconst 0, 1) := by decide +kernel
theorem dX7_build_506 : decode cX7_build 506 = .ok (.invokevirtual 135, 3) := by decide +kernel
theorem dX7_build_509 : decode cX7_build 509 = .ok (.aload_n 0, 1) := by decide +kernel
theorem dX7_build_510 : decode cX7_build 510 = .ok (.aload_n 0, 1) := by decide +kernel
theorem dX7_build_511 : decode cX7_build 511 = .ok (.getfield 142, 3) := by decide +kernel
theorem dX7_build_514 : decode cX7_build 514 = .ok (.invokevirtual 184, 3) := by decide +kernel
theorem dX7_build_517 : decode cX7_build 517 = .ok (.aload_n 0, 1) := by decide +kernel
theorem dX7_build_518 : decode cX7_build 518 = .ok (.iload_n 2, 1) := by decide +kernel
theorem dX7_build_519 : decode cX7_build 519 = .ok (.invokevirtual 184, 3) := by decide +kernel
theorem dX7_build_522 : decode cX7_build 522 = .ok (.aload_n 0, 1) := by decide +kernel
theorem dX7_build_523 : decode cX7_build 523 = .ok (.iload_n 3, 1) := by decide +kernel
theorem dX7_build_524 : decode cX7_build 524 = .ok (.invokevirtual 184, 3) := by decide +kernel
theorem dX7_build_527 : decode cX7_build 527 = .ok (.aload_n 0, 1) := by decide +kernel
theorem dX7_build_528 : decode cX7_build 528 = .ok (.iload 4, 2) := by decide +kernel
theorem dX7_build_530 : decode cX7_build 530 = .ok (.invokevirtual 184, 3) := by decide +kernel
theorem dX7_build_533 : decode cX7_build 533 = .ok (.aload_n 0, 1) := by decide +kernel
theorem dX7_build_534 : decode cX7_build 534 = .ok (.iload 5, 2) := by decide +kernel
theorem dX7_build_536 : decode cX7_build 536 = .ok (.invokevirtual 184, 3) := by decide +kernel
theorem dX7_build_539 : decode cX7_build 539 = .ok (.aload_n 0, 1) := by decide +kernel
theorem dX7_build_540 : decode cX7_build 540 = .ok (.aload_n 0, 1) := by decide +kernel
theorem dX7_build_541 : decode cX7_build 541 = .ok (.getfield 37, 3) := by decide +kernel
theorem dX7_build_544 : decode cX7_build 544 = .ok (.aload_n 0, 1) := by decide +kernel
theorem dX7_build_545 : decode cX7_build 545 = .ok (.getfield 129, 3) := by decide +kernel
theorem dX7_build_548 : decode cX7_build 548 = .ok (.iaload, 1) := by decide +kernel
theorem dX7_build_549 : decode cX7_build 549 = .ok (.invokevirtual 184, 3) := by decide +kernel
theorem dX7_build_552 : decode cX7_build 552 = .ok (.aload_n 0, 1) := by decide +kernel
theorem dX7_build_553 : decode cX7_build 553 = .ok (.bipush 16, 2) := by decide +kernel
theorem dX7_build_555 : decode cX7_build 555 = .ok (.aload_n 0, 1) := by decide +kernel
theorem dX7_build_556 : decode cX7_build 556 = .ok (.aload_n 0, 1) := by decide +kernel
theorem dX7_build_557 : decode cX7_build 557 = .ok (.getfield 129, 3) := by decide +kernel
theorem dX7_build_560 : decode cX7_build 560 = .ok (.invokevirtual 187, 3) := by decide +kernel
theorem dX7_build_563 : decode cX7_build 563 = .ok (.invokevirtual 190, 3) := by decide +kernel
theorem dX7_build_566 : decode cX7_build 566 = .ok (.aload_n 0, 1) := by decide +kernel
theorem dX7_build_567 : decode cX7_build 567 = .ok (.dup, 1) := by decide +kernel
theorem dX7_build_568 : decode cX7_build 568 = .ok (.getfield 168, 3) := by decide +kernel
theorem dX7_build_571 : decode cX7_build 571 = .ok (.iconst 1, 1) := by decide +kernel
theorem dX7_build_572 : decode cX7_build 572 = .ok (.iadd, 1) := by decide +kernel
theorem dX7_build_573 : decode cX7_build 573 = .ok (.putfield 168, 3) := by decide +kernel
theorem dX7_build_576 : decode cX7_build 576 = .ok (.aload_n 0, 1) := by decide +kernel
theorem dX7_build_577 : decode cX7_build 577 = .ok (.getfield 168, 3) := by decide +kernel
theorem dX7_build_580 : decode cX7_build 580 = .ok (.iconst 1, 1) := by decide +kernel
theorem dX7_build_581 : decode cX7_build 581 = .ok (.isub, 1) := by decide +kernel
theorem dX7_build_582 : decode cX7_build 582 = .ok (.ireturn, 1) := by decide +kernel
theorem dX7_tellInodes_0 : decode cX7_tellInodes 0 = .ok (.aload_n 0, 1) := by decide +kernel
theorem dX7_tellInodes_1 : decode cX7_tellInodes 1 = .ok (.getfield 132, 3) := by decide +kernel
theorem dX7_tellInodes_4 : decode cX7_tellInodes 4 = .ok (.istore_n 2, 1) := by decide +kernel
theorem dX7_tellInodes_5 : decode cX7_tellInodes 5 = .ok (.iconst 0, 1) := by decide +kernel
theorem dX7_tellInodes_6 : decode cX7_tellInodes 6 = .ok (.istore_n 3, 1) := by decide +kernel
theorem dX7_tellInodes_7 : decode cX7_tellInodes 7 = .ok (.iconst 1, 1) := by decide +kernel
theorem dX7_tellInodes_8 : decode cX7_tellInodes 8 = .ok (.istore 4, 2) := by decide +kernel
theorem dX7_tellInodes_10 : decode cX7_tellInodes 10 = .ok (.iload 4, 2) := by decide +kernel
theorem dX7_tellInodes_12 : decode cX7_tellInodes 12 = .ok (.aload_n 0, 1) := by decide +kernel
theorem dX7_tellInodes_13 : decode cX7_tellInodes 13 = .ok (.getfield 142, 3) := by decide +kernel
theorem dX7_tellInodes_16 : decode cX7_tellInodes 16 = .ok (.if_icmp .gt 294, 3) := by decide +kernel
theorem dX7_tellInodes_19 : decode cX7_tellInodes 19 = .ok (.aload_n 0, 1) := by decide +kernel
theorem dX7_tellInodes_20 : decode cX7_tellInodes 20 = .ok (.getfield 43, 3) := by decide +kernel
theorem dX7_tellInodes_23 : decode cX7_tellInodes 23 = .ok (.iload 4, 2) := by decide +kernel
theorem dX7_tellInodes_25 : decode cX7_tellInodes 25 = .ok (.iaload, 1) := by decide +kernel
theorem dX7_tellInodes_26 : decode cX7_tellInodes 26 = .ok (.istore 5, 2) := by decide +kernel
theorem dX7_tellInodes_28 : decode cX7_tellInodes 28 = .ok (.aload_n 0, 1) := by decide +kernel
theorem dX7_tellInodes_29 : decode cX7_tellInodes 29 = .ok (.getfield 76, 3) := by decide +kernel
theorem dX7_tellInodes_32 : decode cX7_tellInodes 32 = .ok (.iload 4, 2) := by decide +kernel
theorem dX7_tellInodes_34 : decode cX7_tellInodes 34 = .ok (.aload_n 0, 1) := by decide +kernel
theorem dX7_tellInodes_35 : decode cX7_tellInodes 35 = .ok (.getfield 132, 3) := by decide +kernel
theorem dX7_tellInodes_38 : decode cX7_tellInodes 38 = .ok (.iload_n 2, 1) := by decide +kernel
theorem dX7_tellInodes_39 : decode cX7_tellInodes 39 = .ok (.isub, 1) := by decide +kernel
theorem dX7_tellInodes_40 : decode cX7_tellInodes 40 = .ok (.iastore, 1) := by decide +kernel
theorem dX7_tellInodes_41 : decode cX7_tellInodes 41 = .ok (.aload_n 0, 1) := by decide +kernel
theorem dX7_tellInodes_42 : decode cX7_tellInodes 42 = .ok (.aload_n 0, 1) := by decide +kernel
theorem dX7_tellInodes_43 : decode cX7_tellInodes 43 = .ok (.getfield 7, 3) := by decide +kernel
theorem dX7_tellInodes_46 : decode cX7_tellInodes 46 = .ok (.iload 5, 2) := by decide +kernel
theorem dX7_tellInodes_48 : decode cX7_tellInodes 48 = .ok (.iaload, 1) := by decide +kernel
theorem dX7_tellInodes_49 : decode cX7_tellInodes 49 = .ok (.invokevirtual 135, 3) := by decide +kernel
theorem dX7_tellInodes_52 : decode cX7_tellInodes 52 = .ok (.aload_n 0, 1) := by decide +kernel
theorem dX7_tellInodes_53 : decode cX7_tellInodes 53 = .ok (.aload_n 0, 1) := by decide +kernel
theorem dX7_tellInodes_54 : decode cX7_tellInodes 54 = .ok (.getfield 13, 3) := by decide +kernel
theorem dX7_tellInodes_57 : decode cX7_tellInodes 57 = .ok (.iload 5, 2) := by decide +kernel
theorem dX7_tellInodes_59 : decode cX7_tellInodes 59 = .ok (.iaload, 1) := by decide +kernel
theorem dX7_tellInodes_60 : decode cX7_tellInodes 60 = .ok (.invokevirtual 184, 3) := by decide +kernel
theorem dX7_tellInodes_63 : decode cX7_tellInodes 63 = .ok (.aload_n 0, 1) := by decide +kernel
theorem dX7_tellInodes_64 : decode cX7_tellInodes 64 = .ok (.aload_n 0, 1) := by decide +kernel
theorem dX7_tellInodes_65 : decode cX7_tellInodes 65 = .ok (.getfield 16, 3) := by decide +kernel
theorem dX7_tellInodes_68 : decode cX7_tellInodes 68 = .ok (.iload 5, 2) := by decide +kernel
theorem dX7_tellInodes_70 : decode cX7_tellInodes 70 = .ok (.iaload, 1) := by decide +kernel
theorem dX7_tellInodes_71 : decode cX7_tellInodes 71 = .ok (.invokevirtual 184, 3) := by decide +kernel
theorem dX7_tellInodes_74 : decode cX7_tellInodes 74 = .ok (.aload_n 0, 1) := by decide +kernel
theorem dX7_tellInodes_75 : decode cX7_tellInodes 75 = .ok (.iload 4, 2) := by decide +kernel
theorem dX7_tellInodes_77 : decode cX7_tellInodes 77 = .ok (.iconst 1, 1) := by decide +kernel
theorem dX7_tellInodes_78 : decode cX7_tellInodes 78 = .ok (.if_icmp .ne 7, 3) := by decide +kernel
theorem dX7_tellInodes_81 : decode cX7_tellInodes 81 = .ok (.iconst 1, 1) := by decide +kernel
theorem dX7_tellInodes_82 : decode cX7_tellInodes 82 = .ok (.goto 9, 3) := by decide +kernel
theorem dX7_tellInodes_85 : decode cX7_tellInodes 85 = .ok (.aload_n 0, 1) := by decide +kernel
theorem dX7_tellInodes_86 : decode cX7_tellInodes 86 = .ok (.iload 5, 2) := by decide +kernel
theorem dX7_tellInodes_88 : decode cX7_tellInodes 88 = .ok (.invokevirtual 124, 3) := by decide +kernel
theorem dX7_tellInodes_91 : decode cX7_tellInodes 91 = .ok (.invokevirtual 135, 3) := by decide +kernel
theorem dX7_tellInodes_94 : decode cX7_tellInodes 94 = .ok (.aload_n 0, 1) := by decide +kernel
theorem dX7_tellInodes_95 : decode cX7_tellInodes 95 = .ok (.getfield 7, 3) := by decide +kernel
theorem dX7_tellInodes_98 : decode cX7_tellInodes 98 = .ok (.iload 5, 2) := by decide +kernel
theorem dX7_tellInodes_100 : decode cX7_tellInodes 100 = .ok (.iaload, 1) := by decide +kernel
theorem dX7_tellInodes_101 : decode cX7_tellInodes 101 = .ok (.iconst 1, 1) := by decide +kernel
theorem dX7_tellInodes_102 : decode cX7_tellInodes 102 = .ok (.if_icmp .ne 107, 3) := by decide +kernel
theorem dX7_tellInodes_105 : decode cX7_tellInodes 105 = .ok (.iconst 0, 1) := by decide +kernel
theorem dX7_tellInodes_106 : decode cX7_tellInodes 106 = .ok (.istore 6, 2) := by decide +kernel
theorem dX7_tellInodes_108 : decode cX7_tellInodes 108 = .ok (.iconst 1, 1) := by decide +kernel
theorem dX7_tellInodes_109 : decode cX7_tellInodes 109 = .ok (.istore 7, 2) := by decide +kernel
theorem dX7_tellInodes_111 : decode cX7_tellInodes 111 = .ok (.iconst 0, 1) := by decide +kernel
theorem dX7_tellInodes_112 : decode cX7_tellInodes 112 = .ok (.istore 8, 2) := by decide +kernel
theorem dX7_tellInodes_114 : decode cX7_tellInodes 114 = .ok (.iload 8, 2) := by decide +kernel
theorem dX7_tellInodes_116 : decode cX7_tellInodes 116 = .ok (.aload_n 0, 1) := by decide +kernel
theorem dX7_tellInodes_117 : decode cX7_tellInodes 117 = .ok (.getfield 105, 3) := by decide +kernel
theorem dX7_tellInodes_120 : decode cX7_tellInodes 120 = .ok (.if_icmp .ge 62, 3) := by decide +kernel
theorem dX7_tellInodes_123 : decode cX7_tellInodes 123 = .ok (.iload 6, 2) := by decide +kernel
theorem dX7_tellInodes_125 : decode cX7_tellInodes 125 = .ok (.aload_n 0, 1) := by decide +kernel
theorem dX7_tellInodes_126 : decode cX7_tellInodes 126 = .ok (.getfield 25, 3) := by decide +kernel
theorem dX7_tellInodes_129 : decode cX7_tellInodes 129 = .ok (.iload 8, 2) := by decide +kernel
theorem dX7_tellInodes_131 : decode cX7_tellInodes 131 = .ok (.iaload, 1) := by decide +kernel
theorem dX7_tellInodes_132 : decode cX7_tellInodes 132 = .ok (.iload 5, 2) := by decide +kernel
theorem dX7_tellInodes_134 : decode cX7_tellInodes 134 = .ok (.if_icmp .ne 7, 3) := by decide +kernel
theorem dX7_tellInodes_137 : decode cX7_tellInodes 137 = .ok (.iconst 1, 1) := by decide +kernel
theorem dX7_tellInodes_138 : decode cX7_tellInodes 138 = .ok (.goto 4, 3) := by decide +kernel
theorem dX7_tellInodes_141 : decode cX7_tellInodes 141 = .ok (.iconst 0, 1) := by decide +kernel
theorem dX7_tellInodes_142 : decode cX7_tellInodes 142 = .ok (.iadd, 1) := by decide +kernel
theorem dX7_tellInodes_143 : decode cX7_tellInodes 143 = .ok (.istore 6, 2) := by decide +kernel
theorem dX7_tellInodes_145 : decode cX7_tellInodes 145 = .ok (.aload_n 0, 1) := by decide +kernel
theorem dX7_tellInodes_146 : decode cX7_tellInodes 146 = .ok (.getfield 31, 3) := by decide +kernel
theorem dX7_tellInodes_149 : decode cX7_tellInodes 149 = .ok (.iload 8, 2) := by decide +kernel
theorem dX7_tellInodes_151 : decode cX7_tellInodes 151 = .ok (.iaload, 1) := by decide +kernel
theorem dX7_tellInodes_152 : decode cX7_tellInodes 152 = .ok (.iload 5, 2) := by decide +kernel
theorem dX7_tellInodes_154 : decode cX7_tellInodes 154 = .ok (.if_icmp .ne 18, 3) := by decide +kernel
theorem dX7_tellInodes_157 : decode cX7_tellInodes 157 = .ok (.aload_n 0, 1) := by decide +kernel
theorem dX7_tellInodes_158 : decode cX7_tellInodes 158 = .ok (.getfield 40, 3) := by decide +kernel
theorem dX7_tellInodes_161 : decode cX7_tellInodes 161 = .ok (.aload_n 0, 1) := by decide +kernel
theorem dX7_tellInodes_162 : decode cX7_tellInodes 162 = .ok (.getfield 25, 3) := by decide +kernel
theorem dX7_tellInodes_165 : decode cX7_tellInodes 165 = .ok (.iload 8, 2) := by decide +kernel
theorem dX7_tellInodes_167 : decode cX7_tellInodes 167 = .ok (.iaload, 1) := by decide +kernel
theorem dX7_tellInodes_168 : decode cX7_tellInodes 168 = .ok (.iaload, 1) := by decide +kernel
theorem dX7_tellInodes_169 : decode cX7_tellInodes 169 = .ok (.goto 5, 3) := by decide +kernel
theorem dX7_tellInodes_172 : decode cX7_tellInodes 172 = .ok (.iload 7, 2) := by decide +kernel
theorem dX7_tellInodes_174 : decode cX7_tellInodes 174 = .ok (.istore 7, 2) := by decide +kernel
theorem dX7_tellInodes_176 : decode cX7_tellInodes 176 = .ok (.iinc 8 1, 3) := by decide +kernel
theorem dX7_tellInodes_179 : decode cX7_tellInodes 179 = .ok (.goto (-65), 3) := by decide +kernel
theorem dX7_tellInodes_182 : decode cX7_tellInodes 182 = .ok (.aload_n 0, 1) := by decide +kernel
theorem dX7_tellInodes_183 : decode cX7_tellInodes 183 = .ok (.iconst 4, 1) := by decide +kernel
theorem dX7_tellInodes_184 : decode cX7_tellInodes 184 = .ok (.iload_n 3, 1) := by decide +kernel
theorem dX7_tellInodes_185 : decode cX7_tellInodes 185 = .ok (.imul, 1) := by decide +kernel
theorem dX7_tellInodes_186 : decode cX7_tellInodes 186 = .ok (.invokevirtual 184, 3) := by decide +kernel
theorem dX7_tellInodes_189 : decode cX7_tellInodes 189 = .ok (.aload_n 0, 1) := by decide +kernel
theorem dX7_tellInodes_190 : decode cX7_tellInodes 190 = .ok (.iload 6, 2) := by decide +kernel
theorem dX7_tellInodes_192 : decode cX7_tellInodes 192 = .ok (.invokevirtual 184, 3) := by decide +kernel
theorem dX7_tellInodes_195 : decode cX7_tellInodes 195 = .ok (.aload_n 0, 1) := by decide +kernel
theorem dX7_tellInodes_196 : decode cX7_tellInodes 196 = .ok (.iload 7, 2) := by decide +kernel
theorem dX7_tellInodes_198 : decode cX7_tellInodes 198 = .ok (.invokevirtual 184, 3) := by decide +kernel
theorem dX7_tellInodes_201 : decode cX7_tellInodes 201 = .ok (.iload_n 3, 1) := by decide +kernel
theorem dX7_tellInodes_202 : decode cX7_tellInodes 202 = .ok (.iload 6, 2) := by decide +kernel
theorem dX7_tellInodes_204 : decode cX7_tellInodes 204 = .ok (.iadd, 1) := by decide +kernel
theorem dX7_tellInodes_205 : decode cX7_tellInodes 205 = .ok (.istore_n 3, 1) := by decide +kernel
theorem dX7_tellInodes_206 : decode cX7_tellInodes 206 = .ok (.goto 98, 3) := by decide +kernel
theorem dX7_tellInodes_209 : decode cX7_tellInodes 209 = .ok (.aload_n 0, 1) := by decide +kernel
theorem dX7_tellInodes_210 : decode cX7_tellInodes 210 = .ok (.getfield 7, 3) := by decide +kernel
theorem dX7_tellInodes_213 : decode cX7_tellInodes 213 = .ok (.iload 5, 2) := by decide +kernel
theorem dX7_tellInodes_215 : decode cX7_tellInodes 215 = .ok (.iaload, 1) := by decide +kernel
theorem dX7_tellInodes_216 : decode cX7_tellInodes 216 = .ok (.iconst 2, 1) := by decide +kernel
theorem dX7_tellInodes_217 : decode cX7_tellInodes 217 = .ok (.if_icmp .ne 87, 3) := by decide +kernel
theorem dX7_tellInodes_220 : decode cX7_tellInodes 220 = .ok (.aload_n 0, 1) := by decide +kernel
theorem dX7_tellInodes_221 : decode cX7_tellInodes 221 = .ok (.aload_n 0, 1) := by decide +kernel
theorem dX7_tellInodes_222 : decode cX7_tellInodes 222 = .ok (.getfield 19, 3) := by decide +kernel
theorem dX7_tellInodes_225 : decode cX7_tellInodes 225 = .ok (.iload 5, 2) := by decide +kernel
theorem dX7_tellInodes_227 : decode cX7_tellInodes 227 = .ok (.iaload, 1) := by decide +kernel
theorem dX7_tellInodes_228 : decode cX7_tellInodes 228 = .ok (.invokevirtual 184, 3) := by decide +kernel
theorem dX7_tellInodes_231 : decode cX7_tellInodes 231 = .ok (.aload_n 0, 1) := by decide +kernel
theorem dX7_tellInodes_232 : decode cX7_tellInodes 232 = .ok (.aload_n 0, 1) := by decide +kernel
theorem dX7_tellInodes_233 : decode cX7_tellInodes 233 = .ok (.getfield 52, 3) := by decide +kernel
theorem dX7_tellInodes_236 : decode cX7_tellInodes 236 = .ok (.iload 4, 2) := by decide +kernel
theorem dX7_tellInodes_238 : decode cX7_tellInodes 238 = .ok (.iaload, 1) := by decide +kernel
theorem dX7_tellInodes_239 : decode cX7_tellInodes 239 = .ok (.invokevirtual 184, 3) := by decide +kernel
theorem dX7_tellInodes_242 : decode cX7_tellInodes 242 = .ok (.aload_n 0, 1) := by decide +kernel
theorem dX7_tellInodes_243 : decode cX7_tellInodes 243 = .ok (.aload_n 0, 1) := by decide +kernel
theorem dX7_tellInodes_244 : decode cX7_tellInodes 244 = .ok (.getfield 58, 3) := by decide +kernel
theorem dX7_tellInodes_247 : decode cX7_tellInodes 247 = .ok (.iload 4, 2) := by decide +kernel
theorem dX7_tellInodes_249 : decode cX7_tellInodes 249 = .ok (.iaload, 1) := by decide +kernel
theorem dX7_tellInodes_250 : decode cX7_tellInodes 250 = .ok (.invokevirtual 135, 3) := by decide +kernel
theorem dX7_tellInodes_253 : decode cX7_tellInodes 253 = .ok (.aload_n 0, 1) := by decide +kernel
theorem dX7_tellInodes_254 : decode cX7_tellInodes 254 = .ok (.aload_n 0, 1) := by decide +kernel
theorem dX7_tellInodes_255 : decode cX7_tellInodes 255 = .ok (.getfield 61, 3) := by decide +kernel
theorem dX7_tellInodes_258 : decode cX7_tellInodes 258 = .ok (.iload 4, 2) := by decide +kernel
theorem dX7_tellInodes_260 : decode cX7_tellInodes 260 = .ok (.iaload, 1) := by decide +kernel
theorem dX7_tellInodes_261 : decode cX7_tellInodes 261 = .ok (.invokevirtual 135, 3) := by decide +kernel
theorem dX7_tellInodes_264 : decode cX7_tellInodes 264 = .ok (.iconst 0, 1) := by decide +kernel
theorem dX7_tellInodes_265 : decode cX7_tellInodes 265 = .ok (.istore 6, 2) := by decide +kernel
theorem dX7_tellInodes_267 : decode cX7_tellInodes 267 = .ok (.iload 6, 2) := by decide +kernel
theorem dX7_tellInodes_269 : decode cX7_tellInodes 269 = .ok (.aload_n 0, 1) := by decide +kernel
theorem dX7_tellInodes_270 : decode cX7_tellInodes 270 = .ok (.getfield 19, 3) := by decide +kernel
theorem dX7_tellInodes_273 : decode cX7_tellInodes 273 = .ok (.iload 5, 2) := by decide +kernel
theorem dX7_tellInodes_275 : decode cX7_tellInodes 275 = .ok (.iaload, 1) := by decide +kernel
theorem dX7_tellInodes_276 : decode cX7_tellInodes 276 = .ok (.iload_n 1, 1) := by decide +kernel
theorem dX7_tellInodes_277 : decode cX7_tellInodes 277 = .ok (.idiv, 1) := by decide +kernel
theorem dX7_tellInodes_278 : decode cX7_tellInodes 278 = .ok (.if_icmp .ge 26, 3) := by decide +kernel
theorem dX7_tellInodes_281 : decode cX7_tellInodes 281 = .ok (.aload_n 0, 1) := by decide +kernel
theorem dX7_tellInodes_282 : decode cX7_tellInodes 282 = .ok (.aload_n 0, 1) := by decide +kernel
theorem dX7_tellInodes_283 : decode cX7_tellInodes 283 = .ok (.getfield 55, 3) := by decide +kernel
theorem dX7_tellInodes_286 : decode cX7_tellInodes 286 = .ok (.bipush 13, 2) := by decide +kernel
theorem dX7_tellInodes_288 : decode cX7_tellInodes 288 = .ok (.iload 4, 2) := by decide +kernel
theorem dX7_tellInodes_290 : decode cX7_tellInodes 290 = .ok (.imul, 1) := by decide +kernel
theorem dX7_tellInodes_291 : decode cX7_tellInodes 291 = .ok (.iload 6, 2) := by decide +kernel
theorem dX7_tellInodes_293 : decode cX7_tellInodes 293 = .ok (.iadd, 1) := by decide +kernel
theorem dX7_tellInodes_294 : decode cX7_tellInodes 294 = .ok (.iaload, 1) := by decide +kernel
theorem dX7_tellInodes_295 : decode cX7_tellInodes 295 = .ok (.invokevirtual 184, 3) := by decide +kernel
theorem dX7_tellInodes_298 : decode cX7_tellInodes 298 = .ok (.iinc 6 1, 3) := by decide +kernel
theorem dX7_tellInodes_301 : decode cX7_tellInodes 301 = .ok (.goto (-34), 3) := by decide +kernel
theorem dX7_tellInodes_304 : decode cX7_tellInodes 304 = .ok (.iinc 4 1, 3) := by decide +kernel
theorem dX7_tellInodes_307 : decode cX7_tellInodes 307 = .ok (.goto (-297), 3) := by decide +kernel
theorem dX7_tellInodes_310 : decode cX7_tellInodes 310 = .ok (.return_, 1) := by decide +kernel
theorem dX7_sumOf_0 : decode cX7_sumOf 0 = .ok (.lconst 0, 1) := by decide +kernel
theorem dX7_sumOf_1 : decode cX7_sumOf 1 = .ok (.lstore_n 2, 1) := by decide +kernel
theorem dX7_sumOf_2 : decode cX7_sumOf 2 = .ok (.iconst 0, 1) := by decide +kernel
theorem dX7_sumOf_3 : decode cX7_sumOf 3 = .ok (.istore 4, 2) := by decide +kernel
theorem dX7_sumOf_5 : decode cX7_sumOf 5 = .ok (.iload 4, 2) := by decide +kernel
theorem dX7_sumOf_7 : decode cX7_sumOf 7 = .ok (.aload_n 0, 1) := by decide +kernel
theorem dX7_sumOf_8 : decode cX7_sumOf 8 = .ok (.getfield 37, 3) := by decide +kernel
theorem dX7_sumOf_11 : decode cX7_sumOf 11 = .ok (.iload_n 1, 1) := by decide +kernel
theorem dX7_sumOf_12 : decode cX7_sumOf 12 = .ok (.iaload, 1) := by decide +kernel
theorem dX7_sumOf_13 : decode cX7_sumOf 13 = .ok (.if_icmp .ge 50, 3) := by decide +kernel
theorem dX7_sumOf_16 : decode cX7_sumOf 16 = .ok (.lload_n 2, 1) := by decide +kernel
theorem dX7_sumOf_17 : decode cX7_sumOf 17 = .ok (.iload 4, 2) := by decide +kernel
theorem dX7_sumOf_19 : decode cX7_sumOf 19 = .ok (.bipush 16, 2) := by decide +kernel
theorem dX7_sumOf_21 : decode cX7_sumOf 21 = .ok (.if_icmp .eq 10, 3) := by decide +kernel
theorem dX7_sumOf_24 : decode cX7_sumOf 24 = .ok (.iload 4, 2) := by decide +kernel
theorem dX7_sumOf_26 : decode cX7_sumOf 26 = .ok (.bipush 17, 2) := by decide +kernel
theorem dX7_sumOf_28 : decode cX7_sumOf 28 = .ok (.if_icmp .ne 7, 3) := by decide +kernel
theorem dX7_sumOf_31 : decode cX7_sumOf 31 = .ok (.lconst 0, 1) := by decide +kernel
theorem dX7_sumOf_32 : decode cX7_sumOf 32 = .ok (.goto 23, 3) := by decide +kernel
theorem dX7_sumOf_35 : decode cX7_sumOf 35 = .ok (.aload_n 0, 1) := by decide +kernel
theorem dX7_sumOf_36 : decode cX7_sumOf 36 = .ok (.getfield 34, 3) := by decide +kernel
theorem dX7_sumOf_39 : decode cX7_sumOf 39 = .ok (.sipush 6000, 3) := by decide +kernel
theorem dX7_sumOf_42 : decode cX7_sumOf 42 = .ok (.iload_n 1, 1) := by decide +kernel
theorem dX7_sumOf_43 : decode cX7_sumOf 43 = .ok (.imul, 1) := by decide +kernel
theorem dX7_sumOf_44 : decode cX7_sumOf 44 = .ok (.iload 4, 2) := by decide +kernel
theorem dX7_sumOf_46 : decode cX7_sumOf 46 = .ok (.iadd, 1) := by decide +kernel
theorem dX7_sumOf_47 : decode cX7_sumOf 47 = .ok (.iaload, 1) := by decide +kernel
theorem dX7_sumOf_48 : decode cX7_sumOf 48 = .ok (.i2l, 1) := by decide +kernel
theorem dX7_sumOf_49 : decode cX7_sumOf 49 = .ok (.iload 4, 2) := by decide +kernel
theorem dX7_sumOf_51 : decode cX7_sumOf 51 = .ok (.iconst 1, 1) := by decide +kernel
theorem dX7_sumOf_52 : decode cX7_sumOf 52 = .ok (.iadd, 1) := by decide +kernel
theorem dX7_sumOf_53 : decode cX7_sumOf 53 = .ok (.i2l, 1) := by decide +kernel
theorem dX7_sumOf_54 : decode cX7_sumOf 54 = .ok (.lmul, 1) := by decide +kernel
theorem dX7_sumOf_55 : decode cX7_sumOf 55 = .ok (.ladd, 1) := by decide +kernel
theorem dX7_sumOf_56 : decode cX7_sumOf 56 = .ok (.lstore_n 2, 1) := by decide +kernel
theorem dX7_sumOf_57 : decode cX7_sumOf 57 = .ok (.iinc 4 1, 3) := by decide +kernel
theorem dX7_sumOf_60 : decode cX7_sumOf 60 = .ok (.goto (-55), 3) := by decide +kernel
theorem dX7_sumOf_63 : decode cX7_sumOf 63 = .ok (.lload_n 2, 1) := by decide +kernel
theorem dX7_sumOf_64 : decode cX7_sumOf 64 = .ok (.ldc2_w 193, 3) := by decide +kernel
theorem dX7_sumOf_67 : decode cX7_sumOf 67 = .ok (.lrem, 1) := by decide +kernel
theorem dX7_sumOf_68 : decode cX7_sumOf 68 = .ok (.l2i, 1) := by decide +kernel
theorem dX7_sumOf_69 : decode cX7_sumOf 69 = .ok (.ireturn, 1) := by decide +kernel
theorem dX7_feed_0 : decode cX7_feed 0 = .ok (.aload_n 0, 1) := by decide +kernel
theorem dX7_feed_1 : decode cX7_feed 1 = .ok (.iconst 0, 1) := by decide +kernel
theorem dX7_feed_2 : decode cX7_feed 2 = .ok (.putfield 98, 3) := by decide +kernel
theorem dX7_feed_5 : decode cX7_feed 5 = .ok (.aload_n 0, 1) := by decide +kernel
theorem dX7_feed_6 : decode cX7_feed 6 = .ok (.getfield 195, 3) := by decide +kernel
theorem dX7_feed_9 : decode cX7_feed 9 = .ok (.bipush 20, 2) := by decide +kernel
theorem dX7_feed_11 : decode cX7_feed 11 = .ok (.iadd, 1) := by decide +kernel
theorem dX7_feed_12 : decode cX7_feed 12 = .ok (.sipush 4000, 3) := by decide +kernel
theorem dX7_feed_15 : decode cX7_feed 15 = .ok (.if_icmp .le 6, 3) := by decide +kernel
theorem dX7_feed_18 : decode cX7_feed 18 = .ok (.bipush (-4), 2) := by decide +kernel
theorem dX7_feed_20 : decode cX7_feed 20 = .ok (.ireturn, 1) := by decide +kernel
theorem dX7_feed_21 : decode cX7_feed 21 = .ok (.iconst 0, 1) := by decide +kernel
theorem dX7_feed_22 : decode cX7_feed 22 = .ok (.istore 6, 2) := by decide +kernel
theorem dX7_feed_24 : decode cX7_feed 24 = .ok (.iload 6, 2) := by decide +kernel
theorem dX7_feed_26 : decode cX7_feed 26 = .ok (.bipush 20, 2) := by decide +kernel
theorem dX7_feed_28 : decode cX7_feed 28 = .ok (.if_icmp .ge 93, 3) := by decide +kernel
theorem dX7_feed_31 : decode cX7_feed 31 = .ok (.iload 6, 2) := by decide +kernel
theorem dX7_feed_33 : decode cX7_feed 33 = .ok (.iconst 4, 1) := by decide +kernel
theorem dX7_feed_34 : decode cX7_feed 34 = .ok (.if_icmp .ge 7, 3) := by decide +kernel
theorem dX7_feed_37 : decode cX7_feed 37 = .ok (.iload_n 1, 1) := by decide +kernel
theorem dX7_feed_38 : decode cX7_feed 38 = .ok (.goto 39, 3) := by decide +kernel
theorem dX7_feed_41 : decode cX7_feed 41 = .ok (.iload 6, 2) := by decide +kernel
theorem dX7_feed_43 : decode cX7_feed 43 = .ok (.bipush 8, 2) := by decide +kernel
theorem dX7_feed_45 : decode cX7_feed 45 = .ok (.if_icmp .ge 7, 3) := by decide +kernel
theorem dX7_feed_48 : decode cX7_feed 48 = .ok (.iload_n 2, 1) := by decide +kernel
theorem dX7_feed_49 : decode cX7_feed 49 = .ok (.goto 28, 3) := by decide +kernel
theorem dX7_feed_52 : decode cX7_feed 52 = .ok (.iload 6, 2) := by decide +kernel
theorem dX7_feed_54 : decode cX7_feed 54 = .ok (.bipush 12, 2) := by decide +kernel
theorem dX7_feed_56 : decode cX7_feed 56 = .ok (.if_icmp .ge 7, 3) := by decide +kernel
theorem dX7_feed_59 : decode cX7_feed 59 = .ok (.iload_n 3, 1) := by decide +kernel
theorem dX7_feed_60 : decode cX7_feed 60 = .ok (.goto 17, 3) := by decide +kernel
theorem dX7_feed_63 : decode cX7_feed 63 = .ok (.iload 6, 2) := by decide +kernel
theorem dX7_feed_65 : decode cX7_feed 65 = .ok (.bipush 16, 2) := by decide +kernel
theorem dX7_feed_67 : decode cX7_feed 67 = .ok (.if_icmp .ge 8, 3) := by decide +kernel
theorem dX7_feed_70 : decode cX7_feed 70 = .ok (.iload 4, 2) := by decide +kernel
theorem dX7_feed_72 : decode cX7_feed 72 = .ok (.goto 5, 3) := by decide +kernel
theorem dX7_feed_75 : decode cX7_feed 75 = .ok (.iload 5, 2) := by decide +kernel
theorem dX7_feed_77 : decode cX7_feed 77 = .ok (.istore 7, 2) := by decide +kernel
theorem dX7_feed_79 : decode cX7_feed 79 = .ok (.aload_n 0, 1) := by decide +kernel
theorem dX7_feed_80 : decode cX7_feed 80 = .ok (.getfield 79, 3) := by decide +kernel
theorem dX7_feed_83 : decode cX7_feed 83 = .ok (.aload_n 0, 1) := by decide +kernel
theorem dX7_feed_84 : decode cX7_feed 84 = .ok (.getfield 195, 3) := by decide +kernel
theorem dX7_feed_87 : decode cX7_feed 87 = .ok (.iload 7, 2) := by decide +kernel
theorem dX7_feed_89 : decode cX7_feed 89 = .ok (.bipush 24, 2) := by decide +kernel
theorem dX7_feed_91 : decode cX7_feed 91 = .ok (.bipush 8, 2) := by decide +kernel
theorem dX7_feed_93 : decode cX7_feed 93 = .ok (.iload 6, 2) := by decide +kernel
theorem dX7_feed_95 : decode cX7_feed 95 = .ok (.iconst 4, 1) := by decide +kernel
theorem dX7_feed_96 : decode cX7_feed 96 = .ok (.irem, 1) := by decide +kernel
theorem dX7_feed_97 : decode cX7_feed 97 = .ok (.imul, 1) := by decide +kernel
theorem dX7_feed_98 : decode cX7_feed 98 = .ok (.isub, 1) := by decide +kernel
theorem dX7_feed_99 : decode cX7_feed 99 = .ok (.ishr, 1) := by decide +kernel
theorem dX7_feed_100 : decode cX7_feed 100 = .ok (.sipush 255, 3) := by decide +kernel
theorem dX7_feed_103 : decode cX7_feed 103 = .ok (.iand, 1) := by decide +kernel
theorem dX7_feed_104 : decode cX7_feed 104 = .ok (.iastore, 1) := by decide +kernel
theorem dX7_feed_105 : decode cX7_feed 105 = .ok (.aload_n 0, 1) := by decide +kernel
theorem dX7_feed_106 : decode cX7_feed 106 = .ok (.dup, 1) := by decide +kernel
theorem dX7_feed_107 : decode cX7_feed 107 = .ok (.getfield 195, 3) := by decide +kernel
theorem dX7_feed_110 : decode cX7_feed 110 = .ok (.iconst 1, 1) := by decide +kernel
theorem dX7_feed_111 : decode cX7_feed 111 = .ok (.iadd, 1) := by decide +kernel
theorem dX7_feed_112 : decode cX7_feed 112 = .ok (.putfield 195, 3) := by decide +kernel
theorem dX7_feed_115 : decode cX7_feed 115 = .ok (.iinc 6 1, 3) := by decide +kernel
theorem dX7_feed_118 : decode cX7_feed 118 = .ok (.goto (-94), 3) := by decide +kernel
theorem dX7_feed_121 : decode cX7_feed 121 = .ok (.aload_n 0, 1) := by decide +kernel
theorem dX7_feed_122 : decode cX7_feed 122 = .ok (.getfield 195, 3) := by decide +kernel
theorem dX7_feed_125 : decode cX7_feed 125 = .ok (.ireturn, 1) := by decide +kernel
theorem dX7_end_0 : decode cX7_end 0 = .ok (.aload_n 0, 1) := by decide +kernel
theorem dX7_end_1 : decode cX7_end 1 = .ok (.iconst 0, 1) := by decide +kernel
theorem dX7_end_2 : decode cX7_end 2 = .ok (.putfield 98, 3) := by decide +kernel
theorem dX7_end_5 : decode cX7_end 5 = .ok (.iload_n 1, 1) := by decide +kernel
theorem dX7_end_6 : decode cX7_end 6 = .ok (.iconst 0, 1) := by decide +kernel
theorem dX7_end_7 : decode cX7_end 7 = .ok (.aload_n 0, 1) := by decide +kernel
theorem dX7_end_8 : decode cX7_end 8 = .ok (.getfield 195, 3) := by decide +kernel
theorem dX7_end_11 : decode cX7_end 11 = .ok (.invokestatic 101, 3) := by decide +kernel
theorem dX7_end_14 : decode cX7_end 14 = .ok (.ifCond .ne 6, 3) := by decide +kernel
theorem dX7_end_17 : decode cX7_end 17 = .ok (.bipush (-2), 2) := by decide +kernel
theorem dX7_end_19 : decode cX7_end 19 = .ok (.ireturn, 1) := by decide +kernel
theorem dX7_end_20 : decode cX7_end 20 = .ok (.aload_n 0, 1) := by decide +kernel
theorem dX7_end_21 : decode cX7_end 21 = .ok (.iload_n 1, 1) := by decide +kernel
theorem dX7_end_22 : decode cX7_end 22 = .ok (.putfield 195, 3) := by decide +kernel
theorem dX7_end_25 : decode cX7_end 25 = .ok (.iload_n 1, 1) := by decide +kernel
theorem dX7_end_26 : decode cX7_end 26 = .ok (.ireturn, 1) := by decide +kernel
theorem dX7_byteAt_0 : decode cX7_byteAt 0 = .ok (.aload_n 0, 1) := by decide +kernel
theorem dX7_byteAt_1 : decode cX7_byteAt 1 = .ok (.getfield 34, 3) := by decide +kernel
theorem dX7_byteAt_4 : decode cX7_byteAt 4 = .ok (.sipush 6000, 3) := by decide +kernel
theorem dX7_byteAt_7 : decode cX7_byteAt 7 = .ok (.iload_n 1, 1) := by decide +kernel
theorem dX7_byteAt_8 : decode cX7_byteAt 8 = .ok (.imul, 1) := by decide +kernel
theorem dX7_byteAt_9 : decode cX7_byteAt 9 = .ok (.iload_n 2, 1) := by decide +kernel
theorem dX7_byteAt_10 : decode cX7_byteAt 10 = .ok (.iadd, 1) := by decide +kernel
theorem dX7_byteAt_11 : decode cX7_byteAt 11 = .ok (.iaload, 1) := by decide +kernel
theorem dX7_byteAt_12 : decode cX7_byteAt 12 = .ok (.ireturn, 1) := by decide +kernel
theorem dX7_word_0 : decode cX7_word 0 = .ok (.sipush 256, 3) := by decide +kernel
theorem dX7_word_3 : decode cX7_word 3 = .ok (.aload_n 0, 1) := by decide +kernel
theorem dX7_word_4 : decode cX7_word 4 = .ok (.iload_n 1, 1) := by decide +kernel
theorem dX7_word_5 : decode cX7_word 5 = .ok (.iload_n 2, 1) := by decide +kernel
theorem dX7_word_6 : decode cX7_word 6 = .ok (.invokevirtual 198, 3) := by decide +kernel
theorem dX7_word_9 : decode cX7_word 9 = .ok (.imul, 1) := by decide +kernel
theorem dX7_word_10 : decode cX7_word 10 = .ok (.aload_n 0, 1) := by decide +kernel
theorem dX7_word_11 : decode cX7_word 11 = .ok (.iload_n 1, 1) := by decide +kernel
theorem dX7_word_12 : decode cX7_word 12 = .ok (.iload_n 2, 1) := by decide +kernel
theorem dX7_word_13 : decode cX7_word 13 = .ok (.iconst 1, 1) := by decide +kernel
theorem dX7_word_14 : decode cX7_word 14 = .ok (.iadd, 1) := by decide +kernel
theorem dX7_word_15 : decode cX7_word 15 = .ok (.invokevirtual 198, 3) := by decide +kernel
theorem dX7_word_18 : decode cX7_word 18 = .ok (.iadd, 1) := by decide +kernel
theorem dX7_word_19 : decode cX7_word 19 = .ok (.ireturn, 1) := by decide +kernel
theorem dX7_numbersIn_0 : decode cX7_numbersIn 0 = .ok (.aload_n 0, 1) := by decide +kernel
theorem dX7_numbersIn_1 : decode cX7_numbersIn 1 = .ok (.iload_n 1, 1) := by decide +kernel
theorem dX7_numbersIn_2 : decode cX7_numbersIn 2 = .ok (.iconst 4, 1) := by decide +kernel
theorem dX7_numbersIn_3 : decode cX7_numbersIn 3 = .ok (.invokevirtual 201, 3) := by decide +kernel
theorem dX7_numbersIn_6 : decode cX7_numbersIn 6 = .ok (.ireturn, 1) := by decide +kernel
theorem dX7_tailsIn_0 : decode cX7_tailsIn 0 = .ok (.aload_n 0, 1) := by decide +kernel
theorem dX7_tailsIn_1 : decode cX7_tailsIn 1 = .ok (.iload_n 1, 1) := by decide +kernel
theorem dX7_tailsIn_2 : decode cX7_tailsIn 2 = .ok (.bipush 12, 2) := by decide +kernel
theorem dX7_tailsIn_4 : decode cX7_tailsIn 4 = .ok (.invokevirtual 201, 3) := by decide +kernel
theorem dX7_tailsIn_7 : decode cX7_tailsIn 7 = .ok (.aload_n 0, 1) := by decide +kernel
theorem dX7_tailsIn_8 : decode cX7_tailsIn 8 = .ok (.iload_n 1, 1) := by decide +kernel
theorem dX7_tailsIn_9 : decode cX7_tailsIn 9 = .ok (.bipush 10, 2) := by decide +kernel
theorem dX7_tailsIn_11 : decode cX7_tailsIn 11 = .ok (.invokevirtual 201, 3) := by decide +kernel
theorem dX7_tailsIn_14 : decode cX7_tailsIn 14 = .ok (.isub, 1) := by decide +kernel
theorem dX7_tailsIn_15 : decode cX7_tailsIn 15 = .ok (.iconst 5, 1) := by decide +kernel
theorem dX7_tailsIn_16 : decode cX7_tailsIn 16 = .ok (.idiv, 1) := by decide +kernel
theorem dX7_tailsIn_17 : decode cX7_tailsIn 17 = .ok (.ireturn, 1) := by decide +kernel
theorem dX7_lies_0 : decode cX7_lies 0 = .ok (.iload_n 0, 1) := by decide +kernel
theorem dX7_lies_1 : decode cX7_lies 1 = .ok (.ldc 158, 2) := by decide +kernel
theorem dX7_lies_3 : decode cX7_lies 3 = .ok (.if_icmp .lt 10, 3) := by decide +kernel
theorem dX7_lies_6 : decode cX7_lies 6 = .ok (.iload_n 0, 1) := by decide +kernel
theorem dX7_lies_7 : decode cX7_lies 7 = .ok (.ldc 158, 2) := by decide +kernel
theorem dX7_lies_9 : decode cX7_lies 9 = .ok (.isub, 1) := by decide +kernel
theorem dX7_lies_10 : decode cX7_lies 10 = .ok (.goto 4, 3) := by decide +kernel
theorem dX7_lies_13 : decode cX7_lies 13 = .ok (.iload_n 0, 1) := by decide +kernel
theorem dX7_lies_14 : decode cX7_lies 14 = .ok (.ireturn, 1) := by decide +kernel
theorem dX7_canBe_0 : decode cX7_canBe 0 = .ok (.iload_n 3, 1) := by decide +kernel
theorem dX7_canBe_1 : decode cX7_canBe 1 = .ok (.ifCond .ne 5, 3) := by decide +kernel
theorem dX7_canBe_4 : decode cX7_canBe 4 = .ok (.iconst 1, 1) := by decide +kernel
theorem dX7_canBe_5 : decode cX7_canBe 5 = .ok (.ireturn, 1) := by decide +kernel
theorem dX7_canBe_6 : decode cX7_canBe 6 = .ok (.iload_n 2, 1) := by decide +kernel
theorem dX7_canBe_7 : decode cX7_canBe 7 = .ok (.bipush 18, 2) := by decide +kernel
theorem dX7_canBe_9 : decode cX7_canBe 9 = .ok (.if_icmp .lt 19, 3) := by decide +kernel
theorem dX7_canBe_12 : decode cX7_canBe 12 = .ok (.iload_n 2, 1) := by decide +kernel
theorem dX7_canBe_13 : decode cX7_canBe 13 = .ok (.iload_n 3, 1) := by decide +kernel
theorem dX7_canBe_14 : decode cX7_canBe 14 = .ok (.invokestatic 204, 3) := by decide +kernel
theorem dX7_canBe_17 : decode cX7_canBe 17 = .ok (.iadd, 1) := by decide +kernel
theorem dX7_canBe_18 : decode cX7_canBe 18 = .ok (.aload_n 0, 1) := by decide +kernel
theorem dX7_canBe_19 : decode cX7_canBe 19 = .ok (.iload_n 1, 1) := by decide +kernel
