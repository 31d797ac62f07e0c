theorem dX7_opened_121 : decode cX7_opened 121 = .ok (.iadd, 1) := by decide +kernel
theorem dX7_opened_122 : decode cX7_opened 122 = .ok (.invokevirtual 198, 3) := by decide +kernel
theorem dX7_opened_125 : decode cX7_opened 125 = .ok (.ireturn, 1) := by decide +kernel
theorem dX7_opened_126 : decode cX7_opened 126 = .ok (.iload 6, 2) := by decide +kernel
theorem dX7_opened_128 : decode cX7_opened 128 = .ok (.sipush 257, 3) := by decide +kernel
theorem dX7_opened_131 : decode cX7_opened 131 = .ok (.iload 7, 2) := by decide +kernel
theorem dX7_opened_133 : decode cX7_opened 133 = .ok (.isub, 1) := by decide +kernel
theorem dX7_opened_134 : decode cX7_opened 134 = .ok (.iadd, 1) := by decide +kernel
theorem dX7_opened_135 : decode cX7_opened 135 = .ok (.istore 6, 2) := by decide +kernel
theorem dX7_opened_137 : decode cX7_opened 137 = .ok (.iinc 5 2, 3) := by decide +kernel
theorem dX7_opened_140 : decode cX7_opened 140 = .ok (.goto 6, 3) := by decide +kernel
theorem dX7_opened_143 : decode cX7_opened 143 = .ok (.iinc 5 1, 3) := by decide +kernel
theorem dX7_opened_146 : decode cX7_opened 146 = .ok (.goto (-118), 3) := by decide +kernel
theorem dX7_read_0 : decode cX7_read 0 = .ok (.aload_n 0, 1) := by decide +kernel
theorem dX7_read_1 : decode cX7_read 1 = .ok (.iconst 0, 1) := by decide +kernel
theorem dX7_read_2 : decode cX7_read 2 = .ok (.putfield 98, 3) := by decide +kernel
theorem dX7_read_5 : decode cX7_read 5 = .ok (.aload_n 0, 1) := by decide +kernel
theorem dX7_read_6 : decode cX7_read 6 = .ok (.iload_n 1, 1) := by decide +kernel
theorem dX7_read_7 : decode cX7_read 7 = .ok (.invokevirtual 278, 3) := by decide +kernel
theorem dX7_read_10 : decode cX7_read 10 = .ok (.ifCond .ne 5, 3) := by decide +kernel
theorem dX7_read_13 : decode cX7_read 13 = .ok (.iconst (-1), 1) := by decide +kernel
theorem dX7_read_14 : decode cX7_read 14 = .ok (.ireturn, 1) := by decide +kernel
theorem dX7_read_15 : decode cX7_read 15 = .ok (.aload_n 0, 1) := by decide +kernel
theorem dX7_read_16 : decode cX7_read 16 = .ok (.getfield 88, 3) := by decide +kernel
theorem dX7_read_19 : decode cX7_read 19 = .ok (.iconst 3, 1) := by decide +kernel
theorem dX7_read_20 : decode cX7_read 20 = .ok (.iload_n 1, 1) := by decide +kernel
theorem dX7_read_21 : decode cX7_read 21 = .ok (.imul, 1) := by decide +kernel
theorem dX7_read_22 : decode cX7_read 22 = .ok (.iaload, 1) := by decide +kernel
theorem dX7_read_23 : decode cX7_read 23 = .ok (.istore_n 3, 1) := by decide +kernel
theorem dX7_read_24 : decode cX7_read 24 = .ok (.aload_n 0, 1) := by decide +kernel
theorem dX7_read_25 : decode cX7_read 25 = .ok (.iload_n 3, 1) := by decide +kernel
theorem dX7_read_26 : decode cX7_read 26 = .ok (.aload_n 0, 1) := by decide +kernel
theorem dX7_read_27 : decode cX7_read 27 = .ok (.getfield 91, 3) := by decide +kernel
theorem dX7_read_30 : decode cX7_read 30 = .ok (.iconst 3, 1) := by decide +kernel
theorem dX7_read_31 : decode cX7_read 31 = .ok (.iload_n 1, 1) := by decide +kernel
theorem dX7_read_32 : decode cX7_read 32 = .ok (.imul, 1) := by decide +kernel
theorem dX7_read_33 : decode cX7_read 33 = .ok (.iaload, 1) := by decide +kernel
theorem dX7_read_34 : decode cX7_read 34 = .ok (.invokevirtual 226, 3) := by decide +kernel
theorem dX7_read_37 : decode cX7_read 37 = .ok (.istore 4, 2) := by decide +kernel
theorem dX7_read_39 : decode cX7_read 39 = .ok (.aload_n 0, 1) := by decide +kernel
theorem dX7_read_40 : decode cX7_read 40 = .ok (.iload_n 1, 1) := by decide +kernel
theorem dX7_read_41 : decode cX7_read 41 = .ok (.invokevirtual 281, 3) := by decide +kernel
theorem dX7_read_44 : decode cX7_read 44 = .ok (.iconst 2, 1) := by decide +kernel
theorem dX7_read_45 : decode cX7_read 45 = .ok (.if_icmp .ne 7, 3) := by decide +kernel
theorem dX7_read_48 : decode cX7_read 48 = .ok (.iconst 1, 1) := by decide +kernel
theorem dX7_read_49 : decode cX7_read 49 = .ok (.goto 4, 3) := by decide +kernel
theorem dX7_read_52 : decode cX7_read 52 = .ok (.iconst 0, 1) := by decide +kernel
theorem dX7_read_53 : decode cX7_read 53 = .ok (.istore 5, 2) := by decide +kernel
theorem dX7_read_55 : decode cX7_read 55 = .ok (.iload 5, 2) := by decide +kernel
theorem dX7_read_57 : decode cX7_read 57 = .ok (.ifCond .eq 26, 3) := by decide +kernel
theorem dX7_read_60 : decode cX7_read 60 = .ok (.iload_n 2, 1) := by decide +kernel
theorem dX7_read_61 : decode cX7_read 61 = .ok (.iconst 0, 1) := by decide +kernel
theorem dX7_read_62 : decode cX7_read 62 = .ok (.aload_n 0, 1) := by decide +kernel
theorem dX7_read_63 : decode cX7_read 63 = .ok (.iload_n 3, 1) := by decide +kernel
theorem dX7_read_64 : decode cX7_read 64 = .ok (.iload 4, 2) := by decide +kernel
theorem dX7_read_66 : decode cX7_read 66 = .ok (.bipush 6, 2) := by decide +kernel
theorem dX7_read_68 : decode cX7_read 68 = .ok (.iadd, 1) := by decide +kernel
theorem dX7_read_69 : decode cX7_read 69 = .ok (.invokevirtual 201, 3) := by decide +kernel
theorem dX7_read_72 : decode cX7_read 72 = .ok (.iconst 1, 1) := by decide +kernel
theorem dX7_read_73 : decode cX7_read 73 = .ok (.isub, 1) := by decide +kernel
theorem dX7_read_74 : decode cX7_read 74 = .ok (.invokestatic 101, 3) := by decide +kernel
theorem dX7_read_77 : decode cX7_read 77 = .ok (.ifCond .ne 6, 3) := by decide +kernel
theorem dX7_read_80 : decode cX7_read 80 = .ok (.bipush (-2), 2) := by decide +kernel
theorem dX7_read_82 : decode cX7_read 82 = .ok (.ireturn, 1) := by decide +kernel
theorem dX7_read_83 : decode cX7_read 83 = .ok (.iload 5, 2) := by decide +kernel
theorem dX7_read_85 : decode cX7_read 85 = .ok (.ifCond .ne 15, 3) := by decide +kernel
theorem dX7_read_88 : decode cX7_read 88 = .ok (.iload_n 2, 1) := by decide +kernel
theorem dX7_read_89 : decode cX7_read 89 = .ok (.ifCond .ge 8, 3) := by decide +kernel
theorem dX7_read_92 : decode cX7_read 92 = .ok (.bipush (-2), 2) := by decide +kernel
theorem dX7_read_94 : decode cX7_read 94 = .ok (.goto 5, 3) := by decide +kernel
theorem dX7_read_97 : decode cX7_read 97 = .ok (.bipush (-3), 2) := by decide +kernel
theorem dX7_read_99 : decode cX7_read 99 = .ok (.ireturn, 1) := by decide +kernel
theorem dX7_read_100 : decode cX7_read 100 = .ok (.aload_n 0, 1) := by decide +kernel
theorem dX7_read_101 : decode cX7_read 101 = .ok (.iload_n 3, 1) := by decide +kernel
theorem dX7_read_102 : decode cX7_read 102 = .ok (.iconst 2, 1) := by decide +kernel
theorem dX7_read_103 : decode cX7_read 103 = .ok (.invokevirtual 198, 3) := by decide +kernel
theorem dX7_read_106 : decode cX7_read 106 = .ok (.istore 6, 2) := by decide +kernel
theorem dX7_read_108 : decode cX7_read 108 = .ok (.aload_n 0, 1) := by decide +kernel
theorem dX7_read_109 : decode cX7_read 109 = .ok (.iload_n 3, 1) := by decide +kernel
theorem dX7_read_110 : decode cX7_read 110 = .ok (.iload 4, 2) := by decide +kernel
theorem dX7_read_112 : decode cX7_read 112 = .ok (.bipush 6, 2) := by decide +kernel
theorem dX7_read_114 : decode cX7_read 114 = .ok (.iadd, 1) := by decide +kernel
theorem dX7_read_115 : decode cX7_read 115 = .ok (.invokevirtual 201, 3) := by decide +kernel
theorem dX7_read_118 : decode cX7_read 118 = .ok (.istore 7, 2) := by decide +kernel
theorem dX7_read_120 : decode cX7_read 120 = .ok (.iload_n 2, 1) := by decide +kernel
theorem dX7_read_121 : decode cX7_read 121 = .ok (.iload 7, 2) := by decide +kernel
theorem dX7_read_123 : decode cX7_read 123 = .ok (.iload 6, 2) := by decide +kernel
theorem dX7_read_125 : decode cX7_read 125 = .ok (.idiv, 1) := by decide +kernel
theorem dX7_read_126 : decode cX7_read 126 = .ok (.iload 6, 2) := by decide +kernel
theorem dX7_read_128 : decode cX7_read 128 = .ok (.imul, 1) := by decide +kernel
theorem dX7_read_129 : decode cX7_read 129 = .ok (.if_icmp .ge 85, 3) := by decide +kernel
theorem dX7_read_132 : decode cX7_read 132 = .ok (.aload_n 0, 1) := by decide +kernel
theorem dX7_read_133 : decode cX7_read 133 = .ok (.iload_n 3, 1) := by decide +kernel
theorem dX7_read_134 : decode cX7_read 134 = .ok (.iload 4, 2) := by decide +kernel
theorem dX7_read_136 : decode cX7_read 136 = .ok (.bipush 8, 2) := by decide +kernel
theorem dX7_read_138 : decode cX7_read 138 = .ok (.iadd, 1) := by decide +kernel
theorem dX7_read_139 : decode cX7_read 139 = .ok (.invokevirtual 201, 3) := by decide +kernel
theorem dX7_read_142 : decode cX7_read 142 = .ok (.istore 8, 2) := by decide +kernel
theorem dX7_read_144 : decode cX7_read 144 = .ok (.iconst 0, 1) := by decide +kernel
theorem dX7_read_145 : decode cX7_read 145 = .ok (.istore 9, 2) := by decide +kernel
theorem dX7_read_147 : decode cX7_read 147 = .ok (.iload 9, 2) := by decide +kernel
theorem dX7_read_149 : decode cX7_read 149 = .ok (.iload_n 2, 1) := by decide +kernel
theorem dX7_read_150 : decode cX7_read 150 = .ok (.iload 6, 2) := by decide +kernel
theorem dX7_read_152 : decode cX7_read 152 = .ok (.idiv, 1) := by decide +kernel
theorem dX7_read_153 : decode cX7_read 153 = .ok (.if_icmp .ge 32, 3) := by decide +kernel
theorem dX7_read_156 : decode cX7_read 156 = .ok (.iload 8, 2) := by decide +kernel
theorem dX7_read_158 : decode cX7_read 158 = .ok (.aload_n 0, 1) := by decide +kernel
theorem dX7_read_159 : decode cX7_read 159 = .ok (.iload_n 3, 1) := by decide +kernel
theorem dX7_read_160 : decode cX7_read 160 = .ok (.iload 4, 2) := by decide +kernel
theorem dX7_read_162 : decode cX7_read 162 = .ok (.bipush 12, 2) := by decide +kernel
theorem dX7_read_164 : decode cX7_read 164 = .ok (.iadd, 1) := by decide +kernel
theorem dX7_read_165 : decode cX7_read 165 = .ok (.iconst 2, 1) := by decide +kernel
theorem dX7_read_166 : decode cX7_read 166 = .ok (.iload 9, 2) := by decide +kernel
theorem dX7_read_168 : decode cX7_read 168 = .ok (.imul, 1) := by decide +kernel
theorem dX7_read_169 : decode cX7_read 169 = .ok (.iadd, 1) := by decide +kernel
theorem dX7_read_170 : decode cX7_read 170 = .ok (.invokevirtual 201, 3) := by decide +kernel
theorem dX7_read_173 : decode cX7_read 173 = .ok (.invokestatic 204, 3) := by decide +kernel
theorem dX7_read_176 : decode cX7_read 176 = .ok (.iadd, 1) := by decide +kernel
theorem dX7_read_177 : decode cX7_read 177 = .ok (.istore 8, 2) := by decide +kernel
theorem dX7_read_179 : decode cX7_read 179 = .ok (.iinc 9 1, 3) := by decide +kernel
theorem dX7_read_182 : decode cX7_read 182 = .ok (.goto (-35), 3) := by decide +kernel
theorem dX7_read_185 : decode cX7_read 185 = .ok (.aload_n 0, 1) := by decide +kernel
theorem dX7_read_186 : decode cX7_read 186 = .ok (.iload_n 3, 1) := by decide +kernel
theorem dX7_read_187 : decode cX7_read 187 = .ok (.iload 8, 2) := by decide +kernel
theorem dX7_read_189 : decode cX7_read 189 = .ok (.aload_n 0, 1) := by decide +kernel
theorem dX7_read_190 : decode cX7_read 190 = .ok (.iload_n 3, 1) := by decide +kernel
theorem dX7_read_191 : decode cX7_read 191 = .ok (.iload 4, 2) := by decide +kernel
theorem dX7_read_193 : decode cX7_read 193 = .ok (.bipush 12, 2) := by decide +kernel
theorem dX7_read_195 : decode cX7_read 195 = .ok (.iadd, 1) := by decide +kernel
theorem dX7_read_196 : decode cX7_read 196 = .ok (.iconst 2, 1) := by decide +kernel
theorem dX7_read_197 : decode cX7_read 197 = .ok (.iload_n 2, 1) := by decide +kernel
theorem dX7_read_198 : decode cX7_read 198 = .ok (.iload 6, 2) := by decide +kernel
theorem dX7_read_200 : decode cX7_read 200 = .ok (.idiv, 1) := by decide +kernel
theorem dX7_read_201 : decode cX7_read 201 = .ok (.imul, 1) := by decide +kernel
theorem dX7_read_202 : decode cX7_read 202 = .ok (.iadd, 1) := by decide +kernel
theorem dX7_read_203 : decode cX7_read 203 = .ok (.invokevirtual 201, 3) := by decide +kernel
theorem dX7_read_206 : decode cX7_read 206 = .ok (.iload_n 2, 1) := by decide +kernel
theorem dX7_read_207 : decode cX7_read 207 = .ok (.iload 6, 2) := by decide +kernel
theorem dX7_read_209 : decode cX7_read 209 = .ok (.irem, 1) := by decide +kernel
theorem dX7_read_210 : decode cX7_read 210 = .ok (.invokevirtual 293, 3) := by decide +kernel
theorem dX7_read_213 : decode cX7_read 213 = .ok (.ireturn, 1) := by decide +kernel
theorem dX7_read_214 : decode cX7_read 214 = .ok (.aload_n 0, 1) := by decide +kernel
theorem dX7_read_215 : decode cX7_read 215 = .ok (.iload_n 3, 1) := by decide +kernel
theorem dX7_read_216 : decode cX7_read 216 = .ok (.bipush 10, 2) := by decide +kernel
theorem dX7_read_218 : decode cX7_read 218 = .ok (.invokevirtual 201, 3) := by decide +kernel
theorem dX7_read_221 : decode cX7_read 221 = .ok (.iconst 5, 1) := by decide +kernel
theorem dX7_read_222 : decode cX7_read 222 = .ok (.aload_n 0, 1) := by decide +kernel
theorem dX7_read_223 : decode cX7_read 223 = .ok (.iload_n 3, 1) := by decide +kernel
theorem dX7_read_224 : decode cX7_read 224 = .ok (.iload 4, 2) := by decide +kernel
theorem dX7_read_226 : decode cX7_read 226 = .ok (.bipush 10, 2) := by decide +kernel
theorem dX7_read_228 : decode cX7_read 228 = .ok (.iadd, 1) := by decide +kernel
theorem dX7_read_229 : decode cX7_read 229 = .ok (.invokevirtual 198, 3) := by decide +kernel
theorem dX7_read_232 : decode cX7_read 232 = .ok (.iconst 1, 1) := by decide +kernel
theorem dX7_read_233 : decode cX7_read 233 = .ok (.isub, 1) := by decide +kernel
theorem dX7_read_234 : decode cX7_read 234 = .ok (.imul, 1) := by decide +kernel
theorem dX7_read_235 : decode cX7_read 235 = .ok (.iadd, 1) := by decide +kernel
theorem dX7_read_236 : decode cX7_read 236 = .ok (.istore 8, 2) := by decide +kernel
theorem dX7_read_238 : decode cX7_read 238 = .ok (.aload_n 0, 1) := by decide +kernel
theorem dX7_read_239 : decode cX7_read 239 = .ok (.iload_n 3, 1) := by decide +kernel
theorem dX7_read_240 : decode cX7_read 240 = .ok (.aload_n 0, 1) := by decide +kernel
theorem dX7_read_241 : decode cX7_read 241 = .ok (.iload_n 3, 1) := by decide +kernel
theorem dX7_read_242 : decode cX7_read 242 = .ok (.iload 8, 2) := by decide +kernel
theorem dX7_read_244 : decode cX7_read 244 = .ok (.invokevirtual 201, 3) := by decide +kernel
theorem dX7_read_247 : decode cX7_read 247 = .ok (.aload_n 0, 1) := by decide +kernel
theorem dX7_read_248 : decode cX7_read 248 = .ok (.iload_n 3, 1) := by decide +kernel
theorem dX7_read_249 : decode cX7_read 249 = .ok (.iload 8, 2) := by decide +kernel
theorem dX7_read_251 : decode cX7_read 251 = .ok (.iconst 2, 1) := by decide +kernel
theorem dX7_read_252 : decode cX7_read 252 = .ok (.iadd, 1) := by decide +kernel
theorem dX7_read_253 : decode cX7_read 253 = .ok (.invokevirtual 201, 3) := by decide +kernel
theorem dX7_read_256 : decode cX7_read 256 = .ok (.aload_n 0, 1) := by decide +kernel
theorem dX7_read_257 : decode cX7_read 257 = .ok (.iload_n 3, 1) := by decide +kernel
theorem dX7_read_258 : decode cX7_read 258 = .ok (.iload 4, 2) := by decide +kernel
theorem dX7_read_260 : decode cX7_read 260 = .ok (.bipush 11, 2) := by decide +kernel
theorem dX7_read_262 : decode cX7_read 262 = .ok (.iadd, 1) := by decide +kernel
theorem dX7_read_263 : decode cX7_read 263 = .ok (.invokevirtual 198, 3) := by decide +kernel
theorem dX7_read_266 : decode cX7_read 266 = .ok (.iload_n 2, 1) := by decide +kernel
theorem dX7_read_267 : decode cX7_read 267 = .ok (.iload 6, 2) := by decide +kernel
theorem dX7_read_269 : decode cX7_read 269 = .ok (.irem, 1) := by decide +kernel
theorem dX7_read_270 : decode cX7_read 270 = .ok (.iadd, 1) := by decide +kernel
theorem dX7_read_271 : decode cX7_read 271 = .ok (.invokevirtual 293, 3) := by decide +kernel
theorem dX7_read_274 : decode cX7_read 274 = .ok (.ireturn, 1) := by decide +kernel
theorem dX7_count_0 : decode cX7_count 0 = .ok (.aload_n 0, 1) := by decide +kernel
theorem dX7_count_1 : decode cX7_count 1 = .ok (.iconst 0, 1) := by decide +kernel
theorem dX7_count_2 : decode cX7_count 2 = .ok (.putfield 98, 3) := by decide +kernel
theorem dX7_count_5 : decode cX7_count 5 = .ok (.iload_n 1, 1) := by decide +kernel
theorem dX7_count_6 : decode cX7_count 6 = .ok (.tableswitch 59 0 4 #[34, 39, 44, 49, 54], 34) := by decide +kernel
theorem dX7_count_40 : decode cX7_count 40 = .ok (.aload_n 0, 1) := by decide +kernel
theorem dX7_count_41 : decode cX7_count 41 = .ok (.getfield 94, 3) := by decide +kernel
theorem dX7_count_44 : decode cX7_count 44 = .ok (.ireturn, 1) := by decide +kernel
theorem dX7_count_45 : decode cX7_count 45 = .ok (.aload_n 0, 1) := by decide +kernel
theorem dX7_count_46 : decode cX7_count 46 = .ok (.getfield 168, 3) := by decide +kernel
theorem dX7_count_49 : decode cX7_count 49 = .ok (.ireturn, 1) := by decide +kernel
theorem dX7_count_50 : decode cX7_count 50 = .ok (.aload_n 0, 1) := by decide +kernel
theorem dX7_count_51 : decode cX7_count 51 = .ok (.getfield 257, 3) := by decide +kernel
theorem dX7_count_54 : decode cX7_count 54 = .ok (.ireturn, 1) := by decide +kernel
theorem dX7_count_55 : decode cX7_count 55 = .ok (.aload_n 0, 1) := by decide +kernel
theorem dX7_count_56 : decode cX7_count 56 = .ok (.getfield 269, 3) := by decide +kernel
theorem dX7_count_59 : decode cX7_count 59 = .ok (.ireturn, 1) := by decide +kernel
theorem dX7_count_60 : decode cX7_count 60 = .ok (.aload_n 0, 1) := by decide +kernel
theorem dX7_count_61 : decode cX7_count 61 = .ok (.getfield 195, 3) := by decide +kernel
theorem dX7_count_64 : decode cX7_count 64 = .ok (.ireturn, 1) := by decide +kernel
theorem dX7_count_65 : decode cX7_count 65 = .ok (.bipush (-2), 2) := by decide +kernel
theorem dX7_count_67 : decode cX7_count 67 = .ok (.ireturn, 1) := by decide +kernel
