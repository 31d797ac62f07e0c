theorem dX7_canBe_20 : decode cX7_canBe 20 = .ok (.bipush 6, 2) := by decide +kernel
theorem dX7_canBe_22 : decode cX7_canBe 22 = .ok (.invokevirtual 201, 3) := by decide +kernel
theorem dX7_canBe_25 : decode cX7_canBe 25 = .ok (.if_icmp .le 5, 3) := by decide +kernel
theorem dX7_canBe_28 : decode cX7_canBe 28 = .ok (.iconst 0, 1) := by decide +kernel
theorem dX7_canBe_29 : decode cX7_canBe 29 = .ok (.ireturn, 1) := by decide +kernel
theorem dX7_canBe_30 : decode cX7_canBe 30 = .ok (.iload_n 3, 1) := by decide +kernel
theorem dX7_canBe_31 : decode cX7_canBe 31 = .ok (.ldc 158, 2) := by decide +kernel
theorem dX7_canBe_33 : decode cX7_canBe 33 = .ok (.if_icmp .lt 18, 3) := by decide +kernel
theorem dX7_canBe_36 : decode cX7_canBe 36 = .ok (.iload_n 3, 1) := by decide +kernel
theorem dX7_canBe_37 : decode cX7_canBe 37 = .ok (.ldc 158, 2) := by decide +kernel
theorem dX7_canBe_39 : decode cX7_canBe 39 = .ok (.iload 4, 2) := by decide +kernel
theorem dX7_canBe_41 : decode cX7_canBe 41 = .ok (.iadd, 1) := by decide +kernel
theorem dX7_canBe_42 : decode cX7_canBe 42 = .ok (.if_icmp .ne 7, 3) := by decide +kernel
theorem dX7_canBe_45 : decode cX7_canBe 45 = .ok (.iconst 1, 1) := by decide +kernel
theorem dX7_canBe_46 : decode cX7_canBe 46 = .ok (.goto 4, 3) := by decide +kernel
theorem dX7_canBe_49 : decode cX7_canBe 49 = .ok (.iconst 0, 1) := by decide +kernel
theorem dX7_canBe_50 : decode cX7_canBe 50 = .ok (.ireturn, 1) := by decide +kernel
theorem dX7_canBe_51 : decode cX7_canBe 51 = .ok (.iload_n 2, 1) := by decide +kernel
theorem dX7_canBe_52 : decode cX7_canBe 52 = .ok (.istore 5, 2) := by decide +kernel
theorem dX7_canBe_54 : decode cX7_canBe 54 = .ok (.iload_n 2, 1) := by decide +kernel
theorem dX7_canBe_55 : decode cX7_canBe 55 = .ok (.iload_n 3, 1) := by decide +kernel
theorem dX7_canBe_56 : decode cX7_canBe 56 = .ok (.iadd, 1) := by decide +kernel
theorem dX7_canBe_57 : decode cX7_canBe 57 = .ok (.istore 6, 2) := by decide +kernel
theorem dX7_canBe_59 : decode cX7_canBe 59 = .ok (.iconst 0, 1) := by decide +kernel
theorem dX7_canBe_60 : decode cX7_canBe 60 = .ok (.istore 7, 2) := by decide +kernel
theorem dX7_canBe_62 : decode cX7_canBe 62 = .ok (.iload 5, 2) := by decide +kernel
theorem dX7_canBe_64 : decode cX7_canBe 64 = .ok (.iload 6, 2) := by decide +kernel
theorem dX7_canBe_66 : decode cX7_canBe 66 = .ok (.if_icmp .ge 85, 3) := by decide +kernel
theorem dX7_canBe_69 : decode cX7_canBe 69 = .ok (.aload_n 0, 1) := by decide +kernel
theorem dX7_canBe_70 : decode cX7_canBe 70 = .ok (.iload_n 1, 1) := by decide +kernel
theorem dX7_canBe_71 : decode cX7_canBe 71 = .ok (.iload 5, 2) := by decide +kernel
theorem dX7_canBe_73 : decode cX7_canBe 73 = .ok (.invokevirtual 198, 3) := by decide +kernel
theorem dX7_canBe_76 : decode cX7_canBe 76 = .ok (.istore 8, 2) := by decide +kernel
theorem dX7_canBe_78 : decode cX7_canBe 78 = .ok (.iinc 5 1, 3) := by decide +kernel
theorem dX7_canBe_81 : decode cX7_canBe 81 = .ok (.iload 8, 2) := by decide +kernel
theorem dX7_canBe_83 : decode cX7_canBe 83 = .ok (.sipush 128, 3) := by decide +kernel
theorem dX7_canBe_86 : decode cX7_canBe 86 = .ok (.if_icmp .ge 24, 3) := by decide +kernel
theorem dX7_canBe_89 : decode cX7_canBe 89 = .ok (.iload 5, 2) := by decide +kernel
theorem dX7_canBe_91 : decode cX7_canBe 91 = .ok (.iload 8, 2) := by decide +kernel
theorem dX7_canBe_93 : decode cX7_canBe 93 = .ok (.iconst 1, 1) := by decide +kernel
theorem dX7_canBe_94 : decode cX7_canBe 94 = .ok (.iadd, 1) := by decide +kernel
theorem dX7_canBe_95 : decode cX7_canBe 95 = .ok (.iadd, 1) := by decide +kernel
theorem dX7_canBe_96 : decode cX7_canBe 96 = .ok (.istore 5, 2) := by decide +kernel
theorem dX7_canBe_98 : decode cX7_canBe 98 = .ok (.iload 7, 2) := by decide +kernel
theorem dX7_canBe_100 : decode cX7_canBe 100 = .ok (.iload 8, 2) := by decide +kernel
theorem dX7_canBe_102 : decode cX7_canBe 102 = .ok (.iconst 1, 1) := by decide +kernel
theorem dX7_canBe_103 : decode cX7_canBe 103 = .ok (.iadd, 1) := by decide +kernel
theorem dX7_canBe_104 : decode cX7_canBe 104 = .ok (.iadd, 1) := by decide +kernel
theorem dX7_canBe_105 : decode cX7_canBe 105 = .ok (.istore 7, 2) := by decide +kernel
theorem dX7_canBe_107 : decode cX7_canBe 107 = .ok (.goto 25, 3) := by decide +kernel
theorem dX7_canBe_110 : decode cX7_canBe 110 = .ok (.iload 8, 2) := by decide +kernel
theorem dX7_canBe_112 : decode cX7_canBe 112 = .ok (.sipush 128, 3) := by decide +kernel
theorem dX7_canBe_115 : decode cX7_canBe 115 = .ok (.if_icmp .le 17, 3) := by decide +kernel
theorem dX7_canBe_118 : decode cX7_canBe 118 = .ok (.iinc 5 1, 3) := by decide +kernel
theorem dX7_canBe_121 : decode cX7_canBe 121 = .ok (.iload 7, 2) := by decide +kernel
theorem dX7_canBe_123 : decode cX7_canBe 123 = .ok (.sipush 257, 3) := by decide +kernel
theorem dX7_canBe_126 : decode cX7_canBe 126 = .ok (.iload 8, 2) := by decide +kernel
theorem dX7_canBe_128 : decode cX7_canBe 128 = .ok (.isub, 1) := by decide +kernel
theorem dX7_canBe_129 : decode cX7_canBe 129 = .ok (.iadd, 1) := by decide +kernel
theorem dX7_canBe_130 : decode cX7_canBe 130 = .ok (.istore 7, 2) := by decide +kernel
theorem dX7_canBe_132 : decode cX7_canBe 132 = .ok (.iload 7, 2) := by decide +kernel
theorem dX7_canBe_134 : decode cX7_canBe 134 = .ok (.iload 4, 2) := by decide +kernel
theorem dX7_canBe_136 : decode cX7_canBe 136 = .ok (.if_icmp .gt 10, 3) := by decide +kernel
theorem dX7_canBe_139 : decode cX7_canBe 139 = .ok (.iload 5, 2) := by decide +kernel
theorem dX7_canBe_141 : decode cX7_canBe 141 = .ok (.iload 6, 2) := by decide +kernel
theorem dX7_canBe_143 : decode cX7_canBe 143 = .ok (.if_icmp .le 5, 3) := by decide +kernel
theorem dX7_canBe_146 : decode cX7_canBe 146 = .ok (.iconst 0, 1) := by decide +kernel
theorem dX7_canBe_147 : decode cX7_canBe 147 = .ok (.ireturn, 1) := by decide +kernel
theorem dX7_canBe_148 : decode cX7_canBe 148 = .ok (.goto (-86), 3) := by decide +kernel
theorem dX7_canBe_151 : decode cX7_canBe 151 = .ok (.iload 7, 2) := by decide +kernel
theorem dX7_canBe_153 : decode cX7_canBe 153 = .ok (.iload 4, 2) := by decide +kernel
theorem dX7_canBe_155 : decode cX7_canBe 155 = .ok (.if_icmp .ne 7, 3) := by decide +kernel
theorem dX7_canBe_158 : decode cX7_canBe 158 = .ok (.iconst 1, 1) := by decide +kernel
theorem dX7_canBe_159 : decode cX7_canBe 159 = .ok (.goto 4, 3) := by decide +kernel
theorem dX7_canBe_162 : decode cX7_canBe 162 = .ok (.iconst 0, 1) := by decide +kernel
theorem dX7_canBe_163 : decode cX7_canBe 163 = .ok (.ireturn, 1) := by decide +kernel
theorem dX7_judge_0 : decode cX7_judge 0 = .ok (.aload_n 0, 1) := by decide +kernel
theorem dX7_judge_1 : decode cX7_judge 1 = .ok (.getfield 37, 3) := by decide +kernel
theorem dX7_judge_4 : decode cX7_judge 4 = .ok (.iload_n 1, 1) := by decide +kernel
theorem dX7_judge_5 : decode cX7_judge 5 = .ok (.iaload, 1) := by decide +kernel
theorem dX7_judge_6 : decode cX7_judge 6 = .ok (.bipush 18, 2) := by decide +kernel
theorem dX7_judge_8 : decode cX7_judge 8 = .ok (.if_icmp .lt 34, 3) := by decide +kernel
theorem dX7_judge_11 : decode cX7_judge 11 = .ok (.aload_n 0, 1) := by decide +kernel
theorem dX7_judge_12 : decode cX7_judge 12 = .ok (.iload_n 1, 1) := by decide +kernel
theorem dX7_judge_13 : decode cX7_judge 13 = .ok (.iconst 0, 1) := by decide +kernel
theorem dX7_judge_14 : decode cX7_judge 14 = .ok (.invokevirtual 198, 3) := by decide +kernel
theorem dX7_judge_17 : decode cX7_judge 17 = .ok (.bipush 84, 2) := by decide +kernel
theorem dX7_judge_19 : decode cX7_judge 19 = .ok (.if_icmp .ne 23, 3) := by decide +kernel
theorem dX7_judge_22 : decode cX7_judge 22 = .ok (.aload_n 0, 1) := by decide +kernel
theorem dX7_judge_23 : decode cX7_judge 23 = .ok (.iload_n 1, 1) := by decide +kernel
theorem dX7_judge_24 : decode cX7_judge 24 = .ok (.iconst 1, 1) := by decide +kernel
theorem dX7_judge_25 : decode cX7_judge 25 = .ok (.invokevirtual 198, 3) := by decide +kernel
theorem dX7_judge_28 : decode cX7_judge 28 = .ok (.bipush 73, 2) := by decide +kernel
theorem dX7_judge_30 : decode cX7_judge 30 = .ok (.if_icmp .ne 12, 3) := by decide +kernel
theorem dX7_judge_33 : decode cX7_judge 33 = .ok (.aload_n 0, 1) := by decide +kernel
theorem dX7_judge_34 : decode cX7_judge 34 = .ok (.iload_n 1, 1) := by decide +kernel
theorem dX7_judge_35 : decode cX7_judge 35 = .ok (.iconst 3, 1) := by decide +kernel
theorem dX7_judge_36 : decode cX7_judge 36 = .ok (.invokevirtual 198, 3) := by decide +kernel
theorem dX7_judge_39 : decode cX7_judge 39 = .ok (.ifCond .eq 5, 3) := by decide +kernel
theorem dX7_judge_42 : decode cX7_judge 42 = .ok (.iconst 1, 1) := by decide +kernel
theorem dX7_judge_43 : decode cX7_judge 43 = .ok (.ireturn, 1) := by decide +kernel
theorem dX7_judge_44 : decode cX7_judge 44 = .ok (.aload_n 0, 1) := by decide +kernel
theorem dX7_judge_45 : decode cX7_judge 45 = .ok (.iload_n 1, 1) := by decide +kernel
theorem dX7_judge_46 : decode cX7_judge 46 = .ok (.iconst 2, 1) := by decide +kernel
theorem dX7_judge_47 : decode cX7_judge 47 = .ok (.invokevirtual 198, 3) := by decide +kernel
theorem dX7_judge_50 : decode cX7_judge 50 = .ok (.istore_n 2, 1) := by decide +kernel
theorem dX7_judge_51 : decode cX7_judge 51 = .ok (.iload_n 2, 1) := by decide +kernel
theorem dX7_judge_52 : decode cX7_judge 52 = .ok (.bipush 8, 2) := by decide +kernel
theorem dX7_judge_54 : decode cX7_judge 54 = .ok (.if_icmp .eq 17, 3) := by decide +kernel
theorem dX7_judge_57 : decode cX7_judge 57 = .ok (.iload_n 2, 1) := by decide +kernel
theorem dX7_judge_58 : decode cX7_judge 58 = .ok (.bipush 16, 2) := by decide +kernel
theorem dX7_judge_60 : decode cX7_judge 60 = .ok (.if_icmp .eq 11, 3) := by decide +kernel
theorem dX7_judge_63 : decode cX7_judge 63 = .ok (.iload_n 2, 1) := by decide +kernel
theorem dX7_judge_64 : decode cX7_judge 64 = .ok (.bipush 32, 2) := by decide +kernel
theorem dX7_judge_66 : decode cX7_judge 66 = .ok (.if_icmp .eq 5, 3) := by decide +kernel
theorem dX7_judge_69 : decode cX7_judge 69 = .ok (.iconst 1, 1) := by decide +kernel
theorem dX7_judge_70 : decode cX7_judge 70 = .ok (.ireturn, 1) := by decide +kernel
theorem dX7_judge_71 : decode cX7_judge 71 = .ok (.aload_n 0, 1) := by decide +kernel
theorem dX7_judge_72 : decode cX7_judge 72 = .ok (.iload_n 1, 1) := by decide +kernel
theorem dX7_judge_73 : decode cX7_judge 73 = .ok (.invokevirtual 207, 3) := by decide +kernel
theorem dX7_judge_76 : decode cX7_judge 76 = .ok (.istore_n 3, 1) := by decide +kernel
theorem dX7_judge_77 : decode cX7_judge 77 = .ok (.aload_n 0, 1) := by decide +kernel
theorem dX7_judge_78 : decode cX7_judge 78 = .ok (.iload_n 1, 1) := by decide +kernel
theorem dX7_judge_79 : decode cX7_judge 79 = .ok (.bipush 6, 2) := by decide +kernel
theorem dX7_judge_81 : decode cX7_judge 81 = .ok (.invokevirtual 201, 3) := by decide +kernel
theorem dX7_judge_84 : decode cX7_judge 84 = .ok (.bipush 18, 2) := by decide +kernel
theorem dX7_judge_86 : decode cX7_judge 86 = .ok (.if_icmp .lt 74, 3) := by decide +kernel
theorem dX7_judge_89 : decode cX7_judge 89 = .ok (.aload_n 0, 1) := by decide +kernel
theorem dX7_judge_90 : decode cX7_judge 90 = .ok (.iload_n 1, 1) := by decide +kernel
theorem dX7_judge_91 : decode cX7_judge 91 = .ok (.bipush 8, 2) := by decide +kernel
theorem dX7_judge_93 : decode cX7_judge 93 = .ok (.invokevirtual 201, 3) := by decide +kernel
theorem dX7_judge_96 : decode cX7_judge 96 = .ok (.aload_n 0, 1) := by decide +kernel
theorem dX7_judge_97 : decode cX7_judge 97 = .ok (.iload_n 1, 1) := by decide +kernel
theorem dX7_judge_98 : decode cX7_judge 98 = .ok (.bipush 6, 2) := by decide +kernel
theorem dX7_judge_100 : decode cX7_judge 100 = .ok (.invokevirtual 201, 3) := by decide +kernel
theorem dX7_judge_103 : decode cX7_judge 103 = .ok (.if_icmp .lt 57, 3) := by decide +kernel
theorem dX7_judge_106 : decode cX7_judge 106 = .ok (.aload_n 0, 1) := by decide +kernel
theorem dX7_judge_107 : decode cX7_judge 107 = .ok (.iload_n 1, 1) := by decide +kernel
theorem dX7_judge_108 : decode cX7_judge 108 = .ok (.bipush 10, 2) := by decide +kernel
theorem dX7_judge_110 : decode cX7_judge 110 = .ok (.invokevirtual 201, 3) := by decide +kernel
theorem dX7_judge_113 : decode cX7_judge 113 = .ok (.aload_n 0, 1) := by decide +kernel
theorem dX7_judge_114 : decode cX7_judge 114 = .ok (.iload_n 1, 1) := by decide +kernel
theorem dX7_judge_115 : decode cX7_judge 115 = .ok (.bipush 8, 2) := by decide +kernel
theorem dX7_judge_117 : decode cX7_judge 117 = .ok (.invokevirtual 201, 3) := by decide +kernel
theorem dX7_judge_120 : decode cX7_judge 120 = .ok (.if_icmp .lt 40, 3) := by decide +kernel
theorem dX7_judge_123 : decode cX7_judge 123 = .ok (.aload_n 0, 1) := by decide +kernel
theorem dX7_judge_124 : decode cX7_judge 124 = .ok (.iload_n 1, 1) := by decide +kernel
theorem dX7_judge_125 : decode cX7_judge 125 = .ok (.bipush 12, 2) := by decide +kernel
theorem dX7_judge_127 : decode cX7_judge 127 = .ok (.invokevirtual 201, 3) := by decide +kernel
theorem dX7_judge_130 : decode cX7_judge 130 = .ok (.aload_n 0, 1) := by decide +kernel
theorem dX7_judge_131 : decode cX7_judge 131 = .ok (.iload_n 1, 1) := by decide +kernel
theorem dX7_judge_132 : decode cX7_judge 132 = .ok (.bipush 10, 2) := by decide +kernel
theorem dX7_judge_134 : decode cX7_judge 134 = .ok (.invokevirtual 201, 3) := by decide +kernel
theorem dX7_judge_137 : decode cX7_judge 137 = .ok (.if_icmp .lt 23, 3) := by decide +kernel
theorem dX7_judge_140 : decode cX7_judge 140 = .ok (.aload_n 0, 1) := by decide +kernel
theorem dX7_judge_141 : decode cX7_judge 141 = .ok (.getfield 37, 3) := by decide +kernel
theorem dX7_judge_144 : decode cX7_judge 144 = .ok (.iload_n 1, 1) := by decide +kernel
theorem dX7_judge_145 : decode cX7_judge 145 = .ok (.iaload, 1) := by decide +kernel
theorem dX7_judge_146 : decode cX7_judge 146 = .ok (.aload_n 0, 1) := by decide +kernel
theorem dX7_judge_147 : decode cX7_judge 147 = .ok (.iload_n 1, 1) := by decide +kernel
theorem dX7_judge_148 : decode cX7_judge 148 = .ok (.bipush 12, 2) := by decide +kernel
theorem dX7_judge_150 : decode cX7_judge 150 = .ok (.invokevirtual 201, 3) := by decide +kernel
theorem dX7_judge_153 : decode cX7_judge 153 = .ok (.if_icmp .lt 7, 3) := by decide +kernel
theorem dX7_judge_156 : decode cX7_judge 156 = .ok (.iconst 1, 1) := by decide +kernel
theorem dX7_judge_157 : decode cX7_judge 157 = .ok (.goto 4, 3) := by decide +kernel
theorem dX7_judge_160 : decode cX7_judge 160 = .ok (.iconst 0, 1) := by decide +kernel
theorem dX7_judge_161 : decode cX7_judge 161 = .ok (.istore 4, 2) := by decide +kernel
theorem dX7_judge_163 : decode cX7_judge 163 = .ok (.aload_n 0, 1) := by decide +kernel
theorem dX7_judge_164 : decode cX7_judge 164 = .ok (.iload_n 1, 1) := by decide +kernel
theorem dX7_judge_165 : decode cX7_judge 165 = .ok (.bipush 14, 2) := by decide +kernel
theorem dX7_judge_167 : decode cX7_judge 167 = .ok (.invokevirtual 201, 3) := by decide +kernel
theorem dX7_judge_170 : decode cX7_judge 170 = .ok (.aload_n 0, 1) := by decide +kernel
theorem dX7_judge_171 : decode cX7_judge 171 = .ok (.getfield 37, 3) := by decide +kernel
theorem dX7_judge_174 : decode cX7_judge 174 = .ok (.iload_n 1, 1) := by decide +kernel
theorem dX7_judge_175 : decode cX7_judge 175 = .ok (.iaload, 1) := by decide +kernel
theorem dX7_judge_176 : decode cX7_judge 176 = .ok (.if_icmp .ne 32, 3) := by decide +kernel
theorem dX7_judge_179 : decode cX7_judge 179 = .ok (.iload 4, 2) := by decide +kernel
theorem dX7_judge_181 : decode cX7_judge 181 = .ok (.ifCond .eq 27, 3) := by decide +kernel
theorem dX7_judge_184 : decode cX7_judge 184 = .ok (.iload_n 3, 1) := by decide +kernel
theorem dX7_judge_185 : decode cX7_judge 185 = .ok (.ifCond .eq 23, 3) := by decide +kernel
theorem dX7_judge_188 : decode cX7_judge 188 = .ok (.aload_n 0, 1) := by decide +kernel
theorem dX7_judge_189 : decode cX7_judge 189 = .ok (.getfield 37, 3) := by decide +kernel
theorem dX7_judge_192 : decode cX7_judge 192 = .ok (.iload_n 1, 1) := by decide +kernel
theorem dX7_judge_193 : decode cX7_judge 193 = .ok (.iaload, 1) := by decide +kernel
theorem dX7_judge_194 : decode cX7_judge 194 = .ok (.aload_n 0, 1) := by decide +kernel
theorem dX7_judge_195 : decode cX7_judge 195 = .ok (.iload_n 1, 1) := by decide +kernel
theorem dX7_judge_196 : decode cX7_judge 196 = .ok (.bipush 12, 2) := by decide +kernel
theorem dX7_judge_198 : decode cX7_judge 198 = .ok (.invokevirtual 201, 3) := by decide +kernel
theorem dX7_judge_201 : decode cX7_judge 201 = .ok (.isub, 1) := by decide +kernel
theorem dX7_judge_202 : decode cX7_judge 202 = .ok (.iconst 2, 1) := by decide +kernel
theorem dX7_judge_203 : decode cX7_judge 203 = .ok (.iload_n 3, 1) := by decide +kernel
theorem dX7_judge_204 : decode cX7_judge 204 = .ok (.imul, 1) := by decide +kernel
theorem dX7_judge_205 : decode cX7_judge 205 = .ok (.if_icmp .eq 5, 3) := by decide +kernel
theorem dX7_judge_208 : decode cX7_judge 208 = .ok (.iconst 2, 1) := by decide +kernel
theorem dX7_judge_209 : decode cX7_judge 209 = .ok (.ireturn, 1) := by decide +kernel
theorem dX7_judge_210 : decode cX7_judge 210 = .ok (.aload_n 0, 1) := by decide +kernel
theorem dX7_judge_211 : decode cX7_judge 211 = .ok (.iload_n 1, 1) := by decide +kernel
theorem dX7_judge_212 : decode cX7_judge 212 = .ok (.bipush 16, 2) := by decide +kernel
theorem dX7_judge_214 : decode cX7_judge 214 = .ok (.invokevirtual 201, 3) := by decide +kernel
theorem dX7_judge_217 : decode cX7_judge 217 = .ok (.aload_n 0, 1) := by decide +kernel
theorem dX7_judge_218 : decode cX7_judge 218 = .ok (.iload_n 1, 1) := by decide +kernel
theorem dX7_judge_219 : decode cX7_judge 219 = .ok (.invokevirtual 187, 3) := by decide +kernel
theorem dX7_judge_222 : decode cX7_judge 222 = .ok (.if_icmp .eq 5, 3) := by decide +kernel
theorem dX7_judge_225 : decode cX7_judge 225 = .ok (.iconst 3, 1) := by decide +kernel
theorem dX7_judge_226 : decode cX7_judge 226 = .ok (.ireturn, 1) := by decide +kernel
theorem dX7_judge_227 : decode cX7_judge 227 = .ok (.aload_n 0, 1) := by decide +kernel
theorem dX7_judge_228 : decode cX7_judge 228 = .ok (.iload_n 1, 1) := by decide +kernel
theorem dX7_judge_229 : decode cX7_judge 229 = .ok (.iload_n 2, 1) := by decide +kernel
theorem dX7_judge_230 : decode cX7_judge 230 = .ok (.invokevirtual 210, 3) := by decide +kernel
theorem dX7_judge_233 : decode cX7_judge 233 = .ok (.ifCond .ne 5, 3) := by decide +kernel
theorem dX7_judge_236 : decode cX7_judge 236 = .ok (.iconst 4, 1) := by decide +kernel
theorem dX7_judge_237 : decode cX7_judge 237 = .ok (.ireturn, 1) := by decide +kernel
theorem dX7_judge_238 : decode cX7_judge 238 = .ok (.aload_n 0, 1) := by decide +kernel
theorem dX7_judge_239 : decode cX7_judge 239 = .ok (.iload_n 1, 1) := by decide +kernel
theorem dX7_judge_240 : decode cX7_judge 240 = .ok (.iload_n 3, 1) := by decide +kernel
theorem dX7_judge_241 : decode cX7_judge 241 = .ok (.iload_n 2, 1) := by decide +kernel
theorem dX7_judge_242 : decode cX7_judge 242 = .ok (.invokevirtual 213, 3) := by decide +kernel
theorem dX7_judge_245 : decode cX7_judge 245 = .ok (.ifCond .ne 5, 3) := by decide +kernel
theorem dX7_judge_248 : decode cX7_judge 248 = .ok (.iconst 5, 1) := by decide +kernel
theorem dX7_judge_249 : decode cX7_judge 249 = .ok (.ireturn, 1) := by decide +kernel
theorem dX7_judge_250 : decode cX7_judge 250 = .ok (.aload_n 0, 1) := by decide +kernel
theorem dX7_judge_251 : decode cX7_judge 251 = .ok (.iload_n 1, 1) := by decide +kernel
theorem dX7_judge_252 : decode cX7_judge 252 = .ok (.iload_n 3, 1) := by decide +kernel
theorem dX7_judge_253 : decode cX7_judge 253 = .ok (.invokevirtual 216, 3) := by decide +kernel
theorem dX7_judge_256 : decode cX7_judge 256 = .ok (.ifCond .ne 6, 3) := by decide +kernel
theorem dX7_judge_259 : decode cX7_judge 259 = .ok (.bipush 6, 2) := by decide +kernel
theorem dX7_judge_261 : decode cX7_judge 261 = .ok (.ireturn, 1) := by decide +kernel
theorem dX7_judge_262 : decode cX7_judge 262 = .ok (.aload_n 0, 1) := by decide +kernel
theorem dX7_judge_263 : decode cX7_judge 263 = .ok (.iload_n 1, 1) := by decide +kernel
theorem dX7_judge_264 : decode cX7_judge 264 = .ok (.iload_n 3, 1) := by decide +kernel
theorem dX7_judge_265 : decode cX7_judge 265 = .ok (.invokevirtual 219, 3) := by decide +kernel
theorem dX7_judge_268 : decode cX7_judge 268 = .ok (.ifCond .eq 7, 3) := by decide +kernel
theorem dX7_judge_271 : decode cX7_judge 271 = .ok (.iconst 0, 1) := by decide +kernel
theorem dX7_judge_272 : decode cX7_judge 272 = .ok (.goto 5, 3) := by decide +kernel
theorem dX7_judge_275 : decode cX7_judge 275 = .ok (.bipush 7, 2) := by decide +kernel
theorem dX7_judge_277 : decode cX7_judge 277 = .ok (.ireturn, 1) := by decide +kernel
theorem dX7_areTails_0 : decode cX7_areTails 0 = .ok (.aload_n 0, 1) := by decide +kernel
theorem dX7_areTails_1 : decode cX7_areTails 1 = .ok (.iload_n 1, 1) := by decide +kernel
theorem dX7_areTails_2 : decode cX7_areTails 2 = .ok (.bipush 10, 2) := by decide +kernel
theorem dX7_areTails_4 : decode cX7_areTails 4 = .ok (.invokevirtual 201, 3) := by decide +kernel
theorem dX7_areTails_7 : decode cX7_areTails 7 = .ok (.istore_n 3, 1) := by decide +kernel
theorem dX7_areTails_8 : decode cX7_areTails 8 = .ok (.aload_n 0, 1) := by decide +kernel
theorem dX7_areTails_9 : decode cX7_areTails 9 = .ok (.iload_n 1, 1) := by decide +kernel
theorem dX7_areTails_10 : decode cX7_areTails 10 = .ok (.bipush 12, 2) := by decide +kernel
theorem dX7_areTails_12 : decode cX7_areTails 12 = .ok (.invokevirtual 201, 3) := by decide +kernel
theorem dX7_areTails_15 : decode cX7_areTails 15 = .ok (.istore 4, 2) := by decide +kernel
theorem dX7_areTails_17 : decode cX7_areTails 17 = .ok (.iload 4, 2) := by decide +kernel
theorem dX7_areTails_19 : decode cX7_areTails 19 = .ok (.iload_n 3, 1) := by decide +kernel
theorem dX7_areTails_20 : decode cX7_areTails 20 = .ok (.isub, 1) := by decide +kernel
theorem dX7_areTails_21 : decode cX7_areTails 21 = .ok (.iconst 5, 1) := by decide +kernel
theorem dX7_areTails_22 : decode cX7_areTails 22 = .ok (.irem, 1) := by decide +kernel
theorem dX7_areTails_23 : decode cX7_areTails 23 = .ok (.ifCond .ne 7, 3) := by decide +kernel
theorem dX7_areTails_26 : decode cX7_areTails 26 = .ok (.iconst 1, 1) := by decide +kernel
theorem dX7_areTails_27 : decode cX7_areTails 27 = .ok (.goto 4, 3) := by decide +kernel
theorem dX7_areTails_30 : decode cX7_areTails 30 = .ok (.iconst 0, 1) := by decide +kernel
theorem dX7_areTails_31 : decode cX7_areTails 31 = .ok (.istore 5, 2) := by decide +kernel
theorem dX7_areTails_33 : decode cX7_areTails 33 = .ok (.iload_n 3, 1) := by decide +kernel
theorem dX7_areTails_34 : decode cX7_areTails 34 = .ok (.istore 6, 2) := by decide +kernel
theorem dX7_areTails_36 : decode cX7_areTails 36 = .ok (.iload 6, 2) := by decide +kernel
theorem dX7_areTails_38 : decode cX7_areTails 38 = .ok (.iload 4, 2) := by decide +kernel
theorem dX7_areTails_40 : decode cX7_areTails 40 = .ok (.if_icmp .ge 68, 3) := by decide +kernel
theorem dX7_areTails_43 : decode cX7_areTails 43 = .ok (.iload 5, 2) := by decide +kernel
theorem dX7_areTails_45 : decode cX7_areTails 45 = .ok (.ifCond .eq 63, 3) := by decide +kernel
theorem dX7_areTails_48 : decode cX7_areTails 48 = .ok (.aload_n 0, 1) := by decide +kernel
theorem dX7_areTails_49 : decode cX7_areTails 49 = .ok (.iload_n 1, 1) := by decide +kernel
theorem dX7_areTails_50 : decode cX7_areTails 50 = .ok (.iload 6, 2) := by decide +kernel
theorem dX7_areTails_52 : decode cX7_areTails 52 = .ok (.iconst 4, 1) := by decide +kernel
theorem dX7_areTails_53 : decode cX7_areTails 53 = .ok (.iadd, 1) := by decide +kernel
theorem dX7_areTails_54 : decode cX7_areTails 54 = .ok (.invokevirtual 198, 3) := by decide +kernel
theorem dX7_areTails_57 : decode cX7_areTails 57 = .ok (.istore 7, 2) := by decide +kernel
theorem dX7_areTails_59 : decode cX7_areTails 59 = .ok (.iload 7, 2) := by decide +kernel
theorem dX7_areTails_61 : decode cX7_areTails 61 = .ok (.iconst 1, 1) := by decide +kernel
theorem dX7_areTails_62 : decode cX7_areTails 62 = .ok (.iload_n 2, 1) := by decide +kernel
theorem dX7_areTails_63 : decode cX7_areTails 63 = .ok (.invokestatic 101, 3) := by decide +kernel
theorem dX7_areTails_66 : decode cX7_areTails 66 = .ok (.ifCond .eq 33, 3) := by decide +kernel
theorem dX7_areTails_69 : decode cX7_areTails 69 = .ok (.aload_n 0, 1) := by decide +kernel
theorem dX7_areTails_70 : decode cX7_areTails 70 = .ok (.iload_n 1, 1) := by decide +kernel
theorem dX7_areTails_71 : decode cX7_areTails 71 = .ok (.aload_n 0, 1) := by decide +kernel
theorem dX7_areTails_72 : decode cX7_areTails 72 = .ok (.iload_n 1, 1) := by decide +kernel
theorem dX7_areTails_73 : decode cX7_areTails 73 = .ok (.iload 6, 2) := by decide +kernel
theorem dX7_areTails_75 : decode cX7_areTails 75 = .ok (.invokevirtual 201, 3) := by decide +kernel
theorem dX7_areTails_78 : decode cX7_areTails 78 = .ok (.aload_n 0, 1) := by decide +kernel
theorem dX7_areTails_79 : decode cX7_areTails 79 = .ok (.iload_n 1, 1) := by decide +kernel
theorem dX7_areTails_80 : decode cX7_areTails 80 = .ok (.iload 6, 2) := by decide +kernel
theorem dX7_areTails_82 : decode cX7_areTails 82 = .ok (.iconst 2, 1) := by decide +kernel
theorem dX7_areTails_83 : decode cX7_areTails 83 = .ok (.iadd, 1) := by decide +kernel
theorem dX7_areTails_84 : decode cX7_areTails 84 = .ok (.invokevirtual 201, 3) := by decide +kernel
theorem dX7_areTails_87 : decode cX7_areTails 87 = .ok (.iload 7, 2) := by decide +kernel
theorem dX7_areTails_89 : decode cX7_areTails 89 = .ok (.invokevirtual 222, 3) := by decide +kernel
theorem dX7_areTails_92 : decode cX7_areTails 92 = .ok (.ifCond .eq 7, 3) := by decide +kernel
theorem dX7_areTails_95 : decode cX7_areTails 95 = .ok (.iconst 1, 1) := by decide +kernel
theorem dX7_areTails_96 : decode cX7_areTails 96 = .ok (.goto 4, 3) := by decide +kernel
theorem dX7_areTails_99 : decode cX7_areTails 99 = .ok (.iconst 0, 1) := by decide +kernel
theorem dX7_areTails_100 : decode cX7_areTails 100 = .ok (.istore 5, 2) := by decide +kernel
theorem dX7_areTails_102 : decode cX7_areTails 102 = .ok (.iinc 6 5, 3) := by decide +kernel
theorem dX7_areTails_105 : decode cX7_areTails 105 = .ok (.goto (-69), 3) := by decide +kernel
theorem dX7_areTails_108 : decode cX7_areTails 108 = .ok (.iload 5, 2) := by decide +kernel
theorem dX7_areTails_110 : decode cX7_areTails 110 = .ok (.ireturn, 1) := by decide +kernel
theorem dX7_inode_0 : decode cX7_inode 0 = .ok (.aload_n 0, 1) := by decide +kernel
theorem dX7_inode_1 : decode cX7_inode 1 = .ok (.iload_n 1, 1) := by decide +kernel
theorem dX7_inode_2 : decode cX7_inode 2 = .ok (.bipush 6, 2) := by decide +kernel
theorem dX7_inode_4 : decode cX7_inode 4 = .ok (.invokevirtual 201, 3) := by decide +kernel
theorem dX7_inode_7 : decode cX7_inode 7 = .ok (.aload_n 0, 1) := by decide +kernel
theorem dX7_inode_8 : decode cX7_inode 8 = .ok (.iload_n 1, 1) := by decide +kernel
theorem dX7_inode_9 : decode cX7_inode 9 = .ok (.aload_n 0, 1) := by decide +kernel
theorem dX7_inode_10 : decode cX7_inode 10 = .ok (.iload_n 1, 1) := by decide +kernel
theorem dX7_inode_11 : decode cX7_inode 11 = .ok (.bipush 12, 2) := by decide +kernel
theorem dX7_inode_13 : decode cX7_inode 13 = .ok (.invokevirtual 201, 3) := by decide +kernel
theorem dX7_inode_16 : decode cX7_inode 16 = .ok (.iconst 2, 1) := by decide +kernel
theorem dX7_inode_17 : decode cX7_inode 17 = .ok (.iload_n 2, 1) := by decide +kernel
theorem dX7_inode_18 : decode cX7_inode 18 = .ok (.imul, 1) := by decide +kernel
theorem dX7_inode_19 : decode cX7_inode 19 = .ok (.iadd, 1) := by decide +kernel
theorem dX7_inode_20 : decode cX7_inode 20 = .ok (.iconst 2, 1) := by decide +kernel
theorem dX7_inode_21 : decode cX7_inode 21 = .ok (.isub, 1) := by decide +kernel
theorem dX7_inode_22 : decode cX7_inode 22 = .ok (.invokevirtual 201, 3) := by decide +kernel
theorem dX7_inode_25 : decode cX7_inode 25 = .ok (.iadd, 1) := by decide +kernel
theorem dX7_inode_26 : decode cX7_inode 26 = .ok (.ireturn, 1) := by decide +kernel
theorem dX7_areInodes_0 : decode cX7_areInodes 0 = .ok (.aload_n 0, 1) := by decide +kernel
theorem dX7_areInodes_1 : decode cX7_areInodes 1 = .ok (.iload_n 1, 1) := by decide +kernel
theorem dX7_areInodes_2 : decode cX7_areInodes 2 = .ok (.bipush 6, 2) := by decide +kernel
theorem dX7_areInodes_4 : decode cX7_areInodes 4 = .ok (.invokevirtual 201, 3) := by decide +kernel
theorem dX7_areInodes_7 : decode cX7_areInodes 7 = .ok (.istore 4, 2) := by decide +kernel
theorem dX7_areInodes_9 : decode cX7_areInodes 9 = .ok (.aload_n 0, 1) := by decide +kernel
theorem dX7_areInodes_10 : decode cX7_areInodes 10 = .ok (.iload_n 1, 1) := by decide +kernel
theorem dX7_areInodes_11 : decode cX7_areInodes 11 = .ok (.bipush 8, 2) := by decide +kernel
theorem dX7_areInodes_13 : decode cX7_areInodes 13 = .ok (.invokevirtual 201, 3) := by decide +kernel
theorem dX7_areInodes_16 : decode cX7_areInodes 16 = .ok (.istore 5, 2) := by decide +kernel
theorem dX7_areInodes_18 : decode cX7_areInodes 18 = .ok (.iconst 1, 1) := by decide +kernel
theorem dX7_areInodes_19 : decode cX7_areInodes 19 = .ok (.istore 6, 2) := by decide +kernel
theorem dX7_areInodes_21 : decode cX7_areInodes 21 = .ok (.iload 6, 2) := by decide +kernel
theorem dX7_areInodes_23 : decode cX7_areInodes 23 = .ok (.iload_n 2, 1) := by decide +kernel
theorem dX7_areInodes_24 : decode cX7_areInodes 24 = .ok (.if_icmp .gt 146, 3) := by decide +kernel
theorem dX7_areInodes_27 : decode cX7_areInodes 27 = .ok (.aload_n 0, 1) := by decide +kernel
theorem dX7_areInodes_28 : decode cX7_areInodes 28 = .ok (.iload_n 1, 1) := by decide +kernel
theorem dX7_areInodes_29 : decode cX7_areInodes 29 = .ok (.iload 6, 2) := by decide +kernel
theorem dX7_areInodes_31 : decode cX7_areInodes 31 = .ok (.invokevirtual 226, 3) := by decide +kernel
theorem dX7_areInodes_34 : decode cX7_areInodes 34 = .ok (.iload 4, 2) := by decide +kernel
theorem dX7_areInodes_36 : decode cX7_areInodes 36 = .ok (.if_icmp .ne 10, 3) := by decide +kernel
theorem dX7_areInodes_39 : decode cX7_areInodes 39 = .ok (.iload 4, 2) := by decide +kernel
theorem dX7_areInodes_41 : decode cX7_areInodes 41 = .ok (.iload 5, 2) := by decide +kernel
theorem dX7_areInodes_43 : decode cX7_areInodes 43 = .ok (.if_icmp .lt 5, 3) := by decide +kernel
theorem dX7_areInodes_46 : decode cX7_areInodes 46 = .ok (.iconst 0, 1) := by decide +kernel
theorem dX7_areInodes_47 : decode cX7_areInodes 47 = .ok (.ireturn, 1) := by decide +kernel
theorem dX7_areInodes_48 : decode cX7_areInodes 48 = .ok (.aload_n 0, 1) := by decide +kernel
theorem dX7_areInodes_49 : decode cX7_areInodes 49 = .ok (.iload_n 1, 1) := by decide +kernel
theorem dX7_areInodes_50 : decode cX7_areInodes 50 = .ok (.iload 4, 2) := by decide +kernel
theorem dX7_areInodes_52 : decode cX7_areInodes 52 = .ok (.invokevirtual 198, 3) := by decide +kernel
theorem dX7_areInodes_55 : decode cX7_areInodes 55 = .ok (.istore 7, 2) := by decide +kernel
theorem dX7_areInodes_57 : decode cX7_areInodes 57 = .ok (.iload 7, 2) := by decide +kernel
theorem dX7_areInodes_59 : decode cX7_areInodes 59 = .ok (.iconst 1, 1) := by decide +kernel
theorem dX7_areInodes_60 : decode cX7_areInodes 60 = .ok (.if_icmp .ne 8, 3) := by decide +kernel
theorem dX7_areInodes_63 : decode cX7_areInodes 63 = .ok (.bipush 12, 2) := by decide +kernel
theorem dX7_areInodes_65 : decode cX7_areInodes 65 = .ok (.goto 16, 3) := by decide +kernel
theorem dX7_areInodes_68 : decode cX7_areInodes 68 = .ok (.iload 7, 2) := by decide +kernel
theorem dX7_areInodes_70 : decode cX7_areInodes 70 = .ok (.iconst 2, 1) := by decide +kernel
theorem dX7_areInodes_71 : decode cX7_areInodes 71 = .ok (.if_icmp .ne 8, 3) := by decide +kernel
theorem dX7_areInodes_74 : decode cX7_areInodes 74 = .ok (.bipush 12, 2) := by decide +kernel
theorem dX7_areInodes_76 : decode cX7_areInodes 76 = .ok (.goto 5, 3) := by decide +kernel
theorem dX7_areInodes_79 : decode cX7_areInodes 79 = .ok (.bipush 6, 2) := by decide +kernel
theorem dX7_areInodes_81 : decode cX7_areInodes 81 = .ok (.istore 8, 2) := by decide +kernel
theorem dX7_areInodes_83 : decode cX7_areInodes 83 = .ok (.iload 7, 2) := by decide +kernel
theorem dX7_areInodes_85 : decode cX7_areInodes 85 = .ok (.iconst 1, 1) := by decide +kernel
theorem dX7_areInodes_86 : decode cX7_areInodes 86 = .ok (.iconst 3, 1) := by decide +kernel
theorem dX7_areInodes_87 : decode cX7_areInodes 87 = .ok (.invokestatic 101, 3) := by decide +kernel
theorem dX7_areInodes_90 : decode cX7_areInodes 90 = .ok (.ifCond .eq 13, 3) := by decide +kernel
theorem dX7_areInodes_93 : decode cX7_areInodes 93 = .ok (.iload 4, 2) := by decide +kernel
theorem dX7_areInodes_95 : decode cX7_areInodes 95 = .ok (.iload 8, 2) := by decide +kernel
theorem dX7_areInodes_97 : decode cX7_areInodes 97 = .ok (.iadd, 1) := by decide +kernel
theorem dX7_areInodes_98 : decode cX7_areInodes 98 = .ok (.iload 5, 2) := by decide +kernel
theorem dX7_areInodes_100 : decode cX7_areInodes 100 = .ok (.if_icmp .le 5, 3) := by decide +kernel
theorem dX7_areInodes_103 : decode cX7_areInodes 103 = .ok (.iconst 0, 1) := by decide +kernel
theorem dX7_areInodes_104 : decode cX7_areInodes 104 = .ok (.ireturn, 1) := by decide +kernel
theorem dX7_areInodes_105 : decode cX7_areInodes 105 = .ok (.iload 7, 2) := by decide +kernel
theorem dX7_areInodes_107 : decode cX7_areInodes 107 = .ok (.iconst 2, 1) := by decide +kernel
theorem dX7_areInodes_108 : decode cX7_areInodes 108 = .ok (.if_icmp .ne 49, 3) := by decide +kernel
theorem dX7_areInodes_111 : decode cX7_areInodes 111 = .ok (.aload_n 0, 1) := by decide +kernel
theorem dX7_areInodes_112 : decode cX7_areInodes 112 = .ok (.iload_n 1, 1) := by decide +kernel
theorem dX7_areInodes_113 : decode cX7_areInodes 113 = .ok (.iload 4, 2) := by decide +kernel
theorem dX7_areInodes_115 : decode cX7_areInodes 115 = .ok (.bipush 6, 2) := by decide +kernel
theorem dX7_areInodes_117 : decode cX7_areInodes 117 = .ok (.iadd, 1) := by decide +kernel
theorem dX7_areInodes_118 : decode cX7_areInodes 118 = .ok (.invokevirtual 201, 3) := by decide +kernel
theorem dX7_areInodes_121 : decode cX7_areInodes 121 = .ok (.istore 9, 2) := by decide +kernel
theorem dX7_areInodes_123 : decode cX7_areInodes 123 = .ok (.iload 8, 2) := by decide +kernel
theorem dX7_areInodes_125 : decode cX7_areInodes 125 = .ok (.iconst 2, 1) := by decide +kernel
theorem dX7_areInodes_126 : decode cX7_areInodes 126 = .ok (.iload 9, 2) := by decide +kernel
theorem dX7_areInodes_128 : decode cX7_areInodes 128 = .ok (.iload_n 3, 1) := by decide +kernel
theorem dX7_areInodes_129 : decode cX7_areInodes 129 = .ok (.idiv, 1) := by decide +kernel
theorem dX7_areInodes_130 : decode cX7_areInodes 130 = .ok (.imul, 1) := by decide +kernel
theorem dX7_areInodes_131 : decode cX7_areInodes 131 = .ok (.iadd, 1) := by decide +kernel
theorem dX7_areInodes_132 : decode cX7_areInodes 132 = .ok (.istore 8, 2) := by decide +kernel
theorem dX7_areInodes_134 : decode cX7_areInodes 134 = .ok (.iload 4, 2) := by decide +kernel
theorem dX7_areInodes_136 : decode cX7_areInodes 136 = .ok (.iload 8, 2) := by decide +kernel
theorem dX7_areInodes_138 : decode cX7_areInodes 138 = .ok (.iadd, 1) := by decide +kernel
theorem dX7_areInodes_139 : decode cX7_areInodes 139 = .ok (.iload 5, 2) := by decide +kernel
theorem dX7_areInodes_141 : decode cX7_areInodes 141 = .ok (.if_icmp .gt 14, 3) := by decide +kernel
theorem dX7_areInodes_144 : decode cX7_areInodes 144 = .ok (.aload_n 0, 1) := by decide +kernel
theorem dX7_areInodes_145 : decode cX7_areInodes 145 = .ok (.iload_n 1, 1) := by decide +kernel
theorem dX7_areInodes_146 : decode cX7_areInodes 146 = .ok (.iload 4, 2) := by decide +kernel
theorem dX7_areInodes_148 : decode cX7_areInodes 148 = .ok (.iload_n 3, 1) := by decide +kernel
theorem dX7_areInodes_149 : decode cX7_areInodes 149 = .ok (.invokevirtual 229, 3) := by decide +kernel
theorem dX7_areInodes_152 : decode cX7_areInodes 152 = .ok (.ifCond .ne 5, 3) := by decide +kernel
theorem dX7_areInodes_155 : decode cX7_areInodes 155 = .ok (.iconst 0, 1) := by decide +kernel
theorem dX7_areInodes_156 : decode cX7_areInodes 156 = .ok (.ireturn, 1) := by decide +kernel
theorem dX7_areInodes_157 : decode cX7_areInodes 157 = .ok (.iload 4, 2) := by decide +kernel
theorem dX7_areInodes_159 : decode cX7_areInodes 159 = .ok (.iload 8, 2) := by decide +kernel
theorem dX7_areInodes_161 : decode cX7_areInodes 161 = .ok (.iadd, 1) := by decide +kernel
theorem dX7_areInodes_162 : decode cX7_areInodes 162 = .ok (.istore 4, 2) := by decide +kernel
theorem dX7_areInodes_164 : decode cX7_areInodes 164 = .ok (.iinc 6 1, 3) := by decide +kernel
theorem dX7_areInodes_167 : decode cX7_areInodes 167 = .ok (.goto (-146), 3) := by decide +kernel
theorem dX7_areInodes_170 : decode cX7_areInodes 170 = .ok (.iload 4, 2) := by decide +kernel
theorem dX7_areInodes_172 : decode cX7_areInodes 172 = .ok (.iload 5, 2) := by decide +kernel
theorem dX7_areInodes_174 : decode cX7_areInodes 174 = .ok (.if_icmp .ne 7, 3) := by decide +kernel
theorem dX7_areInodes_177 : decode cX7_areInodes 177 = .ok (.iconst 1, 1) := by decide +kernel
theorem dX7_areInodes_178 : decode cX7_areInodes 178 = .ok (.goto 4, 3) := by decide +kernel
theorem dX7_areInodes_181 : decode cX7_areInodes 181 = .ok (.iconst 0, 1) := by decide +kernel
theorem dX7_areInodes_182 : decode cX7_areInodes 182 = .ok (.ireturn, 1) := by decide +kernel
theorem dX7_isFile_0 : decode cX7_isFile 0 = .ok (.aload_n 0, 1) := by decide +kernel
theorem dX7_isFile_1 : decode cX7_isFile 1 = .ok (.iload_n 1, 1) := by decide +kernel
theorem dX7_isFile_2 : decode cX7_isFile 2 = .ok (.iload_n 2, 1) := by decide +kernel
theorem dX7_isFile_3 : decode cX7_isFile 3 = .ok (.bipush 6, 2) := by decide +kernel
theorem dX7_isFile_5 : decode cX7_isFile 5 = .ok (.iadd, 1) := by decide +kernel
theorem dX7_isFile_6 : decode cX7_isFile 6 = .ok (.invokevirtual 201, 3) := by decide +kernel
theorem dX7_isFile_9 : decode cX7_isFile 9 = .ok (.istore 4, 2) := by decide +kernel
theorem dX7_isFile_11 : decode cX7_isFile 11 = .ok (.iload 4, 2) := by decide +kernel
theorem dX7_isFile_13 : decode cX7_isFile 13 = .ok (.iload_n 3, 1) := by decide +kernel
theorem dX7_isFile_14 : decode cX7_isFile 14 = .ok (.idiv, 1) := by decide +kernel
theorem dX7_isFile_15 : decode cX7_isFile 15 = .ok (.istore 5, 2) := by decide +kernel
theorem dX7_isFile_17 : decode cX7_isFile 17 = .ok (.iload 4, 2) := by decide +kernel
theorem dX7_isFile_19 : decode cX7_isFile 19 = .ok (.iload_n 3, 1) := by decide +kernel
theorem dX7_isFile_20 : decode cX7_isFile 20 = .ok (.irem, 1) := by decide +kernel
theorem dX7_isFile_21 : decode cX7_isFile 21 = .ok (.istore 6, 2) := by decide +kernel
theorem dX7_isFile_23 : decode cX7_isFile 23 = .ok (.aload_n 0, 1) := by decide +kernel
theorem dX7_isFile_24 : decode cX7_isFile 24 = .ok (.iload_n 1, 1) := by decide +kernel
theorem dX7_isFile_25 : decode cX7_isFile 25 = .ok (.iload_n 2, 1) := by decide +kernel
theorem dX7_isFile_26 : decode cX7_isFile 26 = .ok (.bipush 10, 2) := by decide +kernel
theorem dX7_isFile_28 : decode cX7_isFile 28 = .ok (.iadd, 1) := by decide +kernel
theorem dX7_isFile_29 : decode cX7_isFile 29 = .ok (.invokevirtual 198, 3) := by decide +kernel
theorem dX7_isFile_32 : decode cX7_isFile 32 = .ok (.istore 7, 2) := by decide +kernel
theorem dX7_isFile_34 : decode cX7_isFile 34 = .ok (.aload_n 0, 1) := by decide +kernel
theorem dX7_isFile_35 : decode cX7_isFile 35 = .ok (.iload_n 1, 1) := by decide +kernel
theorem dX7_isFile_36 : decode cX7_isFile 36 = .ok (.iload_n 2, 1) := by decide +kernel
theorem dX7_isFile_37 : decode cX7_isFile 37 = .ok (.bipush 11, 2) := by decide +kernel
theorem dX7_isFile_39 : decode cX7_isFile 39 = .ok (.iadd, 1) := by decide +kernel
theorem dX7_isFile_40 : decode cX7_isFile 40 = .ok (.invokevirtual 198, 3) := by decide +kernel
theorem dX7_isFile_43 : decode cX7_isFile 43 = .ok (.istore 8, 2) := by decide +kernel
theorem dX7_isFile_45 : decode cX7_isFile 45 = .ok (.iload 7, 2) := by decide +kernel
theorem dX7_isFile_47 : decode cX7_isFile 47 = .ok (.aload_n 0, 1) := by decide +kernel
theorem dX7_isFile_48 : decode cX7_isFile 48 = .ok (.iload_n 1, 1) := by decide +kernel
theorem dX7_isFile_49 : decode cX7_isFile 49 = .ok (.invokevirtual 232, 3) := by decide +kernel
theorem dX7_isFile_52 : decode cX7_isFile 52 = .ok (.if_icmp .gt 28, 3) := by decide +kernel
theorem dX7_isFile_55 : decode cX7_isFile 55 = .ok (.iload 6, 2) := by decide +kernel
theorem dX7_isFile_57 : decode cX7_isFile 57 = .ok (.ifCond .ne 13, 3) := by decide +kernel
theorem dX7_isFile_60 : decode cX7_isFile 60 = .ok (.iload 7, 2) := by decide +kernel
theorem dX7_isFile_62 : decode cX7_isFile 62 = .ok (.ifCond .gt 18, 3) := by decide +kernel
theorem dX7_isFile_65 : decode cX7_isFile 65 = .ok (.iload 8, 2) := by decide +kernel
theorem dX7_isFile_67 : decode cX7_isFile 67 = .ok (.ifCond .gt 13, 3) := by decide +kernel
theorem dX7_isFile_70 : decode cX7_isFile 70 = .ok (.iload 6, 2) := by decide +kernel
theorem dX7_isFile_72 : decode cX7_isFile 72 = .ok (.ifCond .le 10, 3) := by decide +kernel
theorem dX7_isFile_75 : decode cX7_isFile 75 = .ok (.iload 7, 2) := by decide +kernel
theorem dX7_isFile_77 : decode cX7_isFile 77 = .ok (.ifCond .ne 5, 3) := by decide +kernel
theorem dX7_isFile_80 : decode cX7_isFile 80 = .ok (.iconst 0, 1) := by decide +kernel
theorem dX7_isFile_81 : decode cX7_isFile 81 = .ok (.ireturn, 1) := by decide +kernel
theorem dX7_isFile_82 : decode cX7_isFile 82 = .ok (.iload 6, 2) := by decide +kernel
theorem dX7_isFile_84 : decode cX7_isFile 84 = .ok (.ifCond .le 32, 3) := by decide +kernel
theorem dX7_isFile_87 : decode cX7_isFile 87 = .ok (.iload 8, 2) := by decide +kernel
theorem dX7_isFile_89 : decode cX7_isFile 89 = .ok (.iload 6, 2) := by decide +kernel
theorem dX7_isFile_91 : decode cX7_isFile 91 = .ok (.iadd, 1) := by decide +kernel
theorem dX7_isFile_92 : decode cX7_isFile 92 = .ok (.aload_n 0, 1) := by decide +kernel
theorem dX7_isFile_93 : decode cX7_isFile 93 = .ok (.iload_n 1, 1) := by decide +kernel
theorem dX7_isFile_94 : decode cX7_isFile 94 = .ok (.aload_n 0, 1) := by decide +kernel
theorem dX7_isFile_95 : decode cX7_isFile 95 = .ok (.iload_n 1, 1) := by decide +kernel
theorem dX7_isFile_96 : decode cX7_isFile 96 = .ok (.bipush 10, 2) := by decide +kernel
theorem dX7_isFile_98 : decode cX7_isFile 98 = .ok (.invokevirtual 201, 3) := by decide +kernel
theorem dX7_isFile_101 : decode cX7_isFile 101 = .ok (.iconst 5, 1) := by decide +kernel
theorem dX7_isFile_102 : decode cX7_isFile 102 = .ok (.iload 7, 2) := by decide +kernel
theorem dX7_isFile_104 : decode cX7_isFile 104 = .ok (.imul, 1) := by decide +kernel
theorem dX7_isFile_105 : decode cX7_isFile 105 = .ok (.iadd, 1) := by decide +kernel
theorem dX7_isFile_106 : decode cX7_isFile 106 = .ok (.iconst 1, 1) := by decide +kernel
theorem dX7_isFile_107 : decode cX7_isFile 107 = .ok (.isub, 1) := by decide +kernel
theorem dX7_isFile_108 : decode cX7_isFile 108 = .ok (.invokevirtual 198, 3) := by decide +kernel
theorem dX7_isFile_111 : decode cX7_isFile 111 = .ok (.if_icmp .le 5, 3) := by decide +kernel
theorem dX7_isFile_114 : decode cX7_isFile 114 = .ok (.iconst 0, 1) := by decide +kernel
theorem dX7_isFile_115 : decode cX7_isFile 115 = .ok (.ireturn, 1) := by decide +kernel
theorem dX7_isFile_116 : decode cX7_isFile 116 = .ok (.aload_n 0, 1) := by decide +kernel
theorem dX7_isFile_117 : decode cX7_isFile 117 = .ok (.iload_n 1, 1) := by decide +kernel
theorem dX7_isFile_118 : decode cX7_isFile 118 = .ok (.iload_n 2, 1) := by decide +kernel
theorem dX7_isFile_119 : decode cX7_isFile 119 = .ok (.bipush 8, 2) := by decide +kernel
theorem dX7_isFile_121 : decode cX7_isFile 121 = .ok (.iadd, 1) := by decide +kernel
theorem dX7_isFile_122 : decode cX7_isFile 122 = .ok (.invokevirtual 201, 3) := by decide +kernel
theorem dX7_isFile_125 : decode cX7_isFile 125 = .ok (.istore 9, 2) := by decide +kernel
theorem dX7_isFile_127 : decode cX7_isFile 127 = .ok (.iconst 1, 1) := by decide +kernel
theorem dX7_isFile_128 : decode cX7_isFile 128 = .ok (.istore 10, 2) := by decide +kernel
theorem dX7_isFile_130 : decode cX7_isFile 130 = .ok (.iconst 0, 1) := by decide +kernel
theorem dX7_isFile_131 : decode cX7_isFile 131 = .ok (.istore 11, 2) := by decide +kernel
theorem dX7_isFile_133 : decode cX7_isFile 133 = .ok (.iload 11, 2) := by decide +kernel
theorem dX7_isFile_135 : decode cX7_isFile 135 = .ok (.iload 5, 2) := by decide +kernel
theorem dX7_isFile_137 : decode cX7_isFile 137 = .ok (.if_icmp .ge 52, 3) := by decide +kernel
theorem dX7_isFile_140 : decode cX7_isFile 140 = .ok (.iload 10, 2) := by decide +kernel
theorem dX7_isFile_142 : decode cX7_isFile 142 = .ok (.ifCond .eq 47, 3) := by decide +kernel
theorem dX7_isFile_145 : decode cX7_isFile 145 = .ok (.aload_n 0, 1) := by decide +kernel
theorem dX7_isFile_146 : decode cX7_isFile 146 = .ok (.iload_n 1, 1) := by decide +kernel
theorem dX7_isFile_147 : decode cX7_isFile 147 = .ok (.iload_n 2, 1) := by decide +kernel
theorem dX7_isFile_148 : decode cX7_isFile 148 = .ok (.bipush 12, 2) := by decide +kernel
theorem dX7_isFile_150 : decode cX7_isFile 150 = .ok (.iadd, 1) := by decide +kernel
theorem dX7_isFile_151 : decode cX7_isFile 151 = .ok (.iconst 2, 1) := by decide +kernel
theorem dX7_isFile_152 : decode cX7_isFile 152 = .ok (.iload 11, 2) := by decide +kernel
theorem dX7_isFile_154 : decode cX7_isFile 154 = .ok (.imul, 1) := by decide +kernel
theorem dX7_isFile_155 : decode cX7_isFile 155 = .ok (.iadd, 1) := by decide +kernel
theorem dX7_isFile_156 : decode cX7_isFile 156 = .ok (.invokevirtual 201, 3) := by decide +kernel
theorem dX7_isFile_159 : decode cX7_isFile 159 = .ok (.istore 12, 2) := by decide +kernel
theorem dX7_isFile_161 : decode cX7_isFile 161 = .ok (.aload_n 0, 1) := by decide +kernel
theorem dX7_isFile_162 : decode cX7_isFile 162 = .ok (.iload_n 1, 1) := by decide +kernel
theorem dX7_isFile_163 : decode cX7_isFile 163 = .ok (.iload 9, 2) := by decide +kernel
theorem dX7_isFile_165 : decode cX7_isFile 165 = .ok (.iload 12, 2) := by decide +kernel
theorem dX7_isFile_167 : decode cX7_isFile 167 = .ok (.iload_n 3, 1) := by decide +kernel
theorem dX7_isFile_168 : decode cX7_isFile 168 = .ok (.invokevirtual 222, 3) := by decide +kernel
theorem dX7_isFile_171 : decode cX7_isFile 171 = .ok (.istore 10, 2) := by decide +kernel
theorem dX7_isFile_173 : decode cX7_isFile 173 = .ok (.iload 9, 2) := by decide +kernel
theorem dX7_isFile_175 : decode cX7_isFile 175 = .ok (.iload 12, 2) := by decide +kernel
theorem dX7_isFile_177 : decode cX7_isFile 177 = .ok (.invokestatic 204, 3) := by decide +kernel
theorem dX7_isFile_180 : decode cX7_isFile 180 = .ok (.iadd, 1) := by decide +kernel
theorem dX7_isFile_181 : decode cX7_isFile 181 = .ok (.istore 9, 2) := by decide +kernel
theorem dX7_isFile_183 : decode cX7_isFile 183 = .ok (.iinc 11 1, 3) := by decide +kernel
theorem dX7_isFile_186 : decode cX7_isFile 186 = .ok (.goto (-53), 3) := by decide +kernel
theorem dX7_isFile_189 : decode cX7_isFile 189 = .ok (.iload 10, 2) := by decide +kernel
theorem dX7_isFile_191 : decode cX7_isFile 191 = .ok (.ireturn, 1) := by decide +kernel
theorem dX7_isFolder_0 : decode cX7_isFolder 0 = .ok (.aload_n 0, 1) := by decide +kernel
theorem dX7_isFolder_1 : decode cX7_isFolder 1 = .ok (.iload_n 1, 1) := by decide +kernel
theorem dX7_isFolder_2 : decode cX7_isFolder 2 = .ok (.aload_n 0, 1) := by decide +kernel
theorem dX7_isFolder_3 : decode cX7_isFolder 3 = .ok (.iload_n 1, 1) := by decide +kernel
theorem dX7_isFolder_4 : decode cX7_isFolder 4 = .ok (.iload_n 2, 1) := by decide +kernel
theorem dX7_isFolder_5 : decode cX7_isFolder 5 = .ok (.invokevirtual 226, 3) := by decide +kernel
theorem dX7_isFolder_8 : decode cX7_isFolder 8 = .ok (.invokevirtual 198, 3) := by decide +kernel
theorem dX7_isFolder_11 : decode cX7_isFolder 11 = .ok (.iconst 1, 1) := by decide +kernel
theorem dX7_isFolder_12 : decode cX7_isFolder 12 = .ok (.if_icmp .ne 7, 3) := by decide +kernel
theorem dX7_isFolder_15 : decode cX7_isFolder 15 = .ok (.iconst 1, 1) := by decide +kernel
theorem dX7_isFolder_16 : decode cX7_isFolder 16 = .ok (.goto 4, 3) := by decide +kernel
theorem dX7_isFolder_19 : decode cX7_isFolder 19 = .ok (.iconst 0, 1) := by decide +kernel
theorem dX7_isFolder_20 : decode cX7_isFolder 20 = .ok (.ireturn, 1) := by decide +kernel
theorem dX7_firstOf_0 : decode cX7_firstOf 0 = .ok (.aload_n 0, 1) := by decide +kernel
theorem dX7_firstOf_1 : decode cX7_firstOf 1 = .ok (.iload_n 1, 1) := by decide +kernel
theorem dX7_firstOf_2 : decode cX7_firstOf 2 = .ok (.aload_n 0, 1) := by decide +kernel
theorem dX7_firstOf_3 : decode cX7_firstOf 3 = .ok (.iload_n 1, 1) := by decide +kernel
theorem dX7_firstOf_4 : decode cX7_firstOf 4 = .ok (.iload_n 2, 1) := by decide +kernel
theorem dX7_firstOf_5 : decode cX7_firstOf 5 = .ok (.invokevirtual 226, 3) := by decide +kernel
theorem dX7_firstOf_8 : decode cX7_firstOf 8 = .ok (.bipush 6, 2) := by decide +kernel
theorem dX7_firstOf_10 : decode cX7_firstOf 10 = .ok (.iadd, 1) := by decide +kernel
theorem dX7_firstOf_11 : decode cX7_firstOf 11 = .ok (.invokevirtual 201, 3) := by decide +kernel
theorem dX7_firstOf_14 : decode cX7_firstOf 14 = .ok (.iconst 4, 1) := by decide +kernel
theorem dX7_firstOf_15 : decode cX7_firstOf 15 = .ok (.idiv, 1) := by decide +kernel
theorem dX7_firstOf_16 : decode cX7_firstOf 16 = .ok (.ireturn, 1) := by decide +kernel
theorem dX7_manyOf_0 : decode cX7_manyOf 0 = .ok (.aload_n 0, 1) := by decide +kernel
theorem dX7_manyOf_1 : decode cX7_manyOf 1 = .ok (.iload_n 1, 1) := by decide +kernel
theorem dX7_manyOf_2 : decode cX7_manyOf 2 = .ok (.aload_n 0, 1) := by decide +kernel
theorem dX7_manyOf_3 : decode cX7_manyOf 3 = .ok (.iload_n 1, 1) := by decide +kernel
theorem dX7_manyOf_4 : decode cX7_manyOf 4 = .ok (.iload_n 2, 1) := by decide +kernel
theorem dX7_manyOf_5 : decode cX7_manyOf 5 = .ok (.invokevirtual 226, 3) := by decide +kernel
theorem dX7_manyOf_8 : decode cX7_manyOf 8 = .ok (.bipush 8, 2) := by decide +kernel
theorem dX7_manyOf_10 : decode cX7_manyOf 10 = .ok (.iadd, 1) := by decide +kernel
theorem dX7_manyOf_11 : decode cX7_manyOf 11 = .ok (.invokevirtual 201, 3) := by decide +kernel
theorem dX7_manyOf_14 : decode cX7_manyOf 14 = .ok (.ireturn, 1) := by decide +kernel
theorem dX7_nameAt_0 : decode cX7_nameAt 0 = .ok (.aload_n 0, 1) := by decide +kernel
theorem dX7_nameAt_1 : decode cX7_nameAt 1 = .ok (.iload_n 1, 1) := by decide +kernel
theorem dX7_nameAt_2 : decode cX7_nameAt 2 = .ok (.aload_n 0, 1) := by decide +kernel
theorem dX7_nameAt_3 : decode cX7_nameAt 3 = .ok (.iload_n 1, 1) := by decide +kernel
theorem dX7_nameAt_4 : decode cX7_nameAt 4 = .ok (.bipush 8, 2) := by decide +kernel
theorem dX7_nameAt_6 : decode cX7_nameAt 6 = .ok (.invokevirtual 201, 3) := by decide +kernel
theorem dX7_nameAt_9 : decode cX7_nameAt 9 = .ok (.iconst 4, 1) := by decide +kernel
theorem dX7_nameAt_10 : decode cX7_nameAt 10 = .ok (.iload_n 2, 1) := by decide +kernel
theorem dX7_nameAt_11 : decode cX7_nameAt 11 = .ok (.imul, 1) := by decide +kernel
theorem dX7_nameAt_12 : decode cX7_nameAt 12 = .ok (.iadd, 1) := by decide +kernel
theorem dX7_nameAt_13 : decode cX7_nameAt 13 = .ok (.invokevirtual 201, 3) := by decide +kernel
theorem dX7_nameAt_16 : decode cX7_nameAt 16 = .ok (.ireturn, 1) := by decide +kernel
theorem dX7_numberAt_0 : decode cX7_numberAt 0 = .ok (.aload_n 0, 1) := by decide +kernel
theorem dX7_numberAt_1 : decode cX7_numberAt 1 = .ok (.iload_n 1, 1) := by decide +kernel
theorem dX7_numberAt_2 : decode cX7_numberAt 2 = .ok (.aload_n 0, 1) := by decide +kernel
theorem dX7_numberAt_3 : decode cX7_numberAt 3 = .ok (.iload_n 1, 1) := by decide +kernel
theorem dX7_numberAt_4 : decode cX7_numberAt 4 = .ok (.bipush 8, 2) := by decide +kernel
theorem dX7_numberAt_6 : decode cX7_numberAt 6 = .ok (.invokevirtual 201, 3) := by decide +kernel
theorem dX7_numberAt_9 : decode cX7_numberAt 9 = .ok (.iconst 4, 1) := by decide +kernel
theorem dX7_numberAt_10 : decode cX7_numberAt 10 = .ok (.iload_n 2, 1) := by decide +kernel
theorem dX7_numberAt_11 : decode cX7_numberAt 11 = .ok (.imul, 1) := by decide +kernel
theorem dX7_numberAt_12 : decode cX7_numberAt 12 = .ok (.iadd, 1) := by decide +kernel
theorem dX7_numberAt_13 : decode cX7_numberAt 13 = .ok (.iconst 2, 1) := by decide +kernel
theorem dX7_numberAt_14 : decode cX7_numberAt 14 = .ok (.iadd, 1) := by decide +kernel
theorem dX7_numberAt_15 : decode cX7_numberAt 15 = .ok (.invokevirtual 201, 3) := by decide +kernel
theorem dX7_numberAt_18 : decode cX7_numberAt 18 = .ok (.ireturn, 1) := by decide +kernel
theorem dX7_areFolders_0 : decode cX7_areFolders 0 = .ok (.aload_n 0, 1) := by decide +kernel
theorem dX7_areFolders_1 : decode cX7_areFolders 1 = .ok (.iload_n 1, 1) := by decide +kernel
theorem dX7_areFolders_2 : decode cX7_areFolders 2 = .ok (.bipush 10, 2) := by decide +kernel
theorem dX7_areFolders_4 : decode cX7_areFolders 4 = .ok (.invokevirtual 201, 3) := by decide +kernel
theorem dX7_areFolders_7 : decode cX7_areFolders 7 = .ok (.aload_n 0, 1) := by decide +kernel
theorem dX7_areFolders_8 : decode cX7_areFolders 8 = .ok (.iload_n 1, 1) := by decide +kernel
theorem dX7_areFolders_9 : decode cX7_areFolders 9 = .ok (.bipush 8, 2) := by decide +kernel
theorem dX7_areFolders_11 : decode cX7_areFolders 11 = .ok (.invokevirtual 201, 3) := by decide +kernel
theorem dX7_areFolders_14 : decode cX7_areFolders 14 = .ok (.isub, 1) := by decide +kernel
theorem dX7_areFolders_15 : decode cX7_areFolders 15 = .ok (.istore_n 3, 1) := by decide +kernel
theorem dX7_areFolders_16 : decode cX7_areFolders 16 = .ok (.iconst 0, 1) := by decide +kernel
theorem dX7_areFolders_17 : decode cX7_areFolders 17 = .ok (.istore 4, 2) := by decide +kernel
theorem dX7_areFolders_19 : decode cX7_areFolders 19 = .ok (.iconst 1, 1) := by decide +kernel
theorem dX7_areFolders_20 : decode cX7_areFolders 20 = .ok (.istore 5, 2) := by decide +kernel
theorem dX7_areFolders_22 : decode cX7_areFolders 22 = .ok (.iload 5, 2) := by decide +kernel
theorem dX7_areFolders_24 : decode cX7_areFolders 24 = .ok (.iload_n 2, 1) := by decide +kernel
theorem dX7_areFolders_25 : decode cX7_areFolders 25 = .ok (.if_icmp .gt 153, 3) := by decide +kernel
theorem dX7_areFolders_28 : decode cX7_areFolders 28 = .ok (.aload_n 0, 1) := by decide +kernel
theorem dX7_areFolders_29 : decode cX7_areFolders 29 = .ok (.iload_n 1, 1) := by decide +kernel
theorem dX7_areFolders_30 : decode cX7_areFolders 30 = .ok (.iload 5, 2) := by decide +kernel
theorem dX7_areFolders_32 : decode cX7_areFolders 32 = .ok (.invokevirtual 235, 3) := by decide +kernel
theorem dX7_areFolders_35 : decode cX7_areFolders 35 = .ok (.ifCond .ne 6, 3) := by decide +kernel
theorem dX7_areFolders_38 : decode cX7_areFolders 38 = .ok (.goto 134, 3) := by decide +kernel
theorem dX7_areFolders_41 : decode cX7_areFolders 41 = .ok (.aload_n 0, 1) := by decide +kernel
theorem dX7_areFolders_42 : decode cX7_areFolders 42 = .ok (.iload_n 1, 1) := by decide +kernel
theorem dX7_areFolders_43 : decode cX7_areFolders 43 = .ok (.aload_n 0, 1) := by decide +kernel
theorem dX7_areFolders_44 : decode cX7_areFolders 44 = .ok (.iload_n 1, 1) := by decide +kernel
theorem dX7_areFolders_45 : decode cX7_areFolders 45 = .ok (.iload 5, 2) := by decide +kernel
theorem dX7_areFolders_47 : decode cX7_areFolders 47 = .ok (.invokevirtual 226, 3) := by decide +kernel
theorem dX7_areFolders_50 : decode cX7_areFolders 50 = .ok (.bipush 6, 2) := by decide +kernel
theorem dX7_areFolders_52 : decode cX7_areFolders 52 = .ok (.iadd, 1) := by decide +kernel
theorem dX7_areFolders_53 : decode cX7_areFolders 53 = .ok (.invokevirtual 201, 3) := by decide +kernel
theorem dX7_areFolders_56 : decode cX7_areFolders 56 = .ok (.iconst 4, 1) := by decide +kernel
theorem dX7_areFolders_57 : decode cX7_areFolders 57 = .ok (.iload 4, 2) := by decide +kernel
theorem dX7_areFolders_59 : decode cX7_areFolders 59 = .ok (.imul, 1) := by decide +kernel
theorem dX7_areFolders_60 : decode cX7_areFolders 60 = .ok (.if_icmp .ne 19, 3) := by decide +kernel
theorem dX7_areFolders_63 : decode cX7_areFolders 63 = .ok (.iconst 4, 1) := by decide +kernel
theorem dX7_areFolders_64 : decode cX7_areFolders 64 = .ok (.iload 4, 2) := by decide +kernel
theorem dX7_areFolders_66 : decode cX7_areFolders 66 = .ok (.aload_n 0, 1) := by decide +kernel
theorem dX7_areFolders_67 : decode cX7_areFolders 67 = .ok (.iload_n 1, 1) := by decide +kernel
theorem dX7_areFolders_68 : decode cX7_areFolders 68 = .ok (.iload 5, 2) := by decide +kernel
theorem dX7_areFolders_70 : decode cX7_areFolders 70 = .ok (.invokevirtual 238, 3) := by decide +kernel
theorem dX7_areFolders_73 : decode cX7_areFolders 73 = .ok (.iadd, 1) := by decide +kernel
theorem dX7_areFolders_74 : decode cX7_areFolders 74 = .ok (.imul, 1) := by decide +kernel
theorem dX7_areFolders_75 : decode cX7_areFolders 75 = .ok (.iload_n 3, 1) := by decide +kernel
theorem dX7_areFolders_76 : decode cX7_areFolders 76 = .ok (.if_icmp .le 5, 3) := by decide +kernel
theorem dX7_areFolders_79 : decode cX7_areFolders 79 = .ok (.iconst 0, 1) := by decide +kernel
theorem dX7_areFolders_80 : decode cX7_areFolders 80 = .ok (.ireturn, 1) := by decide +kernel
theorem dX7_areFolders_81 : decode cX7_areFolders 81 = .ok (.iconst 0, 1) := by decide +kernel
theorem dX7_areFolders_82 : decode cX7_areFolders 82 = .ok (.istore 6, 2) := by decide +kernel
theorem dX7_areFolders_84 : decode cX7_areFolders 84 = .ok (.iconst 0, 1) := by decide +kernel
theorem dX7_areFolders_85 : decode cX7_areFolders 85 = .ok (.istore 7, 2) := by decide +kernel
theorem dX7_areFolders_87 : decode cX7_areFolders 87 = .ok (.iload 7, 2) := by decide +kernel
theorem dX7_areFolders_89 : decode cX7_areFolders 89 = .ok (.aload_n 0, 1) := by decide +kernel
theorem dX7_areFolders_90 : decode cX7_areFolders 90 = .ok (.iload_n 1, 1) := by decide +kernel
theorem dX7_areFolders_91 : decode cX7_areFolders 91 = .ok (.iload 5, 2) := by decide +kernel
theorem dX7_areFolders_93 : decode cX7_areFolders 93 = .ok (.invokevirtual 238, 3) := by decide +kernel
theorem dX7_areFolders_96 : decode cX7_areFolders 96 = .ok (.if_icmp .ge 64, 3) := by decide +kernel
theorem dX7_areFolders_99 : decode cX7_areFolders 99 = .ok (.aload_n 0, 1) := by decide +kernel
theorem dX7_areFolders_100 : decode cX7_areFolders 100 = .ok (.iload_n 1, 1) := by decide +kernel
theorem dX7_areFolders_101 : decode cX7_areFolders 101 = .ok (.iload 4, 2) := by decide +kernel
theorem dX7_areFolders_103 : decode cX7_areFolders 103 = .ok (.iload 7, 2) := by decide +kernel
theorem dX7_areFolders_105 : decode cX7_areFolders 105 = .ok (.iadd, 1) := by decide +kernel
theorem dX7_areFolders_106 : decode cX7_areFolders 106 = .ok (.invokevirtual 241, 3) := by decide +kernel
theorem dX7_areFolders_109 : decode cX7_areFolders 109 = .ok (.istore 8, 2) := by decide +kernel
theorem dX7_areFolders_111 : decode cX7_areFolders 111 = .ok (.iload 8, 2) := by decide +kernel
theorem dX7_areFolders_113 : decode cX7_areFolders 113 = .ok (.iconst 1, 1) := by decide +kernel
theorem dX7_areFolders_114 : decode cX7_areFolders 114 = .ok (.sipush 999, 3) := by decide +kernel
theorem dX7_areFolders_117 : decode cX7_areFolders 117 = .ok (.invokestatic 101, 3) := by decide +kernel
theorem dX7_areFolders_120 : decode cX7_areFolders 120 = .ok (.ifCond .eq 28, 3) := by decide +kernel
theorem dX7_areFolders_123 : decode cX7_areFolders 123 = .ok (.iload 8, 2) := by decide +kernel
theorem dX7_areFolders_125 : decode cX7_areFolders 125 = .ok (.iload 6, 2) := by decide +kernel
theorem dX7_areFolders_127 : decode cX7_areFolders 127 = .ok (.if_icmp .le 21, 3) := by decide +kernel
theorem dX7_areFolders_130 : decode cX7_areFolders 130 = .ok (.aload_n 0, 1) := by decide +kernel
theorem dX7_areFolders_131 : decode cX7_areFolders 131 = .ok (.iload_n 1, 1) := by decide +kernel
theorem dX7_areFolders_132 : decode cX7_areFolders 132 = .ok (.iload 4, 2) := by decide +kernel
theorem dX7_areFolders_134 : decode cX7_areFolders 134 = .ok (.iload 7, 2) := by decide +kernel
theorem dX7_areFolders_136 : decode cX7_areFolders 136 = .ok (.iadd, 1) := by decide +kernel
theorem dX7_areFolders_137 : decode cX7_areFolders 137 = .ok (.invokevirtual 244, 3) := by decide +kernel
theorem dX7_areFolders_140 : decode cX7_areFolders 140 = .ok (.iconst 1, 1) := by decide +kernel
theorem dX7_areFolders_141 : decode cX7_areFolders 141 = .ok (.iload_n 2, 1) := by decide +kernel
theorem dX7_areFolders_142 : decode cX7_areFolders 142 = .ok (.invokestatic 101, 3) := by decide +kernel
theorem dX7_areFolders_145 : decode cX7_areFolders 145 = .ok (.ifCond .ne 5, 3) := by decide +kernel
theorem dX7_areFolders_148 : decode cX7_areFolders 148 = .ok (.iconst 0, 1) := by decide +kernel
theorem dX7_areFolders_149 : decode cX7_areFolders 149 = .ok (.ireturn, 1) := by decide +kernel
theorem dX7_areFolders_150 : decode cX7_areFolders 150 = .ok (.iload 8, 2) := by decide +kernel
theorem dX7_areFolders_152 : decode cX7_areFolders 152 = .ok (.istore 6, 2) := by decide +kernel
theorem dX7_areFolders_154 : decode cX7_areFolders 154 = .ok (.iinc 7 1, 3) := by decide +kernel
theorem dX7_areFolders_157 : decode cX7_areFolders 157 = .ok (.goto (-70), 3) := by decide +kernel
theorem dX7_areFolders_160 : decode cX7_areFolders 160 = .ok (.iload 4, 2) := by decide +kernel
theorem dX7_areFolders_162 : decode cX7_areFolders 162 = .ok (.aload_n 0, 1) := by decide +kernel
theorem dX7_areFolders_163 : decode cX7_areFolders 163 = .ok (.iload_n 1, 1) := by decide +kernel
theorem dX7_areFolders_164 : decode cX7_areFolders 164 = .ok (.iload 5, 2) := by decide +kernel
theorem dX7_areFolders_166 : decode cX7_areFolders 166 = .ok (.invokevirtual 238, 3) := by decide +kernel
theorem dX7_areFolders_169 : decode cX7_areFolders 169 = .ok (.iadd, 1) := by decide +kernel
theorem dX7_areFolders_170 : decode cX7_areFolders 170 = .ok (.istore 4, 2) := by decide +kernel
theorem dX7_areFolders_172 : decode cX7_areFolders 172 = .ok (.iinc 5 1, 3) := by decide +kernel
theorem dX7_areFolders_175 : decode cX7_areFolders 175 = .ok (.goto (-153), 3) := by decide +kernel
theorem dX7_areFolders_178 : decode cX7_areFolders 178 = .ok (.iconst 4, 1) := by decide +kernel
theorem dX7_areFolders_179 : decode cX7_areFolders 179 = .ok (.iload 4, 2) := by decide +kernel
theorem dX7_areFolders_181 : decode cX7_areFolders 181 = .ok (.imul, 1) := by decide +kernel
theorem dX7_areFolders_182 : decode cX7_areFolders 182 = .ok (.iload_n 3, 1) := by decide +kernel
theorem dX7_areFolders_183 : decode cX7_areFolders 183 = .ok (.if_icmp .ne 7, 3) := by decide +kernel
theorem dX7_areFolders_186 : decode cX7_areFolders 186 = .ok (.iconst 1, 1) := by decide +kernel
theorem dX7_areFolders_187 : decode cX7_areFolders 187 = .ok (.goto 4, 3) := by decide +kernel
theorem dX7_areFolders_190 : decode cX7_areFolders 190 = .ok (.iconst 0, 1) := by decide +kernel
theorem dX7_areFolders_191 : decode cX7_areFolders 191 = .ok (.ireturn, 1) := by decide +kernel
theorem dX7_isTree_0 : decode cX7_isTree 0 = .ok (.aload_n 0, 1) := by decide +kernel
theorem dX7_isTree_1 : decode cX7_isTree 1 = .ok (.iload_n 1, 1) := by decide +kernel
theorem dX7_isTree_2 : decode cX7_isTree 2 = .ok (.iconst 1, 1) := by decide +kernel
theorem dX7_isTree_3 : decode cX7_isTree 3 = .ok (.invokevirtual 226, 3) := by decide +kernel
theorem dX7_isTree_6 : decode cX7_isTree 6 = .ok (.istore_n 3, 1) := by decide +kernel
theorem dX7_isTree_7 : decode cX7_isTree 7 = .ok (.aload_n 0, 1) := by decide +kernel
theorem dX7_isTree_8 : decode cX7_isTree 8 = .ok (.iload_n 1, 1) := by decide +kernel
theorem dX7_isTree_9 : decode cX7_isTree 9 = .ok (.iload_n 3, 1) := by decide +kernel
theorem dX7_isTree_10 : decode cX7_isTree 10 = .ok (.invokevirtual 198, 3) := by decide +kernel
theorem dX7_isTree_13 : decode cX7_isTree 13 = .ok (.iconst 1, 1) := by decide +kernel
theorem dX7_isTree_14 : decode cX7_isTree 14 = .ok (.if_icmp .ne 39, 3) := by decide +kernel
theorem dX7_isTree_17 : decode cX7_isTree 17 = .ok (.aload_n 0, 1) := by decide +kernel
theorem dX7_isTree_18 : decode cX7_isTree 18 = .ok (.iload_n 1, 1) := by decide +kernel
theorem dX7_isTree_19 : decode cX7_isTree 19 = .ok (.iload_n 3, 1) := by decide +kernel
theorem dX7_isTree_20 : decode cX7_isTree 20 = .ok (.iconst 5, 1) := by decide +kernel
theorem dX7_isTree_21 : decode cX7_isTree 21 = .ok (.iadd, 1) := by decide +kernel
theorem dX7_isTree_22 : decode cX7_isTree 22 = .ok (.invokevirtual 198, 3) := by decide +kernel
theorem dX7_isTree_25 : decode cX7_isTree 25 = .ok (.iconst 1, 1) := by decide +kernel
theorem dX7_isTree_26 : decode cX7_isTree 26 = .ok (.if_icmp .ne 27, 3) := by decide +kernel
theorem dX7_isTree_29 : decode cX7_isTree 29 = .ok (.aload_n 0, 1) := by decide +kernel
theorem dX7_isTree_30 : decode cX7_isTree 30 = .ok (.iload_n 1, 1) := by decide +kernel
theorem dX7_isTree_31 : decode cX7_isTree 31 = .ok (.iload_n 3, 1) := by decide +kernel
theorem dX7_isTree_32 : decode cX7_isTree 32 = .ok (.bipush 10, 2) := by decide +kernel
theorem dX7_isTree_34 : decode cX7_isTree 34 = .ok (.iadd, 1) := by decide +kernel
theorem dX7_isTree_35 : decode cX7_isTree 35 = .ok (.invokevirtual 201, 3) := by decide +kernel
theorem dX7_isTree_38 : decode cX7_isTree 38 = .ok (.iconst 1, 1) := by decide +kernel
theorem dX7_isTree_39 : decode cX7_isTree 39 = .ok (.if_icmp .ne 14, 3) := by decide +kernel
theorem dX7_isTree_42 : decode cX7_isTree 42 = .ok (.aload_n 0, 1) := by decide +kernel
theorem dX7_isTree_43 : decode cX7_isTree 43 = .ok (.iload_n 1, 1) := by decide +kernel
theorem dX7_isTree_44 : decode cX7_isTree 44 = .ok (.iload_n 2, 1) := by decide +kernel
theorem dX7_isTree_45 : decode cX7_isTree 45 = .ok (.iconst 1, 1) := by decide +kernel
theorem dX7_isTree_46 : decode cX7_isTree 46 = .ok (.iconst 0, 1) := by decide +kernel
theorem dX7_isTree_47 : decode cX7_isTree 47 = .ok (.invokevirtual 247, 3) := by decide +kernel
theorem dX7_isTree_50 : decode cX7_isTree 50 = .ok (.ifCond .le 5, 3) := by decide +kernel
theorem dX7_isTree_53 : decode cX7_isTree 53 = .ok (.iconst 0, 1) := by decide +kernel
theorem dX7_isTree_54 : decode cX7_isTree 54 = .ok (.ireturn, 1) := by decide +kernel
theorem dX7_isTree_55 : decode cX7_isTree 55 = .ok (.iconst 2, 1) := by decide +kernel
theorem dX7_isTree_56 : decode cX7_isTree 56 = .ok (.istore 4, 2) := by decide +kernel
theorem dX7_isTree_58 : decode cX7_isTree 58 = .ok (.iload 4, 2) := by decide +kernel
theorem dX7_isTree_60 : decode cX7_isTree 60 = .ok (.iload_n 2, 1) := by decide +kernel
theorem dX7_isTree_61 : decode cX7_isTree 61 = .ok (.if_icmp .gt 92, 3) := by decide +kernel
theorem dX7_isTree_64 : decode cX7_isTree 64 = .ok (.aload_n 0, 1) := by decide +kernel
theorem dX7_isTree_65 : decode cX7_isTree 65 = .ok (.iload_n 1, 1) := by decide +kernel
theorem dX7_isTree_66 : decode cX7_isTree 66 = .ok (.iload_n 2, 1) := by decide +kernel
theorem dX7_isTree_67 : decode cX7_isTree 67 = .ok (.iload 4, 2) := by decide +kernel
theorem dX7_isTree_69 : decode cX7_isTree 69 = .ok (.iconst 0, 1) := by decide +kernel
theorem dX7_isTree_70 : decode cX7_isTree 70 = .ok (.invokevirtual 247, 3) := by decide +kernel
theorem dX7_isTree_73 : decode cX7_isTree 73 = .ok (.istore 5, 2) := by decide +kernel
theorem dX7_isTree_75 : decode cX7_isTree 75 = .ok (.aload_n 0, 1) := by decide +kernel
theorem dX7_isTree_76 : decode cX7_isTree 76 = .ok (.iload_n 1, 1) := by decide +kernel
theorem dX7_isTree_77 : decode cX7_isTree 77 = .ok (.iload 4, 2) := by decide +kernel
theorem dX7_isTree_79 : decode cX7_isTree 79 = .ok (.invokevirtual 226, 3) := by decide +kernel
theorem dX7_isTree_82 : decode cX7_isTree 82 = .ok (.istore 6, 2) := by decide +kernel
theorem dX7_isTree_84 : decode cX7_isTree 84 = .ok (.iload 5, 2) := by decide +kernel
theorem dX7_isTree_86 : decode cX7_isTree 86 = .ok (.ifCond .eq 34, 3) := by decide +kernel
theorem dX7_isTree_89 : decode cX7_isTree 89 = .ok (.iload 5, 2) := by decide +kernel
theorem dX7_isTree_91 : decode cX7_isTree 91 = .ok (.aload_n 0, 1) := by decide +kernel
theorem dX7_isTree_92 : decode cX7_isTree 92 = .ok (.iload_n 1, 1) := by decide +kernel
theorem dX7_isTree_93 : decode cX7_isTree 93 = .ok (.iload 6, 2) := by decide +kernel
theorem dX7_isTree_95 : decode cX7_isTree 95 = .ok (.iconst 5, 1) := by decide +kernel
theorem dX7_isTree_96 : decode cX7_isTree 96 = .ok (.iadd, 1) := by decide +kernel
theorem dX7_isTree_97 : decode cX7_isTree 97 = .ok (.invokevirtual 198, 3) := by decide +kernel
theorem dX7_isTree_100 : decode cX7_isTree 100 = .ok (.if_icmp .ne 20, 3) := by decide +kernel
theorem dX7_isTree_103 : decode cX7_isTree 103 = .ok (.aload_n 0, 1) := by decide +kernel
theorem dX7_isTree_104 : decode cX7_isTree 104 = .ok (.iload_n 1, 1) := by decide +kernel
theorem dX7_isTree_105 : decode cX7_isTree 105 = .ok (.iload 6, 2) := by decide +kernel
theorem dX7_isTree_107 : decode cX7_isTree 107 = .ok (.invokevirtual 198, 3) := by decide +kernel
theorem dX7_isTree_110 : decode cX7_isTree 110 = .ok (.iconst 2, 1) := by decide +kernel
theorem dX7_isTree_111 : decode cX7_isTree 111 = .ok (.if_icmp .eq 11, 3) := by decide +kernel
theorem dX7_isTree_114 : decode cX7_isTree 114 = .ok (.iload 5, 2) := by decide +kernel
theorem dX7_isTree_116 : decode cX7_isTree 116 = .ok (.iconst 1, 1) := by decide +kernel
theorem dX7_isTree_117 : decode cX7_isTree 117 = .ok (.if_icmp .le 5, 3) := by decide +kernel
theorem dX7_isTree_120 : decode cX7_isTree 120 = .ok (.iconst 0, 1) := by decide +kernel
theorem dX7_isTree_121 : decode cX7_isTree 121 = .ok (.ireturn, 1) := by decide +kernel
theorem dX7_isTree_122 : decode cX7_isTree 122 = .ok (.aload_n 0, 1) := by decide +kernel
theorem dX7_isTree_123 : decode cX7_isTree 123 = .ok (.iload_n 1, 1) := by decide +kernel
theorem dX7_isTree_124 : decode cX7_isTree 124 = .ok (.iload 4, 2) := by decide +kernel
theorem dX7_isTree_126 : decode cX7_isTree 126 = .ok (.invokevirtual 235, 3) := by decide +kernel
theorem dX7_isTree_129 : decode cX7_isTree 129 = .ok (.ifCond .eq 18, 3) := by decide +kernel
theorem dX7_isTree_132 : decode cX7_isTree 132 = .ok (.aload_n 0, 1) := by decide +kernel
theorem dX7_isTree_133 : decode cX7_isTree 133 = .ok (.iload_n 1, 1) := by decide +kernel
theorem dX7_isTree_134 : decode cX7_isTree 134 = .ok (.iload_n 2, 1) := by decide +kernel
theorem dX7_isTree_135 : decode cX7_isTree 135 = .ok (.iload 4, 2) := by decide +kernel
theorem dX7_isTree_137 : decode cX7_isTree 137 = .ok (.iconst 1, 1) := by decide +kernel
theorem dX7_isTree_138 : decode cX7_isTree 138 = .ok (.invokevirtual 247, 3) := by decide +kernel
theorem dX7_isTree_141 : decode cX7_isTree 141 = .ok (.iconst 1, 1) := by decide +kernel
theorem dX7_isTree_142 : decode cX7_isTree 142 = .ok (.if_icmp .eq 5, 3) := by decide +kernel
theorem dX7_isTree_145 : decode cX7_isTree 145 = .ok (.iconst 0, 1) := by decide +kernel
theorem dX7_isTree_146 : decode cX7_isTree 146 = .ok (.ireturn, 1) := by decide +kernel
theorem dX7_isTree_147 : decode cX7_isTree 147 = .ok (.iinc 4 1, 3) := by decide +kernel
theorem dX7_isTree_150 : decode cX7_isTree 150 = .ok (.goto (-92), 3) := by decide +kernel
theorem dX7_isTree_153 : decode cX7_isTree 153 = .ok (.iconst 2, 1) := by decide +kernel
theorem dX7_isTree_154 : decode cX7_isTree 154 = .ok (.istore 4, 2) := by decide +kernel
theorem dX7_isTree_156 : decode cX7_isTree 156 = .ok (.iload 4, 2) := by decide +kernel
theorem dX7_isTree_158 : decode cX7_isTree 158 = .ok (.iload_n 2, 1) := by decide +kernel
theorem dX7_isTree_159 : decode cX7_isTree 159 = .ok (.if_icmp .gt 79, 3) := by decide +kernel
theorem dX7_isTree_162 : decode cX7_isTree 162 = .ok (.iload 4, 2) := by decide +kernel
theorem dX7_isTree_164 : decode cX7_isTree 164 = .ok (.istore 5, 2) := by decide +kernel
theorem dX7_isTree_166 : decode cX7_isTree 166 = .ok (.iconst 0, 1) := by decide +kernel
theorem dX7_isTree_167 : decode cX7_isTree 167 = .ok (.istore 6, 2) := by decide +kernel
theorem dX7_isTree_169 : decode cX7_isTree 169 = .ok (.iload 6, 2) := by decide +kernel
theorem dX7_isTree_171 : decode cX7_isTree 171 = .ok (.iload_n 2, 1) := by decide +kernel
theorem dX7_isTree_172 : decode cX7_isTree 172 = .ok (.if_icmp .gt 42, 3) := by decide +kernel
theorem dX7_isTree_175 : decode cX7_isTree 175 = .ok (.iload 5, 2) := by decide +kernel
theorem dX7_isTree_177 : decode cX7_isTree 177 = .ok (.iconst 1, 1) := by decide +kernel
theorem dX7_isTree_178 : decode cX7_isTree 178 = .ok (.if_icmp .eq 36, 3) := by decide +kernel
theorem dX7_isTree_181 : decode cX7_isTree 181 = .ok (.aload_n 0, 1) := by decide +kernel
theorem dX7_isTree_182 : decode cX7_isTree 182 = .ok (.iload_n 1, 1) := by decide +kernel
theorem dX7_isTree_183 : decode cX7_isTree 183 = .ok (.iload 4, 2) := by decide +kernel
theorem dX7_isTree_185 : decode cX7_isTree 185 = .ok (.invokevirtual 235, 3) := by decide +kernel
theorem dX7_isTree_188 : decode cX7_isTree 188 = .ok (.ifCond .eq 26, 3) := by decide +kernel
theorem dX7_isTree_191 : decode cX7_isTree 191 = .ok (.aload_n 0, 1) := by decide +kernel
theorem dX7_isTree_192 : decode cX7_isTree 192 = .ok (.iload_n 1, 1) := by decide +kernel
theorem dX7_isTree_193 : decode cX7_isTree 193 = .ok (.aload_n 0, 1) := by decide +kernel
theorem dX7_isTree_194 : decode cX7_isTree 194 = .ok (.iload_n 1, 1) := by decide +kernel
theorem dX7_isTree_195 : decode cX7_isTree 195 = .ok (.iload 5, 2) := by decide +kernel
theorem dX7_isTree_197 : decode cX7_isTree 197 = .ok (.invokevirtual 226, 3) := by decide +kernel
theorem dX7_isTree_200 : decode cX7_isTree 200 = .ok (.bipush 10, 2) := by decide +kernel
theorem dX7_isTree_202 : decode cX7_isTree 202 = .ok (.iadd, 1) := by decide +kernel
theorem dX7_isTree_203 : decode cX7_isTree 203 = .ok (.invokevirtual 201, 3) := by decide +kernel
theorem dX7_isTree_206 : decode cX7_isTree 206 = .ok (.istore 5, 2) := by decide +kernel
theorem dX7_isTree_208 : decode cX7_isTree 208 = .ok (.iinc 6 1, 3) := by decide +kernel
theorem dX7_isTree_211 : decode cX7_isTree 211 = .ok (.goto (-42), 3) := by decide +kernel
theorem dX7_isTree_214 : decode cX7_isTree 214 = .ok (.aload_n 0, 1) := by decide +kernel
theorem dX7_isTree_215 : decode cX7_isTree 215 = .ok (.iload_n 1, 1) := by decide +kernel
theorem dX7_isTree_216 : decode cX7_isTree 216 = .ok (.iload 4, 2) := by decide +kernel
theorem dX7_isTree_218 : decode cX7_isTree 218 = .ok (.invokevirtual 235, 3) := by decide +kernel
theorem dX7_isTree_221 : decode cX7_isTree 221 = .ok (.ifCond .eq 11, 3) := by decide +kernel
theorem dX7_isTree_224 : decode cX7_isTree 224 = .ok (.iload 5, 2) := by decide +kernel
theorem dX7_isTree_226 : decode cX7_isTree 226 = .ok (.iconst 1, 1) := by decide +kernel
theorem dX7_isTree_227 : decode cX7_isTree 227 = .ok (.if_icmp .eq 5, 3) := by decide +kernel
theorem dX7_isTree_230 : decode cX7_isTree 230 = .ok (.iconst 0, 1) := by decide +kernel
theorem dX7_isTree_231 : decode cX7_isTree 231 = .ok (.ireturn, 1) := by decide +kernel
theorem dX7_isTree_232 : decode cX7_isTree 232 = .ok (.iinc 4 1, 3) := by decide +kernel
theorem dX7_isTree_235 : decode cX7_isTree 235 = .ok (.goto (-79), 3) := by decide +kernel
theorem dX7_isTree_238 : decode cX7_isTree 238 = .ok (.iconst 1, 1) := by decide +kernel
theorem dX7_isTree_239 : decode cX7_isTree 239 = .ok (.ireturn, 1) := by decide +kernel
theorem dX7_named_0 : decode cX7_named 0 = .ok (.iconst 0, 1) := by decide +kernel
theorem dX7_named_1 : decode cX7_named 1 = .ok (.istore 5, 2) := by decide +kernel
theorem dX7_named_3 : decode cX7_named 3 = .ok (.iconst 1, 1) := by decide +kernel
theorem dX7_named_4 : decode cX7_named 4 = .ok (.istore 6, 2) := by decide +kernel
theorem dX7_named_6 : decode cX7_named 6 = .ok (.iload 6, 2) := by decide +kernel
theorem dX7_named_8 : decode cX7_named 8 = .ok (.iload_n 2, 1) := by decide +kernel
theorem dX7_named_9 : decode cX7_named 9 = .ok (.if_icmp .gt 105, 3) := by decide +kernel
theorem dX7_named_12 : decode cX7_named 12 = .ok (.aload_n 0, 1) := by decide +kernel
theorem dX7_named_13 : decode cX7_named 13 = .ok (.iload_n 1, 1) := by decide +kernel
theorem dX7_named_14 : decode cX7_named 14 = .ok (.iload 6, 2) := by decide +kernel
theorem dX7_named_16 : decode cX7_named 16 = .ok (.invokevirtual 235, 3) := by decide +kernel
theorem dX7_named_19 : decode cX7_named 19 = .ok (.ifCond .eq 31, 3) := by decide +kernel
theorem dX7_named_22 : decode cX7_named 22 = .ok (.iload 4, 2) := by decide +kernel
theorem dX7_named_24 : decode cX7_named 24 = .ok (.ifCond .eq 22, 3) := by decide +kernel
theorem dX7_named_27 : decode cX7_named 27 = .ok (.aload_n 0, 1) := by decide +kernel
theorem dX7_named_28 : decode cX7_named 28 = .ok (.iload_n 1, 1) := by decide +kernel
theorem dX7_named_29 : decode cX7_named 29 = .ok (.aload_n 0, 1) := by decide +kernel
theorem dX7_named_30 : decode cX7_named 30 = .ok (.iload_n 1, 1) := by decide +kernel
theorem dX7_named_31 : decode cX7_named 31 = .ok (.iload_n 3, 1) := by decide +kernel
theorem dX7_named_32 : decode cX7_named 32 = .ok (.invokevirtual 226, 3) := by decide +kernel
theorem dX7_named_35 : decode cX7_named 35 = .ok (.bipush 10, 2) := by decide +kernel
theorem dX7_named_37 : decode cX7_named 37 = .ok (.iadd, 1) := by decide +kernel
theorem dX7_named_38 : decode cX7_named 38 = .ok (.invokevirtual 201, 3) := by decide +kernel
theorem dX7_named_41 : decode cX7_named 41 = .ok (.iload 6, 2) := by decide +kernel
theorem dX7_named_43 : decode cX7_named 43 = .ok (.if_icmp .ne 7, 3) := by decide +kernel
theorem dX7_named_46 : decode cX7_named 46 = .ok (.iconst 1, 1) := by decide +kernel
theorem dX7_named_47 : decode cX7_named 47 = .ok (.goto 4, 3) := by decide +kernel
theorem dX7_named_50 : decode cX7_named 50 = .ok (.iconst 0, 1) := by decide +kernel
theorem dX7_named_51 : decode cX7_named 51 = .ok (.istore 7, 2) := by decide +kernel
theorem dX7_named_53 : decode cX7_named 53 = .ok (.iconst 0, 1) := by decide +kernel
theorem dX7_named_54 : decode cX7_named 54 = .ok (.istore 8, 2) := by decide +kernel
theorem dX7_named_56 : decode cX7_named 56 = .ok (.iload 7, 2) := by decide +kernel
theorem dX7_named_58 : decode cX7_named 58 = .ok (.ifCond .eq 50, 3) := by decide +kernel
theorem dX7_named_61 : decode cX7_named 61 = .ok (.iload 8, 2) := by decide +kernel
theorem dX7_named_63 : decode cX7_named 63 = .ok (.aload_n 0, 1) := by decide +kernel
theorem dX7_named_64 : decode cX7_named 64 = .ok (.iload_n 1, 1) := by decide +kernel
theorem dX7_named_65 : decode cX7_named 65 = .ok (.iload 6, 2) := by decide +kernel
theorem dX7_named_67 : decode cX7_named 67 = .ok (.invokevirtual 238, 3) := by decide +kernel
theorem dX7_named_70 : decode cX7_named 70 = .ok (.if_icmp .ge 38, 3) := by decide +kernel
theorem dX7_named_73 : decode cX7_named 73 = .ok (.iload 5, 2) := by decide +kernel
theorem dX7_named_75 : decode cX7_named 75 = .ok (.aload_n 0, 1) := by decide +kernel
theorem dX7_named_76 : decode cX7_named 76 = .ok (.iload_n 1, 1) := by decide +kernel
theorem dX7_named_77 : decode cX7_named 77 = .ok (.aload_n 0, 1) := by decide +kernel
theorem dX7_named_78 : decode cX7_named 78 = .ok (.iload_n 1, 1) := by decide +kernel
theorem dX7_named_79 : decode cX7_named 79 = .ok (.iload 6, 2) := by decide +kernel
theorem dX7_named_81 : decode cX7_named 81 = .ok (.invokevirtual 251, 3) := by decide +kernel
theorem dX7_named_84 : decode cX7_named 84 = .ok (.iload 8, 2) := by decide +kernel
theorem dX7_named_86 : decode cX7_named 86 = .ok (.iadd, 1) := by decide +kernel
theorem dX7_named_87 : decode cX7_named 87 = .ok (.invokevirtual 244, 3) := by decide +kernel
theorem dX7_named_90 : decode cX7_named 90 = .ok (.iload_n 3, 1) := by decide +kernel
theorem dX7_named_91 : decode cX7_named 91 = .ok (.if_icmp .ne 7, 3) := by decide +kernel
theorem dX7_named_94 : decode cX7_named 94 = .ok (.iconst 1, 1) := by decide +kernel
theorem dX7_named_95 : decode cX7_named 95 = .ok (.goto 4, 3) := by decide +kernel
theorem dX7_named_98 : decode cX7_named 98 = .ok (.iconst 0, 1) := by decide +kernel
theorem dX7_named_99 : decode cX7_named 99 = .ok (.iadd, 1) := by decide +kernel
theorem dX7_named_100 : decode cX7_named 100 = .ok (.istore 5, 2) := by decide +kernel
theorem dX7_named_102 : decode cX7_named 102 = .ok (.iinc 8 1, 3) := by decide +kernel
theorem dX7_named_105 : decode cX7_named 105 = .ok (.goto (-49), 3) := by decide +kernel
theorem dX7_named_108 : decode cX7_named 108 = .ok (.iinc 6 1, 3) := by decide +kernel
theorem dX7_named_111 : decode cX7_named 111 = .ok (.goto (-105), 3) := by decide +kernel
theorem dX7_named_114 : decode cX7_named 114 = .ok (.iload 5, 2) := by decide +kernel
theorem dX7_named_116 : decode cX7_named 116 = .ok (.ireturn, 1) := by decide +kernel
theorem dX7_load_0 : decode cX7_load 0 = .ok (.aload_n 0, 1) := by decide +kernel
theorem dX7_load_1 : decode cX7_load 1 = .ok (.iconst 0, 1) := by decide +kernel
theorem dX7_load_2 : decode cX7_load 2 = .ok (.putfield 98, 3) := by decide +kernel
theorem dX7_load_5 : decode cX7_load 5 = .ok (.aload_n 0, 1) := by decide +kernel
theorem dX7_load_6 : decode cX7_load 6 = .ok (.getfield 168, 3) := by decide +kernel
theorem dX7_load_9 : decode cX7_load 9 = .ok (.iconst 3, 1) := by decide +kernel
theorem dX7_load_10 : decode cX7_load 10 = .ok (.if_icmp .ne 6, 3) := by decide +kernel
