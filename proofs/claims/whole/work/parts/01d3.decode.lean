theorem dM_hearAll_0 : decode cM_hearAll 0 = .ok (.iconst 0, 1) := by decide +kernel
theorem dM_hearAll_1 : decode cM_hearAll 1 = .ok (.istore_n 3, 1) := by decide +kernel
theorem dM_hearAll_2 : decode cM_hearAll 2 = .ok (.iload_n 3, 1) := by decide +kernel
theorem dM_hearAll_3 : decode cM_hearAll 3 = .ok (.aload_n 0, 1) := by decide +kernel
theorem dM_hearAll_4 : decode cM_hearAll 4 = .ok (.getfield 19, 3) := by decide +kernel
theorem dM_hearAll_7 : decode cM_hearAll 7 = .ok (.iload_n 2, 1) := by decide +kernel
theorem dM_hearAll_8 : decode cM_hearAll 8 = .ok (.iaload, 1) := by decide +kernel
theorem dM_hearAll_9 : decode cM_hearAll 9 = .ok (.if_icmp .ge 62, 3) := by decide +kernel
theorem dM_hearAll_12 : decode cM_hearAll 12 = .ok (.aload_n 0, 1) := by decide +kernel
theorem dM_hearAll_13 : decode cM_hearAll 13 = .ok (.getfield 22, 3) := by decide +kernel
theorem dM_hearAll_16 : decode cM_hearAll 16 = .ok (.iconst 4, 1) := by decide +kernel
theorem dM_hearAll_17 : decode cM_hearAll 17 = .ok (.iload_n 2, 1) := by decide +kernel
theorem dM_hearAll_18 : decode cM_hearAll 18 = .ok (.imul, 1) := by decide +kernel
theorem dM_hearAll_19 : decode cM_hearAll 19 = .ok (.iload_n 3, 1) := by decide +kernel
theorem dM_hearAll_20 : decode cM_hearAll 20 = .ok (.iadd, 1) := by decide +kernel
theorem dM_hearAll_21 : decode cM_hearAll 21 = .ok (.iaload, 1) := by decide +kernel
theorem dM_hearAll_22 : decode cM_hearAll 22 = .ok (.istore 4, 2) := by decide +kernel
theorem dM_hearAll_24 : decode cM_hearAll 24 = .ok (.aload_n 0, 1) := by decide +kernel
theorem dM_hearAll_25 : decode cM_hearAll 25 = .ok (.getfield 53, 3) := by decide +kernel
theorem dM_hearAll_28 : decode cM_hearAll 28 = .ok (.bipush 80, 2) := by decide +kernel
theorem dM_hearAll_30 : decode cM_hearAll 30 = .ok (.iload_n 1, 1) := by decide +kernel
theorem dM_hearAll_31 : decode cM_hearAll 31 = .ok (.imul, 1) := by decide +kernel
theorem dM_hearAll_32 : decode cM_hearAll 32 = .ok (.iload 4, 2) := by decide +kernel
theorem dM_hearAll_34 : decode cM_hearAll 34 = .ok (.bipush 100, 2) := by decide +kernel
theorem dM_hearAll_36 : decode cM_hearAll 36 = .ok (.irem, 1) := by decide +kernel
theorem dM_hearAll_37 : decode cM_hearAll 37 = .ok (.iadd, 1) := by decide +kernel
theorem dM_hearAll_38 : decode cM_hearAll 38 = .ok (.iconst 1, 1) := by decide +kernel
theorem dM_hearAll_39 : decode cM_hearAll 39 = .ok (.bastore, 1) := by decide +kernel
theorem dM_hearAll_40 : decode cM_hearAll 40 = .ok (.iload 4, 2) := by decide +kernel
theorem dM_hearAll_42 : decode cM_hearAll 42 = .ok (.bipush 100, 2) := by decide +kernel
theorem dM_hearAll_44 : decode cM_hearAll 44 = .ok (.if_icmp .lt 21, 3) := by decide +kernel
theorem dM_hearAll_47 : decode cM_hearAll 47 = .ok (.aload_n 0, 1) := by decide +kernel
theorem dM_hearAll_48 : decode cM_hearAll 48 = .ok (.getfield 53, 3) := by decide +kernel
theorem dM_hearAll_51 : decode cM_hearAll 51 = .ok (.bipush 80, 2) := by decide +kernel
theorem dM_hearAll_53 : decode cM_hearAll 53 = .ok (.iload_n 1, 1) := by decide +kernel
theorem dM_hearAll_54 : decode cM_hearAll 54 = .ok (.imul, 1) := by decide +kernel
theorem dM_hearAll_55 : decode cM_hearAll 55 = .ok (.iload 4, 2) := by decide +kernel
theorem dM_hearAll_57 : decode cM_hearAll 57 = .ok (.bipush 100, 2) := by decide +kernel
theorem dM_hearAll_59 : decode cM_hearAll 59 = .ok (.idiv, 1) := by decide +kernel
theorem dM_hearAll_60 : decode cM_hearAll 60 = .ok (.iadd, 1) := by decide +kernel
theorem dM_hearAll_61 : decode cM_hearAll 61 = .ok (.iconst 1, 1) := by decide +kernel
theorem dM_hearAll_62 : decode cM_hearAll 62 = .ok (.isub, 1) := by decide +kernel
theorem dM_hearAll_63 : decode cM_hearAll 63 = .ok (.iconst 1, 1) := by decide +kernel
theorem dM_hearAll_64 : decode cM_hearAll 64 = .ok (.bastore, 1) := by decide +kernel
theorem dM_hearAll_65 : decode cM_hearAll 65 = .ok (.iinc 3 1, 3) := by decide +kernel
theorem dM_hearAll_68 : decode cM_hearAll 68 = .ok (.goto (-66), 3) := by decide +kernel
theorem dM_hearAll_71 : decode cM_hearAll 71 = .ok (.return_, 1) := by decide +kernel
theorem dM_give_0 : decode cM_give 0 = .ok (.iload_n 1, 1) := by decide +kernel
theorem dM_give_1 : decode cM_give 1 = .ok (.invokestatic 164, 3) := by decide +kernel
theorem dM_give_4 : decode cM_give 4 = .ok (.ifCond .eq 48, 3) := by decide +kernel
theorem dM_give_7 : decode cM_give 7 = .ok (.aload_n 0, 1) := by decide +kernel
theorem dM_give_8 : decode cM_give 8 = .ok (.iload_n 2, 1) := by decide +kernel
theorem dM_give_9 : decode cM_give 9 = .ok (.invokevirtual 141, 3) := by decide +kernel
theorem dM_give_12 : decode cM_give 12 = .ok (.ifCond .eq 40, 3) := by decide +kernel
theorem dM_give_15 : decode cM_give 15 = .ok (.aload_n 0, 1) := by decide +kernel
theorem dM_give_16 : decode cM_give 16 = .ok (.getfield 49, 3) := by decide +kernel
theorem dM_give_19 : decode cM_give 19 = .ok (.bipush 60, 2) := by decide +kernel
theorem dM_give_21 : decode cM_give 21 = .ok (.iload_n 1, 1) := by decide +kernel
theorem dM_give_22 : decode cM_give 22 = .ok (.imul, 1) := by decide +kernel
theorem dM_give_23 : decode cM_give 23 = .ok (.iload_n 2, 1) := by decide +kernel
theorem dM_give_24 : decode cM_give 24 = .ok (.iadd, 1) := by decide +kernel
theorem dM_give_25 : decode cM_give 25 = .ok (.baload, 1) := by decide +kernel
theorem dM_give_26 : decode cM_give 26 = .ok (.ifCond .ne 26, 3) := by decide +kernel
theorem dM_give_29 : decode cM_give 29 = .ok (.iload_n 2, 1) := by decide +kernel
theorem dM_give_30 : decode cM_give 30 = .ok (.ifCond .eq 22, 3) := by decide +kernel
theorem dM_give_33 : decode cM_give 33 = .ok (.aload_n 0, 1) := by decide +kernel
theorem dM_give_34 : decode cM_give 34 = .ok (.getfield 49, 3) := by decide +kernel
theorem dM_give_37 : decode cM_give 37 = .ok (.bipush 60, 2) := by decide +kernel
theorem dM_give_39 : decode cM_give 39 = .ok (.iload_n 1, 1) := by decide +kernel
theorem dM_give_40 : decode cM_give 40 = .ok (.imul, 1) := by decide +kernel
theorem dM_give_41 : decode cM_give 41 = .ok (.aload_n 0, 1) := by decide +kernel
theorem dM_give_42 : decode cM_give 42 = .ok (.getfield 13, 3) := by decide +kernel
theorem dM_give_45 : decode cM_give 45 = .ok (.iload_n 2, 1) := by decide +kernel
theorem dM_give_46 : decode cM_give 46 = .ok (.iaload, 1) := by decide +kernel
theorem dM_give_47 : decode cM_give 47 = .ok (.iadd, 1) := by decide +kernel
theorem dM_give_48 : decode cM_give 48 = .ok (.baload, 1) := by decide +kernel
theorem dM_give_49 : decode cM_give 49 = .ok (.ifCond .ne 5, 3) := by decide +kernel
theorem dM_give_52 : decode cM_give 52 = .ok (.iconst 0, 1) := by decide +kernel
theorem dM_give_53 : decode cM_give 53 = .ok (.ireturn, 1) := by decide +kernel
theorem dM_give_54 : decode cM_give 54 = .ok (.aload_n 0, 1) := by decide +kernel
theorem dM_give_55 : decode cM_give 55 = .ok (.getfield 49, 3) := by decide +kernel
theorem dM_give_58 : decode cM_give 58 = .ok (.bipush 60, 2) := by decide +kernel
theorem dM_give_60 : decode cM_give 60 = .ok (.iload_n 1, 1) := by decide +kernel
theorem dM_give_61 : decode cM_give 61 = .ok (.imul, 1) := by decide +kernel
theorem dM_give_62 : decode cM_give 62 = .ok (.iload_n 2, 1) := by decide +kernel
theorem dM_give_63 : decode cM_give 63 = .ok (.iadd, 1) := by decide +kernel
theorem dM_give_64 : decode cM_give 64 = .ok (.iconst 1, 1) := by decide +kernel
theorem dM_give_65 : decode cM_give 65 = .ok (.bastore, 1) := by decide +kernel
theorem dM_give_66 : decode cM_give 66 = .ok (.aload_n 0, 1) := by decide +kernel
theorem dM_give_67 : decode cM_give 67 = .ok (.iload_n 1, 1) := by decide +kernel
theorem dM_give_68 : decode cM_give 68 = .ok (.iload_n 2, 1) := by decide +kernel
theorem dM_give_69 : decode cM_give 69 = .ok (.invokevirtual 167, 3) := by decide +kernel
theorem dM_give_72 : decode cM_give 72 = .ok (.aload_n 0, 1) := by decide +kernel
theorem dM_give_73 : decode cM_give 73 = .ok (.iload_n 2, 1) := by decide +kernel
theorem dM_give_74 : decode cM_give 74 = .ok (.invokevirtual 147, 3) := by decide +kernel
theorem dM_give_77 : decode cM_give 77 = .ok (.iconst 0, 1) := by decide +kernel
theorem dM_give_78 : decode cM_give 78 = .ok (.istore_n 3, 1) := by decide +kernel
theorem dM_give_79 : decode cM_give 79 = .ok (.aload_n 0, 1) := by decide +kernel
theorem dM_give_80 : decode cM_give 80 = .ok (.getfield 102, 3) := by decide +kernel
theorem dM_give_83 : decode cM_give 83 = .ok (.aload_n 0, 1) := by decide +kernel
theorem dM_give_84 : decode cM_give 84 = .ok (.getfield 56, 3) := by decide +kernel
theorem dM_give_87 : decode cM_give 87 = .ok (.iconst 2, 1) := by decide +kernel
theorem dM_give_88 : decode cM_give 88 = .ok (.iload_n 1, 1) := by decide +kernel
theorem dM_give_89 : decode cM_give 89 = .ok (.imul, 1) := by decide +kernel
theorem dM_give_90 : decode cM_give 90 = .ok (.iconst 1, 1) := by decide +kernel
theorem dM_give_91 : decode cM_give 91 = .ok (.iadd, 1) := by decide +kernel
theorem dM_give_92 : decode cM_give 92 = .ok (.iaload, 1) := by decide +kernel
theorem dM_give_93 : decode cM_give 93 = .ok (.if_icmp .le 121, 3) := by decide +kernel
theorem dM_give_96 : decode cM_give 96 = .ok (.aload_n 0, 1) := by decide +kernel
theorem dM_give_97 : decode cM_give 97 = .ok (.getfield 56, 3) := by decide +kernel
theorem dM_give_100 : decode cM_give 100 = .ok (.iconst 2, 1) := by decide +kernel
theorem dM_give_101 : decode cM_give 101 = .ok (.iload_n 1, 1) := by decide +kernel
theorem dM_give_102 : decode cM_give 102 = .ok (.imul, 1) := by decide +kernel
theorem dM_give_103 : decode cM_give 103 = .ok (.iconst 1, 1) := by decide +kernel
theorem dM_give_104 : decode cM_give 104 = .ok (.iadd, 1) := by decide +kernel
theorem dM_give_105 : decode cM_give 105 = .ok (.aload_n 0, 1) := by decide +kernel
theorem dM_give_106 : decode cM_give 106 = .ok (.getfield 102, 3) := by decide +kernel
theorem dM_give_109 : decode cM_give 109 = .ok (.iastore, 1) := by decide +kernel
theorem dM_give_110 : decode cM_give 110 = .ok (.aload_n 0, 1) := by decide +kernel
theorem dM_give_111 : decode cM_give 111 = .ok (.getfield 59, 3) := by decide +kernel
theorem dM_give_114 : decode cM_give 114 = .ok (.iconst 2, 1) := by decide +kernel
theorem dM_give_115 : decode cM_give 115 = .ok (.iload_n 1, 1) := by decide +kernel
theorem dM_give_116 : decode cM_give 116 = .ok (.imul, 1) := by decide +kernel
theorem dM_give_117 : decode cM_give 117 = .ok (.iconst 1, 1) := by decide +kernel
theorem dM_give_118 : decode cM_give 118 = .ok (.iadd, 1) := by decide +kernel
theorem dM_give_119 : decode cM_give 119 = .ok (.aload_n 0, 1) := by decide +kernel
theorem dM_give_120 : decode cM_give 120 = .ok (.getfield 105, 3) := by decide +kernel
theorem dM_give_123 : decode cM_give 123 = .ok (.iastore, 1) := by decide +kernel
theorem dM_give_124 : decode cM_give 124 = .ok (.iconst 0, 1) := by decide +kernel
theorem dM_give_125 : decode cM_give 125 = .ok (.istore 4, 2) := by decide +kernel
theorem dM_give_127 : decode cM_give 127 = .ok (.iload 4, 2) := by decide +kernel
theorem dM_give_129 : decode cM_give 129 = .ok (.aload_n 0, 1) := by decide +kernel
theorem dM_give_130 : decode cM_give 130 = .ok (.getfield 87, 3) := by decide +kernel
theorem dM_give_133 : decode cM_give 133 = .ok (.if_icmp .ge 54, 3) := by decide +kernel
theorem dM_give_136 : decode cM_give 136 = .ok (.aload_n 0, 1) := by decide +kernel
theorem dM_give_137 : decode cM_give 137 = .ok (.getfield 49, 3) := by decide +kernel
theorem dM_give_140 : decode cM_give 140 = .ok (.bipush 60, 2) := by decide +kernel
theorem dM_give_142 : decode cM_give 142 = .ok (.iload_n 1, 1) := by decide +kernel
theorem dM_give_143 : decode cM_give 143 = .ok (.imul, 1) := by decide +kernel
theorem dM_give_144 : decode cM_give 144 = .ok (.iload 4, 2) := by decide +kernel
theorem dM_give_146 : decode cM_give 146 = .ok (.iadd, 1) := by decide +kernel
theorem dM_give_147 : decode cM_give 147 = .ok (.aload_n 0, 1) := by decide +kernel
theorem dM_give_148 : decode cM_give 148 = .ok (.getfield 49, 3) := by decide +kernel
theorem dM_give_151 : decode cM_give 151 = .ok (.bipush 60, 2) := by decide +kernel
theorem dM_give_153 : decode cM_give 153 = .ok (.iload_n 1, 1) := by decide +kernel
theorem dM_give_154 : decode cM_give 154 = .ok (.imul, 1) := by decide +kernel
theorem dM_give_155 : decode cM_give 155 = .ok (.iload 4, 2) := by decide +kernel
theorem dM_give_157 : decode cM_give 157 = .ok (.iadd, 1) := by decide +kernel
theorem dM_give_158 : decode cM_give 158 = .ok (.baload, 1) := by decide +kernel
theorem dM_give_159 : decode cM_give 159 = .ok (.ifCond .eq 20, 3) := by decide +kernel
theorem dM_give_162 : decode cM_give 162 = .ok (.aload_n 0, 1) := by decide +kernel
theorem dM_give_163 : decode cM_give 163 = .ok (.iload 4, 2) := by decide +kernel
theorem dM_give_165 : decode cM_give 165 = .ok (.aload_n 0, 1) := by decide +kernel
theorem dM_give_166 : decode cM_give 166 = .ok (.getfield 105, 3) := by decide +kernel
theorem dM_give_169 : decode cM_give 169 = .ok (.invokevirtual 170, 3) := by decide +kernel
theorem dM_give_172 : decode cM_give 172 = .ok (.ifCond .eq 7, 3) := by decide +kernel
theorem dM_give_175 : decode cM_give 175 = .ok (.iconst 1, 1) := by decide +kernel
theorem dM_give_176 : decode cM_give 176 = .ok (.goto 4, 3) := by decide +kernel
theorem dM_give_179 : decode cM_give 179 = .ok (.iconst 0, 1) := by decide +kernel
theorem dM_give_180 : decode cM_give 180 = .ok (.bastore, 1) := by decide +kernel
theorem dM_give_181 : decode cM_give 181 = .ok (.iinc 4 1, 3) := by decide +kernel
theorem dM_give_184 : decode cM_give 184 = .ok (.goto (-57), 3) := by decide +kernel
theorem dM_give_187 : decode cM_give 187 = .ok (.aload_n 0, 1) := by decide +kernel
theorem dM_give_188 : decode cM_give 188 = .ok (.getfield 49, 3) := by decide +kernel
theorem dM_give_191 : decode cM_give 191 = .ok (.bipush 60, 2) := by decide +kernel
theorem dM_give_193 : decode cM_give 193 = .ok (.iload_n 1, 1) := by decide +kernel
theorem dM_give_194 : decode cM_give 194 = .ok (.imul, 1) := by decide +kernel
theorem dM_give_195 : decode cM_give 195 = .ok (.aload_n 0, 1) := by decide +kernel
theorem dM_give_196 : decode cM_give 196 = .ok (.getfield 59, 3) := by decide +kernel
theorem dM_give_199 : decode cM_give 199 = .ok (.iconst 2, 1) := by decide +kernel
theorem dM_give_200 : decode cM_give 200 = .ok (.iload_n 1, 1) := by decide +kernel
theorem dM_give_201 : decode cM_give 201 = .ok (.imul, 1) := by decide +kernel
theorem dM_give_202 : decode cM_give 202 = .ok (.iaload, 1) := by decide +kernel
theorem dM_give_203 : decode cM_give 203 = .ok (.iadd, 1) := by decide +kernel
theorem dM_give_204 : decode cM_give 204 = .ok (.baload, 1) := by decide +kernel
theorem dM_give_205 : decode cM_give 205 = .ok (.ifCond .ne 7, 3) := by decide +kernel
theorem dM_give_208 : decode cM_give 208 = .ok (.iconst 1, 1) := by decide +kernel
theorem dM_give_209 : decode cM_give 209 = .ok (.goto 4, 3) := by decide +kernel
theorem dM_give_212 : decode cM_give 212 = .ok (.iconst 0, 1) := by decide +kernel
theorem dM_give_213 : decode cM_give 213 = .ok (.istore_n 3, 1) := by decide +kernel
theorem dM_give_214 : decode cM_give 214 = .ok (.iload_n 3, 1) := by decide +kernel
theorem dM_give_215 : decode cM_give 215 = .ok (.ifCond .ne 18, 3) := by decide +kernel
theorem dM_give_218 : decode cM_give 218 = .ok (.aload_n 0, 1) := by decide +kernel
theorem dM_give_219 : decode cM_give 219 = .ok (.getfield 96, 3) := by decide +kernel
theorem dM_give_222 : decode cM_give 222 = .ok (.aload_n 0, 1) := by decide +kernel
theorem dM_give_223 : decode cM_give 223 = .ok (.getfield 56, 3) := by decide +kernel
theorem dM_give_226 : decode cM_give 226 = .ok (.iconst 2, 1) := by decide +kernel
theorem dM_give_227 : decode cM_give 227 = .ok (.iload_n 1, 1) := by decide +kernel
theorem dM_give_228 : decode cM_give 228 = .ok (.imul, 1) := by decide +kernel
theorem dM_give_229 : decode cM_give 229 = .ok (.iaload, 1) := by decide +kernel
theorem dM_give_230 : decode cM_give 230 = .ok (.if_icmp .le 27, 3) := by decide +kernel
theorem dM_give_233 : decode cM_give 233 = .ok (.aload_n 0, 1) := by decide +kernel
theorem dM_give_234 : decode cM_give 234 = .ok (.getfield 56, 3) := by decide +kernel
theorem dM_give_237 : decode cM_give 237 = .ok (.iconst 2, 1) := by decide +kernel
theorem dM_give_238 : decode cM_give 238 = .ok (.iload_n 1, 1) := by decide +kernel
theorem dM_give_239 : decode cM_give 239 = .ok (.imul, 1) := by decide +kernel
theorem dM_give_240 : decode cM_give 240 = .ok (.aload_n 0, 1) := by decide +kernel
theorem dM_give_241 : decode cM_give 241 = .ok (.getfield 96, 3) := by decide +kernel
theorem dM_give_244 : decode cM_give 244 = .ok (.iastore, 1) := by decide +kernel
theorem dM_give_245 : decode cM_give 245 = .ok (.aload_n 0, 1) := by decide +kernel
theorem dM_give_246 : decode cM_give 246 = .ok (.getfield 59, 3) := by decide +kernel
theorem dM_give_249 : decode cM_give 249 = .ok (.iconst 2, 1) := by decide +kernel
theorem dM_give_250 : decode cM_give 250 = .ok (.iload_n 1, 1) := by decide +kernel
theorem dM_give_251 : decode cM_give 251 = .ok (.imul, 1) := by decide +kernel
theorem dM_give_252 : decode cM_give 252 = .ok (.aload_n 0, 1) := by decide +kernel
theorem dM_give_253 : decode cM_give 253 = .ok (.getfield 99, 3) := by decide +kernel
theorem dM_give_256 : decode cM_give 256 = .ok (.iastore, 1) := by decide +kernel
theorem dM_give_257 : decode cM_give 257 = .ok (.iconst 1, 1) := by decide +kernel
theorem dM_give_258 : decode cM_give 258 = .ok (.ireturn, 1) := by decide +kernel
theorem dM_hear_0 : decode cM_hear 0 = .ok (.iload_n 1, 1) := by decide +kernel
theorem dM_hear_1 : decode cM_hear 1 = .ok (.invokestatic 164, 3) := by decide +kernel
theorem dM_hear_4 : decode cM_hear 4 = .ok (.ifCond .eq 25, 3) := by decide +kernel
theorem dM_hear_7 : decode cM_hear 7 = .ok (.aload_n 0, 1) := by decide +kernel
theorem dM_hear_8 : decode cM_hear 8 = .ok (.iload_n 2, 1) := by decide +kernel
theorem dM_hear_9 : decode cM_hear 9 = .ok (.invokevirtual 153, 3) := by decide +kernel
theorem dM_hear_12 : decode cM_hear 12 = .ok (.ifCond .eq 17, 3) := by decide +kernel
theorem dM_hear_15 : decode cM_hear 15 = .ok (.aload_n 0, 1) := by decide +kernel
theorem dM_hear_16 : decode cM_hear 16 = .ok (.getfield 53, 3) := by decide +kernel
theorem dM_hear_19 : decode cM_hear 19 = .ok (.bipush 80, 2) := by decide +kernel
theorem dM_hear_21 : decode cM_hear 21 = .ok (.iload_n 1, 1) := by decide +kernel
theorem dM_hear_22 : decode cM_hear 22 = .ok (.imul, 1) := by decide +kernel
theorem dM_hear_23 : decode cM_hear 23 = .ok (.iload_n 2, 1) := by decide +kernel
theorem dM_hear_24 : decode cM_hear 24 = .ok (.iadd, 1) := by decide +kernel
theorem dM_hear_25 : decode cM_hear 25 = .ok (.baload, 1) := by decide +kernel
theorem dM_hear_26 : decode cM_hear 26 = .ok (.ifCond .eq 5, 3) := by decide +kernel
theorem dM_hear_29 : decode cM_hear 29 = .ok (.iconst 0, 1) := by decide +kernel
theorem dM_hear_30 : decode cM_hear 30 = .ok (.ireturn, 1) := by decide +kernel
theorem dM_hear_31 : decode cM_hear 31 = .ok (.aload_n 0, 1) := by decide +kernel
theorem dM_hear_32 : decode cM_hear 32 = .ok (.getfield 53, 3) := by decide +kernel
theorem dM_hear_35 : decode cM_hear 35 = .ok (.bipush 80, 2) := by decide +kernel
theorem dM_hear_37 : decode cM_hear 37 = .ok (.iload_n 1, 1) := by decide +kernel
theorem dM_hear_38 : decode cM_hear 38 = .ok (.imul, 1) := by decide +kernel
theorem dM_hear_39 : decode cM_hear 39 = .ok (.iload_n 2, 1) := by decide +kernel
theorem dM_hear_40 : decode cM_hear 40 = .ok (.iadd, 1) := by decide +kernel
theorem dM_hear_41 : decode cM_hear 41 = .ok (.iconst 1, 1) := by decide +kernel
theorem dM_hear_42 : decode cM_hear 42 = .ok (.bastore, 1) := by decide +kernel
theorem dM_hear_43 : decode cM_hear 43 = .ok (.iconst 1, 1) := by decide +kernel
theorem dM_hear_44 : decode cM_hear 44 = .ok (.ireturn, 1) := by decide +kernel
theorem dM_knows_0 : decode cM_knows 0 = .ok (.iload_n 1, 1) := by decide +kernel
theorem dM_knows_1 : decode cM_knows 1 = .ok (.invokestatic 164, 3) := by decide +kernel
theorem dM_knows_4 : decode cM_knows 4 = .ok (.ifCond .eq 29, 3) := by decide +kernel
theorem dM_knows_7 : decode cM_knows 7 = .ok (.aload_n 0, 1) := by decide +kernel
theorem dM_knows_8 : decode cM_knows 8 = .ok (.iload_n 2, 1) := by decide +kernel
theorem dM_knows_9 : decode cM_knows 9 = .ok (.invokevirtual 141, 3) := by decide +kernel
theorem dM_knows_12 : decode cM_knows 12 = .ok (.ifCond .eq 21, 3) := by decide +kernel
theorem dM_knows_15 : decode cM_knows 15 = .ok (.aload_n 0, 1) := by decide +kernel
theorem dM_knows_16 : decode cM_knows 16 = .ok (.getfield 49, 3) := by decide +kernel
theorem dM_knows_19 : decode cM_knows 19 = .ok (.bipush 60, 2) := by decide +kernel
theorem dM_knows_21 : decode cM_knows 21 = .ok (.iload_n 1, 1) := by decide +kernel
theorem dM_knows_22 : decode cM_knows 22 = .ok (.imul, 1) := by decide +kernel
theorem dM_knows_23 : decode cM_knows 23 = .ok (.iload_n 2, 1) := by decide +kernel
theorem dM_knows_24 : decode cM_knows 24 = .ok (.iadd, 1) := by decide +kernel
theorem dM_knows_25 : decode cM_knows 25 = .ok (.baload, 1) := by decide +kernel
theorem dM_knows_26 : decode cM_knows 26 = .ok (.ifCond .eq 7, 3) := by decide +kernel
theorem dM_knows_29 : decode cM_knows 29 = .ok (.iconst 1, 1) := by decide +kernel
theorem dM_knows_30 : decode cM_knows 30 = .ok (.goto 4, 3) := by decide +kernel
theorem dM_knows_33 : decode cM_knows 33 = .ok (.iconst 0, 1) := by decide +kernel
theorem dM_knows_34 : decode cM_knows 34 = .ok (.ireturn, 1) := by decide +kernel
theorem dM_latest_0 : decode cM_latest 0 = .ok (.iconst (-1), 1) := by decide +kernel
theorem dM_latest_1 : decode cM_latest 1 = .ok (.istore_n 3, 1) := by decide +kernel
theorem dM_latest_2 : decode cM_latest 2 = .ok (.iconst 0, 1) := by decide +kernel
theorem dM_latest_3 : decode cM_latest 3 = .ok (.istore 4, 2) := by decide +kernel
theorem dM_latest_5 : decode cM_latest 5 = .ok (.iload 4, 2) := by decide +kernel
theorem dM_latest_7 : decode cM_latest 7 = .ok (.aload_n 0, 1) := by decide +kernel
theorem dM_latest_8 : decode cM_latest 8 = .ok (.getfield 90, 3) := by decide +kernel
theorem dM_latest_11 : decode cM_latest 11 = .ok (.if_icmp .ge 58, 3) := by decide +kernel
theorem dM_latest_14 : decode cM_latest 14 = .ok (.aload_n 0, 1) := by decide +kernel
theorem dM_latest_15 : decode cM_latest 15 = .ok (.getfield 53, 3) := by decide +kernel
theorem dM_latest_18 : decode cM_latest 18 = .ok (.bipush 80, 2) := by decide +kernel
theorem dM_latest_20 : decode cM_latest 20 = .ok (.iload_n 1, 1) := by decide +kernel
theorem dM_latest_21 : decode cM_latest 21 = .ok (.imul, 1) := by decide +kernel
theorem dM_latest_22 : decode cM_latest 22 = .ok (.iload 4, 2) := by decide +kernel
theorem dM_latest_24 : decode cM_latest 24 = .ok (.iadd, 1) := by decide +kernel
theorem dM_latest_25 : decode cM_latest 25 = .ok (.baload, 1) := by decide +kernel
theorem dM_latest_26 : decode cM_latest 26 = .ok (.ifCond .eq 37, 3) := by decide +kernel
theorem dM_latest_29 : decode cM_latest 29 = .ok (.aload_n 0, 1) := by decide +kernel
theorem dM_latest_30 : decode cM_latest 30 = .ok (.getfield 28, 3) := by decide +kernel
theorem dM_latest_33 : decode cM_latest 33 = .ok (.iload 4, 2) := by decide +kernel
theorem dM_latest_35 : decode cM_latest 35 = .ok (.iaload, 1) := by decide +kernel
theorem dM_latest_36 : decode cM_latest 36 = .ok (.iload_n 2, 1) := by decide +kernel
theorem dM_latest_37 : decode cM_latest 37 = .ok (.if_icmp .ne 26, 3) := by decide +kernel
theorem dM_latest_40 : decode cM_latest 40 = .ok (.iload_n 3, 1) := by decide +kernel
theorem dM_latest_41 : decode cM_latest 41 = .ok (.ifCond .lt 19, 3) := by decide +kernel
theorem dM_latest_44 : decode cM_latest 44 = .ok (.aload_n 0, 1) := by decide +kernel
theorem dM_latest_45 : decode cM_latest 45 = .ok (.getfield 31, 3) := by decide +kernel
theorem dM_latest_48 : decode cM_latest 48 = .ok (.iload 4, 2) := by decide +kernel
theorem dM_latest_50 : decode cM_latest 50 = .ok (.iaload, 1) := by decide +kernel
theorem dM_latest_51 : decode cM_latest 51 = .ok (.aload_n 0, 1) := by decide +kernel
theorem dM_latest_52 : decode cM_latest 52 = .ok (.getfield 31, 3) := by decide +kernel
theorem dM_latest_55 : decode cM_latest 55 = .ok (.iload_n 3, 1) := by decide +kernel
theorem dM_latest_56 : decode cM_latest 56 = .ok (.iaload, 1) := by decide +kernel
theorem dM_latest_57 : decode cM_latest 57 = .ok (.if_icmp .lt 6, 3) := by decide +kernel
theorem dM_latest_60 : decode cM_latest 60 = .ok (.iload 4, 2) := by decide +kernel
theorem dM_latest_62 : decode cM_latest 62 = .ok (.istore_n 3, 1) := by decide +kernel
theorem dM_latest_63 : decode cM_latest 63 = .ok (.iinc 4 1, 3) := by decide +kernel
theorem dM_latest_66 : decode cM_latest 66 = .ok (.goto (-61), 3) := by decide +kernel
theorem dM_latest_69 : decode cM_latest 69 = .ok (.iload_n 3, 1) := by decide +kernel
theorem dM_latest_70 : decode cM_latest 70 = .ok (.ireturn, 1) := by decide +kernel
theorem dM_support_0 : decode cM_support 0 = .ok (.iconst 0, 1) := by decide +kernel
theorem dM_support_1 : decode cM_support 1 = .ok (.istore_n 3, 1) := by decide +kernel
theorem dM_support_2 : decode cM_support 2 = .ok (.iconst 0, 1) := by decide +kernel
theorem dM_support_3 : decode cM_support 3 = .ok (.istore 4, 2) := by decide +kernel
theorem dM_support_5 : decode cM_support 5 = .ok (.iload 4, 2) := by decide +kernel
theorem dM_support_7 : decode cM_support 7 = .ok (.aload_n 0, 1) := by decide +kernel
theorem dM_support_8 : decode cM_support 8 = .ok (.getfield 77, 3) := by decide +kernel
theorem dM_support_11 : decode cM_support 11 = .ok (.if_icmp .ge 52, 3) := by decide +kernel
theorem dM_support_14 : decode cM_support 14 = .ok (.aload_n 0, 1) := by decide +kernel
theorem dM_support_15 : decode cM_support 15 = .ok (.iload_n 1, 1) := by decide +kernel
theorem dM_support_16 : decode cM_support 16 = .ok (.iload 4, 2) := by decide +kernel
theorem dM_support_18 : decode cM_support 18 = .ok (.invokevirtual 173, 3) := by decide +kernel
theorem dM_support_21 : decode cM_support 21 = .ok (.istore 5, 2) := by decide +kernel
theorem dM_support_23 : decode cM_support 23 = .ok (.iload_n 3, 1) := by decide +kernel
theorem dM_support_24 : decode cM_support 24 = .ok (.iload 5, 2) := by decide +kernel
theorem dM_support_26 : decode cM_support 26 = .ok (.ifCond .lt 28, 3) := by decide +kernel
theorem dM_support_29 : decode cM_support 29 = .ok (.aload_n 0, 1) := by decide +kernel
theorem dM_support_30 : decode cM_support 30 = .ok (.aload_n 0, 1) := by decide +kernel
theorem dM_support_31 : decode cM_support 31 = .ok (.getfield 34, 3) := by decide +kernel
theorem dM_support_34 : decode cM_support 34 = .ok (.iload 5, 2) := by decide +kernel
theorem dM_support_36 : decode cM_support 36 = .ok (.iaload, 1) := by decide +kernel
theorem dM_support_37 : decode cM_support 37 = .ok (.iload_n 2, 1) := by decide +kernel
theorem dM_support_38 : decode cM_support 38 = .ok (.invokevirtual 170, 3) := by decide +kernel
theorem dM_support_41 : decode cM_support 41 = .ok (.ifCond .eq 13, 3) := by decide +kernel
theorem dM_support_44 : decode cM_support 44 = .ok (.aload_n 0, 1) := by decide +kernel
theorem dM_support_45 : decode cM_support 45 = .ok (.getfield 7, 3) := by decide +kernel
theorem dM_support_48 : decode cM_support 48 = .ok (.iload 4, 2) := by decide +kernel
theorem dM_support_50 : decode cM_support 50 = .ok (.iaload, 1) := by decide +kernel
theorem dM_support_51 : decode cM_support 51 = .ok (.goto 4, 3) := by decide +kernel
theorem dM_support_54 : decode cM_support 54 = .ok (.iconst 0, 1) := by decide +kernel
theorem dM_support_55 : decode cM_support 55 = .ok (.iadd, 1) := by decide +kernel
theorem dM_support_56 : decode cM_support 56 = .ok (.istore_n 3, 1) := by decide +kernel
theorem dM_support_57 : decode cM_support 57 = .ok (.iinc 4 1, 3) := by decide +kernel
theorem dM_support_60 : decode cM_support 60 = .ok (.goto (-55), 3) := by decide +kernel
theorem dM_support_63 : decode cM_support 63 = .ok (.iload_n 3, 1) := by decide +kernel
theorem dM_support_64 : decode cM_support 64 = .ok (.ireturn, 1) := by decide +kernel
theorem dM_head_0 : decode cM_head 0 = .ok (.iload_n 1, 1) := by decide +kernel
theorem dM_head_1 : decode cM_head 1 = .ok (.invokestatic 164, 3) := by decide +kernel
theorem dM_head_4 : decode cM_head 4 = .ok (.ifCond .ne 5, 3) := by decide +kernel
theorem dM_head_7 : decode cM_head 7 = .ok (.iconst (-1), 1) := by decide +kernel
theorem dM_head_8 : decode cM_head 8 = .ok (.ireturn, 1) := by decide +kernel
theorem dM_head_9 : decode cM_head 9 = .ok (.aload_n 0, 1) := by decide +kernel
theorem dM_head_10 : decode cM_head 10 = .ok (.getfield 59, 3) := by decide +kernel
theorem dM_head_13 : decode cM_head 13 = .ok (.iconst 2, 1) := by decide +kernel
theorem dM_head_14 : decode cM_head 14 = .ok (.iload_n 1, 1) := by decide +kernel
theorem dM_head_15 : decode cM_head 15 = .ok (.imul, 1) := by decide +kernel
theorem dM_head_16 : decode cM_head 16 = .ok (.iaload, 1) := by decide +kernel
theorem dM_head_17 : decode cM_head 17 = .ok (.istore_n 2, 1) := by decide +kernel
theorem dM_head_18 : decode cM_head 18 = .ok (.iconst 1, 1) := by decide +kernel
theorem dM_head_19 : decode cM_head 19 = .ok (.istore_n 3, 1) := by decide +kernel
theorem dM_head_20 : decode cM_head 20 = .ok (.iload_n 3, 1) := by decide +kernel
theorem dM_head_21 : decode cM_head 21 = .ok (.ifCond .eq 121, 3) := by decide +kernel
theorem dM_head_24 : decode cM_head 24 = .ok (.iconst (-1), 1) := by decide +kernel
theorem dM_head_25 : decode cM_head 25 = .ok (.istore 4, 2) := by decide +kernel
theorem dM_head_27 : decode cM_head 27 = .ok (.iconst (-1), 1) := by decide +kernel
theorem dM_head_28 : decode cM_head 28 = .ok (.istore 5, 2) := by decide +kernel
theorem dM_head_30 : decode cM_head 30 = .ok (.iload_n 2, 1) := by decide +kernel
theorem dM_head_31 : decode cM_head 31 = .ok (.iconst 1, 1) := by decide +kernel
theorem dM_head_32 : decode cM_head 32 = .ok (.iadd, 1) := by decide +kernel
theorem dM_head_33 : decode cM_head 33 = .ok (.istore 6, 2) := by decide +kernel
theorem dM_head_35 : decode cM_head 35 = .ok (.iload 6, 2) := by decide +kernel
theorem dM_head_37 : decode cM_head 37 = .ok (.aload_n 0, 1) := by decide +kernel
theorem dM_head_38 : decode cM_head 38 = .ok (.getfield 87, 3) := by decide +kernel
theorem dM_head_41 : decode cM_head 41 = .ok (.if_icmp .ge 76, 3) := by decide +kernel
theorem dM_head_44 : decode cM_head 44 = .ok (.aload_n 0, 1) := by decide +kernel
theorem dM_head_45 : decode cM_head 45 = .ok (.getfield 49, 3) := by decide +kernel
theorem dM_head_48 : decode cM_head 48 = .ok (.bipush 60, 2) := by decide +kernel
theorem dM_head_50 : decode cM_head 50 = .ok (.iload_n 1, 1) := by decide +kernel
theorem dM_head_51 : decode cM_head 51 = .ok (.imul, 1) := by decide +kernel
theorem dM_head_52 : decode cM_head 52 = .ok (.iload 6, 2) := by decide +kernel
theorem dM_head_54 : decode cM_head 54 = .ok (.iadd, 1) := by decide +kernel
theorem dM_head_55 : decode cM_head 55 = .ok (.baload, 1) := by decide +kernel
theorem dM_head_56 : decode cM_head 56 = .ok (.ifCond .eq 55, 3) := by decide +kernel
theorem dM_head_59 : decode cM_head 59 = .ok (.aload_n 0, 1) := by decide +kernel
theorem dM_head_60 : decode cM_head 60 = .ok (.getfield 13, 3) := by decide +kernel
theorem dM_head_63 : decode cM_head 63 = .ok (.iload 6, 2) := by decide +kernel
theorem dM_head_65 : decode cM_head 65 = .ok (.iaload, 1) := by decide +kernel
theorem dM_head_66 : decode cM_head 66 = .ok (.iload_n 2, 1) := by decide +kernel
theorem dM_head_67 : decode cM_head 67 = .ok (.if_icmp .ne 44, 3) := by decide +kernel
theorem dM_head_70 : decode cM_head 70 = .ok (.aload_n 0, 1) := by decide +kernel
theorem dM_head_71 : decode cM_head 71 = .ok (.iload_n 1, 1) := by decide +kernel
theorem dM_head_72 : decode cM_head 72 = .ok (.iload 6, 2) := by decide +kernel
theorem dM_head_74 : decode cM_head 74 = .ok (.invokevirtual 176, 3) := by decide +kernel
theorem dM_head_77 : decode cM_head 77 = .ok (.istore 7, 2) := by decide +kernel
theorem dM_head_79 : decode cM_head 79 = .ok (.iload 7, 2) := by decide +kernel
theorem dM_head_81 : decode cM_head 81 = .ok (.iload 5, 2) := by decide +kernel
theorem dM_head_83 : decode cM_head 83 = .ok (.if_icmp .le 8, 3) := by decide +kernel
theorem dM_head_86 : decode cM_head 86 = .ok (.iload 6, 2) := by decide +kernel
theorem dM_head_88 : decode cM_head 88 = .ok (.goto 5, 3) := by decide +kernel
theorem dM_head_91 : decode cM_head 91 = .ok (.iload 4, 2) := by decide +kernel
theorem dM_head_93 : decode cM_head 93 = .ok (.istore 4, 2) := by decide +kernel
theorem dM_head_95 : decode cM_head 95 = .ok (.iload 7, 2) := by decide +kernel
theorem dM_head_97 : decode cM_head 97 = .ok (.iload 5, 2) := by decide +kernel
theorem dM_head_99 : decode cM_head 99 = .ok (.if_icmp .le 8, 3) := by decide +kernel
theorem dM_head_102 : decode cM_head 102 = .ok (.iload 7, 2) := by decide +kernel
theorem dM_head_104 : decode cM_head 104 = .ok (.goto 5, 3) := by decide +kernel
theorem dM_head_107 : decode cM_head 107 = .ok (.iload 5, 2) := by decide +kernel
theorem dM_head_109 : decode cM_head 109 = .ok (.istore 5, 2) := by decide +kernel
theorem dM_head_111 : decode cM_head 111 = .ok (.iinc 6 1, 3) := by decide +kernel
theorem dM_head_114 : decode cM_head 114 = .ok (.goto (-79), 3) := by decide +kernel
theorem dM_head_117 : decode cM_head 117 = .ok (.iload 4, 2) := by decide +kernel
theorem dM_head_119 : decode cM_head 119 = .ok (.ifCond .lt 7, 3) := by decide +kernel
theorem dM_head_122 : decode cM_head 122 = .ok (.iconst 1, 1) := by decide +kernel
theorem dM_head_123 : decode cM_head 123 = .ok (.goto 4, 3) := by decide +kernel
theorem dM_head_126 : decode cM_head 126 = .ok (.iconst 0, 1) := by decide +kernel
theorem dM_head_127 : decode cM_head 127 = .ok (.istore_n 3, 1) := by decide +kernel
theorem dM_head_128 : decode cM_head 128 = .ok (.iload_n 3, 1) := by decide +kernel
theorem dM_head_129 : decode cM_head 129 = .ok (.ifCond .eq 8, 3) := by decide +kernel
theorem dM_head_132 : decode cM_head 132 = .ok (.iload 4, 2) := by decide +kernel
theorem dM_head_134 : decode cM_head 134 = .ok (.goto 4, 3) := by decide +kernel
theorem dM_head_137 : decode cM_head 137 = .ok (.iload_n 2, 1) := by decide +kernel
theorem dM_head_138 : decode cM_head 138 = .ok (.istore_n 2, 1) := by decide +kernel
theorem dM_head_139 : decode cM_head 139 = .ok (.goto (-119), 3) := by decide +kernel
theorem dM_head_142 : decode cM_head 142 = .ok (.iload_n 2, 1) := by decide +kernel
theorem dM_head_143 : decode cM_head 143 = .ok (.ireturn, 1) := by decide +kernel
theorem dM_checkpoint_0 : decode cM_checkpoint 0 = .ok (.iload_n 1, 1) := by decide +kernel
theorem dM_checkpoint_1 : decode cM_checkpoint 1 = .ok (.invokestatic 164, 3) := by decide +kernel
theorem dM_checkpoint_4 : decode cM_checkpoint 4 = .ok (.ifCond .eq 12, 3) := by decide +kernel
theorem dM_checkpoint_7 : decode cM_checkpoint 7 = .ok (.iload_n 2, 1) := by decide +kernel
theorem dM_checkpoint_8 : decode cM_checkpoint 8 = .ok (.iconst 0, 1) := by decide +kernel
theorem dM_checkpoint_9 : decode cM_checkpoint 9 = .ok (.iconst 3, 1) := by decide +kernel
theorem dM_checkpoint_10 : decode cM_checkpoint 10 = .ok (.invokestatic 144, 3) := by decide +kernel
theorem dM_checkpoint_13 : decode cM_checkpoint 13 = .ok (.ifCond .eq 5, 3) := by decide +kernel
theorem dM_checkpoint_16 : decode cM_checkpoint 16 = .ok (.iconst (-1), 1) := by decide +kernel
theorem dM_checkpoint_17 : decode cM_checkpoint 17 = .ok (.ireturn, 1) := by decide +kernel
theorem dM_checkpoint_18 : decode cM_checkpoint 18 = .ok (.iconst 2, 1) := by decide +kernel
theorem dM_checkpoint_19 : decode cM_checkpoint 19 = .ok (.iload_n 1, 1) := by decide +kernel
theorem dM_checkpoint_20 : decode cM_checkpoint 20 = .ok (.imul, 1) := by decide +kernel
theorem dM_checkpoint_21 : decode cM_checkpoint 21 = .ok (.iload_n 2, 1) := by decide +kernel
theorem dM_checkpoint_22 : decode cM_checkpoint 22 = .ok (.iconst 2, 1) := by decide +kernel
theorem dM_checkpoint_23 : decode cM_checkpoint 23 = .ok (.idiv, 1) := by decide +kernel
theorem dM_checkpoint_24 : decode cM_checkpoint 24 = .ok (.iadd, 1) := by decide +kernel
theorem dM_checkpoint_25 : decode cM_checkpoint 25 = .ok (.istore_n 3, 1) := by decide +kernel
theorem dM_checkpoint_26 : decode cM_checkpoint 26 = .ok (.iload_n 2, 1) := by decide +kernel
theorem dM_checkpoint_27 : decode cM_checkpoint 27 = .ok (.iconst 2, 1) := by decide +kernel
theorem dM_checkpoint_28 : decode cM_checkpoint 28 = .ok (.irem, 1) := by decide +kernel
theorem dM_checkpoint_29 : decode cM_checkpoint 29 = .ok (.ifCond .ne 12, 3) := by decide +kernel
theorem dM_checkpoint_32 : decode cM_checkpoint 32 = .ok (.aload_n 0, 1) := by decide +kernel
theorem dM_checkpoint_33 : decode cM_checkpoint 33 = .ok (.getfield 56, 3) := by decide +kernel
theorem dM_checkpoint_36 : decode cM_checkpoint 36 = .ok (.iload_n 3, 1) := by decide +kernel
theorem dM_checkpoint_37 : decode cM_checkpoint 37 = .ok (.iaload, 1) := by decide +kernel
theorem dM_checkpoint_38 : decode cM_checkpoint 38 = .ok (.goto 9, 3) := by decide +kernel
theorem dM_checkpoint_41 : decode cM_checkpoint 41 = .ok (.aload_n 0, 1) := by decide +kernel
theorem dM_checkpoint_42 : decode cM_checkpoint 42 = .ok (.getfield 59, 3) := by decide +kernel
theorem dM_checkpoint_45 : decode cM_checkpoint 45 = .ok (.iload_n 3, 1) := by decide +kernel
theorem dM_checkpoint_46 : decode cM_checkpoint 46 = .ok (.iaload, 1) := by decide +kernel
theorem dM_checkpoint_47 : decode cM_checkpoint 47 = .ok (.ireturn, 1) := by decide +kernel
theorem dM_conflict_0 : decode cM_conflict 0 = .ok (.iload_n 1, 1) := by decide +kernel
theorem dM_conflict_1 : decode cM_conflict 1 = .ok (.invokestatic 164, 3) := by decide +kernel
theorem dM_conflict_4 : decode cM_conflict 4 = .ok (.ifCond .eq 10, 3) := by decide +kernel
theorem dM_conflict_7 : decode cM_conflict 7 = .ok (.iload_n 2, 1) := by decide +kernel
theorem dM_conflict_8 : decode cM_conflict 8 = .ok (.invokestatic 164, 3) := by decide +kernel
theorem dM_conflict_11 : decode cM_conflict 11 = .ok (.ifCond .ne 5, 3) := by decide +kernel
theorem dM_conflict_14 : decode cM_conflict 14 = .ok (.iconst 0, 1) := by decide +kernel
theorem dM_conflict_15 : decode cM_conflict 15 = .ok (.ireturn, 1) := by decide +kernel
theorem dM_conflict_16 : decode cM_conflict 16 = .ok (.aload_n 0, 1) := by decide +kernel
theorem dM_conflict_17 : decode cM_conflict 17 = .ok (.getfield 59, 3) := by decide +kernel
theorem dM_conflict_20 : decode cM_conflict 20 = .ok (.iconst 2, 1) := by decide +kernel
theorem dM_conflict_21 : decode cM_conflict 21 = .ok (.iload_n 1, 1) := by decide +kernel
theorem dM_conflict_22 : decode cM_conflict 22 = .ok (.imul, 1) := by decide +kernel
theorem dM_conflict_23 : decode cM_conflict 23 = .ok (.iconst 1, 1) := by decide +kernel
theorem dM_conflict_24 : decode cM_conflict 24 = .ok (.iadd, 1) := by decide +kernel
theorem dM_conflict_25 : decode cM_conflict 25 = .ok (.iaload, 1) := by decide +kernel
theorem dM_conflict_26 : decode cM_conflict 26 = .ok (.istore_n 3, 1) := by decide +kernel
theorem dM_conflict_27 : decode cM_conflict 27 = .ok (.aload_n 0, 1) := by decide +kernel
theorem dM_conflict_28 : decode cM_conflict 28 = .ok (.getfield 59, 3) := by decide +kernel
theorem dM_conflict_31 : decode cM_conflict 31 = .ok (.iconst 2, 1) := by decide +kernel
theorem dM_conflict_32 : decode cM_conflict 32 = .ok (.iload_n 2, 1) := by decide +kernel
theorem dM_conflict_33 : decode cM_conflict 33 = .ok (.imul, 1) := by decide +kernel
theorem dM_conflict_34 : decode cM_conflict 34 = .ok (.iconst 1, 1) := by decide +kernel
theorem dM_conflict_35 : decode cM_conflict 35 = .ok (.iadd, 1) := by decide +kernel
theorem dM_conflict_36 : decode cM_conflict 36 = .ok (.iaload, 1) := by decide +kernel
theorem dM_conflict_37 : decode cM_conflict 37 = .ok (.istore 4, 2) := by decide +kernel
theorem dM_conflict_39 : decode cM_conflict 39 = .ok (.aload_n 0, 1) := by decide +kernel
theorem dM_conflict_40 : decode cM_conflict 40 = .ok (.iload_n 3, 1) := by decide +kernel
theorem dM_conflict_41 : decode cM_conflict 41 = .ok (.iload 4, 2) := by decide +kernel
theorem dM_conflict_43 : decode cM_conflict 43 = .ok (.invokevirtual 170, 3) := by decide +kernel
theorem dM_conflict_46 : decode cM_conflict 46 = .ok (.ifCond .ne 17, 3) := by decide +kernel
theorem dM_conflict_49 : decode cM_conflict 49 = .ok (.aload_n 0, 1) := by decide +kernel
theorem dM_conflict_50 : decode cM_conflict 50 = .ok (.iload 4, 2) := by decide +kernel
theorem dM_conflict_52 : decode cM_conflict 52 = .ok (.iload_n 3, 1) := by decide +kernel
theorem dM_conflict_53 : decode cM_conflict 53 = .ok (.invokevirtual 170, 3) := by decide +kernel
theorem dM_conflict_56 : decode cM_conflict 56 = .ok (.ifCond .ne 7, 3) := by decide +kernel
theorem dM_conflict_59 : decode cM_conflict 59 = .ok (.iconst 1, 1) := by decide +kernel
theorem dM_conflict_60 : decode cM_conflict 60 = .ok (.goto 4, 3) := by decide +kernel
theorem dM_conflict_63 : decode cM_conflict 63 = .ok (.iconst 0, 1) := by decide +kernel
theorem dM_conflict_64 : decode cM_conflict 64 = .ok (.ireturn, 1) := by decide +kernel
theorem dM_isHeard_0 : decode cM_isHeard 0 = .ok (.iconst 0, 1) := by decide +kernel
theorem dM_isHeard_1 : decode cM_isHeard 1 = .ok (.istore_n 3, 1) := by decide +kernel
theorem dM_isHeard_2 : decode cM_isHeard 2 = .ok (.iconst 0, 1) := by decide +kernel
theorem dM_isHeard_3 : decode cM_isHeard 3 = .ok (.istore 4, 2) := by decide +kernel
theorem dM_isHeard_5 : decode cM_isHeard 5 = .ok (.iload 4, 2) := by decide +kernel
theorem dM_isHeard_7 : decode cM_isHeard 7 = .ok (.iconst 3, 1) := by decide +kernel
theorem dM_isHeard_8 : decode cM_isHeard 8 = .ok (.if_icmp .ge 44, 3) := by decide +kernel
theorem dM_isHeard_11 : decode cM_isHeard 11 = .ok (.iload_n 3, 1) := by decide +kernel
theorem dM_isHeard_12 : decode cM_isHeard 12 = .ok (.ifCond .ne 28, 3) := by decide +kernel
theorem dM_isHeard_15 : decode cM_isHeard 15 = .ok (.iload_n 1, 1) := by decide +kernel
theorem dM_isHeard_16 : decode cM_isHeard 16 = .ok (.iload 4, 2) := by decide +kernel
theorem dM_isHeard_18 : decode cM_isHeard 18 = .ok (.ishr, 1) := by decide +kernel
theorem dM_isHeard_19 : decode cM_isHeard 19 = .ok (.iconst 1, 1) := by decide +kernel
theorem dM_isHeard_20 : decode cM_isHeard 20 = .ok (.iand, 1) := by decide +kernel
theorem dM_isHeard_21 : decode cM_isHeard 21 = .ok (.iconst 1, 1) := by decide +kernel
theorem dM_isHeard_22 : decode cM_isHeard 22 = .ok (.if_icmp .ne 22, 3) := by decide +kernel
theorem dM_isHeard_25 : decode cM_isHeard 25 = .ok (.aload_n 0, 1) := by decide +kernel
theorem dM_isHeard_26 : decode cM_isHeard 26 = .ok (.getfield 53, 3) := by decide +kernel
theorem dM_isHeard_29 : decode cM_isHeard 29 = .ok (.bipush 80, 2) := by decide +kernel
theorem dM_isHeard_31 : decode cM_isHeard 31 = .ok (.iload 4, 2) := by decide +kernel
theorem dM_isHeard_33 : decode cM_isHeard 33 = .ok (.imul, 1) := by decide +kernel
theorem dM_isHeard_34 : decode cM_isHeard 34 = .ok (.iload_n 2, 1) := by decide +kernel
theorem dM_isHeard_35 : decode cM_isHeard 35 = .ok (.iadd, 1) := by decide +kernel
theorem dM_isHeard_36 : decode cM_isHeard 36 = .ok (.baload, 1) := by decide +kernel
theorem dM_isHeard_37 : decode cM_isHeard 37 = .ok (.ifCond .eq 7, 3) := by decide +kernel
theorem dM_isHeard_40 : decode cM_isHeard 40 = .ok (.iconst 1, 1) := by decide +kernel
theorem dM_isHeard_41 : decode cM_isHeard 41 = .ok (.goto 4, 3) := by decide +kernel
theorem dM_isHeard_44 : decode cM_isHeard 44 = .ok (.iconst 0, 1) := by decide +kernel
theorem dM_isHeard_45 : decode cM_isHeard 45 = .ok (.istore_n 3, 1) := by decide +kernel
theorem dM_isHeard_46 : decode cM_isHeard 46 = .ok (.iinc 4 1, 3) := by decide +kernel
theorem dM_isHeard_49 : decode cM_isHeard 49 = .ok (.goto (-44), 3) := by decide +kernel
theorem dM_isHeard_52 : decode cM_isHeard 52 = .ok (.iload_n 3, 1) := by decide +kernel
theorem dM_isHeard_53 : decode cM_isHeard 53 = .ok (.ireturn, 1) := by decide +kernel
theorem dM_pair_0 : decode cM_pair 0 = .ok (.iconst 0, 1) := by decide +kernel
theorem dM_pair_1 : decode cM_pair 1 = .ok (.istore 4, 2) := by decide +kernel
theorem dM_pair_3 : decode cM_pair 3 = .ok (.iload 4, 2) := by decide +kernel
theorem dM_pair_5 : decode cM_pair 5 = .ok (.aload_n 0, 1) := by decide +kernel
theorem dM_pair_6 : decode cM_pair 6 = .ok (.getfield 90, 3) := by decide +kernel
theorem dM_pair_9 : decode cM_pair 9 = .ok (.if_icmp .ge 85, 3) := by decide +kernel
theorem dM_pair_12 : decode cM_pair 12 = .ok (.iload 4, 2) := by decide +kernel
theorem dM_pair_14 : decode cM_pair 14 = .ok (.iconst 1, 1) := by decide +kernel
theorem dM_pair_15 : decode cM_pair 15 = .ok (.iadd, 1) := by decide +kernel
theorem dM_pair_16 : decode cM_pair 16 = .ok (.istore 5, 2) := by decide +kernel
theorem dM_pair_18 : decode cM_pair 18 = .ok (.iload 5, 2) := by decide +kernel
theorem dM_pair_20 : decode cM_pair 20 = .ok (.aload_n 0, 1) := by decide +kernel
theorem dM_pair_21 : decode cM_pair 21 = .ok (.getfield 90, 3) := by decide +kernel
theorem dM_pair_24 : decode cM_pair 24 = .ok (.if_icmp .ge 64, 3) := by decide +kernel
theorem dM_pair_27 : decode cM_pair 27 = .ok (.aload_n 0, 1) := by decide +kernel
theorem dM_pair_28 : decode cM_pair 28 = .ok (.getfield 28, 3) := by decide +kernel
theorem dM_pair_31 : decode cM_pair 31 = .ok (.iload 4, 2) := by decide +kernel
theorem dM_pair_33 : decode cM_pair 33 = .ok (.iaload, 1) := by decide +kernel
theorem dM_pair_34 : decode cM_pair 34 = .ok (.iload_n 1, 1) := by decide +kernel
theorem dM_pair_35 : decode cM_pair 35 = .ok (.if_icmp .ne 47, 3) := by decide +kernel
theorem dM_pair_38 : decode cM_pair 38 = .ok (.aload_n 0, 1) := by decide +kernel
theorem dM_pair_39 : decode cM_pair 39 = .ok (.iload 4, 2) := by decide +kernel
theorem dM_pair_41 : decode cM_pair 41 = .ok (.iload 5, 2) := by decide +kernel
theorem dM_pair_43 : decode cM_pair 43 = .ok (.invokevirtual 160, 3) := by decide +kernel
theorem dM_pair_46 : decode cM_pair 46 = .ok (.ifCond .eq 36, 3) := by decide +kernel
theorem dM_pair_49 : decode cM_pair 49 = .ok (.iload_n 3, 1) := by decide +kernel
theorem dM_pair_50 : decode cM_pair 50 = .ok (.ifCond .ne 23, 3) := by decide +kernel
theorem dM_pair_53 : decode cM_pair 53 = .ok (.aload_n 0, 1) := by decide +kernel
theorem dM_pair_54 : decode cM_pair 54 = .ok (.iload_n 2, 1) := by decide +kernel
theorem dM_pair_55 : decode cM_pair 55 = .ok (.iload 4, 2) := by decide +kernel
theorem dM_pair_57 : decode cM_pair 57 = .ok (.invokevirtual 179, 3) := by decide +kernel
theorem dM_pair_60 : decode cM_pair 60 = .ok (.ifCond .eq 22, 3) := by decide +kernel
theorem dM_pair_63 : decode cM_pair 63 = .ok (.aload_n 0, 1) := by decide +kernel
theorem dM_pair_64 : decode cM_pair 64 = .ok (.iload_n 2, 1) := by decide +kernel
theorem dM_pair_65 : decode cM_pair 65 = .ok (.iload 5, 2) := by decide +kernel
theorem dM_pair_67 : decode cM_pair 67 = .ok (.invokevirtual 179, 3) := by decide +kernel
theorem dM_pair_70 : decode cM_pair 70 = .ok (.ifCond .eq 12, 3) := by decide +kernel
theorem dM_pair_73 : decode cM_pair 73 = .ok (.bipush 100, 2) := by decide +kernel
theorem dM_pair_75 : decode cM_pair 75 = .ok (.iload 4, 2) := by decide +kernel
theorem dM_pair_77 : decode cM_pair 77 = .ok (.imul, 1) := by decide +kernel
theorem dM_pair_78 : decode cM_pair 78 = .ok (.iload 5, 2) := by decide +kernel
theorem dM_pair_80 : decode cM_pair 80 = .ok (.iadd, 1) := by decide +kernel
theorem dM_pair_81 : decode cM_pair 81 = .ok (.ireturn, 1) := by decide +kernel
theorem dM_pair_82 : decode cM_pair 82 = .ok (.iinc 5 1, 3) := by decide +kernel
theorem dM_pair_85 : decode cM_pair 85 = .ok (.goto (-67), 3) := by decide +kernel
theorem dM_pair_88 : decode cM_pair 88 = .ok (.iinc 4 1, 3) := by decide +kernel
theorem dM_pair_91 : decode cM_pair 91 = .ok (.goto (-88), 3) := by decide +kernel
theorem dM_pair_94 : decode cM_pair 94 = .ok (.iconst (-1), 1) := by decide +kernel
theorem dM_pair_95 : decode cM_pair 95 = .ok (.ireturn, 1) := by decide +kernel
theorem dM_guilty_0 : decode cM_guilty 0 = .ok (.iconst 0, 1) := by decide +kernel
theorem dM_guilty_1 : decode cM_guilty 1 = .ok (.istore_n 3, 1) := by decide +kernel
theorem dM_guilty_2 : decode cM_guilty 2 = .ok (.iconst 0, 1) := by decide +kernel
theorem dM_guilty_3 : decode cM_guilty 3 = .ok (.istore 4, 2) := by decide +kernel
theorem dM_guilty_5 : decode cM_guilty 5 = .ok (.iload 4, 2) := by decide +kernel
theorem dM_guilty_7 : decode cM_guilty 7 = .ok (.aload_n 0, 1) := by decide +kernel
theorem dM_guilty_8 : decode cM_guilty 8 = .ok (.getfield 77, 3) := by decide +kernel
theorem dM_guilty_11 : decode cM_guilty 11 = .ok (.if_icmp .ge 34, 3) := by decide +kernel
theorem dM_guilty_14 : decode cM_guilty 14 = .ok (.iload_n 3, 1) := by decide +kernel
theorem dM_guilty_15 : decode cM_guilty 15 = .ok (.aload_n 0, 1) := by decide +kernel
theorem dM_guilty_16 : decode cM_guilty 16 = .ok (.iload 4, 2) := by decide +kernel
theorem dM_guilty_18 : decode cM_guilty 18 = .ok (.iload_n 1, 1) := by decide +kernel
theorem dM_guilty_19 : decode cM_guilty 19 = .ok (.iload_n 2, 1) := by decide +kernel
theorem dM_guilty_20 : decode cM_guilty 20 = .ok (.invokevirtual 182, 3) := by decide +kernel
theorem dM_guilty_23 : decode cM_guilty 23 = .ok (.ifCond .lt 13, 3) := by decide +kernel
theorem dM_guilty_26 : decode cM_guilty 26 = .ok (.aload_n 0, 1) := by decide +kernel
theorem dM_guilty_27 : decode cM_guilty 27 = .ok (.getfield 7, 3) := by decide +kernel
theorem dM_guilty_30 : decode cM_guilty 30 = .ok (.iload 4, 2) := by decide +kernel
theorem dM_guilty_32 : decode cM_guilty 32 = .ok (.iaload, 1) := by decide +kernel
theorem dM_guilty_33 : decode cM_guilty 33 = .ok (.goto 4, 3) := by decide +kernel
theorem dM_guilty_36 : decode cM_guilty 36 = .ok (.iconst 0, 1) := by decide +kernel
theorem dM_guilty_37 : decode cM_guilty 37 = .ok (.iadd, 1) := by decide +kernel
theorem dM_guilty_38 : decode cM_guilty 38 = .ok (.istore_n 3, 1) := by decide +kernel
theorem dM_guilty_39 : decode cM_guilty 39 = .ok (.iinc 4 1, 3) := by decide +kernel
theorem dM_guilty_42 : decode cM_guilty 42 = .ok (.goto (-37), 3) := by decide +kernel
theorem dM_guilty_45 : decode cM_guilty 45 = .ok (.iload_n 3, 1) := by decide +kernel
theorem dM_guilty_46 : decode cM_guilty 46 = .ok (.ireturn, 1) := by decide +kernel
theorem dM_proof_0 : decode cM_proof 0 = .ok (.aload_n 0, 1) := by decide +kernel
theorem dM_proof_1 : decode cM_proof 1 = .ok (.iload_n 1, 1) := by decide +kernel
theorem dM_proof_2 : decode cM_proof 2 = .ok (.invokevirtual 137, 3) := by decide +kernel
theorem dM_proof_5 : decode cM_proof 5 = .ok (.ifCond .ne 5, 3) := by decide +kernel
theorem dM_proof_8 : decode cM_proof 8 = .ok (.iconst (-1), 1) := by decide +kernel
theorem dM_proof_9 : decode cM_proof 9 = .ok (.ireturn, 1) := by decide +kernel
theorem dM_proof_10 : decode cM_proof 10 = .ok (.aload_n 0, 1) := by decide +kernel
theorem dM_proof_11 : decode cM_proof 11 = .ok (.iload_n 1, 1) := by decide +kernel
theorem dM_proof_12 : decode cM_proof 12 = .ok (.bipush 7, 2) := by decide +kernel
theorem dM_proof_14 : decode cM_proof 14 = .ok (.iconst 0, 1) := by decide +kernel
theorem dM_proof_15 : decode cM_proof 15 = .ok (.invokevirtual 182, 3) := by decide +kernel
theorem dM_proof_18 : decode cM_proof 18 = .ok (.istore_n 2, 1) := by decide +kernel
theorem dM_proof_19 : decode cM_proof 19 = .ok (.iload_n 2, 1) := by decide +kernel
theorem dM_proof_20 : decode cM_proof 20 = .ok (.ifCond .lt 7, 3) := by decide +kernel
theorem dM_proof_23 : decode cM_proof 23 = .ok (.iload_n 2, 1) := by decide +kernel
theorem dM_proof_24 : decode cM_proof 24 = .ok (.goto 5, 3) := by decide +kernel
theorem dM_proof_27 : decode cM_proof 27 = .ok (.bipush (-3), 2) := by decide +kernel
theorem dM_proof_29 : decode cM_proof 29 = .ok (.ireturn, 1) := by decide +kernel
theorem dB_init_0 : decode cB_init 0 = .ok (.aload_n 0, 1) := by decide +kernel
theorem dB_init_1 : decode cB_init 1 = .ok (.invokespecial 3, 3) := by decide +kernel
theorem dB_init_4 : decode cB_init 4 = .ok (.aload_n 0, 1) := by decide +kernel
theorem dB_init_5 : decode cB_init 5 = .ok (.iconst (-1), 1) := by decide +kernel
theorem dB_init_6 : decode cB_init 6 = .ok (.putfield 9, 3) := by decide +kernel
theorem dB_init_9 : decode cB_init 9 = .ok (.aload_n 0, 1) := by decide +kernel
theorem dB_init_10 : decode cB_init 10 = .ok (.lconst 1, 1) := by decide +kernel
theorem dB_init_11 : decode cB_init 11 = .ok (.putfield 15, 3) := by decide +kernel
theorem dB_init_14 : decode cB_init 14 = .ok (.aload_n 0, 1) := by decide +kernel
theorem dB_init_15 : decode cB_init 15 = .ok (.new 19, 3) := by decide +kernel
theorem dB_init_18 : decode cB_init 18 = .ok (.dup, 1) := by decide +kernel
theorem dB_init_19 : decode cB_init 19 = .ok (.invokespecial 21, 3) := by decide +kernel
theorem dB_init_22 : decode cB_init 22 = .ok (.putfield 22, 3) := by decide +kernel
theorem dB_init_25 : decode cB_init 25 = .ok (.aload_n 0, 1) := by decide +kernel
theorem dB_init_26 : decode cB_init 26 = .ok (.new 26, 3) := by decide +kernel
theorem dB_init_29 : decode cB_init 29 = .ok (.dup, 1) := by decide +kernel
theorem dB_init_30 : decode cB_init 30 = .ok (.invokespecial 28, 3) := by decide +kernel
theorem dB_init_33 : decode cB_init 33 = .ok (.putfield 29, 3) := by decide +kernel
theorem dB_init_36 : decode cB_init 36 = .ok (.return_, 1) := by decide +kernel
theorem dI_init_0 : decode cI_init 0 = .ok (.aload_n 0, 1) := by decide +kernel
theorem dI_init_1 : decode cI_init 1 = .ok (.invokespecial 3, 3) := by decide +kernel
theorem dI_init_4 : decode cI_init 4 = .ok (.aload_n 0, 1) := by decide +kernel
theorem dI_init_5 : decode cI_init 5 = .ok (.iconst 4, 1) := by decide +kernel
theorem dI_init_6 : decode cI_init 6 = .ok (.newarray .int, 2) := by decide +kernel
theorem dI_init_8 : decode cI_init 8 = .ok (.putfield 9, 3) := by decide +kernel
theorem dI_init_11 : decode cI_init 11 = .ok (.aload_n 0, 1) := by decide +kernel
theorem dI_init_12 : decode cI_init 12 = .ok (.iconst 4, 1) := by decide +kernel
theorem dI_init_13 : decode cI_init 13 = .ok (.newarray .int, 2) := by decide +kernel
theorem dI_init_15 : decode cI_init 15 = .ok (.putfield 15, 3) := by decide +kernel
theorem dI_init_18 : decode cI_init 18 = .ok (.return_, 1) := by decide +kernel
theorem dI_append_0 : decode cI_append 0 = .ok (.aload_n 0, 1) := by decide +kernel
theorem dI_append_1 : decode cI_append 1 = .ok (.getfield 18, 3) := by decide +kernel
theorem dI_append_4 : decode cI_append 4 = .ok (.iconst 4, 1) := by decide +kernel
theorem dI_append_5 : decode cI_append 5 = .ok (.if_icmp .lt 6, 3) := by decide +kernel
theorem dI_append_8 : decode cI_append 8 = .ok (.bipush (-2), 2) := by decide +kernel
theorem dI_append_10 : decode cI_append 10 = .ok (.ireturn, 1) := by decide +kernel
theorem dI_append_11 : decode cI_append 11 = .ok (.aload_n 0, 1) := by decide +kernel
theorem dI_append_12 : decode cI_append 12 = .ok (.getfield 9, 3) := by decide +kernel
theorem dI_append_15 : decode cI_append 15 = .ok (.aload_n 0, 1) := by decide +kernel
theorem dI_append_16 : decode cI_append 16 = .ok (.getfield 18, 3) := by decide +kernel
theorem dI_append_19 : decode cI_append 19 = .ok (.iload_n 1, 1) := by decide +kernel
theorem dI_append_20 : decode cI_append 20 = .ok (.iastore, 1) := by decide +kernel
theorem dI_append_21 : decode cI_append 21 = .ok (.aload_n 0, 1) := by decide +kernel
theorem dI_append_22 : decode cI_append 22 = .ok (.getfield 15, 3) := by decide +kernel
theorem dI_append_25 : decode cI_append 25 = .ok (.aload_n 0, 1) := by decide +kernel
theorem dI_append_26 : decode cI_append 26 = .ok (.getfield 18, 3) := by decide +kernel
theorem dI_append_29 : decode cI_append 29 = .ok (.iload_n 2, 1) := by decide +kernel
theorem dI_append_30 : decode cI_append 30 = .ok (.iastore, 1) := by decide +kernel
theorem dI_append_31 : decode cI_append 31 = .ok (.aload_n 0, 1) := by decide +kernel
theorem dI_append_32 : decode cI_append 32 = .ok (.dup, 1) := by decide +kernel
theorem dI_append_33 : decode cI_append 33 = .ok (.getfield 18, 3) := by decide +kernel
theorem dI_append_36 : decode cI_append 36 = .ok (.iconst 1, 1) := by decide +kernel
theorem dI_append_37 : decode cI_append 37 = .ok (.iadd, 1) := by decide +kernel
theorem dI_append_38 : decode cI_append 38 = .ok (.putfield 18, 3) := by decide +kernel
theorem dI_append_41 : decode cI_append 41 = .ok (.aload_n 0, 1) := by decide +kernel
theorem dI_append_42 : decode cI_append 42 = .ok (.getfield 18, 3) := by decide +kernel
theorem dI_append_45 : decode cI_append 45 = .ok (.ireturn, 1) := by decide +kernel
theorem dI_copyFrom_0 : decode cI_copyFrom 0 = .ok (.aload_n 0, 1) := by decide +kernel
theorem dI_copyFrom_1 : decode cI_copyFrom 1 = .ok (.aload_n 1, 1) := by decide +kernel
theorem dI_copyFrom_2 : decode cI_copyFrom 2 = .ok (.getfield 18, 3) := by decide +kernel
theorem dI_copyFrom_5 : decode cI_copyFrom 5 = .ok (.putfield 18, 3) := by decide +kernel
theorem dI_copyFrom_8 : decode cI_copyFrom 8 = .ok (.aload_n 1, 1) := by decide +kernel
theorem dI_copyFrom_9 : decode cI_copyFrom 9 = .ok (.getfield 9, 3) := by decide +kernel
theorem dI_copyFrom_12 : decode cI_copyFrom 12 = .ok (.iconst 0, 1) := by decide +kernel
theorem dI_copyFrom_13 : decode cI_copyFrom 13 = .ok (.aload_n 0, 1) := by decide +kernel
theorem dI_copyFrom_14 : decode cI_copyFrom 14 = .ok (.getfield 9, 3) := by decide +kernel
theorem dI_copyFrom_17 : decode cI_copyFrom 17 = .ok (.iconst 0, 1) := by decide +kernel
theorem dI_copyFrom_18 : decode cI_copyFrom 18 = .ok (.iconst 4, 1) := by decide +kernel
theorem dI_copyFrom_19 : decode cI_copyFrom 19 = .ok (.invokestatic 22, 3) := by decide +kernel
theorem dI_copyFrom_22 : decode cI_copyFrom 22 = .ok (.aload_n 1, 1) := by decide +kernel
theorem dI_copyFrom_23 : decode cI_copyFrom 23 = .ok (.getfield 15, 3) := by decide +kernel
theorem dI_copyFrom_26 : decode cI_copyFrom 26 = .ok (.iconst 0, 1) := by decide +kernel
theorem dI_copyFrom_27 : decode cI_copyFrom 27 = .ok (.aload_n 0, 1) := by decide +kernel
theorem dI_copyFrom_28 : decode cI_copyFrom 28 = .ok (.getfield 15, 3) := by decide +kernel
theorem dI_copyFrom_31 : decode cI_copyFrom 31 = .ok (.iconst 0, 1) := by decide +kernel
theorem dI_copyFrom_32 : decode cI_copyFrom 32 = .ok (.iconst 4, 1) := by decide +kernel
theorem dI_copyFrom_33 : decode cI_copyFrom 33 = .ok (.invokestatic 22, 3) := by decide +kernel
theorem dI_copyFrom_36 : decode cI_copyFrom 36 = .ok (.return_, 1) := by decide +kernel
theorem dN_init_0 : decode cN_init 0 = .ok (.aload_n 0, 1) := by decide +kernel
theorem dN_init_1 : decode cN_init 1 = .ok (.invokespecial 3, 3) := by decide +kernel
theorem dN_init_4 : decode cN_init 4 = .ok (.aload_n 0, 1) := by decide +kernel
theorem dN_init_5 : decode cN_init 5 = .ok (.lconst 1, 1) := by decide +kernel
theorem dN_init_6 : decode cN_init 6 = .ok (.putfield 9, 3) := by decide +kernel
theorem dN_init_9 : decode cN_init 9 = .ok (.aload_n 0, 1) := by decide +kernel
theorem dN_init_10 : decode cN_init 10 = .ok (.bipush 80, 2) := by decide +kernel
theorem dN_init_12 : decode cN_init 12 = .ok (.newarray .boolean, 2) := by decide +kernel
theorem dN_init_14 : decode cN_init 14 = .ok (.putfield 15, 3) := by decide +kernel
theorem dN_init_17 : decode cN_init 17 = .ok (.aload_n 0, 1) := by decide +kernel
theorem dN_init_18 : decode cN_init 18 = .ok (.bipush 7, 2) := by decide +kernel
theorem dN_init_20 : decode cN_init 20 = .ok (.newarray .int, 2) := by decide +kernel
theorem dN_init_22 : decode cN_init 22 = .ok (.putfield 19, 3) := by decide +kernel
theorem dN_init_25 : decode cN_init 25 = .ok (.iconst 0, 1) := by decide +kernel
theorem dN_init_26 : decode cN_init 26 = .ok (.istore_n 1, 1) := by decide +kernel
theorem dN_init_27 : decode cN_init 27 = .ok (.iload_n 1, 1) := by decide +kernel
theorem dN_init_28 : decode cN_init 28 = .ok (.bipush 7, 2) := by decide +kernel
theorem dN_init_30 : decode cN_init 30 = .ok (.if_icmp .ge 16, 3) := by decide +kernel
theorem dN_init_33 : decode cN_init 33 = .ok (.aload_n 0, 1) := by decide +kernel
theorem dN_init_34 : decode cN_init 34 = .ok (.getfield 19, 3) := by decide +kernel
theorem dN_init_37 : decode cN_init 37 = .ok (.iload_n 1, 1) := by decide +kernel
theorem dN_init_38 : decode cN_init 38 = .ok (.iconst (-1), 1) := by decide +kernel
theorem dN_init_39 : decode cN_init 39 = .ok (.iastore, 1) := by decide +kernel
theorem dN_init_40 : decode cN_init 40 = .ok (.iinc 1 1, 3) := by decide +kernel
theorem dN_init_43 : decode cN_init 43 = .ok (.goto (-16), 3) := by decide +kernel
theorem dN_init_46 : decode cN_init 46 = .ok (.return_, 1) := by decide +kernel
theorem dN_isKnown_0 : decode cN_isKnown 0 = .ok (.aload_n 0, 1) := by decide +kernel
theorem dN_isKnown_1 : decode cN_isKnown 1 = .ok (.getfield 9, 3) := by decide +kernel
theorem dN_isKnown_4 : decode cN_isKnown 4 = .ok (.iload_n 1, 1) := by decide +kernel
theorem dN_isKnown_5 : decode cN_isKnown 5 = .ok (.lshr, 1) := by decide +kernel
theorem dN_isKnown_6 : decode cN_isKnown 6 = .ok (.lconst 1, 1) := by decide +kernel
theorem dN_isKnown_7 : decode cN_isKnown 7 = .ok (.land, 1) := by decide +kernel
theorem dN_isKnown_8 : decode cN_isKnown 8 = .ok (.lconst 0, 1) := by decide +kernel
theorem dN_isKnown_9 : decode cN_isKnown 9 = .ok (.lcmp, 1) := by decide +kernel
theorem dN_isKnown_10 : decode cN_isKnown 10 = .ok (.ifCond .eq 7, 3) := by decide +kernel
theorem dN_isKnown_13 : decode cN_isKnown 13 = .ok (.iconst 1, 1) := by decide +kernel
theorem dN_isKnown_14 : decode cN_isKnown 14 = .ok (.goto 4, 3) := by decide +kernel
theorem dN_isKnown_17 : decode cN_isKnown 17 = .ok (.iconst 0, 1) := by decide +kernel
theorem dN_isKnown_18 : decode cN_isKnown 18 = .ok (.ireturn, 1) := by decide +kernel
theorem dS_init_0 : decode cS_init 0 = .ok (.aload_n 0, 1) := by decide +kernel
theorem dS_init_1 : decode cS_init 1 = .ok (.invokespecial 3, 3) := by decide +kernel
theorem dS_init_4 : decode cS_init 4 = .ok (.aload_n 0, 1) := by decide +kernel
theorem dS_init_5 : decode cS_init 5 = .ok (.bipush 7, 2) := by decide +kernel
theorem dS_init_7 : decode cS_init 7 = .ok (.newarray .int, 2) := by decide +kernel
theorem dS_init_9 : decode cS_init 9 = .ok (.putfield 9, 3) := by decide +kernel
theorem dS_init_12 : decode cS_init 12 = .ok (.iconst 0, 1) := by decide +kernel
theorem dS_init_13 : decode cS_init 13 = .ok (.istore_n 1, 1) := by decide +kernel
theorem dS_init_14 : decode cS_init 14 = .ok (.iload_n 1, 1) := by decide +kernel
theorem dS_init_15 : decode cS_init 15 = .ok (.bipush 7, 2) := by decide +kernel
theorem dS_init_17 : decode cS_init 17 = .ok (.if_icmp .ge 17, 3) := by decide +kernel
theorem dS_init_20 : decode cS_init 20 = .ok (.aload_n 0, 1) := by decide +kernel
theorem dS_init_21 : decode cS_init 21 = .ok (.getfield 9, 3) := by decide +kernel
theorem dS_init_24 : decode cS_init 24 = .ok (.iload_n 1, 1) := by decide +kernel
theorem dS_init_25 : decode cS_init 25 = .ok (.bipush 32, 2) := by decide +kernel
theorem dS_init_27 : decode cS_init 27 = .ok (.iastore, 1) := by decide +kernel
theorem dS_init_28 : decode cS_init 28 = .ok (.iinc 1 1, 3) := by decide +kernel
theorem dS_init_31 : decode cS_init 31 = .ok (.goto (-17), 3) := by decide +kernel
theorem dS_init_34 : decode cS_init 34 = .ok (.return_, 1) := by decide +kernel
theorem dS_copyFrom_0 : decode cS_copyFrom 0 = .ok (.aload_n 1, 1) := by decide +kernel
theorem dS_copyFrom_1 : decode cS_copyFrom 1 = .ok (.getfield 9, 3) := by decide +kernel
theorem dS_copyFrom_4 : decode cS_copyFrom 4 = .ok (.iconst 0, 1) := by decide +kernel
theorem dS_copyFrom_5 : decode cS_copyFrom 5 = .ok (.aload_n 0, 1) := by decide +kernel
theorem dS_copyFrom_6 : decode cS_copyFrom 6 = .ok (.getfield 9, 3) := by decide +kernel
theorem dS_copyFrom_9 : decode cS_copyFrom 9 = .ok (.iconst 0, 1) := by decide +kernel
theorem dS_copyFrom_10 : decode cS_copyFrom 10 = .ok (.bipush 7, 2) := by decide +kernel
theorem dS_copyFrom_12 : decode cS_copyFrom 12 = .ok (.invokestatic 15, 3) := by decide +kernel
theorem dS_copyFrom_15 : decode cS_copyFrom 15 = .ok (.aload_n 0, 1) := by decide +kernel
theorem dS_copyFrom_16 : decode cS_copyFrom 16 = .ok (.aload_n 1, 1) := by decide +kernel
theorem dS_copyFrom_17 : decode cS_copyFrom 17 = .ok (.getfield 21, 3) := by decide +kernel
theorem dS_copyFrom_20 : decode cS_copyFrom 20 = .ok (.putfield 21, 3) := by decide +kernel
theorem dS_copyFrom_23 : decode cS_copyFrom 23 = .ok (.aload_n 0, 1) := by decide +kernel
theorem dS_copyFrom_24 : decode cS_copyFrom 24 = .ok (.aload_n 1, 1) := by decide +kernel
theorem dS_copyFrom_25 : decode cS_copyFrom 25 = .ok (.getfield 25, 3) := by decide +kernel
theorem dS_copyFrom_28 : decode cS_copyFrom 28 = .ok (.putfield 25, 3) := by decide +kernel
theorem dS_copyFrom_31 : decode cS_copyFrom 31 = .ok (.aload_n 0, 1) := by decide +kernel
theorem dS_copyFrom_32 : decode cS_copyFrom 32 = .ok (.aload_n 1, 1) := by decide +kernel
theorem dS_copyFrom_33 : decode cS_copyFrom 33 = .ok (.getfield 28, 3) := by decide +kernel
theorem dS_copyFrom_36 : decode cS_copyFrom 36 = .ok (.putfield 28, 3) := by decide +kernel
theorem dS_copyFrom_39 : decode cS_copyFrom 39 = .ok (.aload_n 0, 1) := by decide +kernel
theorem dS_copyFrom_40 : decode cS_copyFrom 40 = .ok (.aload_n 1, 1) := by decide +kernel
theorem dS_copyFrom_41 : decode cS_copyFrom 41 = .ok (.getfield 31, 3) := by decide +kernel
theorem dS_copyFrom_44 : decode cS_copyFrom 44 = .ok (.putfield 31, 3) := by decide +kernel
theorem dS_copyFrom_47 : decode cS_copyFrom 47 = .ok (.aload_n 0, 1) := by decide +kernel
theorem dS_copyFrom_48 : decode cS_copyFrom 48 = .ok (.aload_n 1, 1) := by decide +kernel
theorem dS_copyFrom_49 : decode cS_copyFrom 49 = .ok (.getfield 34, 3) := by decide +kernel
theorem dS_copyFrom_52 : decode cS_copyFrom 52 = .ok (.putfield 34, 3) := by decide +kernel
theorem dS_copyFrom_55 : decode cS_copyFrom 55 = .ok (.aload_n 0, 1) := by decide +kernel
theorem dS_copyFrom_56 : decode cS_copyFrom 56 = .ok (.aload_n 1, 1) := by decide +kernel
theorem dS_copyFrom_57 : decode cS_copyFrom 57 = .ok (.getfield 37, 3) := by decide +kernel
theorem dS_copyFrom_60 : decode cS_copyFrom 60 = .ok (.putfield 37, 3) := by decide +kernel
theorem dS_copyFrom_63 : decode cS_copyFrom 63 = .ok (.return_, 1) := by decide +kernel
theorem dS_passTo_0 : decode cS_passTo 0 = .ok (.aload_n 0, 1) := by decide +kernel
theorem dS_passTo_1 : decode cS_passTo 1 = .ok (.getfield 31, 3) := by decide +kernel
theorem dS_passTo_4 : decode cS_passTo 4 = .ok (.iload_n 1, 1) := by decide +kernel
theorem dS_passTo_5 : decode cS_passTo 5 = .ok (.if_icmp .ge 72, 3) := by decide +kernel
theorem dS_passTo_8 : decode cS_passTo 8 = .ok (.iconst 0, 1) := by decide +kernel
theorem dS_passTo_9 : decode cS_passTo 9 = .ok (.istore_n 3, 1) := by decide +kernel
theorem dS_passTo_10 : decode cS_passTo 10 = .ok (.iload_n 3, 1) := by decide +kernel
theorem dS_passTo_11 : decode cS_passTo 11 = .ok (.iload_n 2, 1) := by decide +kernel
theorem dS_passTo_12 : decode cS_passTo 12 = .ok (.if_icmp .ge 39, 3) := by decide +kernel
theorem dS_passTo_15 : decode cS_passTo 15 = .ok (.aload_n 0, 1) := by decide +kernel
theorem dS_passTo_16 : decode cS_passTo 16 = .ok (.getfield 34, 3) := by decide +kernel
theorem dS_passTo_19 : decode cS_passTo 19 = .ok (.iload_n 3, 1) := by decide +kernel
theorem dS_passTo_20 : decode cS_passTo 20 = .ok (.invokestatic 40, 3) := by decide +kernel
theorem dS_passTo_23 : decode cS_passTo 23 = .ok (.ifCond .ne 22, 3) := by decide +kernel
theorem dS_passTo_26 : decode cS_passTo 26 = .ok (.aload_n 0, 1) := by decide +kernel
theorem dS_passTo_27 : decode cS_passTo 27 = .ok (.getfield 9, 3) := by decide +kernel
theorem dS_passTo_30 : decode cS_passTo 30 = .ok (.iload_n 3, 1) := by decide +kernel
theorem dS_passTo_31 : decode cS_passTo 31 = .ok (.iaload, 1) := by decide +kernel
theorem dS_passTo_32 : decode cS_passTo 32 = .ok (.ifCond .le 13, 3) := by decide +kernel
theorem dS_passTo_35 : decode cS_passTo 35 = .ok (.aload_n 0, 1) := by decide +kernel
theorem dS_passTo_36 : decode cS_passTo 36 = .ok (.getfield 9, 3) := by decide +kernel
theorem dS_passTo_39 : decode cS_passTo 39 = .ok (.iload_n 3, 1) := by decide +kernel
theorem dS_passTo_40 : decode cS_passTo 40 = .ok (.dup2, 1) := by decide +kernel
theorem dS_passTo_41 : decode cS_passTo 41 = .ok (.iaload, 1) := by decide +kernel
theorem dS_passTo_42 : decode cS_passTo 42 = .ok (.iconst 1, 1) := by decide +kernel
theorem dS_passTo_43 : decode cS_passTo 43 = .ok (.isub, 1) := by decide +kernel
theorem dS_passTo_44 : decode cS_passTo 44 = .ok (.iastore, 1) := by decide +kernel
theorem dS_passTo_45 : decode cS_passTo 45 = .ok (.iinc 3 1, 3) := by decide +kernel
theorem dS_passTo_48 : decode cS_passTo 48 = .ok (.goto (-38), 3) := by decide +kernel
theorem dS_passTo_51 : decode cS_passTo 51 = .ok (.aload_n 0, 1) := by decide +kernel
theorem dS_passTo_52 : decode cS_passTo 52 = .ok (.aload_n 0, 1) := by decide +kernel
theorem dS_passTo_53 : decode cS_passTo 53 = .ok (.getfield 34, 3) := by decide +kernel
theorem dS_passTo_56 : decode cS_passTo 56 = .ok (.putfield 37, 3) := by decide +kernel
theorem dS_passTo_59 : decode cS_passTo 59 = .ok (.aload_n 0, 1) := by decide +kernel
theorem dS_passTo_60 : decode cS_passTo 60 = .ok (.iconst 0, 1) := by decide +kernel
theorem dS_passTo_61 : decode cS_passTo 61 = .ok (.putfield 34, 3) := by decide +kernel
theorem dS_passTo_64 : decode cS_passTo 64 = .ok (.aload_n 0, 1) := by decide +kernel
theorem dS_passTo_65 : decode cS_passTo 65 = .ok (.dup, 1) := by decide +kernel
theorem dS_passTo_66 : decode cS_passTo 66 = .ok (.getfield 31, 3) := by decide +kernel
theorem dS_passTo_69 : decode cS_passTo 69 = .ok (.iconst 1, 1) := by decide +kernel
theorem dS_passTo_70 : decode cS_passTo 70 = .ok (.iadd, 1) := by decide +kernel
theorem dS_passTo_71 : decode cS_passTo 71 = .ok (.putfield 31, 3) := by decide +kernel
theorem dS_passTo_74 : decode cS_passTo 74 = .ok (.goto (-74), 3) := by decide +kernel
theorem dS_passTo_77 : decode cS_passTo 77 = .ok (.return_, 1) := by decide +kernel
theorem dS_countedFor_0 : decode cS_countedFor 0 = .ok (.iload_n 1, 1) := by decide +kernel
theorem dS_countedFor_1 : decode cS_countedFor 1 = .ok (.aload_n 0, 1) := by decide +kernel
theorem dS_countedFor_2 : decode cS_countedFor 2 = .ok (.getfield 31, 3) := by decide +kernel
theorem dS_countedFor_5 : decode cS_countedFor 5 = .ok (.if_icmp .ne 8, 3) := by decide +kernel
theorem dS_countedFor_8 : decode cS_countedFor 8 = .ok (.aload_n 0, 1) := by decide +kernel
theorem dS_countedFor_9 : decode cS_countedFor 9 = .ok (.getfield 34, 3) := by decide +kernel
theorem dS_countedFor_12 : decode cS_countedFor 12 = .ok (.ireturn, 1) := by decide +kernel
theorem dS_countedFor_13 : decode cS_countedFor 13 = .ok (.iload_n 1, 1) := by decide +kernel
theorem dS_countedFor_14 : decode cS_countedFor 14 = .ok (.aload_n 0, 1) := by decide +kernel
theorem dS_countedFor_15 : decode cS_countedFor 15 = .ok (.getfield 31, 3) := by decide +kernel
theorem dS_countedFor_18 : decode cS_countedFor 18 = .ok (.iconst 1, 1) := by decide +kernel
theorem dS_countedFor_19 : decode cS_countedFor 19 = .ok (.isub, 1) := by decide +kernel
theorem dS_countedFor_20 : decode cS_countedFor 20 = .ok (.if_icmp .ne 10, 3) := by decide +kernel
theorem dS_countedFor_23 : decode cS_countedFor 23 = .ok (.aload_n 0, 1) := by decide +kernel
theorem dS_countedFor_24 : decode cS_countedFor 24 = .ok (.getfield 37, 3) := by decide +kernel
theorem dS_countedFor_27 : decode cS_countedFor 27 = .ok (.goto 4, 3) := by decide +kernel
theorem dS_countedFor_30 : decode cS_countedFor 30 = .ok (.iconst 0, 1) := by decide +kernel
theorem dS_countedFor_31 : decode cS_countedFor 31 = .ok (.ireturn, 1) := by decide +kernel
theorem dS_addCounted_0 : decode cS_addCounted 0 = .ok (.iload_n 1, 1) := by decide +kernel
theorem dS_addCounted_1 : decode cS_addCounted 1 = .ok (.aload_n 0, 1) := by decide +kernel
theorem dS_addCounted_2 : decode cS_addCounted 2 = .ok (.getfield 31, 3) := by decide +kernel
theorem dS_addCounted_5 : decode cS_addCounted 5 = .ok (.if_icmp .ne 18, 3) := by decide +kernel
theorem dS_addCounted_8 : decode cS_addCounted 8 = .ok (.aload_n 0, 1) := by decide +kernel
theorem dS_addCounted_9 : decode cS_addCounted 9 = .ok (.dup, 1) := by decide +kernel
theorem dS_addCounted_10 : decode cS_addCounted 10 = .ok (.getfield 34, 3) := by decide +kernel
theorem dS_addCounted_13 : decode cS_addCounted 13 = .ok (.iconst 1, 1) := by decide +kernel
theorem dS_addCounted_14 : decode cS_addCounted 14 = .ok (.iload_n 2, 1) := by decide +kernel
theorem dS_addCounted_15 : decode cS_addCounted 15 = .ok (.ishl, 1) := by decide +kernel
theorem dS_addCounted_16 : decode cS_addCounted 16 = .ok (.ior, 1) := by decide +kernel
theorem dS_addCounted_17 : decode cS_addCounted 17 = .ok (.putfield 34, 3) := by decide +kernel
theorem dS_addCounted_20 : decode cS_addCounted 20 = .ok (.goto 15, 3) := by decide +kernel
theorem dS_addCounted_23 : decode cS_addCounted 23 = .ok (.aload_n 0, 1) := by decide +kernel
theorem dS_addCounted_24 : decode cS_addCounted 24 = .ok (.dup, 1) := by decide +kernel
theorem dS_addCounted_25 : decode cS_addCounted 25 = .ok (.getfield 37, 3) := by decide +kernel
theorem dS_addCounted_28 : decode cS_addCounted 28 = .ok (.iconst 1, 1) := by decide +kernel
theorem dS_addCounted_29 : decode cS_addCounted 29 = .ok (.iload_n 2, 1) := by decide +kernel
theorem dS_addCounted_30 : decode cS_addCounted 30 = .ok (.ishl, 1) := by decide +kernel
theorem dS_addCounted_31 : decode cS_addCounted 31 = .ok (.ior, 1) := by decide +kernel
theorem dS_addCounted_32 : decode cS_addCounted 32 = .ok (.putfield 37, 3) := by decide +kernel
theorem dS_addCounted_35 : decode cS_addCounted 35 = .ok (.return_, 1) := by decide +kernel
theorem dS_justify_0 : decode cS_justify 0 = .ok (.iload_n 1, 1) := by decide +kernel
theorem dS_justify_1 : decode cS_justify 1 = .ok (.invokestatic 44, 3) := by decide +kernel
theorem dS_justify_4 : decode cS_justify 4 = .ok (.iload_n 2, 1) := by decide +kernel
theorem dS_justify_5 : decode cS_justify 5 = .ok (.invokestatic 44, 3) := by decide +kernel
theorem dS_justify_8 : decode cS_justify 8 = .ok (.iconst 1, 1) := by decide +kernel
theorem dS_justify_9 : decode cS_justify 9 = .ok (.isub, 1) := by decide +kernel
theorem dS_justify_10 : decode cS_justify 10 = .ok (.if_icmp .ne 8, 3) := by decide +kernel
theorem dS_justify_13 : decode cS_justify 13 = .ok (.aload_n 0, 1) := by decide +kernel
theorem dS_justify_14 : decode cS_justify 14 = .ok (.iload_n 1, 1) := by decide +kernel
theorem dS_justify_15 : decode cS_justify 15 = .ok (.putfield 28, 3) := by decide +kernel
theorem dS_justify_18 : decode cS_justify 18 = .ok (.aload_n 0, 1) := by decide +kernel
theorem dS_justify_19 : decode cS_justify 19 = .ok (.iload_n 2, 1) := by decide +kernel
theorem dS_justify_20 : decode cS_justify 20 = .ok (.putfield 25, 3) := by decide +kernel
theorem dS_justify_23 : decode cS_justify 23 = .ok (.aload_n 0, 1) := by decide +kernel
theorem dS_justify_24 : decode cS_justify 24 = .ok (.iconst 0, 1) := by decide +kernel
theorem dS_justify_25 : decode cS_justify 25 = .ok (.putfield 34, 3) := by decide +kernel
theorem dS_justify_28 : decode cS_justify 28 = .ok (.aload_n 0, 1) := by decide +kernel
theorem dS_justify_29 : decode cS_justify 29 = .ok (.iconst 0, 1) := by decide +kernel
theorem dS_justify_30 : decode cS_justify 30 = .ok (.putfield 37, 3) := by decide +kernel
theorem dS_justify_33 : decode cS_justify 33 = .ok (.return_, 1) := by decide +kernel
theorem dV_init_0 : decode cV_init 0 = .ok (.aload_n 0, 1) := by decide +kernel
theorem dV_init_1 : decode cV_init 1 = .ok (.invokespecial 1, 3) := by decide +kernel
theorem dV_init_4 : decode cV_init 4 = .ok (.return_, 1) := by decide +kernel
theorem dV_surrounds_0 : decode cV_surrounds 0 = .ok (.aload_n 0, 1) := by decide +kernel
theorem dV_surrounds_1 : decode cV_surrounds 1 = .ok (.getfield 7, 3) := by decide +kernel
theorem dV_surrounds_4 : decode cV_surrounds 4 = .ok (.invokestatic 13, 3) := by decide +kernel
theorem dV_surrounds_7 : decode cV_surrounds 7 = .ok (.aload_n 1, 1) := by decide +kernel
theorem dV_surrounds_8 : decode cV_surrounds 8 = .ok (.getfield 7, 3) := by decide +kernel
theorem dV_surrounds_11 : decode cV_surrounds 11 = .ok (.invokestatic 13, 3) := by decide +kernel
theorem dV_surrounds_14 : decode cV_surrounds 14 = .ok (.if_icmp .ge 24, 3) := by decide +kernel
theorem dV_surrounds_17 : decode cV_surrounds 17 = .ok (.aload_n 0, 1) := by decide +kernel
theorem dV_surrounds_18 : decode cV_surrounds 18 = .ok (.getfield 19, 3) := by decide +kernel
theorem dV_surrounds_21 : decode cV_surrounds 21 = .ok (.invokestatic 13, 3) := by decide +kernel
theorem dV_surrounds_24 : decode cV_surrounds 24 = .ok (.aload_n 1, 1) := by decide +kernel
theorem dV_surrounds_25 : decode cV_surrounds 25 = .ok (.getfield 19, 3) := by decide +kernel
theorem dV_surrounds_28 : decode cV_surrounds 28 = .ok (.invokestatic 13, 3) := by decide +kernel
theorem dV_surrounds_31 : decode cV_surrounds 31 = .ok (.if_icmp .le 7, 3) := by decide +kernel
theorem dV_surrounds_34 : decode cV_surrounds 34 = .ok (.iconst 1, 1) := by decide +kernel
theorem dV_surrounds_35 : decode cV_surrounds 35 = .ok (.goto 4, 3) := by decide +kernel
theorem dV_surrounds_38 : decode cV_surrounds 38 = .ok (.iconst 0, 1) := by decide +kernel
theorem dV_surrounds_39 : decode cV_surrounds 39 = .ok (.ireturn, 1) := by decide +kernel
