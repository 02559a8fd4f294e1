theorem dF_init_0 : decode cF_init 0 = .ok (.aload_n 0, 1) := by decide +kernel
theorem dF_init_1 : decode cF_init 1 = .ok (.invokespecial 3, 3) := by decide +kernel
theorem dF_init_4 : decode cF_init 4 = .ok (.aload_n 0, 1) := by decide +kernel
theorem dF_init_5 : decode cF_init 5 = .ok (.iconst 3, 1) := by decide +kernel
theorem dF_init_6 : decode cF_init 6 = .ok (.bipush 7, 2) := by decide +kernel
theorem dF_init_8 : decode cF_init 8 = .ok (.iload_n 1, 1) := by decide +kernel
theorem dF_init_9 : decode cF_init 9 = .ok (.invokestatic 9, 3) := by decide +kernel
theorem dF_init_12 : decode cF_init 12 = .ok (.invokestatic 15, 3) := by decide +kernel
theorem dF_init_15 : decode cF_init 15 = .ok (.putfield 18, 3) := by decide +kernel
theorem dF_init_18 : decode cF_init 18 = .ok (.aload_n 0, 1) := by decide +kernel
theorem dF_init_19 : decode cF_init 19 = .ok (.iconst 2, 1) := by decide +kernel
theorem dF_init_20 : decode cF_init 20 = .ok (.iconst 5, 1) := by decide +kernel
theorem dF_init_21 : decode cF_init 21 = .ok (.iload_n 3, 1) := by decide +kernel
theorem dF_init_22 : decode cF_init 22 = .ok (.invokestatic 9, 3) := by decide +kernel
theorem dF_init_25 : decode cF_init 25 = .ok (.invokestatic 15, 3) := by decide +kernel
theorem dF_init_28 : decode cF_init 28 = .ok (.putfield 22, 3) := by decide +kernel
theorem dF_init_31 : decode cF_init 31 = .ok (.aload_n 0, 1) := by decide +kernel
theorem dF_init_32 : decode cF_init 32 = .ok (.bipush 7, 2) := by decide +kernel
theorem dF_init_34 : decode cF_init 34 = .ok (.newarray .int, 2) := by decide +kernel
theorem dF_init_36 : decode cF_init 36 = .ok (.putfield 25, 3) := by decide +kernel
theorem dF_init_39 : decode cF_init 39 = .ok (.iconst 0, 1) := by decide +kernel
theorem dF_init_40 : decode cF_init 40 = .ok (.istore 4, 2) := by decide +kernel
theorem dF_init_42 : decode cF_init 42 = .ok (.iconst 0, 1) := by decide +kernel
theorem dF_init_43 : decode cF_init 43 = .ok (.istore 5, 2) := by decide +kernel
theorem dF_init_45 : decode cF_init 45 = .ok (.iload 5, 2) := by decide +kernel
theorem dF_init_47 : decode cF_init 47 = .ok (.aload_n 0, 1) := by decide +kernel
theorem dF_init_48 : decode cF_init 48 = .ok (.getfield 18, 3) := by decide +kernel
theorem dF_init_51 : decode cF_init 51 = .ok (.if_icmp .ge 39, 3) := by decide +kernel
theorem dF_init_54 : decode cF_init 54 = .ok (.aload_n 0, 1) := by decide +kernel
theorem dF_init_55 : decode cF_init 55 = .ok (.getfield 25, 3) := by decide +kernel
theorem dF_init_58 : decode cF_init 58 = .ok (.iload 5, 2) := by decide +kernel
theorem dF_init_60 : decode cF_init 60 = .ok (.iconst 1, 1) := by decide +kernel
theorem dF_init_61 : decode cF_init 61 = .ok (.iload_n 2, 1) := by decide +kernel
theorem dF_init_62 : decode cF_init 62 = .ok (.iconst 4, 1) := by decide +kernel
theorem dF_init_63 : decode cF_init 63 = .ok (.iload 5, 2) := by decide +kernel
theorem dF_init_65 : decode cF_init 65 = .ok (.imul, 1) := by decide +kernel
theorem dF_init_66 : decode cF_init 66 = .ok (.iushr, 1) := by decide +kernel
theorem dF_init_67 : decode cF_init 67 = .ok (.bipush 15, 2) := by decide +kernel
theorem dF_init_69 : decode cF_init 69 = .ok (.iand, 1) := by decide +kernel
theorem dF_init_70 : decode cF_init 70 = .ok (.iadd, 1) := by decide +kernel
theorem dF_init_71 : decode cF_init 71 = .ok (.iastore, 1) := by decide +kernel
theorem dF_init_72 : decode cF_init 72 = .ok (.iload 4, 2) := by decide +kernel
theorem dF_init_74 : decode cF_init 74 = .ok (.aload_n 0, 1) := by decide +kernel
theorem dF_init_75 : decode cF_init 75 = .ok (.getfield 25, 3) := by decide +kernel
theorem dF_init_78 : decode cF_init 78 = .ok (.iload 5, 2) := by decide +kernel
theorem dF_init_80 : decode cF_init 80 = .ok (.iaload, 1) := by decide +kernel
theorem dF_init_81 : decode cF_init 81 = .ok (.iadd, 1) := by decide +kernel
theorem dF_init_82 : decode cF_init 82 = .ok (.istore 4, 2) := by decide +kernel
theorem dF_init_84 : decode cF_init 84 = .ok (.iinc 5 1, 3) := by decide +kernel
theorem dF_init_87 : decode cF_init 87 = .ok (.goto (-42), 3) := by decide +kernel
theorem dF_init_90 : decode cF_init 90 = .ok (.aload_n 0, 1) := by decide +kernel
theorem dF_init_91 : decode cF_init 91 = .ok (.iload 4, 2) := by decide +kernel
theorem dF_init_93 : decode cF_init 93 = .ok (.putfield 29, 3) := by decide +kernel
theorem dF_init_96 : decode cF_init 96 = .ok (.aload_n 0, 1) := by decide +kernel
theorem dF_init_97 : decode cF_init 97 = .ok (.bipush 60, 2) := by decide +kernel
theorem dF_init_99 : decode cF_init 99 = .ok (.anewarray 32, 3) := by decide +kernel
theorem dF_init_102 : decode cF_init 102 = .ok (.putfield 34, 3) := by decide +kernel
theorem dF_init_105 : decode cF_init 105 = .ok (.iconst 0, 1) := by decide +kernel
theorem dF_init_106 : decode cF_init 106 = .ok (.istore 5, 2) := by decide +kernel
theorem dF_init_108 : decode cF_init 108 = .ok (.iload 5, 2) := by decide +kernel
theorem dF_init_110 : decode cF_init 110 = .ok (.bipush 60, 2) := by decide +kernel
theorem dF_init_112 : decode cF_init 112 = .ok (.if_icmp .ge 23, 3) := by decide +kernel
theorem dF_init_115 : decode cF_init 115 = .ok (.aload_n 0, 1) := by decide +kernel
theorem dF_init_116 : decode cF_init 116 = .ok (.getfield 34, 3) := by decide +kernel
theorem dF_init_119 : decode cF_init 119 = .ok (.iload 5, 2) := by decide +kernel
theorem dF_init_121 : decode cF_init 121 = .ok (.new 32, 3) := by decide +kernel
theorem dF_init_124 : decode cF_init 124 = .ok (.dup, 1) := by decide +kernel
theorem dF_init_125 : decode cF_init 125 = .ok (.invokespecial 38, 3) := by decide +kernel
theorem dF_init_128 : decode cF_init 128 = .ok (.aastore, 1) := by decide +kernel
theorem dF_init_129 : decode cF_init 129 = .ok (.iinc 5 1, 3) := by decide +kernel
theorem dF_init_132 : decode cF_init 132 = .ok (.goto (-24), 3) := by decide +kernel
theorem dF_init_135 : decode cF_init 135 = .ok (.aload_n 0, 1) := by decide +kernel
theorem dF_init_136 : decode cF_init 136 = .ok (.bipush 80, 2) := by decide +kernel
theorem dF_init_138 : decode cF_init 138 = .ok (.anewarray 39, 3) := by decide +kernel
theorem dF_init_141 : decode cF_init 141 = .ok (.putfield 41, 3) := by decide +kernel
theorem dF_init_144 : decode cF_init 144 = .ok (.iconst 0, 1) := by decide +kernel
theorem dF_init_145 : decode cF_init 145 = .ok (.istore 5, 2) := by decide +kernel
theorem dF_init_147 : decode cF_init 147 = .ok (.iload 5, 2) := by decide +kernel
theorem dF_init_149 : decode cF_init 149 = .ok (.bipush 80, 2) := by decide +kernel
theorem dF_init_151 : decode cF_init 151 = .ok (.if_icmp .ge 23, 3) := by decide +kernel
theorem dF_init_154 : decode cF_init 154 = .ok (.aload_n 0, 1) := by decide +kernel
theorem dF_init_155 : decode cF_init 155 = .ok (.getfield 41, 3) := by decide +kernel
theorem dF_init_158 : decode cF_init 158 = .ok (.iload 5, 2) := by decide +kernel
theorem dF_init_160 : decode cF_init 160 = .ok (.new 39, 3) := by decide +kernel
theorem dF_init_163 : decode cF_init 163 = .ok (.dup, 1) := by decide +kernel
theorem dF_init_164 : decode cF_init 164 = .ok (.invokespecial 45, 3) := by decide +kernel
theorem dF_init_167 : decode cF_init 167 = .ok (.aastore, 1) := by decide +kernel
theorem dF_init_168 : decode cF_init 168 = .ok (.iinc 5 1, 3) := by decide +kernel
theorem dF_init_171 : decode cF_init 171 = .ok (.goto (-24), 3) := by decide +kernel
theorem dF_init_174 : decode cF_init 174 = .ok (.aload_n 0, 1) := by decide +kernel
theorem dF_init_175 : decode cF_init 175 = .ok (.iconst 3, 1) := by decide +kernel
theorem dF_init_176 : decode cF_init 176 = .ok (.anewarray 46, 3) := by decide +kernel
theorem dF_init_179 : decode cF_init 179 = .ok (.putfield 48, 3) := by decide +kernel
theorem dF_init_182 : decode cF_init 182 = .ok (.iconst 0, 1) := by decide +kernel
theorem dF_init_183 : decode cF_init 183 = .ok (.istore 5, 2) := by decide +kernel
theorem dF_init_185 : decode cF_init 185 = .ok (.iload 5, 2) := by decide +kernel
theorem dF_init_187 : decode cF_init 187 = .ok (.iconst 3, 1) := by decide +kernel
theorem dF_init_188 : decode cF_init 188 = .ok (.if_icmp .ge 23, 3) := by decide +kernel
theorem dF_init_191 : decode cF_init 191 = .ok (.aload_n 0, 1) := by decide +kernel
theorem dF_init_192 : decode cF_init 192 = .ok (.getfield 48, 3) := by decide +kernel
theorem dF_init_195 : decode cF_init 195 = .ok (.iload 5, 2) := by decide +kernel
theorem dF_init_197 : decode cF_init 197 = .ok (.new 46, 3) := by decide +kernel
theorem dF_init_200 : decode cF_init 200 = .ok (.dup, 1) := by decide +kernel
theorem dF_init_201 : decode cF_init 201 = .ok (.invokespecial 52, 3) := by decide +kernel
theorem dF_init_204 : decode cF_init 204 = .ok (.aastore, 1) := by decide +kernel
theorem dF_init_205 : decode cF_init 205 = .ok (.iinc 5 1, 3) := by decide +kernel
theorem dF_init_208 : decode cF_init 208 = .ok (.goto (-23), 3) := by decide +kernel
theorem dF_init_211 : decode cF_init 211 = .ok (.aload_n 0, 1) := by decide +kernel
theorem dF_init_212 : decode cF_init 212 = .ok (.new 53, 3) := by decide +kernel
theorem dF_init_215 : decode cF_init 215 = .ok (.dup, 1) := by decide +kernel
theorem dF_init_216 : decode cF_init 216 = .ok (.invokespecial 55, 3) := by decide +kernel
theorem dF_init_219 : decode cF_init 219 = .ok (.putfield 56, 3) := by decide +kernel
theorem dF_init_222 : decode cF_init 222 = .ok (.aload_n 0, 1) := by decide +kernel
theorem dF_init_223 : decode cF_init 223 = .ok (.new 60, 3) := by decide +kernel
theorem dF_init_226 : decode cF_init 226 = .ok (.dup, 1) := by decide +kernel
theorem dF_init_227 : decode cF_init 227 = .ok (.invokespecial 62, 3) := by decide +kernel
theorem dF_init_230 : decode cF_init 230 = .ok (.putfield 63, 3) := by decide +kernel
theorem dF_init_233 : decode cF_init 233 = .ok (.aload_n 0, 1) := by decide +kernel
theorem dF_init_234 : decode cF_init 234 = .ok (.iconst 1, 1) := by decide +kernel
theorem dF_init_235 : decode cF_init 235 = .ok (.putfield 67, 3) := by decide +kernel
theorem dF_init_238 : decode cF_init 238 = .ok (.aload_n 0, 1) := by decide +kernel
theorem dF_init_239 : decode cF_init 239 = .ok (.iconst 0, 1) := by decide +kernel
theorem dF_init_240 : decode cF_init 240 = .ok (.putfield 70, 3) := by decide +kernel
theorem dF_init_243 : decode cF_init 243 = .ok (.return_, 1) := by decide +kernel
theorem dF_vote_0 : decode cF_vote 0 = .ok (.aload_n 0, 1) := by decide +kernel
theorem dF_vote_1 : decode cF_vote 1 = .ok (.iload_n 1, 1) := by decide +kernel
theorem dF_vote_2 : decode cF_vote 2 = .ok (.invokevirtual 73, 3) := by decide +kernel
theorem dF_vote_5 : decode cF_vote 5 = .ok (.ifCond .eq 22, 3) := by decide +kernel
theorem dF_vote_8 : decode cF_vote 8 = .ok (.aload_n 0, 1) := by decide +kernel
theorem dF_vote_9 : decode cF_vote 9 = .ok (.iload_n 2, 1) := by decide +kernel
theorem dF_vote_10 : decode cF_vote 10 = .ok (.invokevirtual 77, 3) := by decide +kernel
theorem dF_vote_13 : decode cF_vote 13 = .ok (.ifCond .eq 14, 3) := by decide +kernel
theorem dF_vote_16 : decode cF_vote 16 = .ok (.iload_n 3, 1) := by decide +kernel
theorem dF_vote_17 : decode cF_vote 17 = .ok (.ifCond .lt 10, 3) := by decide +kernel
theorem dF_vote_20 : decode cF_vote 20 = .ok (.iload_n 3, 1) := by decide +kernel
theorem dF_vote_21 : decode cF_vote 21 = .ok (.sipush 240, 3) := by decide +kernel
theorem dF_vote_24 : decode cF_vote 24 = .ok (.if_icmp .le 5, 3) := by decide +kernel
theorem dF_vote_27 : decode cF_vote 27 = .ok (.iconst (-1), 1) := by decide +kernel
theorem dF_vote_28 : decode cF_vote 28 = .ok (.ireturn, 1) := by decide +kernel
theorem dF_vote_29 : decode cF_vote 29 = .ok (.aload_n 0, 1) := by decide +kernel
theorem dF_vote_30 : decode cF_vote 30 = .ok (.getfield 34, 3) := by decide +kernel
theorem dF_vote_33 : decode cF_vote 33 = .ok (.iload_n 2, 1) := by decide +kernel
theorem dF_vote_34 : decode cF_vote 34 = .ok (.aaload, 1) := by decide +kernel
theorem dF_vote_35 : decode cF_vote 35 = .ok (.getfield 80, 3) := by decide +kernel
theorem dF_vote_38 : decode cF_vote 38 = .ok (.getfield 83, 3) := by decide +kernel
theorem dF_vote_41 : decode cF_vote 41 = .ok (.istore 4, 2) := by decide +kernel
theorem dF_vote_43 : decode cF_vote 43 = .ok (.aload_n 0, 1) := by decide +kernel
theorem dF_vote_44 : decode cF_vote 44 = .ok (.iload_n 2, 1) := by decide +kernel
theorem dF_vote_45 : decode cF_vote 45 = .ok (.iload_n 3, 1) := by decide +kernel
theorem dF_vote_46 : decode cF_vote 46 = .ok (.aload_n 0, 1) := by decide +kernel
theorem dF_vote_47 : decode cF_vote 47 = .ok (.getfield 22, 3) := by decide +kernel
theorem dF_vote_50 : decode cF_vote 50 = .ok (.idiv, 1) := by decide +kernel
theorem dF_vote_51 : decode cF_vote 51 = .ok (.invokevirtual 86, 3) := by decide +kernel
theorem dF_vote_54 : decode cF_vote 54 = .ok (.istore 5, 2) := by decide +kernel
theorem dF_vote_56 : decode cF_vote 56 = .ok (.aload_n 0, 1) := by decide +kernel
theorem dF_vote_57 : decode cF_vote 57 = .ok (.getfield 34, 3) := by decide +kernel
theorem dF_vote_60 : decode cF_vote 60 = .ok (.iload_n 2, 1) := by decide +kernel
theorem dF_vote_61 : decode cF_vote 61 = .ok (.aaload, 1) := by decide +kernel
theorem dF_vote_62 : decode cF_vote 62 = .ok (.getfield 89, 3) := by decide +kernel
theorem dF_vote_65 : decode cF_vote 65 = .ok (.iload_n 3, 1) := by decide +kernel
theorem dF_vote_66 : decode cF_vote 66 = .ok (.if_icmp .gt 16, 3) := by decide +kernel
theorem dF_vote_69 : decode cF_vote 69 = .ok (.iload 4, 2) := by decide +kernel
theorem dF_vote_71 : decode cF_vote 71 = .ok (.invokestatic 92, 3) := by decide +kernel
theorem dF_vote_74 : decode cF_vote 74 = .ok (.iload 5, 2) := by decide +kernel
theorem dF_vote_76 : decode cF_vote 76 = .ok (.invokestatic 92, 3) := by decide +kernel
theorem dF_vote_79 : decode cF_vote 79 = .ok (.if_icmp .lt 6, 3) := by decide +kernel
theorem dF_vote_82 : decode cF_vote 82 = .ok (.bipush (-3), 2) := by decide +kernel
theorem dF_vote_84 : decode cF_vote 84 = .ok (.ireturn, 1) := by decide +kernel
theorem dF_vote_85 : decode cF_vote 85 = .ok (.aload_n 0, 1) := by decide +kernel
theorem dF_vote_86 : decode cF_vote 86 = .ok (.iload_n 1, 1) := by decide +kernel
theorem dF_vote_87 : decode cF_vote 87 = .ok (.iload_n 2, 1) := by decide +kernel
theorem dF_vote_88 : decode cF_vote 88 = .ok (.iload_n 3, 1) := by decide +kernel
theorem dF_vote_89 : decode cF_vote 89 = .ok (.invokevirtual 96, 3) := by decide +kernel
theorem dF_vote_92 : decode cF_vote 92 = .ok (.istore 6, 2) := by decide +kernel
theorem dF_vote_94 : decode cF_vote 94 = .ok (.iload 6, 2) := by decide +kernel
theorem dF_vote_96 : decode cF_vote 96 = .ok (.iconst (-1), 1) := by decide +kernel
theorem dF_vote_97 : decode cF_vote 97 = .ok (.if_icmp .eq 6, 3) := by decide +kernel
theorem dF_vote_100 : decode cF_vote 100 = .ok (.iload 6, 2) := by decide +kernel
theorem dF_vote_102 : decode cF_vote 102 = .ok (.ireturn, 1) := by decide +kernel
theorem dF_vote_103 : decode cF_vote 103 = .ok (.aload_n 0, 1) := by decide +kernel
theorem dF_vote_104 : decode cF_vote 104 = .ok (.getfield 70, 3) := by decide +kernel
theorem dF_vote_107 : decode cF_vote 107 = .ok (.bipush 80, 2) := by decide +kernel
theorem dF_vote_109 : decode cF_vote 109 = .ok (.if_icmp .lt 6, 3) := by decide +kernel
theorem dF_vote_112 : decode cF_vote 112 = .ok (.bipush (-2), 2) := by decide +kernel
theorem dF_vote_114 : decode cF_vote 114 = .ok (.ireturn, 1) := by decide +kernel
theorem dF_vote_115 : decode cF_vote 115 = .ok (.aload_n 0, 1) := by decide +kernel
theorem dF_vote_116 : decode cF_vote 116 = .ok (.getfield 41, 3) := by decide +kernel
theorem dF_vote_119 : decode cF_vote 119 = .ok (.aload_n 0, 1) := by decide +kernel
theorem dF_vote_120 : decode cF_vote 120 = .ok (.getfield 70, 3) := by decide +kernel
theorem dF_vote_123 : decode cF_vote 123 = .ok (.aaload, 1) := by decide +kernel
theorem dF_vote_124 : decode cF_vote 124 = .ok (.astore 7, 2) := by decide +kernel
theorem dF_vote_126 : decode cF_vote 126 = .ok (.aload 7, 2) := by decide +kernel
theorem dF_vote_128 : decode cF_vote 128 = .ok (.iload_n 1, 1) := by decide +kernel
theorem dF_vote_129 : decode cF_vote 129 = .ok (.putfield 100, 3) := by decide +kernel
theorem dF_vote_132 : decode cF_vote 132 = .ok (.aload 7, 2) := by decide +kernel
theorem dF_vote_134 : decode cF_vote 134 = .ok (.iload_n 3, 1) := by decide +kernel
theorem dF_vote_135 : decode cF_vote 135 = .ok (.putfield 103, 3) := by decide +kernel
theorem dF_vote_138 : decode cF_vote 138 = .ok (.aload 7, 2) := by decide +kernel
theorem dF_vote_140 : decode cF_vote 140 = .ok (.iload_n 2, 1) := by decide +kernel
theorem dF_vote_141 : decode cF_vote 141 = .ok (.putfield 104, 3) := by decide +kernel
theorem dF_vote_144 : decode cF_vote 144 = .ok (.aload 7, 2) := by decide +kernel
theorem dF_vote_146 : decode cF_vote 146 = .ok (.iload 4, 2) := by decide +kernel
theorem dF_vote_148 : decode cF_vote 148 = .ok (.putfield 107, 3) := by decide +kernel
theorem dF_vote_151 : decode cF_vote 151 = .ok (.aload 7, 2) := by decide +kernel
theorem dF_vote_153 : decode cF_vote 153 = .ok (.iload 5, 2) := by decide +kernel
theorem dF_vote_155 : decode cF_vote 155 = .ok (.putfield 110, 3) := by decide +kernel
theorem dF_vote_158 : decode cF_vote 158 = .ok (.aload_n 0, 1) := by decide +kernel
theorem dF_vote_159 : decode cF_vote 159 = .ok (.dup, 1) := by decide +kernel
theorem dF_vote_160 : decode cF_vote 160 = .ok (.getfield 70, 3) := by decide +kernel
theorem dF_vote_163 : decode cF_vote 163 = .ok (.dup_x1, 1) := by decide +kernel
theorem dF_vote_164 : decode cF_vote 164 = .ok (.iconst 1, 1) := by decide +kernel
theorem dF_vote_165 : decode cF_vote 165 = .ok (.iadd, 1) := by decide +kernel
theorem dF_vote_166 : decode cF_vote 166 = .ok (.putfield 70, 3) := by decide +kernel
theorem dF_vote_169 : decode cF_vote 169 = .ok (.ireturn, 1) := by decide +kernel
theorem dF_include_0 : decode cF_include 0 = .ok (.aload_n 0, 1) := by decide +kernel
theorem dF_include_1 : decode cF_include 1 = .ok (.iload_n 1, 1) := by decide +kernel
theorem dF_include_2 : decode cF_include 2 = .ok (.invokevirtual 113, 3) := by decide +kernel
theorem dF_include_5 : decode cF_include 5 = .ok (.ifCond .ne 5, 3) := by decide +kernel
theorem dF_include_8 : decode cF_include 8 = .ok (.iconst (-1), 1) := by decide +kernel
theorem dF_include_9 : decode cF_include 9 = .ok (.ireturn, 1) := by decide +kernel
theorem dF_include_10 : decode cF_include 10 = .ok (.aload_n 0, 1) := by decide +kernel
theorem dF_include_11 : decode cF_include 11 = .ok (.getfield 56, 3) := by decide +kernel
theorem dF_include_14 : decode cF_include 14 = .ok (.iload_n 1, 1) := by decide +kernel
theorem dF_include_15 : decode cF_include 15 = .ok (.iconst (-1), 1) := by decide +kernel
theorem dF_include_16 : decode cF_include 16 = .ok (.invokevirtual 116, 3) := by decide +kernel
theorem dF_include_19 : decode cF_include 19 = .ok (.ireturn, 1) := by decide +kernel
theorem dF_accuse_0 : decode cF_accuse 0 = .ok (.aload_n 0, 1) := by decide +kernel
theorem dF_accuse_1 : decode cF_accuse 1 = .ok (.iload_n 1, 1) := by decide +kernel
theorem dF_accuse_2 : decode cF_accuse 2 = .ok (.invokevirtual 113, 3) := by decide +kernel
theorem dF_accuse_5 : decode cF_accuse 5 = .ok (.ifCond .eq 11, 3) := by decide +kernel
theorem dF_accuse_8 : decode cF_accuse 8 = .ok (.aload_n 0, 1) := by decide +kernel
theorem dF_accuse_9 : decode cF_accuse 9 = .ok (.iload_n 2, 1) := by decide +kernel
theorem dF_accuse_10 : decode cF_accuse 10 = .ok (.invokevirtual 113, 3) := by decide +kernel
theorem dF_accuse_13 : decode cF_accuse 13 = .ok (.ifCond .ne 5, 3) := by decide +kernel
theorem dF_accuse_16 : decode cF_accuse 16 = .ok (.iconst (-1), 1) := by decide +kernel
theorem dF_accuse_17 : decode cF_accuse 17 = .ok (.ireturn, 1) := by decide +kernel
theorem dF_accuse_18 : decode cF_accuse 18 = .ok (.aload_n 0, 1) := by decide +kernel
theorem dF_accuse_19 : decode cF_accuse 19 = .ok (.iload_n 1, 1) := by decide +kernel
theorem dF_accuse_20 : decode cF_accuse 20 = .ok (.iload_n 2, 1) := by decide +kernel
theorem dF_accuse_21 : decode cF_accuse 21 = .ok (.invokevirtual 119, 3) := by decide +kernel
theorem dF_accuse_24 : decode cF_accuse 24 = .ok (.ifCond .ne 6, 3) := by decide +kernel
theorem dF_accuse_27 : decode cF_accuse 27 = .ok (.bipush (-3), 2) := by decide +kernel
theorem dF_accuse_29 : decode cF_accuse 29 = .ok (.ireturn, 1) := by decide +kernel
theorem dF_accuse_30 : decode cF_accuse 30 = .ok (.aload_n 0, 1) := by decide +kernel
theorem dF_accuse_31 : decode cF_accuse 31 = .ok (.getfield 56, 3) := by decide +kernel
theorem dF_accuse_34 : decode cF_accuse 34 = .ok (.iload_n 1, 1) := by decide +kernel
theorem dF_accuse_35 : decode cF_accuse 35 = .ok (.iload_n 2, 1) := by decide +kernel
theorem dF_accuse_36 : decode cF_accuse 36 = .ok (.invokevirtual 116, 3) := by decide +kernel
theorem dF_accuse_39 : decode cF_accuse 39 = .ok (.ireturn, 1) := by decide +kernel
theorem dF_clear_0 : decode cF_clear 0 = .ok (.aload_n 0, 1) := by decide +kernel
theorem dF_clear_1 : decode cF_clear 1 = .ok (.getfield 56, 3) := by decide +kernel
theorem dF_clear_4 : decode cF_clear 4 = .ok (.getfield 123, 3) := by decide +kernel
theorem dF_clear_7 : decode cF_clear 7 = .ok (.istore_n 1, 1) := by decide +kernel
theorem dF_clear_8 : decode cF_clear 8 = .ok (.aload_n 0, 1) := by decide +kernel
theorem dF_clear_9 : decode cF_clear 9 = .ok (.getfield 56, 3) := by decide +kernel
theorem dF_clear_12 : decode cF_clear 12 = .ok (.iconst 0, 1) := by decide +kernel
theorem dF_clear_13 : decode cF_clear 13 = .ok (.putfield 123, 3) := by decide +kernel
theorem dF_clear_16 : decode cF_clear 16 = .ok (.iload_n 1, 1) := by decide +kernel
theorem dF_clear_17 : decode cF_clear 17 = .ok (.ireturn, 1) := by decide +kernel
theorem dF_propose_0 : decode cF_propose 0 = .ok (.aload_n 0, 1) := by decide +kernel
theorem dF_propose_1 : decode cF_propose 1 = .ok (.iload_n 1, 1) := by decide +kernel
theorem dF_propose_2 : decode cF_propose 2 = .ok (.invokevirtual 77, 3) := by decide +kernel
theorem dF_propose_5 : decode cF_propose 5 = .ok (.ifCond .eq 15, 3) := by decide +kernel
theorem dF_propose_8 : decode cF_propose 8 = .ok (.iload_n 2, 1) := by decide +kernel
theorem dF_propose_9 : decode cF_propose 9 = .ok (.iconst 1, 1) := by decide +kernel
theorem dF_propose_10 : decode cF_propose 10 = .ok (.if_icmp .lt 10, 3) := by decide +kernel
theorem dF_propose_13 : decode cF_propose 13 = .ok (.iload_n 2, 1) := by decide +kernel
theorem dF_propose_14 : decode cF_propose 14 = .ok (.sipush 240, 3) := by decide +kernel
theorem dF_propose_17 : decode cF_propose 17 = .ok (.if_icmp .le 5, 3) := by decide +kernel
theorem dF_propose_20 : decode cF_propose 20 = .ok (.iconst (-1), 1) := by decide +kernel
theorem dF_propose_21 : decode cF_propose 21 = .ok (.ireturn, 1) := by decide +kernel
theorem dF_propose_22 : decode cF_propose 22 = .ok (.iload_n 2, 1) := by decide +kernel
theorem dF_propose_23 : decode cF_propose 23 = .ok (.aload_n 0, 1) := by decide +kernel
theorem dF_propose_24 : decode cF_propose 24 = .ok (.getfield 18, 3) := by decide +kernel
theorem dF_propose_27 : decode cF_propose 27 = .ok (.irem, 1) := by decide +kernel
theorem dF_propose_28 : decode cF_propose 28 = .ok (.istore_n 3, 1) := by decide +kernel
theorem dF_propose_29 : decode cF_propose 29 = .ok (.aload_n 0, 1) := by decide +kernel
theorem dF_propose_30 : decode cF_propose 30 = .ok (.getfield 34, 3) := by decide +kernel
theorem dF_propose_33 : decode cF_propose 33 = .ok (.iload_n 1, 1) := by decide +kernel
theorem dF_propose_34 : decode cF_propose 34 = .ok (.aaload, 1) := by decide +kernel
theorem dF_propose_35 : decode cF_propose 35 = .ok (.getfield 80, 3) := by decide +kernel
theorem dF_propose_38 : decode cF_propose 38 = .ok (.astore 4, 2) := by decide +kernel
theorem dF_propose_40 : decode cF_propose 40 = .ok (.iload_n 2, 1) := by decide +kernel
theorem dF_propose_41 : decode cF_propose 41 = .ok (.aload_n 0, 1) := by decide +kernel
theorem dF_propose_42 : decode cF_propose 42 = .ok (.getfield 34, 3) := by decide +kernel
theorem dF_propose_45 : decode cF_propose 45 = .ok (.iload_n 1, 1) := by decide +kernel
theorem dF_propose_46 : decode cF_propose 46 = .ok (.aaload, 1) := by decide +kernel
theorem dF_propose_47 : decode cF_propose 47 = .ok (.getfield 89, 3) := by decide +kernel
theorem dF_propose_50 : decode cF_propose 50 = .ok (.if_icmp .le 15, 3) := by decide +kernel
theorem dF_propose_53 : decode cF_propose 53 = .ok (.aload 4, 2) := by decide +kernel
theorem dF_propose_55 : decode cF_propose 55 = .ok (.getfield 126, 3) := by decide +kernel
theorem dF_propose_58 : decode cF_propose 58 = .ok (.iload_n 3, 1) := by decide +kernel
theorem dF_propose_59 : decode cF_propose 59 = .ok (.invokestatic 129, 3) := by decide +kernel
theorem dF_propose_62 : decode cF_propose 62 = .ok (.ifCond .eq 6, 3) := by decide +kernel
theorem dF_propose_65 : decode cF_propose 65 = .ok (.bipush (-3), 2) := by decide +kernel
theorem dF_propose_67 : decode cF_propose 67 = .ok (.ireturn, 1) := by decide +kernel
theorem dF_propose_68 : decode cF_propose 68 = .ok (.aload_n 0, 1) := by decide +kernel
theorem dF_propose_69 : decode cF_propose 69 = .ok (.getfield 67, 3) := by decide +kernel
theorem dF_propose_72 : decode cF_propose 72 = .ok (.bipush 60, 2) := by decide +kernel
theorem dF_propose_74 : decode cF_propose 74 = .ok (.if_icmp .lt 6, 3) := by decide +kernel
theorem dF_propose_77 : decode cF_propose 77 = .ok (.bipush (-2), 2) := by decide +kernel
theorem dF_propose_79 : decode cF_propose 79 = .ok (.ireturn, 1) := by decide +kernel
theorem dF_propose_80 : decode cF_propose 80 = .ok (.aload_n 0, 1) := by decide +kernel
theorem dF_propose_81 : decode cF_propose 81 = .ok (.getfield 63, 3) := by decide +kernel
theorem dF_propose_84 : decode cF_propose 84 = .ok (.aload 4, 2) := by decide +kernel
theorem dF_propose_86 : decode cF_propose 86 = .ok (.invokevirtual 132, 3) := by decide +kernel
theorem dF_propose_89 : decode cF_propose 89 = .ok (.aload_n 0, 1) := by decide +kernel
theorem dF_propose_90 : decode cF_propose 90 = .ok (.getfield 63, 3) := by decide +kernel
theorem dF_propose_93 : decode cF_propose 93 = .ok (.iload_n 2, 1) := by decide +kernel
theorem dF_propose_94 : decode cF_propose 94 = .ok (.aload_n 0, 1) := by decide +kernel
theorem dF_propose_95 : decode cF_propose 95 = .ok (.getfield 22, 3) := by decide +kernel
theorem dF_propose_98 : decode cF_propose 98 = .ok (.idiv, 1) := by decide +kernel
theorem dF_propose_99 : decode cF_propose 99 = .ok (.aload_n 0, 1) := by decide +kernel
theorem dF_propose_100 : decode cF_propose 100 = .ok (.getfield 18, 3) := by decide +kernel
theorem dF_propose_103 : decode cF_propose 103 = .ok (.invokevirtual 136, 3) := by decide +kernel
theorem dF_propose_106 : decode cF_propose 106 = .ok (.iconst 0, 1) := by decide +kernel
theorem dF_propose_107 : decode cF_propose 107 = .ok (.istore 5, 2) := by decide +kernel
theorem dF_propose_109 : decode cF_propose 109 = .ok (.iload 5, 2) := by decide +kernel
theorem dF_propose_111 : decode cF_propose 111 = .ok (.aload_n 0, 1) := by decide +kernel
theorem dF_propose_112 : decode cF_propose 112 = .ok (.getfield 56, 3) := by decide +kernel
theorem dF_propose_115 : decode cF_propose 115 = .ok (.getfield 123, 3) := by decide +kernel
theorem dF_propose_118 : decode cF_propose 118 = .ok (.if_icmp .ge 26, 3) := by decide +kernel
theorem dF_propose_121 : decode cF_propose 121 = .ok (.aload_n 0, 1) := by decide +kernel
theorem dF_propose_122 : decode cF_propose 122 = .ok (.iload 5, 2) := by decide +kernel
theorem dF_propose_124 : decode cF_propose 124 = .ok (.iload_n 1, 1) := by decide +kernel
theorem dF_propose_125 : decode cF_propose 125 = .ok (.iload_n 2, 1) := by decide +kernel
theorem dF_propose_126 : decode cF_propose 126 = .ok (.invokevirtual 140, 3) := by decide +kernel
theorem dF_propose_129 : decode cF_propose 129 = .ok (.ifCond .ne 9, 3) := by decide +kernel
theorem dF_propose_132 : decode cF_propose 132 = .ok (.bipush (-10), 2) := by decide +kernel
theorem dF_propose_134 : decode cF_propose 134 = .ok (.iload 5, 2) := by decide +kernel
theorem dF_propose_136 : decode cF_propose 136 = .ok (.isub, 1) := by decide +kernel
theorem dF_propose_137 : decode cF_propose 137 = .ok (.ireturn, 1) := by decide +kernel
theorem dF_propose_138 : decode cF_propose 138 = .ok (.iinc 5 1, 3) := by decide +kernel
theorem dF_propose_141 : decode cF_propose 141 = .ok (.goto (-32), 3) := by decide +kernel
theorem dF_propose_144 : decode cF_propose 144 = .ok (.aload_n 0, 1) := by decide +kernel
theorem dF_propose_145 : decode cF_propose 145 = .ok (.getfield 34, 3) := by decide +kernel
theorem dF_propose_148 : decode cF_propose 148 = .ok (.aload_n 0, 1) := by decide +kernel
theorem dF_propose_149 : decode cF_propose 149 = .ok (.getfield 67, 3) := by decide +kernel
theorem dF_propose_152 : decode cF_propose 152 = .ok (.aaload, 1) := by decide +kernel
theorem dF_propose_153 : decode cF_propose 153 = .ok (.astore 5, 2) := by decide +kernel
theorem dF_propose_155 : decode cF_propose 155 = .ok (.aload 5, 2) := by decide +kernel
theorem dF_propose_157 : decode cF_propose 157 = .ok (.iload_n 1, 1) := by decide +kernel
theorem dF_propose_158 : decode cF_propose 158 = .ok (.putfield 144, 3) := by decide +kernel
theorem dF_propose_161 : decode cF_propose 161 = .ok (.aload 5, 2) := by decide +kernel
theorem dF_propose_163 : decode cF_propose 163 = .ok (.iload_n 2, 1) := by decide +kernel
theorem dF_propose_164 : decode cF_propose 164 = .ok (.putfield 89, 3) := by decide +kernel
theorem dF_propose_167 : decode cF_propose 167 = .ok (.aload 5, 2) := by decide +kernel
theorem dF_propose_169 : decode cF_propose 169 = .ok (.iload_n 3, 1) := by decide +kernel
theorem dF_propose_170 : decode cF_propose 170 = .ok (.putfield 147, 3) := by decide +kernel
theorem dF_propose_173 : decode cF_propose 173 = .ok (.aload 5, 2) := by decide +kernel
theorem dF_propose_175 : decode cF_propose 175 = .ok (.aload_n 0, 1) := by decide +kernel
theorem dF_propose_176 : decode cF_propose 176 = .ok (.getfield 34, 3) := by decide +kernel
theorem dF_propose_179 : decode cF_propose 179 = .ok (.iload_n 1, 1) := by decide +kernel
theorem dF_propose_180 : decode cF_propose 180 = .ok (.aaload, 1) := by decide +kernel
theorem dF_propose_181 : decode cF_propose 181 = .ok (.getfield 150, 3) := by decide +kernel
theorem dF_propose_184 : decode cF_propose 184 = .ok (.lconst 1, 1) := by decide +kernel
theorem dF_propose_185 : decode cF_propose 185 = .ok (.aload_n 0, 1) := by decide +kernel
theorem dF_propose_186 : decode cF_propose 186 = .ok (.getfield 67, 3) := by decide +kernel
theorem dF_propose_189 : decode cF_propose 189 = .ok (.lshl, 1) := by decide +kernel
theorem dF_propose_190 : decode cF_propose 190 = .ok (.lor, 1) := by decide +kernel
theorem dF_propose_191 : decode cF_propose 191 = .ok (.putfield 150, 3) := by decide +kernel
theorem dF_propose_194 : decode cF_propose 194 = .ok (.aload 5, 2) := by decide +kernel
theorem dF_propose_196 : decode cF_propose 196 = .ok (.getfield 154, 3) := by decide +kernel
theorem dF_propose_199 : decode cF_propose 199 = .ok (.aload_n 0, 1) := by decide +kernel
theorem dF_propose_200 : decode cF_propose 200 = .ok (.getfield 56, 3) := by decide +kernel
theorem dF_propose_203 : decode cF_propose 203 = .ok (.invokevirtual 157, 3) := by decide +kernel
theorem dF_propose_206 : decode cF_propose 206 = .ok (.aload 5, 2) := by decide +kernel
theorem dF_propose_208 : decode cF_propose 208 = .ok (.getfield 80, 3) := by decide +kernel
theorem dF_propose_211 : decode cF_propose 211 = .ok (.aload_n 0, 1) := by decide +kernel
theorem dF_propose_212 : decode cF_propose 212 = .ok (.getfield 63, 3) := by decide +kernel
theorem dF_propose_215 : decode cF_propose 215 = .ok (.invokevirtual 132, 3) := by decide +kernel
theorem dF_propose_218 : decode cF_propose 218 = .ok (.aload_n 0, 1) := by decide +kernel
theorem dF_propose_219 : decode cF_propose 219 = .ok (.getfield 56, 3) := by decide +kernel
theorem dF_propose_222 : decode cF_propose 222 = .ok (.iconst 0, 1) := by decide +kernel
theorem dF_propose_223 : decode cF_propose 223 = .ok (.putfield 123, 3) := by decide +kernel
theorem dF_propose_226 : decode cF_propose 226 = .ok (.aload_n 0, 1) := by decide +kernel
theorem dF_propose_227 : decode cF_propose 227 = .ok (.dup, 1) := by decide +kernel
theorem dF_propose_228 : decode cF_propose 228 = .ok (.getfield 67, 3) := by decide +kernel
theorem dF_propose_231 : decode cF_propose 231 = .ok (.dup_x1, 1) := by decide +kernel
theorem dF_propose_232 : decode cF_propose 232 = .ok (.iconst 1, 1) := by decide +kernel
theorem dF_propose_233 : decode cF_propose 233 = .ok (.iadd, 1) := by decide +kernel
theorem dF_propose_234 : decode cF_propose 234 = .ok (.putfield 67, 3) := by decide +kernel
theorem dF_propose_237 : decode cF_propose 237 = .ok (.ireturn, 1) := by decide +kernel
theorem dF_block_0 : decode cF_block 0 = .ok (.aload_n 0, 1) := by decide +kernel
theorem dF_block_1 : decode cF_block 1 = .ok (.iload_n 1, 1) := by decide +kernel
theorem dF_block_2 : decode cF_block 2 = .ok (.invokevirtual 77, 3) := by decide +kernel
theorem dF_block_5 : decode cF_block 5 = .ok (.ifCond .ne 5, 3) := by decide +kernel
theorem dF_block_8 : decode cF_block 8 = .ok (.iconst (-1), 1) := by decide +kernel
theorem dF_block_9 : decode cF_block 9 = .ok (.ireturn, 1) := by decide +kernel
theorem dF_block_10 : decode cF_block 10 = .ok (.aload_n 0, 1) := by decide +kernel
theorem dF_block_11 : decode cF_block 11 = .ok (.getfield 34, 3) := by decide +kernel
theorem dF_block_14 : decode cF_block 14 = .ok (.iload_n 1, 1) := by decide +kernel
theorem dF_block_15 : decode cF_block 15 = .ok (.aaload, 1) := by decide +kernel
theorem dF_block_16 : decode cF_block 16 = .ok (.astore_n 3, 1) := by decide +kernel
theorem dF_block_17 : decode cF_block 17 = .ok (.iload_n 2, 1) := by decide +kernel
theorem dF_block_18 : decode cF_block 18 = .ok (.tableswitch 125 0 7 #[46, 63, 68, 73, 81, 92, 103, 114], 46) := by decide +kernel
theorem dF_block_64 : decode cF_block 64 = .ok (.aload_n 3, 1) := by decide +kernel
theorem dF_block_65 : decode cF_block 65 = .ok (.getfield 144, 3) := by decide +kernel
theorem dF_block_68 : decode cF_block 68 = .ok (.iconst (-1), 1) := by decide +kernel
theorem dF_block_69 : decode cF_block 69 = .ok (.if_icmp .ne 7, 3) := by decide +kernel
theorem dF_block_72 : decode cF_block 72 = .ok (.iconst (-1), 1) := by decide +kernel
theorem dF_block_73 : decode cF_block 73 = .ok (.goto 7, 3) := by decide +kernel
theorem dF_block_76 : decode cF_block 76 = .ok (.aload_n 3, 1) := by decide +kernel
theorem dF_block_77 : decode cF_block 77 = .ok (.getfield 144, 3) := by decide +kernel
theorem dF_block_80 : decode cF_block 80 = .ok (.ireturn, 1) := by decide +kernel
theorem dF_block_81 : decode cF_block 81 = .ok (.aload_n 3, 1) := by decide +kernel
theorem dF_block_82 : decode cF_block 82 = .ok (.getfield 89, 3) := by decide +kernel
theorem dF_block_85 : decode cF_block 85 = .ok (.ireturn, 1) := by decide +kernel
theorem dF_block_86 : decode cF_block 86 = .ok (.aload_n 3, 1) := by decide +kernel
theorem dF_block_87 : decode cF_block 87 = .ok (.getfield 147, 3) := by decide +kernel
theorem dF_block_90 : decode cF_block 90 = .ok (.ireturn, 1) := by decide +kernel
theorem dF_block_91 : decode cF_block 91 = .ok (.aload_n 3, 1) := by decide +kernel
theorem dF_block_92 : decode cF_block 92 = .ok (.getfield 154, 3) := by decide +kernel
theorem dF_block_95 : decode cF_block 95 = .ok (.getfield 123, 3) := by decide +kernel
theorem dF_block_98 : decode cF_block 98 = .ok (.ireturn, 1) := by decide +kernel
theorem dF_block_99 : decode cF_block 99 = .ok (.aload_n 3, 1) := by decide +kernel
theorem dF_block_100 : decode cF_block 100 = .ok (.getfield 80, 3) := by decide +kernel
theorem dF_block_103 : decode cF_block 103 = .ok (.getfield 83, 3) := by decide +kernel
theorem dF_block_106 : decode cF_block 106 = .ok (.invokestatic 92, 3) := by decide +kernel
theorem dF_block_109 : decode cF_block 109 = .ok (.ireturn, 1) := by decide +kernel
theorem dF_block_110 : decode cF_block 110 = .ok (.aload_n 3, 1) := by decide +kernel
theorem dF_block_111 : decode cF_block 111 = .ok (.getfield 80, 3) := by decide +kernel
theorem dF_block_114 : decode cF_block 114 = .ok (.getfield 83, 3) := by decide +kernel
theorem dF_block_117 : decode cF_block 117 = .ok (.invokestatic 160, 3) := by decide +kernel
theorem dF_block_120 : decode cF_block 120 = .ok (.ireturn, 1) := by decide +kernel
theorem dF_block_121 : decode cF_block 121 = .ok (.aload_n 3, 1) := by decide +kernel
theorem dF_block_122 : decode cF_block 122 = .ok (.getfield 80, 3) := by decide +kernel
theorem dF_block_125 : decode cF_block 125 = .ok (.getfield 163, 3) := by decide +kernel
theorem dF_block_128 : decode cF_block 128 = .ok (.invokestatic 92, 3) := by decide +kernel
theorem dF_block_131 : decode cF_block 131 = .ok (.ireturn, 1) := by decide +kernel
theorem dF_block_132 : decode cF_block 132 = .ok (.aload_n 3, 1) := by decide +kernel
theorem dF_block_133 : decode cF_block 133 = .ok (.getfield 80, 3) := by decide +kernel
theorem dF_block_136 : decode cF_block 136 = .ok (.getfield 163, 3) := by decide +kernel
theorem dF_block_139 : decode cF_block 139 = .ok (.invokestatic 160, 3) := by decide +kernel
theorem dF_block_142 : decode cF_block 142 = .ok (.ireturn, 1) := by decide +kernel
theorem dF_block_143 : decode cF_block 143 = .ok (.iconst (-1), 1) := by decide +kernel
theorem dF_block_144 : decode cF_block 144 = .ok (.ireturn, 1) := by decide +kernel
theorem dF_balance_0 : decode cF_balance 0 = .ok (.aload_n 0, 1) := by decide +kernel
theorem dF_balance_1 : decode cF_balance 1 = .ok (.iload_n 1, 1) := by decide +kernel
theorem dF_balance_2 : decode cF_balance 2 = .ok (.invokevirtual 77, 3) := by decide +kernel
theorem dF_balance_5 : decode cF_balance 5 = .ok (.ifCond .eq 11, 3) := by decide +kernel
theorem dF_balance_8 : decode cF_balance 8 = .ok (.aload_n 0, 1) := by decide +kernel
theorem dF_balance_9 : decode cF_balance 9 = .ok (.iload_n 2, 1) := by decide +kernel
theorem dF_balance_10 : decode cF_balance 10 = .ok (.invokevirtual 73, 3) := by decide +kernel
theorem dF_balance_13 : decode cF_balance 13 = .ok (.ifCond .ne 5, 3) := by decide +kernel
theorem dF_balance_16 : decode cF_balance 16 = .ok (.iconst (-1), 1) := by decide +kernel
theorem dF_balance_17 : decode cF_balance 17 = .ok (.ireturn, 1) := by decide +kernel
theorem dF_balance_18 : decode cF_balance 18 = .ok (.aload_n 0, 1) := by decide +kernel
theorem dF_balance_19 : decode cF_balance 19 = .ok (.getfield 34, 3) := by decide +kernel
theorem dF_balance_22 : decode cF_balance 22 = .ok (.iload_n 1, 1) := by decide +kernel
theorem dF_balance_23 : decode cF_balance 23 = .ok (.aaload, 1) := by decide +kernel
theorem dF_balance_24 : decode cF_balance 24 = .ok (.getfield 80, 3) := by decide +kernel
theorem dF_balance_27 : decode cF_balance 27 = .ok (.getfield 166, 3) := by decide +kernel
theorem dF_balance_30 : decode cF_balance 30 = .ok (.iload_n 2, 1) := by decide +kernel
theorem dF_balance_31 : decode cF_balance 31 = .ok (.iaload, 1) := by decide +kernel
theorem dF_balance_32 : decode cF_balance 32 = .ok (.ireturn, 1) := by decide +kernel
theorem dF_punished_0 : decode cF_punished 0 = .ok (.aload_n 0, 1) := by decide +kernel
theorem dF_punished_1 : decode cF_punished 1 = .ok (.iload_n 1, 1) := by decide +kernel
theorem dF_punished_2 : decode cF_punished 2 = .ok (.invokevirtual 77, 3) := by decide +kernel
theorem dF_punished_5 : decode cF_punished 5 = .ok (.ifCond .eq 34, 3) := by decide +kernel
theorem dF_punished_8 : decode cF_punished 8 = .ok (.aload_n 0, 1) := by decide +kernel
theorem dF_punished_9 : decode cF_punished 9 = .ok (.iload_n 2, 1) := by decide +kernel
theorem dF_punished_10 : decode cF_punished 10 = .ok (.invokevirtual 73, 3) := by decide +kernel
theorem dF_punished_13 : decode cF_punished 13 = .ok (.ifCond .eq 26, 3) := by decide +kernel
theorem dF_punished_16 : decode cF_punished 16 = .ok (.aload_n 0, 1) := by decide +kernel
theorem dF_punished_17 : decode cF_punished 17 = .ok (.getfield 34, 3) := by decide +kernel
theorem dF_punished_20 : decode cF_punished 20 = .ok (.iload_n 1, 1) := by decide +kernel
theorem dF_punished_21 : decode cF_punished 21 = .ok (.aaload, 1) := by decide +kernel
theorem dF_punished_22 : decode cF_punished 22 = .ok (.getfield 80, 3) := by decide +kernel
theorem dF_punished_25 : decode cF_punished 25 = .ok (.getfield 126, 3) := by decide +kernel
theorem dF_punished_28 : decode cF_punished 28 = .ok (.iload_n 2, 1) := by decide +kernel
theorem dF_punished_29 : decode cF_punished 29 = .ok (.invokestatic 129, 3) := by decide +kernel
theorem dF_punished_32 : decode cF_punished 32 = .ok (.ifCond .eq 7, 3) := by decide +kernel
theorem dF_punished_35 : decode cF_punished 35 = .ok (.iconst 1, 1) := by decide +kernel
theorem dF_punished_36 : decode cF_punished 36 = .ok (.goto 4, 3) := by decide +kernel
theorem dF_punished_39 : decode cF_punished 39 = .ok (.iconst 0, 1) := by decide +kernel
theorem dF_punished_40 : decode cF_punished 40 = .ok (.ireturn, 1) := by decide +kernel
theorem dF_counted_0 : decode cF_counted 0 = .ok (.aload_n 0, 1) := by decide +kernel
theorem dF_counted_1 : decode cF_counted 1 = .ok (.iload_n 1, 1) := by decide +kernel
theorem dF_counted_2 : decode cF_counted 2 = .ok (.invokevirtual 77, 3) := by decide +kernel
theorem dF_counted_5 : decode cF_counted 5 = .ok (.ifCond .ne 5, 3) := by decide +kernel
theorem dF_counted_8 : decode cF_counted 8 = .ok (.iconst (-1), 1) := by decide +kernel
theorem dF_counted_9 : decode cF_counted 9 = .ok (.ireturn, 1) := by decide +kernel
theorem dF_counted_10 : decode cF_counted 10 = .ok (.aload_n 0, 1) := by decide +kernel
theorem dF_counted_11 : decode cF_counted 11 = .ok (.aload_n 0, 1) := by decide +kernel
theorem dF_counted_12 : decode cF_counted 12 = .ok (.getfield 34, 3) := by decide +kernel
theorem dF_counted_15 : decode cF_counted 15 = .ok (.iload_n 1, 1) := by decide +kernel
theorem dF_counted_16 : decode cF_counted 16 = .ok (.aaload, 1) := by decide +kernel
theorem dF_counted_17 : decode cF_counted 17 = .ok (.getfield 80, 3) := by decide +kernel
theorem dF_counted_20 : decode cF_counted 20 = .ok (.iload_n 2, 1) := by decide +kernel
theorem dF_counted_21 : decode cF_counted 21 = .ok (.invokevirtual 169, 3) := by decide +kernel
theorem dF_counted_24 : decode cF_counted 24 = .ok (.invokevirtual 172, 3) := by decide +kernel
theorem dF_counted_27 : decode cF_counted 27 = .ok (.ireturn, 1) := by decide +kernel
theorem dF_ballot_0 : decode cF_ballot 0 = .ok (.aload_n 0, 1) := by decide +kernel
theorem dF_ballot_1 : decode cF_ballot 1 = .ok (.iload_n 1, 1) := by decide +kernel
theorem dF_ballot_2 : decode cF_ballot 2 = .ok (.invokevirtual 113, 3) := by decide +kernel
theorem dF_ballot_5 : decode cF_ballot 5 = .ok (.ifCond .ne 5, 3) := by decide +kernel
theorem dF_ballot_8 : decode cF_ballot 8 = .ok (.iconst (-1), 1) := by decide +kernel
theorem dF_ballot_9 : decode cF_ballot 9 = .ok (.ireturn, 1) := by decide +kernel
theorem dF_ballot_10 : decode cF_ballot 10 = .ok (.aload_n 0, 1) := by decide +kernel
theorem dF_ballot_11 : decode cF_ballot 11 = .ok (.getfield 41, 3) := by decide +kernel
theorem dF_ballot_14 : decode cF_ballot 14 = .ok (.iload_n 1, 1) := by decide +kernel
theorem dF_ballot_15 : decode cF_ballot 15 = .ok (.aaload, 1) := by decide +kernel
theorem dF_ballot_16 : decode cF_ballot 16 = .ok (.astore_n 3, 1) := by decide +kernel
theorem dF_ballot_17 : decode cF_ballot 17 = .ok (.iload_n 2, 1) := by decide +kernel
theorem dF_ballot_18 : decode cF_ballot 18 = .ok (.tableswitch 89 0 6 #[42, 47, 52, 57, 65, 73, 81], 42) := by decide +kernel
theorem dF_ballot_60 : decode cF_ballot 60 = .ok (.aload_n 3, 1) := by decide +kernel
theorem dF_ballot_61 : decode cF_ballot 61 = .ok (.getfield 100, 3) := by decide +kernel
theorem dF_ballot_64 : decode cF_ballot 64 = .ok (.ireturn, 1) := by decide +kernel
theorem dF_ballot_65 : decode cF_ballot 65 = .ok (.aload_n 3, 1) := by decide +kernel
theorem dF_ballot_66 : decode cF_ballot 66 = .ok (.getfield 103, 3) := by decide +kernel
theorem dF_ballot_69 : decode cF_ballot 69 = .ok (.ireturn, 1) := by decide +kernel
theorem dF_ballot_70 : decode cF_ballot 70 = .ok (.aload_n 3, 1) := by decide +kernel
theorem dF_ballot_71 : decode cF_ballot 71 = .ok (.getfield 104, 3) := by decide +kernel
theorem dF_ballot_74 : decode cF_ballot 74 = .ok (.ireturn, 1) := by decide +kernel
theorem dF_ballot_75 : decode cF_ballot 75 = .ok (.aload_n 3, 1) := by decide +kernel
theorem dF_ballot_76 : decode cF_ballot 76 = .ok (.getfield 107, 3) := by decide +kernel
theorem dF_ballot_79 : decode cF_ballot 79 = .ok (.invokestatic 92, 3) := by decide +kernel
theorem dF_ballot_82 : decode cF_ballot 82 = .ok (.ireturn, 1) := by decide +kernel
theorem dF_ballot_83 : decode cF_ballot 83 = .ok (.aload_n 3, 1) := by decide +kernel
theorem dF_ballot_84 : decode cF_ballot 84 = .ok (.getfield 107, 3) := by decide +kernel
theorem dF_ballot_87 : decode cF_ballot 87 = .ok (.invokestatic 160, 3) := by decide +kernel
theorem dF_ballot_90 : decode cF_ballot 90 = .ok (.ireturn, 1) := by decide +kernel
theorem dF_ballot_91 : decode cF_ballot 91 = .ok (.aload_n 3, 1) := by decide +kernel
theorem dF_ballot_92 : decode cF_ballot 92 = .ok (.getfield 110, 3) := by decide +kernel
theorem dF_ballot_95 : decode cF_ballot 95 = .ok (.invokestatic 92, 3) := by decide +kernel
theorem dF_ballot_98 : decode cF_ballot 98 = .ok (.ireturn, 1) := by decide +kernel
theorem dF_ballot_99 : decode cF_ballot 99 = .ok (.aload_n 3, 1) := by decide +kernel
theorem dF_ballot_100 : decode cF_ballot 100 = .ok (.getfield 110, 3) := by decide +kernel
theorem dF_ballot_103 : decode cF_ballot 103 = .ok (.invokestatic 160, 3) := by decide +kernel
theorem dF_ballot_106 : decode cF_ballot 106 = .ok (.ireturn, 1) := by decide +kernel
theorem dF_ballot_107 : decode cF_ballot 107 = .ok (.iconst (-1), 1) := by decide +kernel
theorem dF_ballot_108 : decode cF_ballot 108 = .ok (.ireturn, 1) := by decide +kernel
theorem dF_give_0 : decode cF_give 0 = .ok (.iload_n 1, 1) := by decide +kernel
theorem dF_give_1 : decode cF_give 1 = .ok (.invokestatic 175, 3) := by decide +kernel
theorem dF_give_4 : decode cF_give 4 = .ok (.ifCond .eq 11, 3) := by decide +kernel
theorem dF_give_7 : decode cF_give 7 = .ok (.aload_n 0, 1) := by decide +kernel
theorem dF_give_8 : decode cF_give 8 = .ok (.iload_n 2, 1) := by decide +kernel
theorem dF_give_9 : decode cF_give 9 = .ok (.invokevirtual 77, 3) := by decide +kernel
theorem dF_give_12 : decode cF_give 12 = .ok (.ifCond .ne 5, 3) := by decide +kernel
theorem dF_give_15 : decode cF_give 15 = .ok (.iconst 0, 1) := by decide +kernel
theorem dF_give_16 : decode cF_give 16 = .ok (.ireturn, 1) := by decide +kernel
theorem dF_give_17 : decode cF_give 17 = .ok (.aload_n 0, 1) := by decide +kernel
theorem dF_give_18 : decode cF_give 18 = .ok (.getfield 48, 3) := by decide +kernel
theorem dF_give_21 : decode cF_give 21 = .ok (.iload_n 1, 1) := by decide +kernel
theorem dF_give_22 : decode cF_give 22 = .ok (.aaload, 1) := by decide +kernel
theorem dF_give_23 : decode cF_give 23 = .ok (.astore_n 3, 1) := by decide +kernel
theorem dF_give_24 : decode cF_give 24 = .ok (.aload_n 0, 1) := by decide +kernel
theorem dF_give_25 : decode cF_give 25 = .ok (.getfield 34, 3) := by decide +kernel
theorem dF_give_28 : decode cF_give 28 = .ok (.iload_n 2, 1) := by decide +kernel
theorem dF_give_29 : decode cF_give 29 = .ok (.aaload, 1) := by decide +kernel
theorem dF_give_30 : decode cF_give 30 = .ok (.getfield 144, 3) := by decide +kernel
theorem dF_give_33 : decode cF_give 33 = .ok (.istore 4, 2) := by decide +kernel
theorem dF_give_35 : decode cF_give 35 = .ok (.aload_n 3, 1) := by decide +kernel
theorem dF_give_36 : decode cF_give 36 = .ok (.iload_n 2, 1) := by decide +kernel
theorem dF_give_37 : decode cF_give 37 = .ok (.invokevirtual 178, 3) := by decide +kernel
theorem dF_give_40 : decode cF_give 40 = .ok (.ifCond .ne 18, 3) := by decide +kernel
theorem dF_give_43 : decode cF_give 43 = .ok (.iload 4, 2) := by decide +kernel
theorem dF_give_45 : decode cF_give 45 = .ok (.iconst (-1), 1) := by decide +kernel
theorem dF_give_46 : decode cF_give 46 = .ok (.if_icmp .eq 12, 3) := by decide +kernel
theorem dF_give_49 : decode cF_give 49 = .ok (.aload_n 3, 1) := by decide +kernel
theorem dF_give_50 : decode cF_give 50 = .ok (.iload 4, 2) := by decide +kernel
theorem dF_give_52 : decode cF_give 52 = .ok (.invokevirtual 178, 3) := by decide +kernel
theorem dF_give_55 : decode cF_give 55 = .ok (.ifCond .ne 5, 3) := by decide +kernel
theorem dF_give_58 : decode cF_give 58 = .ok (.iconst 0, 1) := by decide +kernel
theorem dF_give_59 : decode cF_give 59 = .ok (.ireturn, 1) := by decide +kernel
theorem dF_give_60 : decode cF_give 60 = .ok (.aload_n 3, 1) := by decide +kernel
theorem dF_give_61 : decode cF_give 61 = .ok (.dup, 1) := by decide +kernel
theorem dF_give_62 : decode cF_give 62 = .ok (.getfield 181, 3) := by decide +kernel
theorem dF_give_65 : decode cF_give 65 = .ok (.lconst 1, 1) := by decide +kernel
theorem dF_give_66 : decode cF_give 66 = .ok (.iload_n 2, 1) := by decide +kernel
theorem dF_give_67 : decode cF_give 67 = .ok (.lshl, 1) := by decide +kernel
theorem dF_give_68 : decode cF_give 68 = .ok (.lor, 1) := by decide +kernel
theorem dF_give_69 : decode cF_give 69 = .ok (.putfield 181, 3) := by decide +kernel
theorem dF_give_72 : decode cF_give 72 = .ok (.aload_n 0, 1) := by decide +kernel
theorem dF_give_73 : decode cF_give 73 = .ok (.aload_n 3, 1) := by decide +kernel
theorem dF_give_74 : decode cF_give 74 = .ok (.aload_n 0, 1) := by decide +kernel
theorem dF_give_75 : decode cF_give 75 = .ok (.getfield 34, 3) := by decide +kernel
theorem dF_give_78 : decode cF_give 78 = .ok (.iload_n 2, 1) := by decide +kernel
theorem dF_give_79 : decode cF_give 79 = .ok (.aaload, 1) := by decide +kernel
theorem dF_give_80 : decode cF_give 80 = .ok (.getfield 154, 3) := by decide +kernel
theorem dF_give_83 : decode cF_give 83 = .ok (.invokevirtual 184, 3) := by decide +kernel
theorem dF_give_86 : decode cF_give 86 = .ok (.aload_n 0, 1) := by decide +kernel
theorem dF_give_87 : decode cF_give 87 = .ok (.aload_n 3, 1) := by decide +kernel
theorem dF_give_88 : decode cF_give 88 = .ok (.aload_n 0, 1) := by decide +kernel
theorem dF_give_89 : decode cF_give 89 = .ok (.getfield 34, 3) := by decide +kernel
theorem dF_give_92 : decode cF_give 92 = .ok (.iload_n 2, 1) := by decide +kernel
theorem dF_give_93 : decode cF_give 93 = .ok (.aaload, 1) := by decide +kernel
theorem dF_give_94 : decode cF_give 94 = .ok (.getfield 80, 3) := by decide +kernel
theorem dF_give_97 : decode cF_give 97 = .ok (.invokevirtual 188, 3) := by decide +kernel
theorem dF_give_100 : decode cF_give 100 = .ok (.iconst 1, 1) := by decide +kernel
theorem dF_give_101 : decode cF_give 101 = .ok (.ireturn, 1) := by decide +kernel
theorem dF_hear_0 : decode cF_hear 0 = .ok (.iload_n 1, 1) := by decide +kernel
theorem dF_hear_1 : decode cF_hear 1 = .ok (.invokestatic 175, 3) := by decide +kernel
theorem dF_hear_4 : decode cF_hear 4 = .ok (.ifCond .eq 25, 3) := by decide +kernel
theorem dF_hear_7 : decode cF_hear 7 = .ok (.aload_n 0, 1) := by decide +kernel
theorem dF_hear_8 : decode cF_hear 8 = .ok (.iload_n 2, 1) := by decide +kernel
theorem dF_hear_9 : decode cF_hear 9 = .ok (.invokevirtual 113, 3) := by decide +kernel
theorem dF_hear_12 : decode cF_hear 12 = .ok (.ifCond .eq 17, 3) := by decide +kernel
theorem dF_hear_15 : decode cF_hear 15 = .ok (.aload_n 0, 1) := by decide +kernel
theorem dF_hear_16 : decode cF_hear 16 = .ok (.getfield 48, 3) := by decide +kernel
theorem dF_hear_19 : decode cF_hear 19 = .ok (.iload_n 1, 1) := by decide +kernel
theorem dF_hear_20 : decode cF_hear 20 = .ok (.aaload, 1) := by decide +kernel
theorem dF_hear_21 : decode cF_hear 21 = .ok (.getfield 192, 3) := by decide +kernel
theorem dF_hear_24 : decode cF_hear 24 = .ok (.iload_n 2, 1) := by decide +kernel
theorem dF_hear_25 : decode cF_hear 25 = .ok (.baload, 1) := by decide +kernel
theorem dF_hear_26 : decode cF_hear 26 = .ok (.ifCond .eq 5, 3) := by decide +kernel
theorem dF_hear_29 : decode cF_hear 29 = .ok (.iconst 0, 1) := by decide +kernel
theorem dF_hear_30 : decode cF_hear 30 = .ok (.ireturn, 1) := by decide +kernel
theorem dF_hear_31 : decode cF_hear 31 = .ok (.aload_n 0, 1) := by decide +kernel
theorem dF_hear_32 : decode cF_hear 32 = .ok (.aload_n 0, 1) := by decide +kernel
theorem dF_hear_33 : decode cF_hear 33 = .ok (.getfield 48, 3) := by decide +kernel
theorem dF_hear_36 : decode cF_hear 36 = .ok (.iload_n 1, 1) := by decide +kernel
theorem dF_hear_37 : decode cF_hear 37 = .ok (.aaload, 1) := by decide +kernel
theorem dF_hear_38 : decode cF_hear 38 = .ok (.iload_n 2, 1) := by decide +kernel
theorem dF_hear_39 : decode cF_hear 39 = .ok (.invokevirtual 196, 3) := by decide +kernel
theorem dF_hear_42 : decode cF_hear 42 = .ok (.iconst 1, 1) := by decide +kernel
theorem dF_hear_43 : decode cF_hear 43 = .ok (.ireturn, 1) := by decide +kernel
theorem dF_knows_0 : decode cF_knows 0 = .ok (.iload_n 1, 1) := by decide +kernel
theorem dF_knows_1 : decode cF_knows 1 = .ok (.invokestatic 175, 3) := by decide +kernel
theorem dF_knows_4 : decode cF_knows 4 = .ok (.ifCond .eq 28, 3) := by decide +kernel
theorem dF_knows_7 : decode cF_knows 7 = .ok (.aload_n 0, 1) := by decide +kernel
theorem dF_knows_8 : decode cF_knows 8 = .ok (.iload_n 2, 1) := by decide +kernel
theorem dF_knows_9 : decode cF_knows 9 = .ok (.invokevirtual 77, 3) := by decide +kernel
theorem dF_knows_12 : decode cF_knows 12 = .ok (.ifCond .eq 20, 3) := by decide +kernel
theorem dF_knows_15 : decode cF_knows 15 = .ok (.aload_n 0, 1) := by decide +kernel
theorem dF_knows_16 : decode cF_knows 16 = .ok (.getfield 48, 3) := by decide +kernel
theorem dF_knows_19 : decode cF_knows 19 = .ok (.iload_n 1, 1) := by decide +kernel
theorem dF_knows_20 : decode cF_knows 20 = .ok (.aaload, 1) := by decide +kernel
theorem dF_knows_21 : decode cF_knows 21 = .ok (.iload_n 2, 1) := by decide +kernel
theorem dF_knows_22 : decode cF_knows 22 = .ok (.invokevirtual 178, 3) := by decide +kernel
theorem dF_knows_25 : decode cF_knows 25 = .ok (.ifCond .eq 7, 3) := by decide +kernel
theorem dF_knows_28 : decode cF_knows 28 = .ok (.iconst 1, 1) := by decide +kernel
theorem dF_knows_29 : decode cF_knows 29 = .ok (.goto 4, 3) := by decide +kernel
theorem dF_knows_32 : decode cF_knows 32 = .ok (.iconst 0, 1) := by decide +kernel
theorem dF_knows_33 : decode cF_knows 33 = .ok (.ireturn, 1) := by decide +kernel
theorem dF_head_0 : decode cF_head 0 = .ok (.iload_n 1, 1) := by decide +kernel
theorem dF_head_1 : decode cF_head 1 = .ok (.invokestatic 175, 3) := by decide +kernel
theorem dF_head_4 : decode cF_head 4 = .ok (.ifCond .ne 5, 3) := by decide +kernel
theorem dF_head_7 : decode cF_head 7 = .ok (.iconst (-1), 1) := by decide +kernel
theorem dF_head_8 : decode cF_head 8 = .ok (.ireturn, 1) := by decide +kernel
theorem dF_head_9 : decode cF_head 9 = .ok (.aload_n 0, 1) := by decide +kernel
theorem dF_head_10 : decode cF_head 10 = .ok (.getfield 48, 3) := by decide +kernel
theorem dF_head_13 : decode cF_head 13 = .ok (.iload_n 1, 1) := by decide +kernel
theorem dF_head_14 : decode cF_head 14 = .ok (.aaload, 1) := by decide +kernel
theorem dF_head_15 : decode cF_head 15 = .ok (.getfield 200, 3) := by decide +kernel
theorem dF_head_18 : decode cF_head 18 = .ok (.invokestatic 160, 3) := by decide +kernel
theorem dF_head_21 : decode cF_head 21 = .ok (.istore_n 2, 1) := by decide +kernel
theorem dF_head_22 : decode cF_head 22 = .ok (.iconst 0, 1) := by decide +kernel
theorem dF_head_23 : decode cF_head 23 = .ok (.istore_n 3, 1) := by decide +kernel
theorem dF_head_24 : decode cF_head 24 = .ok (.iload_n 3, 1) := by decide +kernel
theorem dF_head_25 : decode cF_head 25 = .ok (.bipush 60, 2) := by decide +kernel
theorem dF_head_27 : decode cF_head 27 = .ok (.if_icmp .ge 34, 3) := by decide +kernel
theorem dF_head_30 : decode cF_head 30 = .ok (.aload_n 0, 1) := by decide +kernel
theorem dF_head_31 : decode cF_head 31 = .ok (.aload_n 0, 1) := by decide +kernel
theorem dF_head_32 : decode cF_head 32 = .ok (.getfield 48, 3) := by decide +kernel
theorem dF_head_35 : decode cF_head 35 = .ok (.iload_n 1, 1) := by decide +kernel
theorem dF_head_36 : decode cF_head 36 = .ok (.aaload, 1) := by decide +kernel
theorem dF_head_37 : decode cF_head 37 = .ok (.iload_n 2, 1) := by decide +kernel
theorem dF_head_38 : decode cF_head 38 = .ok (.invokevirtual 201, 3) := by decide +kernel
theorem dF_head_41 : decode cF_head 41 = .ok (.istore 4, 2) := by decide +kernel
theorem dF_head_43 : decode cF_head 43 = .ok (.iload 4, 2) := by decide +kernel
theorem dF_head_45 : decode cF_head 45 = .ok (.iconst (-1), 1) := by decide +kernel
theorem dF_head_46 : decode cF_head 46 = .ok (.if_icmp .ne 6, 3) := by decide +kernel
theorem dF_head_49 : decode cF_head 49 = .ok (.goto 12, 3) := by decide +kernel
theorem dF_head_52 : decode cF_head 52 = .ok (.iload 4, 2) := by decide +kernel
theorem dF_head_54 : decode cF_head 54 = .ok (.istore_n 2, 1) := by decide +kernel
theorem dF_head_55 : decode cF_head 55 = .ok (.iinc 3 1, 3) := by decide +kernel
theorem dF_head_58 : decode cF_head 58 = .ok (.goto (-34), 3) := by decide +kernel
theorem dF_head_61 : decode cF_head 61 = .ok (.iload_n 2, 1) := by decide +kernel
theorem dF_head_62 : decode cF_head 62 = .ok (.ireturn, 1) := by decide +kernel
theorem dF_checkpoint_0 : decode cF_checkpoint 0 = .ok (.iload_n 1, 1) := by decide +kernel
theorem dF_checkpoint_1 : decode cF_checkpoint 1 = .ok (.invokestatic 175, 3) := by decide +kernel
theorem dF_checkpoint_4 : decode cF_checkpoint 4 = .ok (.ifCond .ne 5, 3) := by decide +kernel
theorem dF_checkpoint_7 : decode cF_checkpoint 7 = .ok (.iconst (-1), 1) := by decide +kernel
theorem dF_checkpoint_8 : decode cF_checkpoint 8 = .ok (.ireturn, 1) := by decide +kernel
theorem dF_checkpoint_9 : decode cF_checkpoint 9 = .ok (.iload_n 2, 1) := by decide +kernel
theorem dF_checkpoint_10 : decode cF_checkpoint 10 = .ok (.tableswitch 82 0 3 #[30, 43, 56, 69], 30) := by decide +kernel
theorem dF_checkpoint_40 : decode cF_checkpoint 40 = .ok (.aload_n 0, 1) := by decide +kernel
theorem dF_checkpoint_41 : decode cF_checkpoint 41 = .ok (.getfield 48, 3) := by decide +kernel
theorem dF_checkpoint_44 : decode cF_checkpoint 44 = .ok (.iload_n 1, 1) := by decide +kernel
theorem dF_checkpoint_45 : decode cF_checkpoint 45 = .ok (.aaload, 1) := by decide +kernel
theorem dF_checkpoint_46 : decode cF_checkpoint 46 = .ok (.getfield 200, 3) := by decide +kernel
theorem dF_checkpoint_49 : decode cF_checkpoint 49 = .ok (.invokestatic 92, 3) := by decide +kernel
theorem dF_checkpoint_52 : decode cF_checkpoint 52 = .ok (.ireturn, 1) := by decide +kernel
theorem dF_checkpoint_53 : decode cF_checkpoint 53 = .ok (.aload_n 0, 1) := by decide +kernel
theorem dF_checkpoint_54 : decode cF_checkpoint 54 = .ok (.getfield 48, 3) := by decide +kernel
theorem dF_checkpoint_57 : decode cF_checkpoint 57 = .ok (.iload_n 1, 1) := by decide +kernel
theorem dF_checkpoint_58 : decode cF_checkpoint 58 = .ok (.aaload, 1) := by decide +kernel
theorem dF_checkpoint_59 : decode cF_checkpoint 59 = .ok (.getfield 200, 3) := by decide +kernel
theorem dF_checkpoint_62 : decode cF_checkpoint 62 = .ok (.invokestatic 160, 3) := by decide +kernel
theorem dF_checkpoint_65 : decode cF_checkpoint 65 = .ok (.ireturn, 1) := by decide +kernel
theorem dF_checkpoint_66 : decode cF_checkpoint 66 = .ok (.aload_n 0, 1) := by decide +kernel
theorem dF_checkpoint_67 : decode cF_checkpoint 67 = .ok (.getfield 48, 3) := by decide +kernel
theorem dF_checkpoint_70 : decode cF_checkpoint 70 = .ok (.iload_n 1, 1) := by decide +kernel
theorem dF_checkpoint_71 : decode cF_checkpoint 71 = .ok (.aaload, 1) := by decide +kernel
theorem dF_checkpoint_72 : decode cF_checkpoint 72 = .ok (.getfield 205, 3) := by decide +kernel
theorem dF_checkpoint_75 : decode cF_checkpoint 75 = .ok (.invokestatic 92, 3) := by decide +kernel
theorem dF_checkpoint_78 : decode cF_checkpoint 78 = .ok (.ireturn, 1) := by decide +kernel
theorem dF_checkpoint_79 : decode cF_checkpoint 79 = .ok (.aload_n 0, 1) := by decide +kernel
theorem dF_checkpoint_80 : decode cF_checkpoint 80 = .ok (.getfield 48, 3) := by decide +kernel
theorem dF_checkpoint_83 : decode cF_checkpoint 83 = .ok (.iload_n 1, 1) := by decide +kernel
theorem dF_checkpoint_84 : decode cF_checkpoint 84 = .ok (.aaload, 1) := by decide +kernel
theorem dF_checkpoint_85 : decode cF_checkpoint 85 = .ok (.getfield 205, 3) := by decide +kernel
theorem dF_checkpoint_88 : decode cF_checkpoint 88 = .ok (.invokestatic 160, 3) := by decide +kernel
theorem dF_checkpoint_91 : decode cF_checkpoint 91 = .ok (.ireturn, 1) := by decide +kernel
theorem dF_checkpoint_92 : decode cF_checkpoint 92 = .ok (.iconst (-1), 1) := by decide +kernel
theorem dF_checkpoint_93 : decode cF_checkpoint 93 = .ok (.ireturn, 1) := by decide +kernel
theorem dF_conflict_0 : decode cF_conflict 0 = .ok (.iload_n 1, 1) := by decide +kernel
theorem dF_conflict_1 : decode cF_conflict 1 = .ok (.invokestatic 175, 3) := by decide +kernel
theorem dF_conflict_4 : decode cF_conflict 4 = .ok (.ifCond .eq 10, 3) := by decide +kernel
theorem dF_conflict_7 : decode cF_conflict 7 = .ok (.iload_n 2, 1) := by decide +kernel
theorem dF_conflict_8 : decode cF_conflict 8 = .ok (.invokestatic 175, 3) := by decide +kernel
theorem dF_conflict_11 : decode cF_conflict 11 = .ok (.ifCond .ne 5, 3) := by decide +kernel
theorem dF_conflict_14 : decode cF_conflict 14 = .ok (.iconst 0, 1) := by decide +kernel
theorem dF_conflict_15 : decode cF_conflict 15 = .ok (.ireturn, 1) := by decide +kernel
theorem dF_conflict_16 : decode cF_conflict 16 = .ok (.aload_n 0, 1) := by decide +kernel
theorem dF_conflict_17 : decode cF_conflict 17 = .ok (.getfield 48, 3) := by decide +kernel
theorem dF_conflict_20 : decode cF_conflict 20 = .ok (.iload_n 1, 1) := by decide +kernel
theorem dF_conflict_21 : decode cF_conflict 21 = .ok (.aaload, 1) := by decide +kernel
theorem dF_conflict_22 : decode cF_conflict 22 = .ok (.getfield 205, 3) := by decide +kernel
theorem dF_conflict_25 : decode cF_conflict 25 = .ok (.invokestatic 160, 3) := by decide +kernel
theorem dF_conflict_28 : decode cF_conflict 28 = .ok (.istore_n 3, 1) := by decide +kernel
theorem dF_conflict_29 : decode cF_conflict 29 = .ok (.aload_n 0, 1) := by decide +kernel
theorem dF_conflict_30 : decode cF_conflict 30 = .ok (.getfield 48, 3) := by decide +kernel
theorem dF_conflict_33 : decode cF_conflict 33 = .ok (.iload_n 2, 1) := by decide +kernel
theorem dF_conflict_34 : decode cF_conflict 34 = .ok (.aaload, 1) := by decide +kernel
theorem dF_conflict_35 : decode cF_conflict 35 = .ok (.getfield 205, 3) := by decide +kernel
theorem dF_conflict_38 : decode cF_conflict 38 = .ok (.invokestatic 160, 3) := by decide +kernel
theorem dF_conflict_41 : decode cF_conflict 41 = .ok (.istore 4, 2) := by decide +kernel
theorem dF_conflict_43 : decode cF_conflict 43 = .ok (.aload_n 0, 1) := by decide +kernel
theorem dF_conflict_44 : decode cF_conflict 44 = .ok (.iload_n 3, 1) := by decide +kernel
theorem dF_conflict_45 : decode cF_conflict 45 = .ok (.iload 4, 2) := by decide +kernel
theorem dF_conflict_47 : decode cF_conflict 47 = .ok (.invokevirtual 206, 3) := by decide +kernel
theorem dF_conflict_50 : decode cF_conflict 50 = .ok (.ifCond .ne 17, 3) := by decide +kernel
theorem dF_conflict_53 : decode cF_conflict 53 = .ok (.aload_n 0, 1) := by decide +kernel
theorem dF_conflict_54 : decode cF_conflict 54 = .ok (.iload 4, 2) := by decide +kernel
theorem dF_conflict_56 : decode cF_conflict 56 = .ok (.iload_n 3, 1) := by decide +kernel
theorem dF_conflict_57 : decode cF_conflict 57 = .ok (.invokevirtual 206, 3) := by decide +kernel
theorem dF_conflict_60 : decode cF_conflict 60 = .ok (.ifCond .ne 7, 3) := by decide +kernel
theorem dF_conflict_63 : decode cF_conflict 63 = .ok (.iconst 1, 1) := by decide +kernel
theorem dF_conflict_64 : decode cF_conflict 64 = .ok (.goto 4, 3) := by decide +kernel
theorem dF_conflict_67 : decode cF_conflict 67 = .ok (.iconst 0, 1) := by decide +kernel
theorem dF_conflict_68 : decode cF_conflict 68 = .ok (.ireturn, 1) := by decide +kernel
theorem dF_guilty_0 : decode cF_guilty 0 = .ok (.iconst 0, 1) := by decide +kernel
theorem dF_guilty_1 : decode cF_guilty 1 = .ok (.istore_n 3, 1) := by decide +kernel
theorem dF_guilty_2 : decode cF_guilty 2 = .ok (.iconst 0, 1) := by decide +kernel
theorem dF_guilty_3 : decode cF_guilty 3 = .ok (.istore 4, 2) := by decide +kernel
theorem dF_guilty_5 : decode cF_guilty 5 = .ok (.iload 4, 2) := by decide +kernel
theorem dF_guilty_7 : decode cF_guilty 7 = .ok (.aload_n 0, 1) := by decide +kernel
theorem dF_guilty_8 : decode cF_guilty 8 = .ok (.getfield 18, 3) := by decide +kernel
theorem dF_guilty_11 : decode cF_guilty 11 = .ok (.if_icmp .ge 28, 3) := by decide +kernel
theorem dF_guilty_14 : decode cF_guilty 14 = .ok (.aload_n 0, 1) := by decide +kernel
theorem dF_guilty_15 : decode cF_guilty 15 = .ok (.iload 4, 2) := by decide +kernel
theorem dF_guilty_17 : decode cF_guilty 17 = .ok (.iload_n 1, 1) := by decide +kernel
theorem dF_guilty_18 : decode cF_guilty 18 = .ok (.iload_n 2, 1) := by decide +kernel
theorem dF_guilty_19 : decode cF_guilty 19 = .ok (.invokevirtual 209, 3) := by decide +kernel
theorem dF_guilty_22 : decode cF_guilty 22 = .ok (.iconst (-1), 1) := by decide +kernel
theorem dF_guilty_23 : decode cF_guilty 23 = .ok (.if_icmp .eq 10, 3) := by decide +kernel
theorem dF_guilty_26 : decode cF_guilty 26 = .ok (.iload_n 3, 1) := by decide +kernel
theorem dF_guilty_27 : decode cF_guilty 27 = .ok (.iconst 1, 1) := by decide +kernel
theorem dF_guilty_28 : decode cF_guilty 28 = .ok (.iload 4, 2) := by decide +kernel
theorem dF_guilty_30 : decode cF_guilty 30 = .ok (.ishl, 1) := by decide +kernel
theorem dF_guilty_31 : decode cF_guilty 31 = .ok (.ior, 1) := by decide +kernel
theorem dF_guilty_32 : decode cF_guilty 32 = .ok (.istore_n 3, 1) := by decide +kernel
theorem dF_guilty_33 : decode cF_guilty 33 = .ok (.iinc 4 1, 3) := by decide +kernel
theorem dF_guilty_36 : decode cF_guilty 36 = .ok (.goto (-31), 3) := by decide +kernel
theorem dF_guilty_39 : decode cF_guilty 39 = .ok (.aload_n 0, 1) := by decide +kernel
theorem dF_guilty_40 : decode cF_guilty 40 = .ok (.iload_n 3, 1) := by decide +kernel
theorem dF_guilty_41 : decode cF_guilty 41 = .ok (.invokevirtual 172, 3) := by decide +kernel
theorem dF_guilty_44 : decode cF_guilty 44 = .ok (.ireturn, 1) := by decide +kernel
theorem dF_proof_0 : decode cF_proof 0 = .ok (.aload_n 0, 1) := by decide +kernel
theorem dF_proof_1 : decode cF_proof 1 = .ok (.iload_n 1, 1) := by decide +kernel
theorem dF_proof_2 : decode cF_proof 2 = .ok (.invokevirtual 73, 3) := by decide +kernel
theorem dF_proof_5 : decode cF_proof 5 = .ok (.ifCond .ne 5, 3) := by decide +kernel
theorem dF_proof_8 : decode cF_proof 8 = .ok (.iconst (-1), 1) := by decide +kernel
theorem dF_proof_9 : decode cF_proof 9 = .ok (.ireturn, 1) := by decide +kernel
theorem dF_proof_10 : decode cF_proof 10 = .ok (.aload_n 0, 1) := by decide +kernel
theorem dF_proof_11 : decode cF_proof 11 = .ok (.iload_n 1, 1) := by decide +kernel
theorem dF_proof_12 : decode cF_proof 12 = .ok (.bipush 7, 2) := by decide +kernel
theorem dF_proof_14 : decode cF_proof 14 = .ok (.iconst 0, 1) := by decide +kernel
theorem dF_proof_15 : decode cF_proof 15 = .ok (.invokevirtual 209, 3) := by decide +kernel
theorem dF_proof_18 : decode cF_proof 18 = .ok (.istore_n 2, 1) := by decide +kernel
theorem dF_proof_19 : decode cF_proof 19 = .ok (.iload_n 2, 1) := by decide +kernel
theorem dF_proof_20 : decode cF_proof 20 = .ok (.iconst (-1), 1) := by decide +kernel
theorem dF_proof_21 : decode cF_proof 21 = .ok (.if_icmp .ne 8, 3) := by decide +kernel
theorem dF_proof_24 : decode cF_proof 24 = .ok (.bipush (-3), 2) := by decide +kernel
theorem dF_proof_26 : decode cF_proof 26 = .ok (.goto 4, 3) := by decide +kernel
theorem dF_proof_29 : decode cF_proof 29 = .ok (.iload_n 2, 1) := by decide +kernel
theorem dF_proof_30 : decode cF_proof 30 = .ok (.ireturn, 1) := by decide +kernel
theorem dF_isValidator_0 : decode cF_isValidator 0 = .ok (.iload_n 1, 1) := by decide +kernel
theorem dF_isValidator_1 : decode cF_isValidator 1 = .ok (.ifCond .lt 15, 3) := by decide +kernel
theorem dF_isValidator_4 : decode cF_isValidator 4 = .ok (.iload_n 1, 1) := by decide +kernel
theorem dF_isValidator_5 : decode cF_isValidator 5 = .ok (.aload_n 0, 1) := by decide +kernel
theorem dF_isValidator_6 : decode cF_isValidator 6 = .ok (.getfield 18, 3) := by decide +kernel
theorem dF_isValidator_9 : decode cF_isValidator 9 = .ok (.if_icmp .ge 7, 3) := by decide +kernel
theorem dF_isValidator_12 : decode cF_isValidator 12 = .ok (.iconst 1, 1) := by decide +kernel
theorem dF_isValidator_13 : decode cF_isValidator 13 = .ok (.goto 4, 3) := by decide +kernel
theorem dF_isValidator_16 : decode cF_isValidator 16 = .ok (.iconst 0, 1) := by decide +kernel
theorem dF_isValidator_17 : decode cF_isValidator 17 = .ok (.ireturn, 1) := by decide +kernel
theorem dF_isBlock_0 : decode cF_isBlock 0 = .ok (.iload_n 1, 1) := by decide +kernel
theorem dF_isBlock_1 : decode cF_isBlock 1 = .ok (.ifCond .lt 15, 3) := by decide +kernel
theorem dF_isBlock_4 : decode cF_isBlock 4 = .ok (.iload_n 1, 1) := by decide +kernel
theorem dF_isBlock_5 : decode cF_isBlock 5 = .ok (.aload_n 0, 1) := by decide +kernel
theorem dF_isBlock_6 : decode cF_isBlock 6 = .ok (.getfield 67, 3) := by decide +kernel
theorem dF_isBlock_9 : decode cF_isBlock 9 = .ok (.if_icmp .ge 7, 3) := by decide +kernel
theorem dF_isBlock_12 : decode cF_isBlock 12 = .ok (.iconst 1, 1) := by decide +kernel
theorem dF_isBlock_13 : decode cF_isBlock 13 = .ok (.goto 4, 3) := by decide +kernel
theorem dF_isBlock_16 : decode cF_isBlock 16 = .ok (.iconst 0, 1) := by decide +kernel
theorem dF_isBlock_17 : decode cF_isBlock 17 = .ok (.ireturn, 1) := by decide +kernel
theorem dF_isVote_0 : decode cF_isVote 0 = .ok (.iload_n 1, 1) := by decide +kernel
theorem dF_isVote_1 : decode cF_isVote 1 = .ok (.ifCond .lt 15, 3) := by decide +kernel
theorem dF_isVote_4 : decode cF_isVote 4 = .ok (.iload_n 1, 1) := by decide +kernel
theorem dF_isVote_5 : decode cF_isVote 5 = .ok (.aload_n 0, 1) := by decide +kernel
theorem dF_isVote_6 : decode cF_isVote 6 = .ok (.getfield 70, 3) := by decide +kernel
theorem dF_isVote_9 : decode cF_isVote 9 = .ok (.if_icmp .ge 7, 3) := by decide +kernel
theorem dF_isVote_12 : decode cF_isVote 12 = .ok (.iconst 1, 1) := by decide +kernel
theorem dF_isVote_13 : decode cF_isVote 13 = .ok (.goto 4, 3) := by decide +kernel
theorem dF_isVote_16 : decode cF_isVote 16 = .ok (.iconst 0, 1) := by decide +kernel
theorem dF_isVote_17 : decode cF_isVote 17 = .ok (.ireturn, 1) := by decide +kernel
theorem dF_isNode_0 : decode cF_isNode 0 = .ok (.iload_n 0, 1) := by decide +kernel
theorem dF_isNode_1 : decode cF_isNode 1 = .ok (.ifCond .lt 12, 3) := by decide +kernel
theorem dF_isNode_4 : decode cF_isNode 4 = .ok (.iload_n 0, 1) := by decide +kernel
theorem dF_isNode_5 : decode cF_isNode 5 = .ok (.iconst 3, 1) := by decide +kernel
theorem dF_isNode_6 : decode cF_isNode 6 = .ok (.if_icmp .ge 7, 3) := by decide +kernel
theorem dF_isNode_9 : decode cF_isNode 9 = .ok (.iconst 1, 1) := by decide +kernel
theorem dF_isNode_10 : decode cF_isNode 10 = .ok (.goto 4, 3) := by decide +kernel
theorem dF_isNode_13 : decode cF_isNode 13 = .ok (.iconst 0, 1) := by decide +kernel
theorem dF_isNode_14 : decode cF_isNode 14 = .ok (.ireturn, 1) := by decide +kernel
theorem dF_isIn_0 : decode cF_isIn 0 = .ok (.iload_n 0, 1) := by decide +kernel
theorem dF_isIn_1 : decode cF_isIn 1 = .ok (.iload_n 1, 1) := by decide +kernel
theorem dF_isIn_2 : decode cF_isIn 2 = .ok (.ishr, 1) := by decide +kernel
theorem dF_isIn_3 : decode cF_isIn 3 = .ok (.iconst 1, 1) := by decide +kernel
theorem dF_isIn_4 : decode cF_isIn 4 = .ok (.iand, 1) := by decide +kernel
theorem dF_isIn_5 : decode cF_isIn 5 = .ok (.ifCond .eq 7, 3) := by decide +kernel
theorem dF_isIn_8 : decode cF_isIn 8 = .ok (.iconst 1, 1) := by decide +kernel
theorem dF_isIn_9 : decode cF_isIn 9 = .ok (.goto 4, 3) := by decide +kernel
theorem dF_isIn_12 : decode cF_isIn 12 = .ok (.iconst 0, 1) := by decide +kernel
theorem dF_isIn_13 : decode cF_isIn 13 = .ok (.ireturn, 1) := by decide +kernel
theorem dF_checkpointOf_0 : decode cF_checkpointOf 0 = .ok (.iload_n 0, 1) := by decide +kernel
theorem dF_checkpointOf_1 : decode cF_checkpointOf 1 = .ok (.bipush 6, 2) := by decide +kernel
theorem dF_checkpointOf_3 : decode cF_checkpointOf 3 = .ok (.ishl, 1) := by decide +kernel
theorem dF_checkpointOf_4 : decode cF_checkpointOf 4 = .ok (.iload_n 1, 1) := by decide +kernel
theorem dF_checkpointOf_5 : decode cF_checkpointOf 5 = .ok (.ior, 1) := by decide +kernel
theorem dF_checkpointOf_6 : decode cF_checkpointOf 6 = .ok (.ireturn, 1) := by decide +kernel
theorem dF_epochOf_0 : decode cF_epochOf 0 = .ok (.iload_n 0, 1) := by decide +kernel
theorem dF_epochOf_1 : decode cF_epochOf 1 = .ok (.bipush 6, 2) := by decide +kernel
theorem dF_epochOf_3 : decode cF_epochOf 3 = .ok (.ishr, 1) := by decide +kernel
theorem dF_epochOf_4 : decode cF_epochOf 4 = .ok (.ireturn, 1) := by decide +kernel
theorem dF_blockOf_0 : decode cF_blockOf 0 = .ok (.iload_n 0, 1) := by decide +kernel
theorem dF_blockOf_1 : decode cF_blockOf 1 = .ok (.bipush 63, 2) := by decide +kernel
theorem dF_blockOf_3 : decode cF_blockOf 3 = .ok (.iand, 1) := by decide +kernel
theorem dF_blockOf_4 : decode cF_blockOf 4 = .ok (.ireturn, 1) := by decide +kernel
theorem dF_descends_0 : decode cF_descends 0 = .ok (.aload_n 0, 1) := by decide +kernel
theorem dF_descends_1 : decode cF_descends 1 = .ok (.getfield 34, 3) := by decide +kernel
theorem dF_descends_4 : decode cF_descends 4 = .ok (.iload_n 1, 1) := by decide +kernel
theorem dF_descends_5 : decode cF_descends 5 = .ok (.aaload, 1) := by decide +kernel
theorem dF_descends_6 : decode cF_descends 6 = .ok (.getfield 150, 3) := by decide +kernel
theorem dF_descends_9 : decode cF_descends 9 = .ok (.iload_n 2, 1) := by decide +kernel
theorem dF_descends_10 : decode cF_descends 10 = .ok (.lshr, 1) := by decide +kernel
theorem dF_descends_11 : decode cF_descends 11 = .ok (.lconst 1, 1) := by decide +kernel
theorem dF_descends_12 : decode cF_descends 12 = .ok (.land, 1) := by decide +kernel
theorem dF_descends_13 : decode cF_descends 13 = .ok (.lconst 0, 1) := by decide +kernel
theorem dF_descends_14 : decode cF_descends 14 = .ok (.lcmp, 1) := by decide +kernel
theorem dF_descends_15 : decode cF_descends 15 = .ok (.ifCond .eq 7, 3) := by decide +kernel
theorem dF_descends_18 : decode cF_descends 18 = .ok (.iconst 1, 1) := by decide +kernel
theorem dF_descends_19 : decode cF_descends 19 = .ok (.goto 4, 3) := by decide +kernel
theorem dF_descends_22 : decode cF_descends 22 = .ok (.iconst 0, 1) := by decide +kernel
theorem dF_descends_23 : decode cF_descends 23 = .ok (.ireturn, 1) := by decide +kernel
theorem dF_checkpointOn_0 : decode cF_checkpointOn 0 = .ok (.iconst 0, 1) := by decide +kernel
theorem dF_checkpointOn_1 : decode cF_checkpointOn 1 = .ok (.istore_n 3, 1) := by decide +kernel
theorem dF_checkpointOn_2 : decode cF_checkpointOn 2 = .ok (.iconst 0, 1) := by decide +kernel
theorem dF_checkpointOn_3 : decode cF_checkpointOn 3 = .ok (.istore 4, 2) := by decide +kernel
theorem dF_checkpointOn_5 : decode cF_checkpointOn 5 = .ok (.iload 4, 2) := by decide +kernel
theorem dF_checkpointOn_7 : decode cF_checkpointOn 7 = .ok (.iload_n 1, 1) := by decide +kernel
theorem dF_checkpointOn_8 : decode cF_checkpointOn 8 = .ok (.if_icmp .gt 41, 3) := by decide +kernel
theorem dF_checkpointOn_11 : decode cF_checkpointOn 11 = .ok (.aload_n 0, 1) := by decide +kernel
theorem dF_checkpointOn_12 : decode cF_checkpointOn 12 = .ok (.iload_n 1, 1) := by decide +kernel
theorem dF_checkpointOn_13 : decode cF_checkpointOn 13 = .ok (.iload 4, 2) := by decide +kernel
theorem dF_checkpointOn_15 : decode cF_checkpointOn 15 = .ok (.invokevirtual 206, 3) := by decide +kernel
theorem dF_checkpointOn_18 : decode cF_checkpointOn 18 = .ok (.ifCond .eq 25, 3) := by decide +kernel
theorem dF_checkpointOn_21 : decode cF_checkpointOn 21 = .ok (.aload_n 0, 1) := by decide +kernel
theorem dF_checkpointOn_22 : decode cF_checkpointOn 22 = .ok (.getfield 34, 3) := by decide +kernel
theorem dF_checkpointOn_25 : decode cF_checkpointOn 25 = .ok (.iload 4, 2) := by decide +kernel
theorem dF_checkpointOn_27 : decode cF_checkpointOn 27 = .ok (.aaload, 1) := by decide +kernel
theorem dF_checkpointOn_28 : decode cF_checkpointOn 28 = .ok (.getfield 89, 3) := by decide +kernel
theorem dF_checkpointOn_31 : decode cF_checkpointOn 31 = .ok (.iload_n 2, 1) := by decide +kernel
theorem dF_checkpointOn_32 : decode cF_checkpointOn 32 = .ok (.aload_n 0, 1) := by decide +kernel
theorem dF_checkpointOn_33 : decode cF_checkpointOn 33 = .ok (.getfield 22, 3) := by decide +kernel
theorem dF_checkpointOn_36 : decode cF_checkpointOn 36 = .ok (.imul, 1) := by decide +kernel
theorem dF_checkpointOn_37 : decode cF_checkpointOn 37 = .ok (.if_icmp .gt 6, 3) := by decide +kernel
theorem dF_checkpointOn_40 : decode cF_checkpointOn 40 = .ok (.iload 4, 2) := by decide +kernel
theorem dF_checkpointOn_42 : decode cF_checkpointOn 42 = .ok (.istore_n 3, 1) := by decide +kernel
theorem dF_checkpointOn_43 : decode cF_checkpointOn 43 = .ok (.iinc 4 1, 3) := by decide +kernel
theorem dF_checkpointOn_46 : decode cF_checkpointOn 46 = .ok (.goto (-41), 3) := by decide +kernel
theorem dF_checkpointOn_49 : decode cF_checkpointOn 49 = .ok (.iload_n 2, 1) := by decide +kernel
theorem dF_checkpointOn_50 : decode cF_checkpointOn 50 = .ok (.iload_n 3, 1) := by decide +kernel
theorem dF_checkpointOn_51 : decode cF_checkpointOn 51 = .ok (.invokestatic 213, 3) := by decide +kernel
theorem dF_checkpointOn_54 : decode cF_checkpointOn 54 = .ok (.ireturn, 1) := by decide +kernel
theorem dF_weightOf_0 : decode cF_weightOf 0 = .ok (.iconst 0, 1) := by decide +kernel
theorem dF_weightOf_1 : decode cF_weightOf 1 = .ok (.istore_n 2, 1) := by decide +kernel
theorem dF_weightOf_2 : decode cF_weightOf 2 = .ok (.iconst 0, 1) := by decide +kernel
theorem dF_weightOf_3 : decode cF_weightOf 3 = .ok (.istore_n 3, 1) := by decide +kernel
theorem dF_weightOf_4 : decode cF_weightOf 4 = .ok (.iload_n 3, 1) := by decide +kernel
theorem dF_weightOf_5 : decode cF_weightOf 5 = .ok (.aload_n 0, 1) := by decide +kernel
theorem dF_weightOf_6 : decode cF_weightOf 6 = .ok (.getfield 18, 3) := by decide +kernel
theorem dF_weightOf_9 : decode cF_weightOf 9 = .ok (.if_icmp .ge 26, 3) := by decide +kernel
theorem dF_weightOf_12 : decode cF_weightOf 12 = .ok (.iload_n 1, 1) := by decide +kernel
theorem dF_weightOf_13 : decode cF_weightOf 13 = .ok (.iload_n 3, 1) := by decide +kernel
theorem dF_weightOf_14 : decode cF_weightOf 14 = .ok (.invokestatic 129, 3) := by decide +kernel
theorem dF_weightOf_17 : decode cF_weightOf 17 = .ok (.ifCond .eq 12, 3) := by decide +kernel
theorem dF_weightOf_20 : decode cF_weightOf 20 = .ok (.iload_n 2, 1) := by decide +kernel
theorem dF_weightOf_21 : decode cF_weightOf 21 = .ok (.aload_n 0, 1) := by decide +kernel
theorem dF_weightOf_22 : decode cF_weightOf 22 = .ok (.getfield 25, 3) := by decide +kernel
theorem dF_weightOf_25 : decode cF_weightOf 25 = .ok (.iload_n 3, 1) := by decide +kernel
theorem dF_weightOf_26 : decode cF_weightOf 26 = .ok (.iaload, 1) := by decide +kernel
theorem dF_weightOf_27 : decode cF_weightOf 27 = .ok (.iadd, 1) := by decide +kernel
theorem dF_weightOf_28 : decode cF_weightOf 28 = .ok (.istore_n 2, 1) := by decide +kernel
theorem dF_weightOf_29 : decode cF_weightOf 29 = .ok (.iinc 3 1, 3) := by decide +kernel
theorem dF_weightOf_32 : decode cF_weightOf 32 = .ok (.goto (-28), 3) := by decide +kernel
theorem dF_weightOf_35 : decode cF_weightOf 35 = .ok (.iload_n 2, 1) := by decide +kernel
theorem dF_weightOf_36 : decode cF_weightOf 36 = .ok (.ireturn, 1) := by decide +kernel
