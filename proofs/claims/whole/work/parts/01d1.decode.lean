theorem dF_voteAlike_0 : decode cF_voteAlike 0 = .ok (.iconst 0, 1) := by decide +kernel
theorem dF_voteAlike_1 : decode cF_voteAlike 1 = .ok (.istore 4, 2) := by decide +kernel
theorem dF_voteAlike_3 : decode cF_voteAlike 3 = .ok (.iload 4, 2) := by decide +kernel
theorem dF_voteAlike_5 : decode cF_voteAlike 5 = .ok (.aload_n 0, 1) := by decide +kernel
theorem dF_voteAlike_6 : decode cF_voteAlike 6 = .ok (.getfield 70, 3) := by decide +kernel
theorem dF_voteAlike_9 : decode cF_voteAlike 9 = .ok (.if_icmp .ge 54, 3) := by decide +kernel
theorem dF_voteAlike_12 : decode cF_voteAlike 12 = .ok (.aload_n 0, 1) := by decide +kernel
theorem dF_voteAlike_13 : decode cF_voteAlike 13 = .ok (.getfield 41, 3) := by decide +kernel
theorem dF_voteAlike_16 : decode cF_voteAlike 16 = .ok (.iload 4, 2) := by decide +kernel
theorem dF_voteAlike_18 : decode cF_voteAlike 18 = .ok (.aaload, 1) := by decide +kernel
theorem dF_voteAlike_19 : decode cF_voteAlike 19 = .ok (.getfield 100, 3) := by decide +kernel
theorem dF_voteAlike_22 : decode cF_voteAlike 22 = .ok (.iload_n 1, 1) := by decide +kernel
theorem dF_voteAlike_23 : decode cF_voteAlike 23 = .ok (.if_icmp .ne 34, 3) := by decide +kernel
theorem dF_voteAlike_26 : decode cF_voteAlike 26 = .ok (.aload_n 0, 1) := by decide +kernel
theorem dF_voteAlike_27 : decode cF_voteAlike 27 = .ok (.getfield 41, 3) := by decide +kernel
theorem dF_voteAlike_30 : decode cF_voteAlike 30 = .ok (.iload 4, 2) := by decide +kernel
theorem dF_voteAlike_32 : decode cF_voteAlike 32 = .ok (.aaload, 1) := by decide +kernel
theorem dF_voteAlike_33 : decode cF_voteAlike 33 = .ok (.getfield 104, 3) := by decide +kernel
theorem dF_voteAlike_36 : decode cF_voteAlike 36 = .ok (.iload_n 2, 1) := by decide +kernel
theorem dF_voteAlike_37 : decode cF_voteAlike 37 = .ok (.if_icmp .ne 20, 3) := by decide +kernel
theorem dF_voteAlike_40 : decode cF_voteAlike 40 = .ok (.aload_n 0, 1) := by decide +kernel
theorem dF_voteAlike_41 : decode cF_voteAlike 41 = .ok (.getfield 41, 3) := by decide +kernel
theorem dF_voteAlike_44 : decode cF_voteAlike 44 = .ok (.iload 4, 2) := by decide +kernel
theorem dF_voteAlike_46 : decode cF_voteAlike 46 = .ok (.aaload, 1) := by decide +kernel
theorem dF_voteAlike_47 : decode cF_voteAlike 47 = .ok (.getfield 103, 3) := by decide +kernel
theorem dF_voteAlike_50 : decode cF_voteAlike 50 = .ok (.iload_n 3, 1) := by decide +kernel
theorem dF_voteAlike_51 : decode cF_voteAlike 51 = .ok (.if_icmp .ne 6, 3) := by decide +kernel
theorem dF_voteAlike_54 : decode cF_voteAlike 54 = .ok (.iload 4, 2) := by decide +kernel
theorem dF_voteAlike_56 : decode cF_voteAlike 56 = .ok (.ireturn, 1) := by decide +kernel
theorem dF_voteAlike_57 : decode cF_voteAlike 57 = .ok (.iinc 4 1, 3) := by decide +kernel
theorem dF_voteAlike_60 : decode cF_voteAlike 60 = .ok (.goto (-57), 3) := by decide +kernel
theorem dF_voteAlike_63 : decode cF_voteAlike 63 = .ok (.iconst (-1), 1) := by decide +kernel
theorem dF_voteAlike_64 : decode cF_voteAlike 64 = .ok (.ireturn, 1) := by decide +kernel
theorem dF_clash_0 : decode cF_clash 0 = .ok (.aload_n 0, 1) := by decide +kernel
theorem dF_clash_1 : decode cF_clash 1 = .ok (.getfield 41, 3) := by decide +kernel
theorem dF_clash_4 : decode cF_clash 4 = .ok (.iload_n 1, 1) := by decide +kernel
theorem dF_clash_5 : decode cF_clash 5 = .ok (.aaload, 1) := by decide +kernel
theorem dF_clash_6 : decode cF_clash 6 = .ok (.astore_n 3, 1) := by decide +kernel
theorem dF_clash_7 : decode cF_clash 7 = .ok (.aload_n 0, 1) := by decide +kernel
theorem dF_clash_8 : decode cF_clash 8 = .ok (.getfield 41, 3) := by decide +kernel
theorem dF_clash_11 : decode cF_clash 11 = .ok (.iload_n 2, 1) := by decide +kernel
theorem dF_clash_12 : decode cF_clash 12 = .ok (.aaload, 1) := by decide +kernel
theorem dF_clash_13 : decode cF_clash 13 = .ok (.astore 4, 2) := by decide +kernel
theorem dF_clash_15 : decode cF_clash 15 = .ok (.iload_n 1, 1) := by decide +kernel
theorem dF_clash_16 : decode cF_clash 16 = .ok (.iload_n 2, 1) := by decide +kernel
theorem dF_clash_17 : decode cF_clash 17 = .ok (.if_icmp .eq 15, 3) := by decide +kernel
theorem dF_clash_20 : decode cF_clash 20 = .ok (.aload_n 3, 1) := by decide +kernel
theorem dF_clash_21 : decode cF_clash 21 = .ok (.getfield 100, 3) := by decide +kernel
theorem dF_clash_24 : decode cF_clash 24 = .ok (.aload 4, 2) := by decide +kernel
theorem dF_clash_26 : decode cF_clash 26 = .ok (.getfield 100, 3) := by decide +kernel
theorem dF_clash_29 : decode cF_clash 29 = .ok (.if_icmp .eq 5, 3) := by decide +kernel
theorem dF_clash_32 : decode cF_clash 32 = .ok (.iconst 0, 1) := by decide +kernel
theorem dF_clash_33 : decode cF_clash 33 = .ok (.ireturn, 1) := by decide +kernel
theorem dF_clash_34 : decode cF_clash 34 = .ok (.aload_n 3, 1) := by decide +kernel
theorem dF_clash_35 : decode cF_clash 35 = .ok (.getfield 110, 3) := by decide +kernel
theorem dF_clash_38 : decode cF_clash 38 = .ok (.invokestatic 92, 3) := by decide +kernel
theorem dF_clash_41 : decode cF_clash 41 = .ok (.aload 4, 2) := by decide +kernel
theorem dF_clash_43 : decode cF_clash 43 = .ok (.getfield 110, 3) := by decide +kernel
theorem dF_clash_46 : decode cF_clash 46 = .ok (.invokestatic 92, 3) := by decide +kernel
theorem dF_clash_49 : decode cF_clash 49 = .ok (.if_icmp .eq 21, 3) := by decide +kernel
theorem dF_clash_52 : decode cF_clash 52 = .ok (.aload_n 3, 1) := by decide +kernel
theorem dF_clash_53 : decode cF_clash 53 = .ok (.aload 4, 2) := by decide +kernel
theorem dF_clash_55 : decode cF_clash 55 = .ok (.invokevirtual 216, 3) := by decide +kernel
theorem dF_clash_58 : decode cF_clash 58 = .ok (.ifCond .ne 12, 3) := by decide +kernel
theorem dF_clash_61 : decode cF_clash 61 = .ok (.aload 4, 2) := by decide +kernel
theorem dF_clash_63 : decode cF_clash 63 = .ok (.aload_n 3, 1) := by decide +kernel
theorem dF_clash_64 : decode cF_clash 64 = .ok (.invokevirtual 216, 3) := by decide +kernel
theorem dF_clash_67 : decode cF_clash 67 = .ok (.ifCond .eq 7, 3) := by decide +kernel
theorem dF_clash_70 : decode cF_clash 70 = .ok (.iconst 1, 1) := by decide +kernel
theorem dF_clash_71 : decode cF_clash 71 = .ok (.goto 4, 3) := by decide +kernel
theorem dF_clash_74 : decode cF_clash 74 = .ok (.iconst 0, 1) := by decide +kernel
theorem dF_clash_75 : decode cF_clash 75 = .ok (.ireturn, 1) := by decide +kernel
theorem dF_takeItem_0 : decode cF_takeItem 0 = .ok (.aload_n 0, 1) := by decide +kernel
theorem dF_takeItem_1 : decode cF_takeItem 1 = .ok (.getfield 56, 3) := by decide +kernel
theorem dF_takeItem_4 : decode cF_takeItem 4 = .ok (.getfield 220, 3) := by decide +kernel
theorem dF_takeItem_7 : decode cF_takeItem 7 = .ok (.iload_n 1, 1) := by decide +kernel
theorem dF_takeItem_8 : decode cF_takeItem 8 = .ok (.iaload, 1) := by decide +kernel
theorem dF_takeItem_9 : decode cF_takeItem 9 = .ok (.istore 4, 2) := by decide +kernel
theorem dF_takeItem_11 : decode cF_takeItem 11 = .ok (.aload_n 0, 1) := by decide +kernel
theorem dF_takeItem_12 : decode cF_takeItem 12 = .ok (.getfield 56, 3) := by decide +kernel
theorem dF_takeItem_15 : decode cF_takeItem 15 = .ok (.getfield 223, 3) := by decide +kernel
theorem dF_takeItem_18 : decode cF_takeItem 18 = .ok (.iload_n 1, 1) := by decide +kernel
theorem dF_takeItem_19 : decode cF_takeItem 19 = .ok (.iaload, 1) := by decide +kernel
theorem dF_takeItem_20 : decode cF_takeItem 20 = .ok (.iconst (-1), 1) := by decide +kernel
theorem dF_takeItem_21 : decode cF_takeItem 21 = .ok (.if_icmp .ne 17, 3) := by decide +kernel
theorem dF_takeItem_24 : decode cF_takeItem 24 = .ok (.aload_n 0, 1) := by decide +kernel
theorem dF_takeItem_25 : decode cF_takeItem 25 = .ok (.aload_n 0, 1) := by decide +kernel
theorem dF_takeItem_26 : decode cF_takeItem 26 = .ok (.getfield 41, 3) := by decide +kernel
theorem dF_takeItem_29 : decode cF_takeItem 29 = .ok (.iload 4, 2) := by decide +kernel
theorem dF_takeItem_31 : decode cF_takeItem 31 = .ok (.aaload, 1) := by decide +kernel
theorem dF_takeItem_32 : decode cF_takeItem 32 = .ok (.iload_n 2, 1) := by decide +kernel
theorem dF_takeItem_33 : decode cF_takeItem 33 = .ok (.iload_n 3, 1) := by decide +kernel
theorem dF_takeItem_34 : decode cF_takeItem 34 = .ok (.invokevirtual 226, 3) := by decide +kernel
theorem dF_takeItem_37 : decode cF_takeItem 37 = .ok (.ireturn, 1) := by decide +kernel
theorem dF_takeItem_38 : decode cF_takeItem 38 = .ok (.aload_n 0, 1) := by decide +kernel
theorem dF_takeItem_39 : decode cF_takeItem 39 = .ok (.aload_n 0, 1) := by decide +kernel
theorem dF_takeItem_40 : decode cF_takeItem 40 = .ok (.getfield 41, 3) := by decide +kernel
theorem dF_takeItem_43 : decode cF_takeItem 43 = .ok (.iload 4, 2) := by decide +kernel
theorem dF_takeItem_45 : decode cF_takeItem 45 = .ok (.aaload, 1) := by decide +kernel
theorem dF_takeItem_46 : decode cF_takeItem 46 = .ok (.getfield 100, 3) := by decide +kernel
theorem dF_takeItem_49 : decode cF_takeItem 49 = .ok (.iload_n 3, 1) := by decide +kernel
theorem dF_takeItem_50 : decode cF_takeItem 50 = .ok (.aload_n 0, 1) := by decide +kernel
theorem dF_takeItem_51 : decode cF_takeItem 51 = .ok (.getfield 18, 3) := by decide +kernel
theorem dF_takeItem_54 : decode cF_takeItem 54 = .ok (.irem, 1) := by decide +kernel
theorem dF_takeItem_55 : decode cF_takeItem 55 = .ok (.invokevirtual 230, 3) := by decide +kernel
theorem dF_takeItem_58 : decode cF_takeItem 58 = .ok (.ireturn, 1) := by decide +kernel
theorem dF_takeVote_0 : decode cF_takeVote 0 = .ok (.aload_n 1, 1) := by decide +kernel
theorem dF_takeVote_1 : decode cF_takeVote 1 = .ok (.getfield 103, 3) := by decide +kernel
theorem dF_takeVote_4 : decode cF_takeVote 4 = .ok (.iload_n 3, 1) := by decide +kernel
theorem dF_takeVote_5 : decode cF_takeVote 5 = .ok (.if_icmp .ge 16, 3) := by decide +kernel
theorem dF_takeVote_8 : decode cF_takeVote 8 = .ok (.aload_n 1, 1) := by decide +kernel
theorem dF_takeVote_9 : decode cF_takeVote 9 = .ok (.getfield 103, 3) := by decide +kernel
theorem dF_takeVote_12 : decode cF_takeVote 12 = .ok (.iload_n 3, 1) := by decide +kernel
theorem dF_takeVote_13 : decode cF_takeVote 13 = .ok (.aload_n 0, 1) := by decide +kernel
theorem dF_takeVote_14 : decode cF_takeVote 14 = .ok (.getfield 22, 3) := by decide +kernel
theorem dF_takeVote_17 : decode cF_takeVote 17 = .ok (.isub, 1) := by decide +kernel
theorem dF_takeVote_18 : decode cF_takeVote 18 = .ok (.if_icmp .ge 5, 3) := by decide +kernel
theorem dF_takeVote_21 : decode cF_takeVote 21 = .ok (.iconst 0, 1) := by decide +kernel
theorem dF_takeVote_22 : decode cF_takeVote 22 = .ok (.ireturn, 1) := by decide +kernel
theorem dF_takeVote_23 : decode cF_takeVote 23 = .ok (.aload_n 1, 1) := by decide +kernel
theorem dF_takeVote_24 : decode cF_takeVote 24 = .ok (.getfield 103, 3) := by decide +kernel
theorem dF_takeVote_27 : decode cF_takeVote 27 = .ok (.aload_n 0, 1) := by decide +kernel
theorem dF_takeVote_28 : decode cF_takeVote 28 = .ok (.getfield 22, 3) := by decide +kernel
theorem dF_takeVote_31 : decode cF_takeVote 31 = .ok (.idiv, 1) := by decide +kernel
theorem dF_takeVote_32 : decode cF_takeVote 32 = .ok (.istore 4, 2) := by decide +kernel
theorem dF_takeVote_34 : decode cF_takeVote 34 = .ok (.aload_n 1, 1) := by decide +kernel
theorem dF_takeVote_35 : decode cF_takeVote 35 = .ok (.getfield 107, 3) := by decide +kernel
theorem dF_takeVote_38 : decode cF_takeVote 38 = .ok (.aload_n 0, 1) := by decide +kernel
theorem dF_takeVote_39 : decode cF_takeVote 39 = .ok (.getfield 63, 3) := by decide +kernel
theorem dF_takeVote_42 : decode cF_takeVote 42 = .ok (.getfield 83, 3) := by decide +kernel
theorem dF_takeVote_45 : decode cF_takeVote 45 = .ok (.if_icmp .ne 17, 3) := by decide +kernel
theorem dF_takeVote_48 : decode cF_takeVote 48 = .ok (.aload_n 1, 1) := by decide +kernel
theorem dF_takeVote_49 : decode cF_takeVote 49 = .ok (.getfield 110, 3) := by decide +kernel
theorem dF_takeVote_52 : decode cF_takeVote 52 = .ok (.aload_n 0, 1) := by decide +kernel
theorem dF_takeVote_53 : decode cF_takeVote 53 = .ok (.iload_n 2, 1) := by decide +kernel
theorem dF_takeVote_54 : decode cF_takeVote 54 = .ok (.iload 4, 2) := by decide +kernel
theorem dF_takeVote_56 : decode cF_takeVote 56 = .ok (.invokevirtual 86, 3) := by decide +kernel
theorem dF_takeVote_59 : decode cF_takeVote 59 = .ok (.if_icmp .eq 5, 3) := by decide +kernel
theorem dF_takeVote_62 : decode cF_takeVote 62 = .ok (.iconst 0, 1) := by decide +kernel
theorem dF_takeVote_63 : decode cF_takeVote 63 = .ok (.ireturn, 1) := by decide +kernel
theorem dF_takeVote_64 : decode cF_takeVote 64 = .ok (.aload_n 0, 1) := by decide +kernel
theorem dF_takeVote_65 : decode cF_takeVote 65 = .ok (.getfield 63, 3) := by decide +kernel
theorem dF_takeVote_68 : decode cF_takeVote 68 = .ok (.iload 4, 2) := by decide +kernel
theorem dF_takeVote_70 : decode cF_takeVote 70 = .ok (.invokevirtual 169, 3) := by decide +kernel
theorem dF_takeVote_73 : decode cF_takeVote 73 = .ok (.aload_n 1, 1) := by decide +kernel
theorem dF_takeVote_74 : decode cF_takeVote 74 = .ok (.getfield 100, 3) := by decide +kernel
theorem dF_takeVote_77 : decode cF_takeVote 77 = .ok (.invokestatic 129, 3) := by decide +kernel
theorem dF_takeVote_80 : decode cF_takeVote 80 = .ok (.ifCond .eq 5, 3) := by decide +kernel
theorem dF_takeVote_83 : decode cF_takeVote 83 = .ok (.iconst 0, 1) := by decide +kernel
theorem dF_takeVote_84 : decode cF_takeVote 84 = .ok (.ireturn, 1) := by decide +kernel
theorem dF_takeVote_85 : decode cF_takeVote 85 = .ok (.aload_n 0, 1) := by decide +kernel
theorem dF_takeVote_86 : decode cF_takeVote 86 = .ok (.getfield 63, 3) := by decide +kernel
theorem dF_takeVote_89 : decode cF_takeVote 89 = .ok (.iload 4, 2) := by decide +kernel
theorem dF_takeVote_91 : decode cF_takeVote 91 = .ok (.aload_n 1, 1) := by decide +kernel
theorem dF_takeVote_92 : decode cF_takeVote 92 = .ok (.getfield 100, 3) := by decide +kernel
theorem dF_takeVote_95 : decode cF_takeVote 95 = .ok (.invokevirtual 233, 3) := by decide +kernel
theorem dF_takeVote_98 : decode cF_takeVote 98 = .ok (.aload_n 0, 1) := by decide +kernel
theorem dF_takeVote_99 : decode cF_takeVote 99 = .ok (.getfield 63, 3) := by decide +kernel
theorem dF_takeVote_102 : decode cF_takeVote 102 = .ok (.getfield 166, 3) := by decide +kernel
theorem dF_takeVote_105 : decode cF_takeVote 105 = .ok (.aload_n 1, 1) := by decide +kernel
theorem dF_takeVote_106 : decode cF_takeVote 106 = .ok (.getfield 100, 3) := by decide +kernel
theorem dF_takeVote_109 : decode cF_takeVote 109 = .ok (.dup2, 1) := by decide +kernel
theorem dF_takeVote_110 : decode cF_takeVote 110 = .ok (.iaload, 1) := by decide +kernel
theorem dF_takeVote_111 : decode cF_takeVote 111 = .ok (.iconst 2, 1) := by decide +kernel
theorem dF_takeVote_112 : decode cF_takeVote 112 = .ok (.iadd, 1) := by decide +kernel
theorem dF_takeVote_113 : decode cF_takeVote 113 = .ok (.iastore, 1) := by decide +kernel
theorem dF_takeVote_114 : decode cF_takeVote 114 = .ok (.aload_n 0, 1) := by decide +kernel
theorem dF_takeVote_115 : decode cF_takeVote 115 = .ok (.getfield 63, 3) := by decide +kernel
theorem dF_takeVote_118 : decode cF_takeVote 118 = .ok (.getfield 166, 3) := by decide +kernel
theorem dF_takeVote_121 : decode cF_takeVote 121 = .ok (.iload_n 3, 1) := by decide +kernel
theorem dF_takeVote_122 : decode cF_takeVote 122 = .ok (.aload_n 0, 1) := by decide +kernel
theorem dF_takeVote_123 : decode cF_takeVote 123 = .ok (.getfield 18, 3) := by decide +kernel
theorem dF_takeVote_126 : decode cF_takeVote 126 = .ok (.irem, 1) := by decide +kernel
theorem dF_takeVote_127 : decode cF_takeVote 127 = .ok (.dup2, 1) := by decide +kernel
theorem dF_takeVote_128 : decode cF_takeVote 128 = .ok (.iaload, 1) := by decide +kernel
theorem dF_takeVote_129 : decode cF_takeVote 129 = .ok (.iconst 1, 1) := by decide +kernel
theorem dF_takeVote_130 : decode cF_takeVote 130 = .ok (.iadd, 1) := by decide +kernel
theorem dF_takeVote_131 : decode cF_takeVote 131 = .ok (.iastore, 1) := by decide +kernel
theorem dF_takeVote_132 : decode cF_takeVote 132 = .ok (.iconst 3, 1) := by decide +kernel
theorem dF_takeVote_133 : decode cF_takeVote 133 = .ok (.aload_n 0, 1) := by decide +kernel
theorem dF_takeVote_134 : decode cF_takeVote 134 = .ok (.aload_n 0, 1) := by decide +kernel
theorem dF_takeVote_135 : decode cF_takeVote 135 = .ok (.getfield 63, 3) := by decide +kernel
theorem dF_takeVote_138 : decode cF_takeVote 138 = .ok (.iload 4, 2) := by decide +kernel
theorem dF_takeVote_140 : decode cF_takeVote 140 = .ok (.invokevirtual 169, 3) := by decide +kernel
theorem dF_takeVote_143 : decode cF_takeVote 143 = .ok (.invokevirtual 172, 3) := by decide +kernel
theorem dF_takeVote_146 : decode cF_takeVote 146 = .ok (.imul, 1) := by decide +kernel
theorem dF_takeVote_147 : decode cF_takeVote 147 = .ok (.iconst 2, 1) := by decide +kernel
theorem dF_takeVote_148 : decode cF_takeVote 148 = .ok (.aload_n 0, 1) := by decide +kernel
theorem dF_takeVote_149 : decode cF_takeVote 149 = .ok (.getfield 29, 3) := by decide +kernel
theorem dF_takeVote_152 : decode cF_takeVote 152 = .ok (.imul, 1) := by decide +kernel
theorem dF_takeVote_153 : decode cF_takeVote 153 = .ok (.if_icmp .lt 18, 3) := by decide +kernel
theorem dF_takeVote_156 : decode cF_takeVote 156 = .ok (.aload_n 0, 1) := by decide +kernel
theorem dF_takeVote_157 : decode cF_takeVote 157 = .ok (.getfield 63, 3) := by decide +kernel
theorem dF_takeVote_160 : decode cF_takeVote 160 = .ok (.aload_n 1, 1) := by decide +kernel
theorem dF_takeVote_161 : decode cF_takeVote 161 = .ok (.getfield 107, 3) := by decide +kernel
theorem dF_takeVote_164 : decode cF_takeVote 164 = .ok (.aload_n 1, 1) := by decide +kernel
theorem dF_takeVote_165 : decode cF_takeVote 165 = .ok (.getfield 110, 3) := by decide +kernel
theorem dF_takeVote_168 : decode cF_takeVote 168 = .ok (.invokevirtual 236, 3) := by decide +kernel
theorem dF_takeVote_171 : decode cF_takeVote 171 = .ok (.iconst 1, 1) := by decide +kernel
theorem dF_takeVote_172 : decode cF_takeVote 172 = .ok (.ireturn, 1) := by decide +kernel
theorem dF_takeEvidence_0 : decode cF_takeEvidence 0 = .ok (.aload_n 0, 1) := by decide +kernel
theorem dF_takeEvidence_1 : decode cF_takeEvidence 1 = .ok (.getfield 63, 3) := by decide +kernel
theorem dF_takeEvidence_4 : decode cF_takeEvidence 4 = .ok (.getfield 126, 3) := by decide +kernel
theorem dF_takeEvidence_7 : decode cF_takeEvidence 7 = .ok (.iload_n 1, 1) := by decide +kernel
theorem dF_takeEvidence_8 : decode cF_takeEvidence 8 = .ok (.invokestatic 129, 3) := by decide +kernel
theorem dF_takeEvidence_11 : decode cF_takeEvidence 11 = .ok (.ifCond .eq 5, 3) := by decide +kernel
theorem dF_takeEvidence_14 : decode cF_takeEvidence 14 = .ok (.iconst 0, 1) := by decide +kernel
theorem dF_takeEvidence_15 : decode cF_takeEvidence 15 = .ok (.ireturn, 1) := by decide +kernel
theorem dF_takeEvidence_16 : decode cF_takeEvidence 16 = .ok (.aload_n 0, 1) := by decide +kernel
theorem dF_takeEvidence_17 : decode cF_takeEvidence 17 = .ok (.getfield 63, 3) := by decide +kernel
theorem dF_takeEvidence_20 : decode cF_takeEvidence 20 = .ok (.dup, 1) := by decide +kernel
theorem dF_takeEvidence_21 : decode cF_takeEvidence 21 = .ok (.getfield 126, 3) := by decide +kernel
theorem dF_takeEvidence_24 : decode cF_takeEvidence 24 = .ok (.iconst 1, 1) := by decide +kernel
theorem dF_takeEvidence_25 : decode cF_takeEvidence 25 = .ok (.iload_n 1, 1) := by decide +kernel
theorem dF_takeEvidence_26 : decode cF_takeEvidence 26 = .ok (.ishl, 1) := by decide +kernel
theorem dF_takeEvidence_27 : decode cF_takeEvidence 27 = .ok (.ior, 1) := by decide +kernel
theorem dF_takeEvidence_28 : decode cF_takeEvidence 28 = .ok (.putfield 126, 3) := by decide +kernel
theorem dF_takeEvidence_31 : decode cF_takeEvidence 31 = .ok (.aload_n 0, 1) := by decide +kernel
theorem dF_takeEvidence_32 : decode cF_takeEvidence 32 = .ok (.getfield 63, 3) := by decide +kernel
theorem dF_takeEvidence_35 : decode cF_takeEvidence 35 = .ok (.getfield 166, 3) := by decide +kernel
theorem dF_takeEvidence_38 : decode cF_takeEvidence 38 = .ok (.iload_n 1, 1) := by decide +kernel
theorem dF_takeEvidence_39 : decode cF_takeEvidence 39 = .ok (.dup2, 1) := by decide +kernel
theorem dF_takeEvidence_40 : decode cF_takeEvidence 40 = .ok (.iaload, 1) := by decide +kernel
theorem dF_takeEvidence_41 : decode cF_takeEvidence 41 = .ok (.iconst 2, 1) := by decide +kernel
theorem dF_takeEvidence_42 : decode cF_takeEvidence 42 = .ok (.idiv, 1) := by decide +kernel
theorem dF_takeEvidence_43 : decode cF_takeEvidence 43 = .ok (.iastore, 1) := by decide +kernel
theorem dF_takeEvidence_44 : decode cF_takeEvidence 44 = .ok (.aload_n 0, 1) := by decide +kernel
theorem dF_takeEvidence_45 : decode cF_takeEvidence 45 = .ok (.getfield 63, 3) := by decide +kernel
theorem dF_takeEvidence_48 : decode cF_takeEvidence 48 = .ok (.getfield 166, 3) := by decide +kernel
theorem dF_takeEvidence_51 : decode cF_takeEvidence 51 = .ok (.iload_n 2, 1) := by decide +kernel
theorem dF_takeEvidence_52 : decode cF_takeEvidence 52 = .ok (.dup2, 1) := by decide +kernel
theorem dF_takeEvidence_53 : decode cF_takeEvidence 53 = .ok (.iaload, 1) := by decide +kernel
theorem dF_takeEvidence_54 : decode cF_takeEvidence 54 = .ok (.iconst 5, 1) := by decide +kernel
theorem dF_takeEvidence_55 : decode cF_takeEvidence 55 = .ok (.iadd, 1) := by decide +kernel
theorem dF_takeEvidence_56 : decode cF_takeEvidence 56 = .ok (.iastore, 1) := by decide +kernel
theorem dF_takeEvidence_57 : decode cF_takeEvidence 57 = .ok (.iconst 1, 1) := by decide +kernel
theorem dF_takeEvidence_58 : decode cF_takeEvidence 58 = .ok (.ireturn, 1) := by decide +kernel
theorem dF_takeInVotes_0 : decode cF_takeInVotes 0 = .ok (.iconst 0, 1) := by decide +kernel
theorem dF_takeInVotes_1 : decode cF_takeInVotes 1 = .ok (.istore_n 3, 1) := by decide +kernel
theorem dF_takeInVotes_2 : decode cF_takeInVotes 2 = .ok (.iload_n 3, 1) := by decide +kernel
theorem dF_takeInVotes_3 : decode cF_takeInVotes 3 = .ok (.aload_n 2, 1) := by decide +kernel
theorem dF_takeInVotes_4 : decode cF_takeInVotes 4 = .ok (.getfield 123, 3) := by decide +kernel
theorem dF_takeInVotes_7 : decode cF_takeInVotes 7 = .ok (.if_icmp .ge 41, 3) := by decide +kernel
theorem dF_takeInVotes_10 : decode cF_takeInVotes 10 = .ok (.aload_n 0, 1) := by decide +kernel
theorem dF_takeInVotes_11 : decode cF_takeInVotes 11 = .ok (.aload_n 1, 1) := by decide +kernel
theorem dF_takeInVotes_12 : decode cF_takeInVotes 12 = .ok (.aload_n 2, 1) := by decide +kernel
theorem dF_takeInVotes_13 : decode cF_takeInVotes 13 = .ok (.getfield 220, 3) := by decide +kernel
theorem dF_takeInVotes_16 : decode cF_takeInVotes 16 = .ok (.iload_n 3, 1) := by decide +kernel
theorem dF_takeInVotes_17 : decode cF_takeInVotes 17 = .ok (.iaload, 1) := by decide +kernel
theorem dF_takeInVotes_18 : decode cF_takeInVotes 18 = .ok (.invokevirtual 196, 3) := by decide +kernel
theorem dF_takeInVotes_21 : decode cF_takeInVotes 21 = .ok (.aload_n 2, 1) := by decide +kernel
theorem dF_takeInVotes_22 : decode cF_takeInVotes 22 = .ok (.getfield 223, 3) := by decide +kernel
theorem dF_takeInVotes_25 : decode cF_takeInVotes 25 = .ok (.iload_n 3, 1) := by decide +kernel
theorem dF_takeInVotes_26 : decode cF_takeInVotes 26 = .ok (.iaload, 1) := by decide +kernel
theorem dF_takeInVotes_27 : decode cF_takeInVotes 27 = .ok (.iconst (-1), 1) := by decide +kernel
theorem dF_takeInVotes_28 : decode cF_takeInVotes 28 = .ok (.if_icmp .eq 14, 3) := by decide +kernel
theorem dF_takeInVotes_31 : decode cF_takeInVotes 31 = .ok (.aload_n 0, 1) := by decide +kernel
theorem dF_takeInVotes_32 : decode cF_takeInVotes 32 = .ok (.aload_n 1, 1) := by decide +kernel
theorem dF_takeInVotes_33 : decode cF_takeInVotes 33 = .ok (.aload_n 2, 1) := by decide +kernel
theorem dF_takeInVotes_34 : decode cF_takeInVotes 34 = .ok (.getfield 223, 3) := by decide +kernel
theorem dF_takeInVotes_37 : decode cF_takeInVotes 37 = .ok (.iload_n 3, 1) := by decide +kernel
theorem dF_takeInVotes_38 : decode cF_takeInVotes 38 = .ok (.iaload, 1) := by decide +kernel
theorem dF_takeInVotes_39 : decode cF_takeInVotes 39 = .ok (.invokevirtual 196, 3) := by decide +kernel
theorem dF_takeInVotes_42 : decode cF_takeInVotes 42 = .ok (.iinc 3 1, 3) := by decide +kernel
theorem dF_takeInVotes_45 : decode cF_takeInVotes 45 = .ok (.goto (-43), 3) := by decide +kernel
theorem dF_takeInVotes_48 : decode cF_takeInVotes 48 = .ok (.return_, 1) := by decide +kernel
theorem dF_takeInVote_0 : decode cF_takeInVote 0 = .ok (.aload_n 0, 1) := by decide +kernel
theorem dF_takeInVote_1 : decode cF_takeInVote 1 = .ok (.getfield 41, 3) := by decide +kernel
theorem dF_takeInVote_4 : decode cF_takeInVote 4 = .ok (.iload_n 2, 1) := by decide +kernel
theorem dF_takeInVote_5 : decode cF_takeInVote 5 = .ok (.aaload, 1) := by decide +kernel
theorem dF_takeInVote_6 : decode cF_takeInVote 6 = .ok (.getfield 100, 3) := by decide +kernel
theorem dF_takeInVote_9 : decode cF_takeInVote 9 = .ok (.istore_n 3, 1) := by decide +kernel
theorem dF_takeInVote_10 : decode cF_takeInVote 10 = .ok (.aload_n 1, 1) := by decide +kernel
theorem dF_takeInVote_11 : decode cF_takeInVote 11 = .ok (.getfield 239, 3) := by decide +kernel
theorem dF_takeInVote_14 : decode cF_takeInVote 14 = .ok (.iload_n 3, 1) := by decide +kernel
theorem dF_takeInVote_15 : decode cF_takeInVote 15 = .ok (.iaload, 1) := by decide +kernel
theorem dF_takeInVote_16 : decode cF_takeInVote 16 = .ok (.istore 4, 2) := by decide +kernel
theorem dF_takeInVote_18 : decode cF_takeInVote 18 = .ok (.aload_n 1, 1) := by decide +kernel
theorem dF_takeInVote_19 : decode cF_takeInVote 19 = .ok (.getfield 192, 3) := by decide +kernel
theorem dF_takeInVote_22 : decode cF_takeInVote 22 = .ok (.iload_n 2, 1) := by decide +kernel
theorem dF_takeInVote_23 : decode cF_takeInVote 23 = .ok (.iconst 1, 1) := by decide +kernel
theorem dF_takeInVote_24 : decode cF_takeInVote 24 = .ok (.bastore, 1) := by decide +kernel
theorem dF_takeInVote_25 : decode cF_takeInVote 25 = .ok (.iload 4, 2) := by decide +kernel
theorem dF_takeInVote_27 : decode cF_takeInVote 27 = .ok (.iconst (-1), 1) := by decide +kernel
theorem dF_takeInVote_28 : decode cF_takeInVote 28 = .ok (.if_icmp .eq 53, 3) := by decide +kernel
theorem dF_takeInVote_31 : decode cF_takeInVote 31 = .ok (.aload_n 0, 1) := by decide +kernel
theorem dF_takeInVote_32 : decode cF_takeInVote 32 = .ok (.getfield 41, 3) := by decide +kernel
theorem dF_takeInVote_35 : decode cF_takeInVote 35 = .ok (.iload_n 2, 1) := by decide +kernel
theorem dF_takeInVote_36 : decode cF_takeInVote 36 = .ok (.aaload, 1) := by decide +kernel
theorem dF_takeInVote_37 : decode cF_takeInVote 37 = .ok (.getfield 103, 3) := by decide +kernel
theorem dF_takeInVote_40 : decode cF_takeInVote 40 = .ok (.aload_n 0, 1) := by decide +kernel
theorem dF_takeInVote_41 : decode cF_takeInVote 41 = .ok (.getfield 41, 3) := by decide +kernel
theorem dF_takeInVote_44 : decode cF_takeInVote 44 = .ok (.iload 4, 2) := by decide +kernel
theorem dF_takeInVote_46 : decode cF_takeInVote 46 = .ok (.aaload, 1) := by decide +kernel
theorem dF_takeInVote_47 : decode cF_takeInVote 47 = .ok (.getfield 103, 3) := by decide +kernel
theorem dF_takeInVote_50 : decode cF_takeInVote 50 = .ok (.if_icmp .gt 31, 3) := by decide +kernel
theorem dF_takeInVote_53 : decode cF_takeInVote 53 = .ok (.aload_n 0, 1) := by decide +kernel
theorem dF_takeInVote_54 : decode cF_takeInVote 54 = .ok (.getfield 41, 3) := by decide +kernel
theorem dF_takeInVote_57 : decode cF_takeInVote 57 = .ok (.iload_n 2, 1) := by decide +kernel
theorem dF_takeInVote_58 : decode cF_takeInVote 58 = .ok (.aaload, 1) := by decide +kernel
theorem dF_takeInVote_59 : decode cF_takeInVote 59 = .ok (.getfield 103, 3) := by decide +kernel
theorem dF_takeInVote_62 : decode cF_takeInVote 62 = .ok (.aload_n 0, 1) := by decide +kernel
theorem dF_takeInVote_63 : decode cF_takeInVote 63 = .ok (.getfield 41, 3) := by decide +kernel
theorem dF_takeInVote_66 : decode cF_takeInVote 66 = .ok (.iload 4, 2) := by decide +kernel
theorem dF_takeInVote_68 : decode cF_takeInVote 68 = .ok (.aaload, 1) := by decide +kernel
theorem dF_takeInVote_69 : decode cF_takeInVote 69 = .ok (.getfield 103, 3) := by decide +kernel
theorem dF_takeInVote_72 : decode cF_takeInVote 72 = .ok (.if_icmp .ne 16, 3) := by decide +kernel
theorem dF_takeInVote_75 : decode cF_takeInVote 75 = .ok (.iload_n 2, 1) := by decide +kernel
theorem dF_takeInVote_76 : decode cF_takeInVote 76 = .ok (.iload 4, 2) := by decide +kernel
theorem dF_takeInVote_78 : decode cF_takeInVote 78 = .ok (.if_icmp .le 10, 3) := by decide +kernel
theorem dF_takeInVote_81 : decode cF_takeInVote 81 = .ok (.aload_n 1, 1) := by decide +kernel
theorem dF_takeInVote_82 : decode cF_takeInVote 82 = .ok (.getfield 239, 3) := by decide +kernel
theorem dF_takeInVote_85 : decode cF_takeInVote 85 = .ok (.iload_n 3, 1) := by decide +kernel
theorem dF_takeInVote_86 : decode cF_takeInVote 86 = .ok (.iload_n 2, 1) := by decide +kernel
theorem dF_takeInVote_87 : decode cF_takeInVote 87 = .ok (.iastore, 1) := by decide +kernel
theorem dF_takeInVote_88 : decode cF_takeInVote 88 = .ok (.return_, 1) := by decide +kernel
theorem dF_takeInCheckpoints_0 : decode cF_takeInCheckpoints 0 = .ok (.iconst 0, 1) := by decide +kernel
theorem dF_takeInCheckpoints_1 : decode cF_takeInCheckpoints 1 = .ok (.istore_n 3, 1) := by decide +kernel
theorem dF_takeInCheckpoints_2 : decode cF_takeInCheckpoints 2 = .ok (.aload_n 2, 1) := by decide +kernel
theorem dF_takeInCheckpoints_3 : decode cF_takeInCheckpoints 3 = .ok (.getfield 163, 3) := by decide +kernel
theorem dF_takeInCheckpoints_6 : decode cF_takeInCheckpoints 6 = .ok (.invokestatic 92, 3) := by decide +kernel
theorem dF_takeInCheckpoints_9 : decode cF_takeInCheckpoints 9 = .ok (.aload_n 1, 1) := by decide +kernel
theorem dF_takeInCheckpoints_10 : decode cF_takeInCheckpoints 10 = .ok (.getfield 205, 3) := by decide +kernel
theorem dF_takeInCheckpoints_13 : decode cF_takeInCheckpoints 13 = .ok (.invokestatic 92, 3) := by decide +kernel
theorem dF_takeInCheckpoints_16 : decode cF_takeInCheckpoints 16 = .ok (.if_icmp .le 43, 3) := by decide +kernel
theorem dF_takeInCheckpoints_19 : decode cF_takeInCheckpoints 19 = .ok (.aload_n 1, 1) := by decide +kernel
theorem dF_takeInCheckpoints_20 : decode cF_takeInCheckpoints 20 = .ok (.aload_n 2, 1) := by decide +kernel
theorem dF_takeInCheckpoints_21 : decode cF_takeInCheckpoints 21 = .ok (.getfield 163, 3) := by decide +kernel
theorem dF_takeInCheckpoints_24 : decode cF_takeInCheckpoints 24 = .ok (.putfield 205, 3) := by decide +kernel
theorem dF_takeInCheckpoints_27 : decode cF_takeInCheckpoints 27 = .ok (.aload_n 0, 1) := by decide +kernel
theorem dF_takeInCheckpoints_28 : decode cF_takeInCheckpoints 28 = .ok (.aload_n 1, 1) := by decide +kernel
theorem dF_takeInCheckpoints_29 : decode cF_takeInCheckpoints 29 = .ok (.aload_n 2, 1) := by decide +kernel
theorem dF_takeInCheckpoints_30 : decode cF_takeInCheckpoints 30 = .ok (.getfield 163, 3) := by decide +kernel
theorem dF_takeInCheckpoints_33 : decode cF_takeInCheckpoints 33 = .ok (.invokestatic 160, 3) := by decide +kernel
theorem dF_takeInCheckpoints_36 : decode cF_takeInCheckpoints 36 = .ok (.invokevirtual 242, 3) := by decide +kernel
theorem dF_takeInCheckpoints_39 : decode cF_takeInCheckpoints 39 = .ok (.aload_n 1, 1) := by decide +kernel
theorem dF_takeInCheckpoints_40 : decode cF_takeInCheckpoints 40 = .ok (.aload_n 1, 1) := by decide +kernel
theorem dF_takeInCheckpoints_41 : decode cF_takeInCheckpoints 41 = .ok (.getfield 200, 3) := by decide +kernel
theorem dF_takeInCheckpoints_44 : decode cF_takeInCheckpoints 44 = .ok (.invokestatic 160, 3) := by decide +kernel
theorem dF_takeInCheckpoints_47 : decode cF_takeInCheckpoints 47 = .ok (.invokevirtual 178, 3) := by decide +kernel
theorem dF_takeInCheckpoints_50 : decode cF_takeInCheckpoints 50 = .ok (.ifCond .ne 7, 3) := by decide +kernel
theorem dF_takeInCheckpoints_53 : decode cF_takeInCheckpoints 53 = .ok (.iconst 1, 1) := by decide +kernel
theorem dF_takeInCheckpoints_54 : decode cF_takeInCheckpoints 54 = .ok (.goto 4, 3) := by decide +kernel
theorem dF_takeInCheckpoints_57 : decode cF_takeInCheckpoints 57 = .ok (.iconst 0, 1) := by decide +kernel
theorem dF_takeInCheckpoints_58 : decode cF_takeInCheckpoints 58 = .ok (.istore_n 3, 1) := by decide +kernel
theorem dF_takeInCheckpoints_59 : decode cF_takeInCheckpoints 59 = .ok (.iload_n 3, 1) := by decide +kernel
theorem dF_takeInCheckpoints_60 : decode cF_takeInCheckpoints 60 = .ok (.ifCond .ne 20, 3) := by decide +kernel
theorem dF_takeInCheckpoints_63 : decode cF_takeInCheckpoints 63 = .ok (.aload_n 2, 1) := by decide +kernel
theorem dF_takeInCheckpoints_64 : decode cF_takeInCheckpoints 64 = .ok (.getfield 83, 3) := by decide +kernel
theorem dF_takeInCheckpoints_67 : decode cF_takeInCheckpoints 67 = .ok (.invokestatic 92, 3) := by decide +kernel
theorem dF_takeInCheckpoints_70 : decode cF_takeInCheckpoints 70 = .ok (.aload_n 1, 1) := by decide +kernel
theorem dF_takeInCheckpoints_71 : decode cF_takeInCheckpoints 71 = .ok (.getfield 200, 3) := by decide +kernel
theorem dF_takeInCheckpoints_74 : decode cF_takeInCheckpoints 74 = .ok (.invokestatic 92, 3) := by decide +kernel
theorem dF_takeInCheckpoints_77 : decode cF_takeInCheckpoints 77 = .ok (.if_icmp .le 11, 3) := by decide +kernel
theorem dF_takeInCheckpoints_80 : decode cF_takeInCheckpoints 80 = .ok (.aload_n 1, 1) := by decide +kernel
theorem dF_takeInCheckpoints_81 : decode cF_takeInCheckpoints 81 = .ok (.aload_n 2, 1) := by decide +kernel
theorem dF_takeInCheckpoints_82 : decode cF_takeInCheckpoints 82 = .ok (.getfield 83, 3) := by decide +kernel
theorem dF_takeInCheckpoints_85 : decode cF_takeInCheckpoints 85 = .ok (.putfield 200, 3) := by decide +kernel
theorem dF_takeInCheckpoints_88 : decode cF_takeInCheckpoints 88 = .ok (.return_, 1) := by decide +kernel
theorem dF_forgetBeside_0 : decode cF_forgetBeside 0 = .ok (.iconst 0, 1) := by decide +kernel
theorem dF_forgetBeside_1 : decode cF_forgetBeside 1 = .ok (.istore_n 3, 1) := by decide +kernel
theorem dF_forgetBeside_2 : decode cF_forgetBeside 2 = .ok (.iload_n 3, 1) := by decide +kernel
theorem dF_forgetBeside_3 : decode cF_forgetBeside 3 = .ok (.aload_n 0, 1) := by decide +kernel
theorem dF_forgetBeside_4 : decode cF_forgetBeside 4 = .ok (.getfield 67, 3) := by decide +kernel
theorem dF_forgetBeside_7 : decode cF_forgetBeside 7 = .ok (.if_icmp .ge 34, 3) := by decide +kernel
theorem dF_forgetBeside_10 : decode cF_forgetBeside 10 = .ok (.aload_n 0, 1) := by decide +kernel
theorem dF_forgetBeside_11 : decode cF_forgetBeside 11 = .ok (.iload_n 3, 1) := by decide +kernel
theorem dF_forgetBeside_12 : decode cF_forgetBeside 12 = .ok (.iload_n 2, 1) := by decide +kernel
theorem dF_forgetBeside_13 : decode cF_forgetBeside 13 = .ok (.invokevirtual 206, 3) := by decide +kernel
theorem dF_forgetBeside_16 : decode cF_forgetBeside 16 = .ok (.ifCond .ne 19, 3) := by decide +kernel
theorem dF_forgetBeside_19 : decode cF_forgetBeside 19 = .ok (.aload_n 1, 1) := by decide +kernel
theorem dF_forgetBeside_20 : decode cF_forgetBeside 20 = .ok (.dup, 1) := by decide +kernel
theorem dF_forgetBeside_21 : decode cF_forgetBeside 21 = .ok (.getfield 181, 3) := by decide +kernel
theorem dF_forgetBeside_24 : decode cF_forgetBeside 24 = .ok (.lconst 1, 1) := by decide +kernel
theorem dF_forgetBeside_25 : decode cF_forgetBeside 25 = .ok (.iload_n 3, 1) := by decide +kernel
theorem dF_forgetBeside_26 : decode cF_forgetBeside 26 = .ok (.lshl, 1) := by decide +kernel
theorem dF_forgetBeside_27 : decode cF_forgetBeside 27 = .ok (.ldc2_w 245, 3) := by decide +kernel
theorem dF_forgetBeside_30 : decode cF_forgetBeside 30 = .ok (.lxor, 1) := by decide +kernel
theorem dF_forgetBeside_31 : decode cF_forgetBeside 31 = .ok (.land, 1) := by decide +kernel
theorem dF_forgetBeside_32 : decode cF_forgetBeside 32 = .ok (.putfield 181, 3) := by decide +kernel
theorem dF_forgetBeside_35 : decode cF_forgetBeside 35 = .ok (.iinc 3 1, 3) := by decide +kernel
theorem dF_forgetBeside_38 : decode cF_forgetBeside 38 = .ok (.goto (-36), 3) := by decide +kernel
theorem dF_forgetBeside_41 : decode cF_forgetBeside 41 = .ok (.return_, 1) := by decide +kernel
theorem dF_heaviestChild_0 : decode cF_heaviestChild 0 = .ok (.iconst (-1), 1) := by decide +kernel
theorem dF_heaviestChild_1 : decode cF_heaviestChild 1 = .ok (.istore_n 3, 1) := by decide +kernel
theorem dF_heaviestChild_2 : decode cF_heaviestChild 2 = .ok (.iconst (-1), 1) := by decide +kernel
theorem dF_heaviestChild_3 : decode cF_heaviestChild 3 = .ok (.istore 4, 2) := by decide +kernel
theorem dF_heaviestChild_5 : decode cF_heaviestChild 5 = .ok (.iload_n 2, 1) := by decide +kernel
theorem dF_heaviestChild_6 : decode cF_heaviestChild 6 = .ok (.iconst 1, 1) := by decide +kernel
theorem dF_heaviestChild_7 : decode cF_heaviestChild 7 = .ok (.iadd, 1) := by decide +kernel
theorem dF_heaviestChild_8 : decode cF_heaviestChild 8 = .ok (.istore 5, 2) := by decide +kernel
theorem dF_heaviestChild_10 : decode cF_heaviestChild 10 = .ok (.iload 5, 2) := by decide +kernel
theorem dF_heaviestChild_12 : decode cF_heaviestChild 12 = .ok (.aload_n 0, 1) := by decide +kernel
theorem dF_heaviestChild_13 : decode cF_heaviestChild 13 = .ok (.getfield 67, 3) := by decide +kernel
theorem dF_heaviestChild_16 : decode cF_heaviestChild 16 = .ok (.if_icmp .ge 55, 3) := by decide +kernel
theorem dF_heaviestChild_19 : decode cF_heaviestChild 19 = .ok (.aload_n 0, 1) := by decide +kernel
theorem dF_heaviestChild_20 : decode cF_heaviestChild 20 = .ok (.getfield 34, 3) := by decide +kernel
theorem dF_heaviestChild_23 : decode cF_heaviestChild 23 = .ok (.iload 5, 2) := by decide +kernel
theorem dF_heaviestChild_25 : decode cF_heaviestChild 25 = .ok (.aaload, 1) := by decide +kernel
theorem dF_heaviestChild_26 : decode cF_heaviestChild 26 = .ok (.getfield 144, 3) := by decide +kernel
theorem dF_heaviestChild_29 : decode cF_heaviestChild 29 = .ok (.iload_n 2, 1) := by decide +kernel
theorem dF_heaviestChild_30 : decode cF_heaviestChild 30 = .ok (.if_icmp .ne 35, 3) := by decide +kernel
theorem dF_heaviestChild_33 : decode cF_heaviestChild 33 = .ok (.aload_n 1, 1) := by decide +kernel
theorem dF_heaviestChild_34 : decode cF_heaviestChild 34 = .ok (.iload 5, 2) := by decide +kernel
theorem dF_heaviestChild_36 : decode cF_heaviestChild 36 = .ok (.invokevirtual 178, 3) := by decide +kernel
theorem dF_heaviestChild_39 : decode cF_heaviestChild 39 = .ok (.ifCond .eq 26, 3) := by decide +kernel
theorem dF_heaviestChild_42 : decode cF_heaviestChild 42 = .ok (.aload_n 0, 1) := by decide +kernel
theorem dF_heaviestChild_43 : decode cF_heaviestChild 43 = .ok (.aload_n 1, 1) := by decide +kernel
theorem dF_heaviestChild_44 : decode cF_heaviestChild 44 = .ok (.iload 5, 2) := by decide +kernel
theorem dF_heaviestChild_46 : decode cF_heaviestChild 46 = .ok (.invokevirtual 247, 3) := by decide +kernel
theorem dF_heaviestChild_49 : decode cF_heaviestChild 49 = .ok (.istore 6, 2) := by decide +kernel
theorem dF_heaviestChild_51 : decode cF_heaviestChild 51 = .ok (.iload 6, 2) := by decide +kernel
theorem dF_heaviestChild_53 : decode cF_heaviestChild 53 = .ok (.iload 4, 2) := by decide +kernel
theorem dF_heaviestChild_55 : decode cF_heaviestChild 55 = .ok (.if_icmp .le 10, 3) := by decide +kernel
theorem dF_heaviestChild_58 : decode cF_heaviestChild 58 = .ok (.iload 5, 2) := by decide +kernel
theorem dF_heaviestChild_60 : decode cF_heaviestChild 60 = .ok (.istore_n 3, 1) := by decide +kernel
theorem dF_heaviestChild_61 : decode cF_heaviestChild 61 = .ok (.iload 6, 2) := by decide +kernel
theorem dF_heaviestChild_63 : decode cF_heaviestChild 63 = .ok (.istore 4, 2) := by decide +kernel
theorem dF_heaviestChild_65 : decode cF_heaviestChild 65 = .ok (.iinc 5 1, 3) := by decide +kernel
theorem dF_heaviestChild_68 : decode cF_heaviestChild 68 = .ok (.goto (-58), 3) := by decide +kernel
theorem dF_heaviestChild_71 : decode cF_heaviestChild 71 = .ok (.iload_n 3, 1) := by decide +kernel
theorem dF_heaviestChild_72 : decode cF_heaviestChild 72 = .ok (.ireturn, 1) := by decide +kernel
theorem dF_supportOf_0 : decode cF_supportOf 0 = .ok (.iconst 0, 1) := by decide +kernel
theorem dF_supportOf_1 : decode cF_supportOf 1 = .ok (.istore_n 3, 1) := by decide +kernel
theorem dF_supportOf_2 : decode cF_supportOf 2 = .ok (.iconst 0, 1) := by decide +kernel
theorem dF_supportOf_3 : decode cF_supportOf 3 = .ok (.istore 4, 2) := by decide +kernel
theorem dF_supportOf_5 : decode cF_supportOf 5 = .ok (.iload 4, 2) := by decide +kernel
theorem dF_supportOf_7 : decode cF_supportOf 7 = .ok (.aload_n 0, 1) := by decide +kernel
theorem dF_supportOf_8 : decode cF_supportOf 8 = .ok (.getfield 18, 3) := by decide +kernel
theorem dF_supportOf_11 : decode cF_supportOf 11 = .ok (.if_icmp .ge 49, 3) := by decide +kernel
theorem dF_supportOf_14 : decode cF_supportOf 14 = .ok (.aload_n 1, 1) := by decide +kernel
theorem dF_supportOf_15 : decode cF_supportOf 15 = .ok (.getfield 239, 3) := by decide +kernel
theorem dF_supportOf_18 : decode cF_supportOf 18 = .ok (.iload 4, 2) := by decide +kernel
theorem dF_supportOf_20 : decode cF_supportOf 20 = .ok (.iaload, 1) := by decide +kernel
theorem dF_supportOf_21 : decode cF_supportOf 21 = .ok (.istore 5, 2) := by decide +kernel
theorem dF_supportOf_23 : decode cF_supportOf 23 = .ok (.iload 5, 2) := by decide +kernel
theorem dF_supportOf_25 : decode cF_supportOf 25 = .ok (.iconst (-1), 1) := by decide +kernel
theorem dF_supportOf_26 : decode cF_supportOf 26 = .ok (.if_icmp .eq 28, 3) := by decide +kernel
theorem dF_supportOf_29 : decode cF_supportOf 29 = .ok (.aload_n 0, 1) := by decide +kernel
theorem dF_supportOf_30 : decode cF_supportOf 30 = .ok (.aload_n 0, 1) := by decide +kernel
theorem dF_supportOf_31 : decode cF_supportOf 31 = .ok (.getfield 41, 3) := by decide +kernel
theorem dF_supportOf_34 : decode cF_supportOf 34 = .ok (.iload 5, 2) := by decide +kernel
theorem dF_supportOf_36 : decode cF_supportOf 36 = .ok (.aaload, 1) := by decide +kernel
theorem dF_supportOf_37 : decode cF_supportOf 37 = .ok (.getfield 104, 3) := by decide +kernel
theorem dF_supportOf_40 : decode cF_supportOf 40 = .ok (.iload_n 2, 1) := by decide +kernel
theorem dF_supportOf_41 : decode cF_supportOf 41 = .ok (.invokevirtual 206, 3) := by decide +kernel
theorem dF_supportOf_44 : decode cF_supportOf 44 = .ok (.ifCond .eq 10, 3) := by decide +kernel
theorem dF_supportOf_47 : decode cF_supportOf 47 = .ok (.iload_n 3, 1) := by decide +kernel
theorem dF_supportOf_48 : decode cF_supportOf 48 = .ok (.iconst 1, 1) := by decide +kernel
theorem dF_supportOf_49 : decode cF_supportOf 49 = .ok (.iload 4, 2) := by decide +kernel
theorem dF_supportOf_51 : decode cF_supportOf 51 = .ok (.ishl, 1) := by decide +kernel
theorem dF_supportOf_52 : decode cF_supportOf 52 = .ok (.ior, 1) := by decide +kernel
theorem dF_supportOf_53 : decode cF_supportOf 53 = .ok (.istore_n 3, 1) := by decide +kernel
theorem dF_supportOf_54 : decode cF_supportOf 54 = .ok (.iinc 4 1, 3) := by decide +kernel
theorem dF_supportOf_57 : decode cF_supportOf 57 = .ok (.goto (-52), 3) := by decide +kernel
theorem dF_supportOf_60 : decode cF_supportOf 60 = .ok (.aload_n 0, 1) := by decide +kernel
theorem dF_supportOf_61 : decode cF_supportOf 61 = .ok (.iload_n 3, 1) := by decide +kernel
theorem dF_supportOf_62 : decode cF_supportOf 62 = .ok (.invokevirtual 172, 3) := by decide +kernel
theorem dF_supportOf_65 : decode cF_supportOf 65 = .ok (.ireturn, 1) := by decide +kernel
theorem dF_lowestClash_0 : decode cF_lowestClash 0 = .ok (.iconst 0, 1) := by decide +kernel
theorem dF_lowestClash_1 : decode cF_lowestClash 1 = .ok (.istore 4, 2) := by decide +kernel
theorem dF_lowestClash_3 : decode cF_lowestClash 3 = .ok (.iload 4, 2) := by decide +kernel
theorem dF_lowestClash_5 : decode cF_lowestClash 5 = .ok (.aload_n 0, 1) := by decide +kernel
theorem dF_lowestClash_6 : decode cF_lowestClash 6 = .ok (.getfield 70, 3) := by decide +kernel
theorem dF_lowestClash_9 : decode cF_lowestClash 9 = .ok (.if_icmp .ge 92, 3) := by decide +kernel
theorem dF_lowestClash_12 : decode cF_lowestClash 12 = .ok (.aload_n 0, 1) := by decide +kernel
theorem dF_lowestClash_13 : decode cF_lowestClash 13 = .ok (.getfield 41, 3) := by decide +kernel
theorem dF_lowestClash_16 : decode cF_lowestClash 16 = .ok (.iload 4, 2) := by decide +kernel
theorem dF_lowestClash_18 : decode cF_lowestClash 18 = .ok (.aaload, 1) := by decide +kernel
theorem dF_lowestClash_19 : decode cF_lowestClash 19 = .ok (.getfield 100, 3) := by decide +kernel
theorem dF_lowestClash_22 : decode cF_lowestClash 22 = .ok (.iload_n 1, 1) := by decide +kernel
theorem dF_lowestClash_23 : decode cF_lowestClash 23 = .ok (.if_icmp .ne 72, 3) := by decide +kernel
theorem dF_lowestClash_26 : decode cF_lowestClash 26 = .ok (.iload_n 3, 1) := by decide +kernel
theorem dF_lowestClash_27 : decode cF_lowestClash 27 = .ok (.ifCond .ne 13, 3) := by decide +kernel
theorem dF_lowestClash_30 : decode cF_lowestClash 30 = .ok (.aload_n 0, 1) := by decide +kernel
theorem dF_lowestClash_31 : decode cF_lowestClash 31 = .ok (.iload 4, 2) := by decide +kernel
theorem dF_lowestClash_33 : decode cF_lowestClash 33 = .ok (.iload_n 2, 1) := by decide +kernel
theorem dF_lowestClash_34 : decode cF_lowestClash 34 = .ok (.invokevirtual 250, 3) := by decide +kernel
theorem dF_lowestClash_37 : decode cF_lowestClash 37 = .ok (.ifCond .eq 58, 3) := by decide +kernel
theorem dF_lowestClash_40 : decode cF_lowestClash 40 = .ok (.iload 4, 2) := by decide +kernel
theorem dF_lowestClash_42 : decode cF_lowestClash 42 = .ok (.iconst 1, 1) := by decide +kernel
theorem dF_lowestClash_43 : decode cF_lowestClash 43 = .ok (.iadd, 1) := by decide +kernel
theorem dF_lowestClash_44 : decode cF_lowestClash 44 = .ok (.istore 5, 2) := by decide +kernel
theorem dF_lowestClash_46 : decode cF_lowestClash 46 = .ok (.iload 5, 2) := by decide +kernel
theorem dF_lowestClash_48 : decode cF_lowestClash 48 = .ok (.aload_n 0, 1) := by decide +kernel
theorem dF_lowestClash_49 : decode cF_lowestClash 49 = .ok (.getfield 70, 3) := by decide +kernel
theorem dF_lowestClash_52 : decode cF_lowestClash 52 = .ok (.if_icmp .ge 43, 3) := by decide +kernel
theorem dF_lowestClash_55 : decode cF_lowestClash 55 = .ok (.aload_n 0, 1) := by decide +kernel
theorem dF_lowestClash_56 : decode cF_lowestClash 56 = .ok (.iload 4, 2) := by decide +kernel
theorem dF_lowestClash_58 : decode cF_lowestClash 58 = .ok (.iload 5, 2) := by decide +kernel
theorem dF_lowestClash_60 : decode cF_lowestClash 60 = .ok (.invokevirtual 119, 3) := by decide +kernel
theorem dF_lowestClash_63 : decode cF_lowestClash 63 = .ok (.ifCond .eq 26, 3) := by decide +kernel
theorem dF_lowestClash_66 : decode cF_lowestClash 66 = .ok (.iload_n 3, 1) := by decide +kernel
theorem dF_lowestClash_67 : decode cF_lowestClash 67 = .ok (.ifCond .ne 13, 3) := by decide +kernel
theorem dF_lowestClash_70 : decode cF_lowestClash 70 = .ok (.aload_n 0, 1) := by decide +kernel
theorem dF_lowestClash_71 : decode cF_lowestClash 71 = .ok (.iload 5, 2) := by decide +kernel
theorem dF_lowestClash_73 : decode cF_lowestClash 73 = .ok (.iload_n 2, 1) := by decide +kernel
theorem dF_lowestClash_74 : decode cF_lowestClash 74 = .ok (.invokevirtual 250, 3) := by decide +kernel
theorem dF_lowestClash_77 : decode cF_lowestClash 77 = .ok (.ifCond .eq 12, 3) := by decide +kernel
theorem dF_lowestClash_80 : decode cF_lowestClash 80 = .ok (.bipush 100, 2) := by decide +kernel
theorem dF_lowestClash_82 : decode cF_lowestClash 82 = .ok (.iload 4, 2) := by decide +kernel
theorem dF_lowestClash_84 : decode cF_lowestClash 84 = .ok (.imul, 1) := by decide +kernel
theorem dF_lowestClash_85 : decode cF_lowestClash 85 = .ok (.iload 5, 2) := by decide +kernel
theorem dF_lowestClash_87 : decode cF_lowestClash 87 = .ok (.iadd, 1) := by decide +kernel
theorem dF_lowestClash_88 : decode cF_lowestClash 88 = .ok (.ireturn, 1) := by decide +kernel
theorem dF_lowestClash_89 : decode cF_lowestClash 89 = .ok (.iinc 5 1, 3) := by decide +kernel
theorem dF_lowestClash_92 : decode cF_lowestClash 92 = .ok (.goto (-46), 3) := by decide +kernel
theorem dF_lowestClash_95 : decode cF_lowestClash 95 = .ok (.iinc 4 1, 3) := by decide +kernel
theorem dF_lowestClash_98 : decode cF_lowestClash 98 = .ok (.goto (-95), 3) := by decide +kernel
theorem dF_lowestClash_101 : decode cF_lowestClash 101 = .ok (.iconst (-1), 1) := by decide +kernel
theorem dF_lowestClash_102 : decode cF_lowestClash 102 = .ok (.ireturn, 1) := by decide +kernel
theorem dF_isHeard_0 : decode cF_isHeard 0 = .ok (.iconst 0, 1) := by decide +kernel
theorem dF_isHeard_1 : decode cF_isHeard 1 = .ok (.istore_n 3, 1) := by decide +kernel
theorem dF_isHeard_2 : decode cF_isHeard 2 = .ok (.iload_n 3, 1) := by decide +kernel
theorem dF_isHeard_3 : decode cF_isHeard 3 = .ok (.iconst 3, 1) := by decide +kernel
theorem dF_isHeard_4 : decode cF_isHeard 4 = .ok (.if_icmp .ge 33, 3) := by decide +kernel
theorem dF_isHeard_7 : decode cF_isHeard 7 = .ok (.iload_n 2, 1) := by decide +kernel
theorem dF_isHeard_8 : decode cF_isHeard 8 = .ok (.iload_n 3, 1) := by decide +kernel
theorem dF_isHeard_9 : decode cF_isHeard 9 = .ok (.invokestatic 129, 3) := by decide +kernel
theorem dF_isHeard_12 : decode cF_isHeard 12 = .ok (.ifCond .eq 19, 3) := by decide +kernel
theorem dF_isHeard_15 : decode cF_isHeard 15 = .ok (.aload_n 0, 1) := by decide +kernel
theorem dF_isHeard_16 : decode cF_isHeard 16 = .ok (.getfield 48, 3) := by decide +kernel
theorem dF_isHeard_19 : decode cF_isHeard 19 = .ok (.iload_n 3, 1) := by decide +kernel
theorem dF_isHeard_20 : decode cF_isHeard 20 = .ok (.aaload, 1) := by decide +kernel
theorem dF_isHeard_21 : decode cF_isHeard 21 = .ok (.getfield 192, 3) := by decide +kernel
theorem dF_isHeard_24 : decode cF_isHeard 24 = .ok (.iload_n 1, 1) := by decide +kernel
theorem dF_isHeard_25 : decode cF_isHeard 25 = .ok (.baload, 1) := by decide +kernel
theorem dF_isHeard_26 : decode cF_isHeard 26 = .ok (.ifCond .eq 5, 3) := by decide +kernel
theorem dF_isHeard_29 : decode cF_isHeard 29 = .ok (.iconst 1, 1) := by decide +kernel
theorem dF_isHeard_30 : decode cF_isHeard 30 = .ok (.ireturn, 1) := by decide +kernel
theorem dF_isHeard_31 : decode cF_isHeard 31 = .ok (.iinc 3 1, 3) := by decide +kernel
theorem dF_isHeard_34 : decode cF_isHeard 34 = .ok (.goto (-32), 3) := by decide +kernel
theorem dF_isHeard_37 : decode cF_isHeard 37 = .ok (.iconst 0, 1) := by decide +kernel
theorem dF_isHeard_38 : decode cF_isHeard 38 = .ok (.ireturn, 1) := by decide +kernel
theorem dM_init_0 : decode cM_init 0 = .ok (.aload_n 0, 1) := by decide +kernel
theorem dM_init_1 : decode cM_init 1 = .ok (.invokespecial 1, 3) := by decide +kernel
theorem dM_init_4 : decode cM_init 4 = .ok (.aload_n 0, 1) := by decide +kernel
theorem dM_init_5 : decode cM_init 5 = .ok (.bipush 7, 2) := by decide +kernel
theorem dM_init_7 : decode cM_init 7 = .ok (.newarray .int, 2) := by decide +kernel
theorem dM_init_9 : decode cM_init 9 = .ok (.putfield 7, 3) := by decide +kernel
theorem dM_init_12 : decode cM_init 12 = .ok (.aload_n 0, 1) := by decide +kernel
theorem dM_init_13 : decode cM_init 13 = .ok (.bipush 60, 2) := by decide +kernel
theorem dM_init_15 : decode cM_init 15 = .ok (.newarray .int, 2) := by decide +kernel
theorem dM_init_17 : decode cM_init 17 = .ok (.putfield 13, 3) := by decide +kernel
theorem dM_init_20 : decode cM_init 20 = .ok (.aload_n 0, 1) := by decide +kernel
theorem dM_init_21 : decode cM_init 21 = .ok (.bipush 60, 2) := by decide +kernel
theorem dM_init_23 : decode cM_init 23 = .ok (.newarray .int, 2) := by decide +kernel
theorem dM_init_25 : decode cM_init 25 = .ok (.putfield 16, 3) := by decide +kernel
theorem dM_init_28 : decode cM_init 28 = .ok (.aload_n 0, 1) := by decide +kernel
theorem dM_init_29 : decode cM_init 29 = .ok (.bipush 60, 2) := by decide +kernel
theorem dM_init_31 : decode cM_init 31 = .ok (.newarray .int, 2) := by decide +kernel
theorem dM_init_33 : decode cM_init 33 = .ok (.putfield 19, 3) := by decide +kernel
theorem dM_init_36 : decode cM_init 36 = .ok (.aload_n 0, 1) := by decide +kernel
theorem dM_init_37 : decode cM_init 37 = .ok (.sipush 240, 3) := by decide +kernel
theorem dM_init_40 : decode cM_init 40 = .ok (.newarray .int, 2) := by decide +kernel
theorem dM_init_42 : decode cM_init 42 = .ok (.putfield 22, 3) := by decide +kernel
theorem dM_init_45 : decode cM_init 45 = .ok (.aload_n 0, 1) := by decide +kernel
theorem dM_init_46 : decode cM_init 46 = .ok (.iconst 4, 1) := by decide +kernel
theorem dM_init_47 : decode cM_init 47 = .ok (.newarray .int, 2) := by decide +kernel
theorem dM_init_49 : decode cM_init 49 = .ok (.putfield 25, 3) := by decide +kernel
theorem dM_init_52 : decode cM_init 52 = .ok (.aload_n 0, 1) := by decide +kernel
theorem dM_init_53 : decode cM_init 53 = .ok (.bipush 80, 2) := by decide +kernel
theorem dM_init_55 : decode cM_init 55 = .ok (.newarray .int, 2) := by decide +kernel
theorem dM_init_57 : decode cM_init 57 = .ok (.putfield 28, 3) := by decide +kernel
theorem dM_init_60 : decode cM_init 60 = .ok (.aload_n 0, 1) := by decide +kernel
theorem dM_init_61 : decode cM_init 61 = .ok (.bipush 80, 2) := by decide +kernel
theorem dM_init_63 : decode cM_init 63 = .ok (.newarray .int, 2) := by decide +kernel
theorem dM_init_65 : decode cM_init 65 = .ok (.putfield 31, 3) := by decide +kernel
theorem dM_init_68 : decode cM_init 68 = .ok (.aload_n 0, 1) := by decide +kernel
theorem dM_init_69 : decode cM_init 69 = .ok (.bipush 80, 2) := by decide +kernel
theorem dM_init_71 : decode cM_init 71 = .ok (.newarray .int, 2) := by decide +kernel
theorem dM_init_73 : decode cM_init 73 = .ok (.putfield 34, 3) := by decide +kernel
theorem dM_init_76 : decode cM_init 76 = .ok (.aload_n 0, 1) := by decide +kernel
theorem dM_init_77 : decode cM_init 77 = .ok (.bipush 80, 2) := by decide +kernel
theorem dM_init_79 : decode cM_init 79 = .ok (.newarray .int, 2) := by decide +kernel
theorem dM_init_81 : decode cM_init 81 = .ok (.putfield 37, 3) := by decide +kernel
theorem dM_init_84 : decode cM_init 84 = .ok (.aload_n 0, 1) := by decide +kernel
theorem dM_init_85 : decode cM_init 85 = .ok (.bipush 80, 2) := by decide +kernel
theorem dM_init_87 : decode cM_init 87 = .ok (.newarray .int, 2) := by decide +kernel
theorem dM_init_89 : decode cM_init 89 = .ok (.putfield 40, 3) := by decide +kernel
theorem dM_init_92 : decode cM_init 92 = .ok (.aload_n 0, 1) := by decide +kernel
theorem dM_init_93 : decode cM_init 93 = .ok (.bipush 80, 2) := by decide +kernel
theorem dM_init_95 : decode cM_init 95 = .ok (.newarray .int, 2) := by decide +kernel
theorem dM_init_97 : decode cM_init 97 = .ok (.putfield 43, 3) := by decide +kernel
theorem dM_init_100 : decode cM_init 100 = .ok (.aload_n 0, 1) := by decide +kernel
theorem dM_init_101 : decode cM_init 101 = .ok (.bipush 80, 2) := by decide +kernel
theorem dM_init_103 : decode cM_init 103 = .ok (.newarray .int, 2) := by decide +kernel
theorem dM_init_105 : decode cM_init 105 = .ok (.putfield 46, 3) := by decide +kernel
theorem dM_init_108 : decode cM_init 108 = .ok (.aload_n 0, 1) := by decide +kernel
theorem dM_init_109 : decode cM_init 109 = .ok (.sipush 180, 3) := by decide +kernel
theorem dM_init_112 : decode cM_init 112 = .ok (.newarray .boolean, 2) := by decide +kernel
theorem dM_init_114 : decode cM_init 114 = .ok (.putfield 49, 3) := by decide +kernel
theorem dM_init_117 : decode cM_init 117 = .ok (.aload_n 0, 1) := by decide +kernel
theorem dM_init_118 : decode cM_init 118 = .ok (.sipush 240, 3) := by decide +kernel
theorem dM_init_121 : decode cM_init 121 = .ok (.newarray .boolean, 2) := by decide +kernel
theorem dM_init_123 : decode cM_init 123 = .ok (.putfield 53, 3) := by decide +kernel
theorem dM_init_126 : decode cM_init 126 = .ok (.aload_n 0, 1) := by decide +kernel
theorem dM_init_127 : decode cM_init 127 = .ok (.bipush 6, 2) := by decide +kernel
theorem dM_init_129 : decode cM_init 129 = .ok (.newarray .int, 2) := by decide +kernel
theorem dM_init_131 : decode cM_init 131 = .ok (.putfield 56, 3) := by decide +kernel
theorem dM_init_134 : decode cM_init 134 = .ok (.aload_n 0, 1) := by decide +kernel
theorem dM_init_135 : decode cM_init 135 = .ok (.bipush 6, 2) := by decide +kernel
theorem dM_init_137 : decode cM_init 137 = .ok (.newarray .int, 2) := by decide +kernel
theorem dM_init_139 : decode cM_init 139 = .ok (.putfield 59, 3) := by decide +kernel
theorem dM_init_142 : decode cM_init 142 = .ok (.aload_n 0, 1) := by decide +kernel
theorem dM_init_143 : decode cM_init 143 = .ok (.bipush 7, 2) := by decide +kernel
theorem dM_init_145 : decode cM_init 145 = .ok (.newarray .int, 2) := by decide +kernel
theorem dM_init_147 : decode cM_init 147 = .ok (.putfield 62, 3) := by decide +kernel
theorem dM_init_150 : decode cM_init 150 = .ok (.aload_n 0, 1) := by decide +kernel
theorem dM_init_151 : decode cM_init 151 = .ok (.bipush 7, 2) := by decide +kernel
theorem dM_init_153 : decode cM_init 153 = .ok (.newarray .boolean, 2) := by decide +kernel
theorem dM_init_155 : decode cM_init 155 = .ok (.putfield 65, 3) := by decide +kernel
theorem dM_init_158 : decode cM_init 158 = .ok (.aload_n 0, 1) := by decide +kernel
theorem dM_init_159 : decode cM_init 159 = .ok (.bipush 7, 2) := by decide +kernel
theorem dM_init_161 : decode cM_init 161 = .ok (.newarray .boolean, 2) := by decide +kernel
theorem dM_init_163 : decode cM_init 163 = .ok (.putfield 68, 3) := by decide +kernel
theorem dM_init_166 : decode cM_init 166 = .ok (.aload_n 0, 1) := by decide +kernel
theorem dM_init_167 : decode cM_init 167 = .ok (.bipush 7, 2) := by decide +kernel
theorem dM_init_169 : decode cM_init 169 = .ok (.newarray .boolean, 2) := by decide +kernel
theorem dM_init_171 : decode cM_init 171 = .ok (.putfield 71, 3) := by decide +kernel
theorem dM_init_174 : decode cM_init 174 = .ok (.aload_n 0, 1) := by decide +kernel
theorem dM_init_175 : decode cM_init 175 = .ok (.bipush 60, 2) := by decide +kernel
theorem dM_init_177 : decode cM_init 177 = .ok (.newarray .int, 2) := by decide +kernel
theorem dM_init_179 : decode cM_init 179 = .ok (.putfield 74, 3) := by decide +kernel
theorem dM_init_182 : decode cM_init 182 = .ok (.aload_n 0, 1) := by decide +kernel
theorem dM_init_183 : decode cM_init 183 = .ok (.iload_n 1, 1) := by decide +kernel
theorem dM_init_184 : decode cM_init 184 = .ok (.iconst 3, 1) := by decide +kernel
theorem dM_init_185 : decode cM_init 185 = .ok (.if_icmp .ge 7, 3) := by decide +kernel
theorem dM_init_188 : decode cM_init 188 = .ok (.iconst 3, 1) := by decide +kernel
theorem dM_init_189 : decode cM_init 189 = .ok (.goto 15, 3) := by decide +kernel
theorem dM_init_192 : decode cM_init 192 = .ok (.iload_n 1, 1) := by decide +kernel
theorem dM_init_193 : decode cM_init 193 = .ok (.bipush 7, 2) := by decide +kernel
theorem dM_init_195 : decode cM_init 195 = .ok (.if_icmp .le 8, 3) := by decide +kernel
theorem dM_init_198 : decode cM_init 198 = .ok (.bipush 7, 2) := by decide +kernel
theorem dM_init_200 : decode cM_init 200 = .ok (.goto 4, 3) := by decide +kernel
theorem dM_init_203 : decode cM_init 203 = .ok (.iload_n 1, 1) := by decide +kernel
theorem dM_init_204 : decode cM_init 204 = .ok (.putfield 77, 3) := by decide +kernel
theorem dM_init_207 : decode cM_init 207 = .ok (.aload_n 0, 1) := by decide +kernel
theorem dM_init_208 : decode cM_init 208 = .ok (.iload_n 3, 1) := by decide +kernel
theorem dM_init_209 : decode cM_init 209 = .ok (.iconst 2, 1) := by decide +kernel
theorem dM_init_210 : decode cM_init 210 = .ok (.if_icmp .ge 7, 3) := by decide +kernel
theorem dM_init_213 : decode cM_init 213 = .ok (.iconst 2, 1) := by decide +kernel
theorem dM_init_214 : decode cM_init 214 = .ok (.goto 13, 3) := by decide +kernel
theorem dM_init_217 : decode cM_init 217 = .ok (.iload_n 3, 1) := by decide +kernel
theorem dM_init_218 : decode cM_init 218 = .ok (.iconst 5, 1) := by decide +kernel
theorem dM_init_219 : decode cM_init 219 = .ok (.if_icmp .le 7, 3) := by decide +kernel
theorem dM_init_222 : decode cM_init 222 = .ok (.iconst 5, 1) := by decide +kernel
theorem dM_init_223 : decode cM_init 223 = .ok (.goto 4, 3) := by decide +kernel
theorem dM_init_226 : decode cM_init 226 = .ok (.iload_n 3, 1) := by decide +kernel
theorem dM_init_227 : decode cM_init 227 = .ok (.putfield 81, 3) := by decide +kernel
theorem dM_init_230 : decode cM_init 230 = .ok (.iconst 0, 1) := by decide +kernel
theorem dM_init_231 : decode cM_init 231 = .ok (.istore 4, 2) := by decide +kernel
theorem dM_init_233 : decode cM_init 233 = .ok (.iload 4, 2) := by decide +kernel
theorem dM_init_235 : decode cM_init 235 = .ok (.aload_n 0, 1) := by decide +kernel
theorem dM_init_236 : decode cM_init 236 = .ok (.getfield 77, 3) := by decide +kernel
theorem dM_init_239 : decode cM_init 239 = .ok (.if_icmp .ge 43, 3) := by decide +kernel
theorem dM_init_242 : decode cM_init 242 = .ok (.aload_n 0, 1) := by decide +kernel
theorem dM_init_243 : decode cM_init 243 = .ok (.getfield 7, 3) := by decide +kernel
theorem dM_init_246 : decode cM_init 246 = .ok (.iload 4, 2) := by decide +kernel
theorem dM_init_248 : decode cM_init 248 = .ok (.iconst 1, 1) := by decide +kernel
theorem dM_init_249 : decode cM_init 249 = .ok (.iload_n 2, 1) := by decide +kernel
theorem dM_init_250 : decode cM_init 250 = .ok (.iconst 4, 1) := by decide +kernel
theorem dM_init_251 : decode cM_init 251 = .ok (.iload 4, 2) := by decide +kernel
theorem dM_init_253 : decode cM_init 253 = .ok (.imul, 1) := by decide +kernel
theorem dM_init_254 : decode cM_init 254 = .ok (.iushr, 1) := by decide +kernel
theorem dM_init_255 : decode cM_init 255 = .ok (.bipush 15, 2) := by decide +kernel
theorem dM_init_257 : decode cM_init 257 = .ok (.iand, 1) := by decide +kernel
theorem dM_init_258 : decode cM_init 258 = .ok (.iadd, 1) := by decide +kernel
theorem dM_init_259 : decode cM_init 259 = .ok (.iastore, 1) := by decide +kernel
theorem dM_init_260 : decode cM_init 260 = .ok (.aload_n 0, 1) := by decide +kernel
theorem dM_init_261 : decode cM_init 261 = .ok (.dup, 1) := by decide +kernel
theorem dM_init_262 : decode cM_init 262 = .ok (.getfield 84, 3) := by decide +kernel
theorem dM_init_265 : decode cM_init 265 = .ok (.aload_n 0, 1) := by decide +kernel
theorem dM_init_266 : decode cM_init 266 = .ok (.getfield 7, 3) := by decide +kernel
theorem dM_init_269 : decode cM_init 269 = .ok (.iload 4, 2) := by decide +kernel
theorem dM_init_271 : decode cM_init 271 = .ok (.iaload, 1) := by decide +kernel
theorem dM_init_272 : decode cM_init 272 = .ok (.iadd, 1) := by decide +kernel
theorem dM_init_273 : decode cM_init 273 = .ok (.putfield 84, 3) := by decide +kernel
theorem dM_init_276 : decode cM_init 276 = .ok (.iinc 4 1, 3) := by decide +kernel
theorem dM_init_279 : decode cM_init 279 = .ok (.goto (-46), 3) := by decide +kernel
theorem dM_init_282 : decode cM_init 282 = .ok (.aload_n 0, 1) := by decide +kernel
theorem dM_init_283 : decode cM_init 283 = .ok (.iconst 1, 1) := by decide +kernel
theorem dM_init_284 : decode cM_init 284 = .ok (.putfield 87, 3) := by decide +kernel
theorem dM_init_287 : decode cM_init 287 = .ok (.aload_n 0, 1) := by decide +kernel
theorem dM_init_288 : decode cM_init 288 = .ok (.getfield 13, 3) := by decide +kernel
theorem dM_init_291 : decode cM_init 291 = .ok (.iconst 0, 1) := by decide +kernel
theorem dM_init_292 : decode cM_init 292 = .ok (.iconst (-1), 1) := by decide +kernel
theorem dM_init_293 : decode cM_init 293 = .ok (.iastore, 1) := by decide +kernel
theorem dM_init_294 : decode cM_init 294 = .ok (.iconst 0, 1) := by decide +kernel
theorem dM_init_295 : decode cM_init 295 = .ok (.istore 4, 2) := by decide +kernel
theorem dM_init_297 : decode cM_init 297 = .ok (.iload 4, 2) := by decide +kernel
theorem dM_init_299 : decode cM_init 299 = .ok (.iconst 3, 1) := by decide +kernel
theorem dM_init_300 : decode cM_init 300 = .ok (.if_icmp .ge 20, 3) := by decide +kernel
theorem dM_init_303 : decode cM_init 303 = .ok (.aload_n 0, 1) := by decide +kernel
theorem dM_init_304 : decode cM_init 304 = .ok (.getfield 49, 3) := by decide +kernel
theorem dM_init_307 : decode cM_init 307 = .ok (.bipush 60, 2) := by decide +kernel
theorem dM_init_309 : decode cM_init 309 = .ok (.iload 4, 2) := by decide +kernel
theorem dM_init_311 : decode cM_init 311 = .ok (.imul, 1) := by decide +kernel
theorem dM_init_312 : decode cM_init 312 = .ok (.iconst 1, 1) := by decide +kernel
theorem dM_init_313 : decode cM_init 313 = .ok (.bastore, 1) := by decide +kernel
theorem dM_init_314 : decode cM_init 314 = .ok (.iinc 4 1, 3) := by decide +kernel
theorem dM_init_317 : decode cM_init 317 = .ok (.goto (-20), 3) := by decide +kernel
theorem dM_init_320 : decode cM_init 320 = .ok (.return_, 1) := by decide +kernel
theorem dM_outside_0 : decode cM_outside 0 = .ok (.iload_n 0, 1) := by decide +kernel
theorem dM_outside_1 : decode cM_outside 1 = .ok (.iload_n 1, 1) := by decide +kernel
theorem dM_outside_2 : decode cM_outside 2 = .ok (.if_icmp .lt 8, 3) := by decide +kernel
theorem dM_outside_5 : decode cM_outside 5 = .ok (.iload_n 0, 1) := by decide +kernel
theorem dM_outside_6 : decode cM_outside 6 = .ok (.iload_n 2, 1) := by decide +kernel
theorem dM_outside_7 : decode cM_outside 7 = .ok (.if_icmp .le 7, 3) := by decide +kernel
theorem dM_outside_10 : decode cM_outside 10 = .ok (.iconst 1, 1) := by decide +kernel
theorem dM_outside_11 : decode cM_outside 11 = .ok (.goto 4, 3) := by decide +kernel
theorem dM_outside_14 : decode cM_outside 14 = .ok (.iconst 0, 1) := by decide +kernel
theorem dM_outside_15 : decode cM_outside 15 = .ok (.ireturn, 1) := by decide +kernel
theorem dM_isBlock_0 : decode cM_isBlock 0 = .ok (.iload_n 1, 1) := by decide +kernel
theorem dM_isBlock_1 : decode cM_isBlock 1 = .ok (.ifCond .lt 15, 3) := by decide +kernel
theorem dM_isBlock_4 : decode cM_isBlock 4 = .ok (.iload_n 1, 1) := by decide +kernel
theorem dM_isBlock_5 : decode cM_isBlock 5 = .ok (.aload_n 0, 1) := by decide +kernel
theorem dM_isBlock_6 : decode cM_isBlock 6 = .ok (.getfield 87, 3) := by decide +kernel
theorem dM_isBlock_9 : decode cM_isBlock 9 = .ok (.if_icmp .ge 7, 3) := by decide +kernel
theorem dM_isBlock_12 : decode cM_isBlock 12 = .ok (.iconst 1, 1) := by decide +kernel
theorem dM_isBlock_13 : decode cM_isBlock 13 = .ok (.goto 4, 3) := by decide +kernel
theorem dM_isBlock_16 : decode cM_isBlock 16 = .ok (.iconst 0, 1) := by decide +kernel
theorem dM_isBlock_17 : decode cM_isBlock 17 = .ok (.ireturn, 1) := by decide +kernel
theorem dM_isVote_0 : decode cM_isVote 0 = .ok (.iload_n 1, 1) := by decide +kernel
theorem dM_isVote_1 : decode cM_isVote 1 = .ok (.ifCond .lt 15, 3) := by decide +kernel
theorem dM_isVote_4 : decode cM_isVote 4 = .ok (.iload_n 1, 1) := by decide +kernel
theorem dM_isVote_5 : decode cM_isVote 5 = .ok (.aload_n 0, 1) := by decide +kernel
theorem dM_isVote_6 : decode cM_isVote 6 = .ok (.getfield 90, 3) := by decide +kernel
theorem dM_isVote_9 : decode cM_isVote 9 = .ok (.if_icmp .ge 7, 3) := by decide +kernel
theorem dM_isVote_12 : decode cM_isVote 12 = .ok (.iconst 1, 1) := by decide +kernel
theorem dM_isVote_13 : decode cM_isVote 13 = .ok (.goto 4, 3) := by decide +kernel
theorem dM_isVote_16 : decode cM_isVote 16 = .ok (.iconst 0, 1) := by decide +kernel
theorem dM_isVote_17 : decode cM_isVote 17 = .ok (.ireturn, 1) := by decide +kernel
theorem dM_isValidator_0 : decode cM_isValidator 0 = .ok (.iload_n 1, 1) := by decide +kernel
theorem dM_isValidator_1 : decode cM_isValidator 1 = .ok (.ifCond .lt 15, 3) := by decide +kernel
theorem dM_isValidator_4 : decode cM_isValidator 4 = .ok (.iload_n 1, 1) := by decide +kernel
theorem dM_isValidator_5 : decode cM_isValidator 5 = .ok (.aload_n 0, 1) := by decide +kernel
theorem dM_isValidator_6 : decode cM_isValidator 6 = .ok (.getfield 77, 3) := by decide +kernel
theorem dM_isValidator_9 : decode cM_isValidator 9 = .ok (.if_icmp .ge 7, 3) := by decide +kernel
theorem dM_isValidator_12 : decode cM_isValidator 12 = .ok (.iconst 1, 1) := by decide +kernel
theorem dM_isValidator_13 : decode cM_isValidator 13 = .ok (.goto 4, 3) := by decide +kernel
theorem dM_isValidator_16 : decode cM_isValidator 16 = .ok (.iconst 0, 1) := by decide +kernel
theorem dM_isValidator_17 : decode cM_isValidator 17 = .ok (.ireturn, 1) := by decide +kernel
theorem dM_isNode_0 : decode cM_isNode 0 = .ok (.iload_n 0, 1) := by decide +kernel
theorem dM_isNode_1 : decode cM_isNode 1 = .ok (.ifCond .lt 12, 3) := by decide +kernel
theorem dM_isNode_4 : decode cM_isNode 4 = .ok (.iload_n 0, 1) := by decide +kernel
theorem dM_isNode_5 : decode cM_isNode 5 = .ok (.iconst 2, 1) := by decide +kernel
theorem dM_isNode_6 : decode cM_isNode 6 = .ok (.if_icmp .gt 7, 3) := by decide +kernel
theorem dM_isNode_9 : decode cM_isNode 9 = .ok (.iconst 1, 1) := by decide +kernel
theorem dM_isNode_10 : decode cM_isNode 10 = .ok (.goto 4, 3) := by decide +kernel
theorem dM_isNode_13 : decode cM_isNode 13 = .ok (.iconst 0, 1) := by decide +kernel
theorem dM_isNode_14 : decode cM_isNode 14 = .ok (.ireturn, 1) := by decide +kernel
theorem dM_descends_0 : decode cM_descends 0 = .ok (.iload_n 1, 1) := by decide +kernel
theorem dM_descends_1 : decode cM_descends 1 = .ok (.istore_n 3, 1) := by decide +kernel
theorem dM_descends_2 : decode cM_descends 2 = .ok (.iload_n 3, 1) := by decide +kernel
theorem dM_descends_3 : decode cM_descends 3 = .ok (.iload_n 2, 1) := by decide +kernel
theorem dM_descends_4 : decode cM_descends 4 = .ok (.if_icmp .le 13, 3) := by decide +kernel
theorem dM_descends_7 : decode cM_descends 7 = .ok (.aload_n 0, 1) := by decide +kernel
theorem dM_descends_8 : decode cM_descends 8 = .ok (.getfield 13, 3) := by decide +kernel
theorem dM_descends_11 : decode cM_descends 11 = .ok (.iload_n 3, 1) := by decide +kernel
theorem dM_descends_12 : decode cM_descends 12 = .ok (.iaload, 1) := by decide +kernel
theorem dM_descends_13 : decode cM_descends 13 = .ok (.istore_n 3, 1) := by decide +kernel
theorem dM_descends_14 : decode cM_descends 14 = .ok (.goto (-12), 3) := by decide +kernel
theorem dM_descends_17 : decode cM_descends 17 = .ok (.iload_n 3, 1) := by decide +kernel
theorem dM_descends_18 : decode cM_descends 18 = .ok (.iload_n 2, 1) := by decide +kernel
theorem dM_descends_19 : decode cM_descends 19 = .ok (.if_icmp .ne 7, 3) := by decide +kernel
theorem dM_descends_22 : decode cM_descends 22 = .ok (.iconst 1, 1) := by decide +kernel
theorem dM_descends_23 : decode cM_descends 23 = .ok (.goto 4, 3) := by decide +kernel
theorem dM_descends_26 : decode cM_descends 26 = .ok (.iconst 0, 1) := by decide +kernel
theorem dM_descends_27 : decode cM_descends 27 = .ok (.ireturn, 1) := by decide +kernel
theorem dM_checkpointBlock_0 : decode cM_checkpointBlock 0 = .ok (.iload_n 1, 1) := by decide +kernel
theorem dM_checkpointBlock_1 : decode cM_checkpointBlock 1 = .ok (.istore_n 3, 1) := by decide +kernel
theorem dM_checkpointBlock_2 : decode cM_checkpointBlock 2 = .ok (.aload_n 0, 1) := by decide +kernel
theorem dM_checkpointBlock_3 : decode cM_checkpointBlock 3 = .ok (.getfield 16, 3) := by decide +kernel
theorem dM_checkpointBlock_6 : decode cM_checkpointBlock 6 = .ok (.iload_n 3, 1) := by decide +kernel
theorem dM_checkpointBlock_7 : decode cM_checkpointBlock 7 = .ok (.iaload, 1) := by decide +kernel
theorem dM_checkpointBlock_8 : decode cM_checkpointBlock 8 = .ok (.iload_n 2, 1) := by decide +kernel
theorem dM_checkpointBlock_9 : decode cM_checkpointBlock 9 = .ok (.aload_n 0, 1) := by decide +kernel
theorem dM_checkpointBlock_10 : decode cM_checkpointBlock 10 = .ok (.getfield 81, 3) := by decide +kernel
theorem dM_checkpointBlock_13 : decode cM_checkpointBlock 13 = .ok (.imul, 1) := by decide +kernel
theorem dM_checkpointBlock_14 : decode cM_checkpointBlock 14 = .ok (.if_icmp .le 13, 3) := by decide +kernel
theorem dM_checkpointBlock_17 : decode cM_checkpointBlock 17 = .ok (.aload_n 0, 1) := by decide +kernel
theorem dM_checkpointBlock_18 : decode cM_checkpointBlock 18 = .ok (.getfield 13, 3) := by decide +kernel
theorem dM_checkpointBlock_21 : decode cM_checkpointBlock 21 = .ok (.iload_n 3, 1) := by decide +kernel
theorem dM_checkpointBlock_22 : decode cM_checkpointBlock 22 = .ok (.iaload, 1) := by decide +kernel
theorem dM_checkpointBlock_23 : decode cM_checkpointBlock 23 = .ok (.istore_n 3, 1) := by decide +kernel
theorem dM_checkpointBlock_24 : decode cM_checkpointBlock 24 = .ok (.goto (-22), 3) := by decide +kernel
theorem dM_checkpointBlock_27 : decode cM_checkpointBlock 27 = .ok (.iload_n 3, 1) := by decide +kernel
theorem dM_checkpointBlock_28 : decode cM_checkpointBlock 28 = .ok (.ireturn, 1) := by decide +kernel
theorem dM_clash_0 : decode cM_clash 0 = .ok (.iload_n 1, 1) := by decide +kernel
theorem dM_clash_1 : decode cM_clash 1 = .ok (.iload_n 2, 1) := by decide +kernel
theorem dM_clash_2 : decode cM_clash 2 = .ok (.if_icmp .eq 18, 3) := by decide +kernel
theorem dM_clash_5 : decode cM_clash 5 = .ok (.aload_n 0, 1) := by decide +kernel
theorem dM_clash_6 : decode cM_clash 6 = .ok (.getfield 28, 3) := by decide +kernel
theorem dM_clash_9 : decode cM_clash 9 = .ok (.iload_n 1, 1) := by decide +kernel
theorem dM_clash_10 : decode cM_clash 10 = .ok (.iaload, 1) := by decide +kernel
theorem dM_clash_11 : decode cM_clash 11 = .ok (.aload_n 0, 1) := by decide +kernel
theorem dM_clash_12 : decode cM_clash 12 = .ok (.getfield 28, 3) := by decide +kernel
theorem dM_clash_15 : decode cM_clash 15 = .ok (.iload_n 2, 1) := by decide +kernel
theorem dM_clash_16 : decode cM_clash 16 = .ok (.iaload, 1) := by decide +kernel
theorem dM_clash_17 : decode cM_clash 17 = .ok (.if_icmp .eq 5, 3) := by decide +kernel
theorem dM_clash_20 : decode cM_clash 20 = .ok (.iconst 0, 1) := by decide +kernel
theorem dM_clash_21 : decode cM_clash 21 = .ok (.ireturn, 1) := by decide +kernel
theorem dM_clash_22 : decode cM_clash 22 = .ok (.aload_n 0, 1) := by decide +kernel
theorem dM_clash_23 : decode cM_clash 23 = .ok (.getfield 37, 3) := by decide +kernel
theorem dM_clash_26 : decode cM_clash 26 = .ok (.iload_n 1, 1) := by decide +kernel
theorem dM_clash_27 : decode cM_clash 27 = .ok (.iaload, 1) := by decide +kernel
theorem dM_clash_28 : decode cM_clash 28 = .ok (.aload_n 0, 1) := by decide +kernel
theorem dM_clash_29 : decode cM_clash 29 = .ok (.getfield 37, 3) := by decide +kernel
theorem dM_clash_32 : decode cM_clash 32 = .ok (.iload_n 2, 1) := by decide +kernel
theorem dM_clash_33 : decode cM_clash 33 = .ok (.iaload, 1) := by decide +kernel
theorem dM_clash_34 : decode cM_clash 34 = .ok (.if_icmp .ge 22, 3) := by decide +kernel
theorem dM_clash_37 : decode cM_clash 37 = .ok (.aload_n 0, 1) := by decide +kernel
theorem dM_clash_38 : decode cM_clash 38 = .ok (.getfield 43, 3) := by decide +kernel
theorem dM_clash_41 : decode cM_clash 41 = .ok (.iload_n 1, 1) := by decide +kernel
theorem dM_clash_42 : decode cM_clash 42 = .ok (.iaload, 1) := by decide +kernel
theorem dM_clash_43 : decode cM_clash 43 = .ok (.aload_n 0, 1) := by decide +kernel
theorem dM_clash_44 : decode cM_clash 44 = .ok (.getfield 43, 3) := by decide +kernel
theorem dM_clash_47 : decode cM_clash 47 = .ok (.iload_n 2, 1) := by decide +kernel
theorem dM_clash_48 : decode cM_clash 48 = .ok (.iaload, 1) := by decide +kernel
theorem dM_clash_49 : decode cM_clash 49 = .ok (.if_icmp .le 7, 3) := by decide +kernel
theorem dM_clash_52 : decode cM_clash 52 = .ok (.iconst 1, 1) := by decide +kernel
theorem dM_clash_53 : decode cM_clash 53 = .ok (.goto 4, 3) := by decide +kernel
theorem dM_clash_56 : decode cM_clash 56 = .ok (.iconst 0, 1) := by decide +kernel
theorem dM_clash_57 : decode cM_clash 57 = .ok (.istore_n 3, 1) := by decide +kernel
theorem dM_clash_58 : decode cM_clash 58 = .ok (.aload_n 0, 1) := by decide +kernel
theorem dM_clash_59 : decode cM_clash 59 = .ok (.getfield 37, 3) := by decide +kernel
theorem dM_clash_62 : decode cM_clash 62 = .ok (.iload_n 2, 1) := by decide +kernel
theorem dM_clash_63 : decode cM_clash 63 = .ok (.iaload, 1) := by decide +kernel
theorem dM_clash_64 : decode cM_clash 64 = .ok (.aload_n 0, 1) := by decide +kernel
theorem dM_clash_65 : decode cM_clash 65 = .ok (.getfield 37, 3) := by decide +kernel
theorem dM_clash_68 : decode cM_clash 68 = .ok (.iload_n 1, 1) := by decide +kernel
theorem dM_clash_69 : decode cM_clash 69 = .ok (.iaload, 1) := by decide +kernel
theorem dM_clash_70 : decode cM_clash 70 = .ok (.if_icmp .ge 22, 3) := by decide +kernel
theorem dM_clash_73 : decode cM_clash 73 = .ok (.aload_n 0, 1) := by decide +kernel
theorem dM_clash_74 : decode cM_clash 74 = .ok (.getfield 43, 3) := by decide +kernel
theorem dM_clash_77 : decode cM_clash 77 = .ok (.iload_n 2, 1) := by decide +kernel
theorem dM_clash_78 : decode cM_clash 78 = .ok (.iaload, 1) := by decide +kernel
theorem dM_clash_79 : decode cM_clash 79 = .ok (.aload_n 0, 1) := by decide +kernel
theorem dM_clash_80 : decode cM_clash 80 = .ok (.getfield 43, 3) := by decide +kernel
theorem dM_clash_83 : decode cM_clash 83 = .ok (.iload_n 1, 1) := by decide +kernel
theorem dM_clash_84 : decode cM_clash 84 = .ok (.iaload, 1) := by decide +kernel
theorem dM_clash_85 : decode cM_clash 85 = .ok (.if_icmp .le 7, 3) := by decide +kernel
theorem dM_clash_88 : decode cM_clash 88 = .ok (.iconst 1, 1) := by decide +kernel
theorem dM_clash_89 : decode cM_clash 89 = .ok (.goto 4, 3) := by decide +kernel
theorem dM_clash_92 : decode cM_clash 92 = .ok (.iconst 0, 1) := by decide +kernel
theorem dM_clash_93 : decode cM_clash 93 = .ok (.istore 4, 2) := by decide +kernel
theorem dM_clash_95 : decode cM_clash 95 = .ok (.aload_n 0, 1) := by decide +kernel
theorem dM_clash_96 : decode cM_clash 96 = .ok (.getfield 43, 3) := by decide +kernel
theorem dM_clash_99 : decode cM_clash 99 = .ok (.iload_n 1, 1) := by decide +kernel
theorem dM_clash_100 : decode cM_clash 100 = .ok (.iaload, 1) := by decide +kernel
theorem dM_clash_101 : decode cM_clash 101 = .ok (.aload_n 0, 1) := by decide +kernel
theorem dM_clash_102 : decode cM_clash 102 = .ok (.getfield 43, 3) := by decide +kernel
theorem dM_clash_105 : decode cM_clash 105 = .ok (.iload_n 2, 1) := by decide +kernel
theorem dM_clash_106 : decode cM_clash 106 = .ok (.iaload, 1) := by decide +kernel
theorem dM_clash_107 : decode cM_clash 107 = .ok (.if_icmp .eq 12, 3) := by decide +kernel
theorem dM_clash_110 : decode cM_clash 110 = .ok (.iload_n 3, 1) := by decide +kernel
theorem dM_clash_111 : decode cM_clash 111 = .ok (.ifCond .ne 8, 3) := by decide +kernel
theorem dM_clash_114 : decode cM_clash 114 = .ok (.iload 4, 2) := by decide +kernel
theorem dM_clash_116 : decode cM_clash 116 = .ok (.ifCond .eq 7, 3) := by decide +kernel
theorem dM_clash_119 : decode cM_clash 119 = .ok (.iconst 1, 1) := by decide +kernel
theorem dM_clash_120 : decode cM_clash 120 = .ok (.goto 4, 3) := by decide +kernel
theorem dM_clash_123 : decode cM_clash 123 = .ok (.iconst 0, 1) := by decide +kernel
theorem dM_clash_124 : decode cM_clash 124 = .ok (.ireturn, 1) := by decide +kernel
theorem dM_origin_0 : decode cM_origin 0 = .ok (.aload_n 0, 1) := by decide +kernel
theorem dM_origin_1 : decode cM_origin 1 = .ok (.iconst 0, 1) := by decide +kernel
theorem dM_origin_2 : decode cM_origin 2 = .ok (.putfield 93, 3) := by decide +kernel
theorem dM_origin_5 : decode cM_origin 5 = .ok (.aload_n 0, 1) := by decide +kernel
theorem dM_origin_6 : decode cM_origin 6 = .ok (.iconst 0, 1) := by decide +kernel
theorem dM_origin_7 : decode cM_origin 7 = .ok (.putfield 96, 3) := by decide +kernel
theorem dM_origin_10 : decode cM_origin 10 = .ok (.aload_n 0, 1) := by decide +kernel
theorem dM_origin_11 : decode cM_origin 11 = .ok (.iconst 0, 1) := by decide +kernel
theorem dM_origin_12 : decode cM_origin 12 = .ok (.putfield 99, 3) := by decide +kernel
theorem dM_origin_15 : decode cM_origin 15 = .ok (.aload_n 0, 1) := by decide +kernel
theorem dM_origin_16 : decode cM_origin 16 = .ok (.iconst 0, 1) := by decide +kernel
theorem dM_origin_17 : decode cM_origin 17 = .ok (.putfield 102, 3) := by decide +kernel
theorem dM_origin_20 : decode cM_origin 20 = .ok (.aload_n 0, 1) := by decide +kernel
theorem dM_origin_21 : decode cM_origin 21 = .ok (.iconst 0, 1) := by decide +kernel
theorem dM_origin_22 : decode cM_origin 22 = .ok (.putfield 105, 3) := by decide +kernel
theorem dM_origin_25 : decode cM_origin 25 = .ok (.iconst 0, 1) := by decide +kernel
theorem dM_origin_26 : decode cM_origin 26 = .ok (.istore_n 1, 1) := by decide +kernel
theorem dM_origin_27 : decode cM_origin 27 = .ok (.iload_n 1, 1) := by decide +kernel
theorem dM_origin_28 : decode cM_origin 28 = .ok (.bipush 7, 2) := by decide +kernel
theorem dM_origin_30 : decode cM_origin 30 = .ok (.if_icmp .ge 24, 3) := by decide +kernel
theorem dM_origin_33 : decode cM_origin 33 = .ok (.aload_n 0, 1) := by decide +kernel
theorem dM_origin_34 : decode cM_origin 34 = .ok (.getfield 62, 3) := by decide +kernel
theorem dM_origin_37 : decode cM_origin 37 = .ok (.iload_n 1, 1) := by decide +kernel
theorem dM_origin_38 : decode cM_origin 38 = .ok (.bipush 32, 2) := by decide +kernel
theorem dM_origin_40 : decode cM_origin 40 = .ok (.iastore, 1) := by decide +kernel
theorem dM_origin_41 : decode cM_origin 41 = .ok (.aload_n 0, 1) := by decide +kernel
theorem dM_origin_42 : decode cM_origin 42 = .ok (.getfield 65, 3) := by decide +kernel
theorem dM_origin_45 : decode cM_origin 45 = .ok (.iload_n 1, 1) := by decide +kernel
theorem dM_origin_46 : decode cM_origin 46 = .ok (.iconst 0, 1) := by decide +kernel
theorem dM_origin_47 : decode cM_origin 47 = .ok (.bastore, 1) := by decide +kernel
theorem dM_origin_48 : decode cM_origin 48 = .ok (.iinc 1 1, 3) := by decide +kernel
theorem dM_origin_51 : decode cM_origin 51 = .ok (.goto (-24), 3) := by decide +kernel
theorem dM_origin_54 : decode cM_origin 54 = .ok (.aload_n 0, 1) := by decide +kernel
theorem dM_origin_55 : decode cM_origin 55 = .ok (.invokevirtual 108, 3) := by decide +kernel
theorem dM_origin_58 : decode cM_origin 58 = .ok (.return_, 1) := by decide +kernel
theorem dM_forget_0 : decode cM_forget 0 = .ok (.iconst 0, 1) := by decide +kernel
theorem dM_forget_1 : decode cM_forget 1 = .ok (.istore_n 1, 1) := by decide +kernel
theorem dM_forget_2 : decode cM_forget 2 = .ok (.iload_n 1, 1) := by decide +kernel
theorem dM_forget_3 : decode cM_forget 3 = .ok (.bipush 7, 2) := by decide +kernel
theorem dM_forget_5 : decode cM_forget 5 = .ok (.if_icmp .ge 23, 3) := by decide +kernel
theorem dM_forget_8 : decode cM_forget 8 = .ok (.aload_n 0, 1) := by decide +kernel
theorem dM_forget_9 : decode cM_forget 9 = .ok (.getfield 68, 3) := by decide +kernel
theorem dM_forget_12 : decode cM_forget 12 = .ok (.iload_n 1, 1) := by decide +kernel
theorem dM_forget_13 : decode cM_forget 13 = .ok (.iconst 0, 1) := by decide +kernel
theorem dM_forget_14 : decode cM_forget 14 = .ok (.bastore, 1) := by decide +kernel
theorem dM_forget_15 : decode cM_forget 15 = .ok (.aload_n 0, 1) := by decide +kernel
theorem dM_forget_16 : decode cM_forget 16 = .ok (.getfield 71, 3) := by decide +kernel
theorem dM_forget_19 : decode cM_forget 19 = .ok (.iload_n 1, 1) := by decide +kernel
theorem dM_forget_20 : decode cM_forget 20 = .ok (.iconst 0, 1) := by decide +kernel
theorem dM_forget_21 : decode cM_forget 21 = .ok (.bastore, 1) := by decide +kernel
theorem dM_forget_22 : decode cM_forget 22 = .ok (.iinc 1 1, 3) := by decide +kernel
theorem dM_forget_25 : decode cM_forget 25 = .ok (.goto (-23), 3) := by decide +kernel
theorem dM_forget_28 : decode cM_forget 28 = .ok (.return_, 1) := by decide +kernel
