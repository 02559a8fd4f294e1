theorem dM_advance_0 : decode cM_advance 0 = .ok (.aload_n 0, 1) := by decide +kernel
theorem dM_advance_1 : decode cM_advance 1 = .ok (.getfield 93, 3) := by decide +kernel
theorem dM_advance_4 : decode cM_advance 4 = .ok (.iload_n 1, 1) := by decide +kernel
theorem dM_advance_5 : decode cM_advance 5 = .ok (.aload_n 0, 1) := by decide +kernel
theorem dM_advance_6 : decode cM_advance 6 = .ok (.getfield 81, 3) := by decide +kernel
theorem dM_advance_9 : decode cM_advance 9 = .ok (.idiv, 1) := by decide +kernel
theorem dM_advance_10 : decode cM_advance 10 = .ok (.if_icmp .ge 92, 3) := by decide +kernel
theorem dM_advance_13 : decode cM_advance 13 = .ok (.iconst 0, 1) := by decide +kernel
theorem dM_advance_14 : decode cM_advance 14 = .ok (.istore_n 2, 1) := by decide +kernel
theorem dM_advance_15 : decode cM_advance 15 = .ok (.iload_n 2, 1) := by decide +kernel
theorem dM_advance_16 : decode cM_advance 16 = .ok (.aload_n 0, 1) := by decide +kernel
theorem dM_advance_17 : decode cM_advance 17 = .ok (.getfield 77, 3) := by decide +kernel
theorem dM_advance_20 : decode cM_advance 20 = .ok (.if_icmp .ge 69, 3) := by decide +kernel
theorem dM_advance_23 : decode cM_advance 23 = .ok (.aload_n 0, 1) := by decide +kernel
theorem dM_advance_24 : decode cM_advance 24 = .ok (.getfield 62, 3) := by decide +kernel
theorem dM_advance_27 : decode cM_advance 27 = .ok (.iload_n 2, 1) := by decide +kernel
theorem dM_advance_28 : decode cM_advance 28 = .ok (.aload_n 0, 1) := by decide +kernel
theorem dM_advance_29 : decode cM_advance 29 = .ok (.getfield 68, 3) := by decide +kernel
theorem dM_advance_32 : decode cM_advance 32 = .ok (.iload_n 2, 1) := by decide +kernel
theorem dM_advance_33 : decode cM_advance 33 = .ok (.baload, 1) := by decide +kernel
theorem dM_advance_34 : decode cM_advance 34 = .ok (.ifCond .ne 23, 3) := by decide +kernel
theorem dM_advance_37 : decode cM_advance 37 = .ok (.aload_n 0, 1) := by decide +kernel
theorem dM_advance_38 : decode cM_advance 38 = .ok (.getfield 62, 3) := by decide +kernel
theorem dM_advance_41 : decode cM_advance 41 = .ok (.iload_n 2, 1) := by decide +kernel
theorem dM_advance_42 : decode cM_advance 42 = .ok (.iaload, 1) := by decide +kernel
theorem dM_advance_43 : decode cM_advance 43 = .ok (.ifCond .le 14, 3) := by decide +kernel
theorem dM_advance_46 : decode cM_advance 46 = .ok (.aload_n 0, 1) := by decide +kernel
theorem dM_advance_47 : decode cM_advance 47 = .ok (.getfield 62, 3) := by decide +kernel
theorem dM_advance_50 : decode cM_advance 50 = .ok (.iload_n 2, 1) := by decide +kernel
theorem dM_advance_51 : decode cM_advance 51 = .ok (.iaload, 1) := by decide +kernel
theorem dM_advance_52 : decode cM_advance 52 = .ok (.iconst 1, 1) := by decide +kernel
theorem dM_advance_53 : decode cM_advance 53 = .ok (.isub, 1) := by decide +kernel
theorem dM_advance_54 : decode cM_advance 54 = .ok (.goto 9, 3) := by decide +kernel
theorem dM_advance_57 : decode cM_advance 57 = .ok (.aload_n 0, 1) := by decide +kernel
theorem dM_advance_58 : decode cM_advance 58 = .ok (.getfield 62, 3) := by decide +kernel
theorem dM_advance_61 : decode cM_advance 61 = .ok (.iload_n 2, 1) := by decide +kernel
theorem dM_advance_62 : decode cM_advance 62 = .ok (.iaload, 1) := by decide +kernel
theorem dM_advance_63 : decode cM_advance 63 = .ok (.iastore, 1) := by decide +kernel
theorem dM_advance_64 : decode cM_advance 64 = .ok (.aload_n 0, 1) := by decide +kernel
theorem dM_advance_65 : decode cM_advance 65 = .ok (.getfield 71, 3) := by decide +kernel
theorem dM_advance_68 : decode cM_advance 68 = .ok (.iload_n 2, 1) := by decide +kernel
theorem dM_advance_69 : decode cM_advance 69 = .ok (.aload_n 0, 1) := by decide +kernel
theorem dM_advance_70 : decode cM_advance 70 = .ok (.getfield 68, 3) := by decide +kernel
theorem dM_advance_73 : decode cM_advance 73 = .ok (.iload_n 2, 1) := by decide +kernel
theorem dM_advance_74 : decode cM_advance 74 = .ok (.baload, 1) := by decide +kernel
theorem dM_advance_75 : decode cM_advance 75 = .ok (.bastore, 1) := by decide +kernel
theorem dM_advance_76 : decode cM_advance 76 = .ok (.aload_n 0, 1) := by decide +kernel
theorem dM_advance_77 : decode cM_advance 77 = .ok (.getfield 68, 3) := by decide +kernel
theorem dM_advance_80 : decode cM_advance 80 = .ok (.iload_n 2, 1) := by decide +kernel
theorem dM_advance_81 : decode cM_advance 81 = .ok (.iconst 0, 1) := by decide +kernel
theorem dM_advance_82 : decode cM_advance 82 = .ok (.bastore, 1) := by decide +kernel
theorem dM_advance_83 : decode cM_advance 83 = .ok (.iinc 2 1, 3) := by decide +kernel
theorem dM_advance_86 : decode cM_advance 86 = .ok (.goto (-71), 3) := by decide +kernel
theorem dM_advance_89 : decode cM_advance 89 = .ok (.aload_n 0, 1) := by decide +kernel
theorem dM_advance_90 : decode cM_advance 90 = .ok (.dup, 1) := by decide +kernel
theorem dM_advance_91 : decode cM_advance 91 = .ok (.getfield 93, 3) := by decide +kernel
theorem dM_advance_94 : decode cM_advance 94 = .ok (.iconst 1, 1) := by decide +kernel
theorem dM_advance_95 : decode cM_advance 95 = .ok (.iadd, 1) := by decide +kernel
theorem dM_advance_96 : decode cM_advance 96 = .ok (.putfield 93, 3) := by decide +kernel
theorem dM_advance_99 : decode cM_advance 99 = .ok (.goto (-99), 3) := by decide +kernel
theorem dM_advance_102 : decode cM_advance 102 = .ok (.return_, 1) := by decide +kernel
theorem dM_votable_0 : decode cM_votable 0 = .ok (.aload_n 0, 1) := by decide +kernel
theorem dM_votable_1 : decode cM_votable 1 = .ok (.getfield 31, 3) := by decide +kernel
theorem dM_votable_4 : decode cM_votable 4 = .ok (.iload_n 1, 1) := by decide +kernel
theorem dM_votable_5 : decode cM_votable 5 = .ok (.iaload, 1) := by decide +kernel
theorem dM_votable_6 : decode cM_votable 6 = .ok (.aload_n 0, 1) := by decide +kernel
theorem dM_votable_7 : decode cM_votable 7 = .ok (.getfield 81, 3) := by decide +kernel
theorem dM_votable_10 : decode cM_votable 10 = .ok (.idiv, 1) := by decide +kernel
theorem dM_votable_11 : decode cM_votable 11 = .ok (.istore 4, 2) := by decide +kernel
theorem dM_votable_13 : decode cM_votable 13 = .ok (.aload_n 0, 1) := by decide +kernel
theorem dM_votable_14 : decode cM_votable 14 = .ok (.getfield 37, 3) := by decide +kernel
theorem dM_votable_17 : decode cM_votable 17 = .ok (.iload_n 1, 1) := by decide +kernel
theorem dM_votable_18 : decode cM_votable 18 = .ok (.iaload, 1) := by decide +kernel
theorem dM_votable_19 : decode cM_votable 19 = .ok (.aload_n 0, 1) := by decide +kernel
theorem dM_votable_20 : decode cM_votable 20 = .ok (.getfield 96, 3) := by decide +kernel
theorem dM_votable_23 : decode cM_votable 23 = .ok (.if_icmp .ne 56, 3) := by decide +kernel
theorem dM_votable_26 : decode cM_votable 26 = .ok (.aload_n 0, 1) := by decide +kernel
theorem dM_votable_27 : decode cM_votable 27 = .ok (.getfield 40, 3) := by decide +kernel
theorem dM_votable_30 : decode cM_votable 30 = .ok (.iload_n 1, 1) := by decide +kernel
theorem dM_votable_31 : decode cM_votable 31 = .ok (.iaload, 1) := by decide +kernel
theorem dM_votable_32 : decode cM_votable 32 = .ok (.aload_n 0, 1) := by decide +kernel
theorem dM_votable_33 : decode cM_votable 33 = .ok (.getfield 99, 3) := by decide +kernel
theorem dM_votable_36 : decode cM_votable 36 = .ok (.if_icmp .ne 43, 3) := by decide +kernel
theorem dM_votable_39 : decode cM_votable 39 = .ok (.aload_n 0, 1) := by decide +kernel
theorem dM_votable_40 : decode cM_votable 40 = .ok (.getfield 43, 3) := by decide +kernel
theorem dM_votable_43 : decode cM_votable 43 = .ok (.iload_n 1, 1) := by decide +kernel
theorem dM_votable_44 : decode cM_votable 44 = .ok (.iaload, 1) := by decide +kernel
theorem dM_votable_45 : decode cM_votable 45 = .ok (.iload 4, 2) := by decide +kernel
theorem dM_votable_47 : decode cM_votable 47 = .ok (.if_icmp .ne 32, 3) := by decide +kernel
theorem dM_votable_50 : decode cM_votable 50 = .ok (.aload_n 0, 1) := by decide +kernel
theorem dM_votable_51 : decode cM_votable 51 = .ok (.getfield 31, 3) := by decide +kernel
theorem dM_votable_54 : decode cM_votable 54 = .ok (.iload_n 1, 1) := by decide +kernel
theorem dM_votable_55 : decode cM_votable 55 = .ok (.iaload, 1) := by decide +kernel
theorem dM_votable_56 : decode cM_votable 56 = .ok (.iload_n 3, 1) := by decide +kernel
theorem dM_votable_57 : decode cM_votable 57 = .ok (.if_icmp .ge 22, 3) := by decide +kernel
theorem dM_votable_60 : decode cM_votable 60 = .ok (.aload_n 0, 1) := by decide +kernel
theorem dM_votable_61 : decode cM_votable 61 = .ok (.getfield 31, 3) := by decide +kernel
theorem dM_votable_64 : decode cM_votable 64 = .ok (.iload_n 1, 1) := by decide +kernel
theorem dM_votable_65 : decode cM_votable 65 = .ok (.iaload, 1) := by decide +kernel
theorem dM_votable_66 : decode cM_votable 66 = .ok (.iload_n 3, 1) := by decide +kernel
theorem dM_votable_67 : decode cM_votable 67 = .ok (.aload_n 0, 1) := by decide +kernel
theorem dM_votable_68 : decode cM_votable 68 = .ok (.getfield 81, 3) := by decide +kernel
theorem dM_votable_71 : decode cM_votable 71 = .ok (.isub, 1) := by decide +kernel
theorem dM_votable_72 : decode cM_votable 72 = .ok (.if_icmp .lt 7, 3) := by decide +kernel
theorem dM_votable_75 : decode cM_votable 75 = .ok (.iconst 1, 1) := by decide +kernel
theorem dM_votable_76 : decode cM_votable 76 = .ok (.goto 4, 3) := by decide +kernel
theorem dM_votable_79 : decode cM_votable 79 = .ok (.iconst 0, 1) := by decide +kernel
theorem dM_votable_80 : decode cM_votable 80 = .ok (.istore 5, 2) := by decide +kernel
theorem dM_votable_82 : decode cM_votable 82 = .ok (.iload 5, 2) := by decide +kernel
theorem dM_votable_84 : decode cM_votable 84 = .ok (.ifCond .eq 19, 3) := by decide +kernel
theorem dM_votable_87 : decode cM_votable 87 = .ok (.aload_n 0, 1) := by decide +kernel
theorem dM_votable_88 : decode cM_votable 88 = .ok (.getfield 46, 3) := by decide +kernel
theorem dM_votable_91 : decode cM_votable 91 = .ok (.iload_n 1, 1) := by decide +kernel
theorem dM_votable_92 : decode cM_votable 92 = .ok (.iaload, 1) := by decide +kernel
theorem dM_votable_93 : decode cM_votable 93 = .ok (.aload_n 0, 1) := by decide +kernel
theorem dM_votable_94 : decode cM_votable 94 = .ok (.iload_n 2, 1) := by decide +kernel
theorem dM_votable_95 : decode cM_votable 95 = .ok (.iload 4, 2) := by decide +kernel
theorem dM_votable_97 : decode cM_votable 97 = .ok (.invokevirtual 111, 3) := by decide +kernel
theorem dM_votable_100 : decode cM_votable 100 = .ok (.if_icmp .eq 5, 3) := by decide +kernel
theorem dM_votable_103 : decode cM_votable 103 = .ok (.iconst 0, 1) := by decide +kernel
theorem dM_votable_104 : decode cM_votable 104 = .ok (.ireturn, 1) := by decide +kernel
theorem dM_votable_105 : decode cM_votable 105 = .ok (.iload 4, 2) := by decide +kernel
theorem dM_votable_107 : decode cM_votable 107 = .ok (.aload_n 0, 1) := by decide +kernel
theorem dM_votable_108 : decode cM_votable 108 = .ok (.getfield 93, 3) := by decide +kernel
theorem dM_votable_111 : decode cM_votable 111 = .ok (.if_icmp .ne 25, 3) := by decide +kernel
theorem dM_votable_114 : decode cM_votable 114 = .ok (.aload_n 0, 1) := by decide +kernel
theorem dM_votable_115 : decode cM_votable 115 = .ok (.getfield 68, 3) := by decide +kernel
theorem dM_votable_118 : decode cM_votable 118 = .ok (.aload_n 0, 1) := by decide +kernel
theorem dM_votable_119 : decode cM_votable 119 = .ok (.getfield 28, 3) := by decide +kernel
theorem dM_votable_122 : decode cM_votable 122 = .ok (.iload_n 1, 1) := by decide +kernel
theorem dM_votable_123 : decode cM_votable 123 = .ok (.iaload, 1) := by decide +kernel
theorem dM_votable_124 : decode cM_votable 124 = .ok (.baload, 1) := by decide +kernel
theorem dM_votable_125 : decode cM_votable 125 = .ok (.ifCond .ne 7, 3) := by decide +kernel
theorem dM_votable_128 : decode cM_votable 128 = .ok (.iconst 1, 1) := by decide +kernel
theorem dM_votable_129 : decode cM_votable 129 = .ok (.goto 26, 3) := by decide +kernel
theorem dM_votable_132 : decode cM_votable 132 = .ok (.iconst 0, 1) := by decide +kernel
theorem dM_votable_133 : decode cM_votable 133 = .ok (.goto 22, 3) := by decide +kernel
theorem dM_votable_136 : decode cM_votable 136 = .ok (.aload_n 0, 1) := by decide +kernel
theorem dM_votable_137 : decode cM_votable 137 = .ok (.getfield 71, 3) := by decide +kernel
theorem dM_votable_140 : decode cM_votable 140 = .ok (.aload_n 0, 1) := by decide +kernel
theorem dM_votable_141 : decode cM_votable 141 = .ok (.getfield 28, 3) := by decide +kernel
theorem dM_votable_144 : decode cM_votable 144 = .ok (.iload_n 1, 1) := by decide +kernel
theorem dM_votable_145 : decode cM_votable 145 = .ok (.iaload, 1) := by decide +kernel
theorem dM_votable_146 : decode cM_votable 146 = .ok (.baload, 1) := by decide +kernel
theorem dM_votable_147 : decode cM_votable 147 = .ok (.ifCond .ne 7, 3) := by decide +kernel
theorem dM_votable_150 : decode cM_votable 150 = .ok (.iconst 1, 1) := by decide +kernel
theorem dM_votable_151 : decode cM_votable 151 = .ok (.goto 4, 3) := by decide +kernel
theorem dM_votable_154 : decode cM_votable 154 = .ok (.iconst 0, 1) := by decide +kernel
theorem dM_votable_155 : decode cM_votable 155 = .ok (.ireturn, 1) := by decide +kernel
theorem dM_weightOf_0 : decode cM_weightOf 0 = .ok (.iconst 0, 1) := by decide +kernel
theorem dM_weightOf_1 : decode cM_weightOf 1 = .ok (.istore_n 2, 1) := by decide +kernel
theorem dM_weightOf_2 : decode cM_weightOf 2 = .ok (.iconst 0, 1) := by decide +kernel
theorem dM_weightOf_3 : decode cM_weightOf 3 = .ok (.istore_n 3, 1) := by decide +kernel
theorem dM_weightOf_4 : decode cM_weightOf 4 = .ok (.iload_n 3, 1) := by decide +kernel
theorem dM_weightOf_5 : decode cM_weightOf 5 = .ok (.aload_n 0, 1) := by decide +kernel
theorem dM_weightOf_6 : decode cM_weightOf 6 = .ok (.getfield 77, 3) := by decide +kernel
theorem dM_weightOf_9 : decode cM_weightOf 9 = .ok (.if_icmp .ge 47, 3) := by decide +kernel
theorem dM_weightOf_12 : decode cM_weightOf 12 = .ok (.iload_n 2, 1) := by decide +kernel
theorem dM_weightOf_13 : decode cM_weightOf 13 = .ok (.iload_n 1, 1) := by decide +kernel
theorem dM_weightOf_14 : decode cM_weightOf 14 = .ok (.ifCond .eq 15, 3) := by decide +kernel
theorem dM_weightOf_17 : decode cM_weightOf 17 = .ok (.aload_n 0, 1) := by decide +kernel
theorem dM_weightOf_18 : decode cM_weightOf 18 = .ok (.getfield 68, 3) := by decide +kernel
theorem dM_weightOf_21 : decode cM_weightOf 21 = .ok (.iload_n 3, 1) := by decide +kernel
theorem dM_weightOf_22 : decode cM_weightOf 22 = .ok (.baload, 1) := by decide +kernel
theorem dM_weightOf_23 : decode cM_weightOf 23 = .ok (.ifCond .eq 24, 3) := by decide +kernel
theorem dM_weightOf_26 : decode cM_weightOf 26 = .ok (.goto 12, 3) := by decide +kernel
theorem dM_weightOf_29 : decode cM_weightOf 29 = .ok (.aload_n 0, 1) := by decide +kernel
theorem dM_weightOf_30 : decode cM_weightOf 30 = .ok (.getfield 71, 3) := by decide +kernel
theorem dM_weightOf_33 : decode cM_weightOf 33 = .ok (.iload_n 3, 1) := by decide +kernel
theorem dM_weightOf_34 : decode cM_weightOf 34 = .ok (.baload, 1) := by decide +kernel
theorem dM_weightOf_35 : decode cM_weightOf 35 = .ok (.ifCond .eq 12, 3) := by decide +kernel
theorem dM_weightOf_38 : decode cM_weightOf 38 = .ok (.aload_n 0, 1) := by decide +kernel
theorem dM_weightOf_39 : decode cM_weightOf 39 = .ok (.getfield 7, 3) := by decide +kernel
theorem dM_weightOf_42 : decode cM_weightOf 42 = .ok (.iload_n 3, 1) := by decide +kernel
theorem dM_weightOf_43 : decode cM_weightOf 43 = .ok (.iaload, 1) := by decide +kernel
theorem dM_weightOf_44 : decode cM_weightOf 44 = .ok (.goto 4, 3) := by decide +kernel
theorem dM_weightOf_47 : decode cM_weightOf 47 = .ok (.iconst 0, 1) := by decide +kernel
theorem dM_weightOf_48 : decode cM_weightOf 48 = .ok (.iadd, 1) := by decide +kernel
theorem dM_weightOf_49 : decode cM_weightOf 49 = .ok (.istore_n 2, 1) := by decide +kernel
theorem dM_weightOf_50 : decode cM_weightOf 50 = .ok (.iinc 3 1, 3) := by decide +kernel
theorem dM_weightOf_53 : decode cM_weightOf 53 = .ok (.goto (-49), 3) := by decide +kernel
theorem dM_weightOf_56 : decode cM_weightOf 56 = .ok (.iload_n 2, 1) := by decide +kernel
theorem dM_weightOf_57 : decode cM_weightOf 57 = .ok (.ireturn, 1) := by decide +kernel
theorem dM_count_0 : decode cM_count 0 = .ok (.aload_n 0, 1) := by decide +kernel
theorem dM_count_1 : decode cM_count 1 = .ok (.getfield 31, 3) := by decide +kernel
theorem dM_count_4 : decode cM_count 4 = .ok (.iload_n 1, 1) := by decide +kernel
theorem dM_count_5 : decode cM_count 5 = .ok (.iaload, 1) := by decide +kernel
theorem dM_count_6 : decode cM_count 6 = .ok (.aload_n 0, 1) := by decide +kernel
theorem dM_count_7 : decode cM_count 7 = .ok (.getfield 81, 3) := by decide +kernel
theorem dM_count_10 : decode cM_count 10 = .ok (.idiv, 1) := by decide +kernel
theorem dM_count_11 : decode cM_count 11 = .ok (.aload_n 0, 1) := by decide +kernel
theorem dM_count_12 : decode cM_count 12 = .ok (.getfield 93, 3) := by decide +kernel
theorem dM_count_15 : decode cM_count 15 = .ok (.if_icmp .ne 7, 3) := by decide +kernel
theorem dM_count_18 : decode cM_count 18 = .ok (.iconst 1, 1) := by decide +kernel
theorem dM_count_19 : decode cM_count 19 = .ok (.goto 4, 3) := by decide +kernel
theorem dM_count_22 : decode cM_count 22 = .ok (.iconst 0, 1) := by decide +kernel
theorem dM_count_23 : decode cM_count 23 = .ok (.istore_n 3, 1) := by decide +kernel
theorem dM_count_24 : decode cM_count 24 = .ok (.iload_n 3, 1) := by decide +kernel
theorem dM_count_25 : decode cM_count 25 = .ok (.ifCond .eq 18, 3) := by decide +kernel
theorem dM_count_28 : decode cM_count 28 = .ok (.aload_n 0, 1) := by decide +kernel
theorem dM_count_29 : decode cM_count 29 = .ok (.getfield 68, 3) := by decide +kernel
theorem dM_count_32 : decode cM_count 32 = .ok (.aload_n 0, 1) := by decide +kernel
theorem dM_count_33 : decode cM_count 33 = .ok (.getfield 28, 3) := by decide +kernel
theorem dM_count_36 : decode cM_count 36 = .ok (.iload_n 1, 1) := by decide +kernel
theorem dM_count_37 : decode cM_count 37 = .ok (.iaload, 1) := by decide +kernel
theorem dM_count_38 : decode cM_count 38 = .ok (.iconst 1, 1) := by decide +kernel
theorem dM_count_39 : decode cM_count 39 = .ok (.bastore, 1) := by decide +kernel
theorem dM_count_40 : decode cM_count 40 = .ok (.goto 15, 3) := by decide +kernel
theorem dM_count_43 : decode cM_count 43 = .ok (.aload_n 0, 1) := by decide +kernel
theorem dM_count_44 : decode cM_count 44 = .ok (.getfield 71, 3) := by decide +kernel
theorem dM_count_47 : decode cM_count 47 = .ok (.aload_n 0, 1) := by decide +kernel
theorem dM_count_48 : decode cM_count 48 = .ok (.getfield 28, 3) := by decide +kernel
theorem dM_count_51 : decode cM_count 51 = .ok (.iload_n 1, 1) := by decide +kernel
theorem dM_count_52 : decode cM_count 52 = .ok (.iaload, 1) := by decide +kernel
theorem dM_count_53 : decode cM_count 53 = .ok (.iconst 1, 1) := by decide +kernel
theorem dM_count_54 : decode cM_count 54 = .ok (.bastore, 1) := by decide +kernel
theorem dM_count_55 : decode cM_count 55 = .ok (.aload_n 0, 1) := by decide +kernel
theorem dM_count_56 : decode cM_count 56 = .ok (.getfield 62, 3) := by decide +kernel
theorem dM_count_59 : decode cM_count 59 = .ok (.aload_n 0, 1) := by decide +kernel
theorem dM_count_60 : decode cM_count 60 = .ok (.getfield 28, 3) := by decide +kernel
theorem dM_count_63 : decode cM_count 63 = .ok (.iload_n 1, 1) := by decide +kernel
theorem dM_count_64 : decode cM_count 64 = .ok (.iaload, 1) := by decide +kernel
theorem dM_count_65 : decode cM_count 65 = .ok (.dup2, 1) := by decide +kernel
theorem dM_count_66 : decode cM_count 66 = .ok (.iaload, 1) := by decide +kernel
theorem dM_count_67 : decode cM_count 67 = .ok (.iconst 2, 1) := by decide +kernel
theorem dM_count_68 : decode cM_count 68 = .ok (.iadd, 1) := by decide +kernel
theorem dM_count_69 : decode cM_count 69 = .ok (.iastore, 1) := by decide +kernel
theorem dM_count_70 : decode cM_count 70 = .ok (.aload_n 0, 1) := by decide +kernel
theorem dM_count_71 : decode cM_count 71 = .ok (.getfield 62, 3) := by decide +kernel
theorem dM_count_74 : decode cM_count 74 = .ok (.iload_n 2, 1) := by decide +kernel
theorem dM_count_75 : decode cM_count 75 = .ok (.dup2, 1) := by decide +kernel
theorem dM_count_76 : decode cM_count 76 = .ok (.iaload, 1) := by decide +kernel
theorem dM_count_77 : decode cM_count 77 = .ok (.iconst 1, 1) := by decide +kernel
theorem dM_count_78 : decode cM_count 78 = .ok (.iadd, 1) := by decide +kernel
theorem dM_count_79 : decode cM_count 79 = .ok (.iastore, 1) := by decide +kernel
theorem dM_count_80 : decode cM_count 80 = .ok (.aload_n 0, 1) := by decide +kernel
theorem dM_count_81 : decode cM_count 81 = .ok (.iload_n 3, 1) := by decide +kernel
theorem dM_count_82 : decode cM_count 82 = .ok (.invokevirtual 115, 3) := by decide +kernel
theorem dM_count_85 : decode cM_count 85 = .ok (.istore 4, 2) := by decide +kernel
theorem dM_count_87 : decode cM_count 87 = .ok (.iconst 3, 1) := by decide +kernel
theorem dM_count_88 : decode cM_count 88 = .ok (.iload 4, 2) := by decide +kernel
theorem dM_count_90 : decode cM_count 90 = .ok (.imul, 1) := by decide +kernel
theorem dM_count_91 : decode cM_count 91 = .ok (.iconst 2, 1) := by decide +kernel
theorem dM_count_92 : decode cM_count 92 = .ok (.aload_n 0, 1) := by decide +kernel
theorem dM_count_93 : decode cM_count 93 = .ok (.getfield 84, 3) := by decide +kernel
theorem dM_count_96 : decode cM_count 96 = .ok (.imul, 1) := by decide +kernel
theorem dM_count_97 : decode cM_count 97 = .ok (.if_icmp .lt 64, 3) := by decide +kernel
theorem dM_count_100 : decode cM_count 100 = .ok (.aload_n 0, 1) := by decide +kernel
theorem dM_count_101 : decode cM_count 101 = .ok (.getfield 37, 3) := by decide +kernel
theorem dM_count_104 : decode cM_count 104 = .ok (.iload_n 1, 1) := by decide +kernel
theorem dM_count_105 : decode cM_count 105 = .ok (.iaload, 1) := by decide +kernel
theorem dM_count_106 : decode cM_count 106 = .ok (.iconst 1, 1) := by decide +kernel
theorem dM_count_107 : decode cM_count 107 = .ok (.iadd, 1) := by decide +kernel
theorem dM_count_108 : decode cM_count 108 = .ok (.aload_n 0, 1) := by decide +kernel
theorem dM_count_109 : decode cM_count 109 = .ok (.getfield 43, 3) := by decide +kernel
theorem dM_count_112 : decode cM_count 112 = .ok (.iload_n 1, 1) := by decide +kernel
theorem dM_count_113 : decode cM_count 113 = .ok (.iaload, 1) := by decide +kernel
theorem dM_count_114 : decode cM_count 114 = .ok (.if_icmp .ne 23, 3) := by decide +kernel
theorem dM_count_117 : decode cM_count 117 = .ok (.aload_n 0, 1) := by decide +kernel
theorem dM_count_118 : decode cM_count 118 = .ok (.aload_n 0, 1) := by decide +kernel
theorem dM_count_119 : decode cM_count 119 = .ok (.getfield 37, 3) := by decide +kernel
theorem dM_count_122 : decode cM_count 122 = .ok (.iload_n 1, 1) := by decide +kernel
theorem dM_count_123 : decode cM_count 123 = .ok (.iaload, 1) := by decide +kernel
theorem dM_count_124 : decode cM_count 124 = .ok (.putfield 102, 3) := by decide +kernel
theorem dM_count_127 : decode cM_count 127 = .ok (.aload_n 0, 1) := by decide +kernel
theorem dM_count_128 : decode cM_count 128 = .ok (.aload_n 0, 1) := by decide +kernel
theorem dM_count_129 : decode cM_count 129 = .ok (.getfield 40, 3) := by decide +kernel
theorem dM_count_132 : decode cM_count 132 = .ok (.iload_n 1, 1) := by decide +kernel
theorem dM_count_133 : decode cM_count 133 = .ok (.iaload, 1) := by decide +kernel
theorem dM_count_134 : decode cM_count 134 = .ok (.putfield 105, 3) := by decide +kernel
theorem dM_count_137 : decode cM_count 137 = .ok (.aload_n 0, 1) := by decide +kernel
theorem dM_count_138 : decode cM_count 138 = .ok (.aload_n 0, 1) := by decide +kernel
theorem dM_count_139 : decode cM_count 139 = .ok (.getfield 43, 3) := by decide +kernel
theorem dM_count_142 : decode cM_count 142 = .ok (.iload_n 1, 1) := by decide +kernel
theorem dM_count_143 : decode cM_count 143 = .ok (.iaload, 1) := by decide +kernel
theorem dM_count_144 : decode cM_count 144 = .ok (.putfield 96, 3) := by decide +kernel
theorem dM_count_147 : decode cM_count 147 = .ok (.aload_n 0, 1) := by decide +kernel
theorem dM_count_148 : decode cM_count 148 = .ok (.aload_n 0, 1) := by decide +kernel
theorem dM_count_149 : decode cM_count 149 = .ok (.getfield 46, 3) := by decide +kernel
theorem dM_count_152 : decode cM_count 152 = .ok (.iload_n 1, 1) := by decide +kernel
theorem dM_count_153 : decode cM_count 153 = .ok (.iaload, 1) := by decide +kernel
theorem dM_count_154 : decode cM_count 154 = .ok (.putfield 99, 3) := by decide +kernel
theorem dM_count_157 : decode cM_count 157 = .ok (.aload_n 0, 1) := by decide +kernel
theorem dM_count_158 : decode cM_count 158 = .ok (.invokevirtual 108, 3) := by decide +kernel
theorem dM_count_161 : decode cM_count 161 = .ok (.return_, 1) := by decide +kernel
theorem dM_item_0 : decode cM_item 0 = .ok (.iload_n 3, 1) := by decide +kernel
theorem dM_item_1 : decode cM_item 1 = .ok (.aload_n 0, 1) := by decide +kernel
theorem dM_item_2 : decode cM_item 2 = .ok (.getfield 77, 3) := by decide +kernel
theorem dM_item_5 : decode cM_item 5 = .ok (.irem, 1) := by decide +kernel
theorem dM_item_6 : decode cM_item 6 = .ok (.istore 4, 2) := by decide +kernel
theorem dM_item_8 : decode cM_item 8 = .ok (.iload_n 1, 1) := by decide +kernel
theorem dM_item_9 : decode cM_item 9 = .ok (.bipush 100, 2) := by decide +kernel
theorem dM_item_11 : decode cM_item 11 = .ok (.if_icmp .ge 27, 3) := by decide +kernel
theorem dM_item_14 : decode cM_item 14 = .ok (.aload_n 0, 1) := by decide +kernel
theorem dM_item_15 : decode cM_item 15 = .ok (.iload_n 1, 1) := by decide +kernel
theorem dM_item_16 : decode cM_item 16 = .ok (.iload_n 2, 1) := by decide +kernel
theorem dM_item_17 : decode cM_item 17 = .ok (.iload_n 3, 1) := by decide +kernel
theorem dM_item_18 : decode cM_item 18 = .ok (.invokevirtual 119, 3) := by decide +kernel
theorem dM_item_21 : decode cM_item 21 = .ok (.istore 5, 2) := by decide +kernel
theorem dM_item_23 : decode cM_item 23 = .ok (.iload 5, 2) := by decide +kernel
theorem dM_item_25 : decode cM_item 25 = .ok (.ifCond .eq 10, 3) := by decide +kernel
theorem dM_item_28 : decode cM_item 28 = .ok (.aload_n 0, 1) := by decide +kernel
theorem dM_item_29 : decode cM_item 29 = .ok (.iload_n 1, 1) := by decide +kernel
theorem dM_item_30 : decode cM_item 30 = .ok (.iload 4, 2) := by decide +kernel
theorem dM_item_32 : decode cM_item 32 = .ok (.invokevirtual 123, 3) := by decide +kernel
theorem dM_item_35 : decode cM_item 35 = .ok (.iload 5, 2) := by decide +kernel
theorem dM_item_37 : decode cM_item 37 = .ok (.ireturn, 1) := by decide +kernel
theorem dM_item_38 : decode cM_item 38 = .ok (.aload_n 0, 1) := by decide +kernel
theorem dM_item_39 : decode cM_item 39 = .ok (.getfield 28, 3) := by decide +kernel
theorem dM_item_42 : decode cM_item 42 = .ok (.iload_n 1, 1) := by decide +kernel
theorem dM_item_43 : decode cM_item 43 = .ok (.bipush 100, 2) := by decide +kernel
theorem dM_item_45 : decode cM_item 45 = .ok (.irem, 1) := by decide +kernel
theorem dM_item_46 : decode cM_item 46 = .ok (.iaload, 1) := by decide +kernel
theorem dM_item_47 : decode cM_item 47 = .ok (.istore 5, 2) := by decide +kernel
theorem dM_item_49 : decode cM_item 49 = .ok (.aload_n 0, 1) := by decide +kernel
theorem dM_item_50 : decode cM_item 50 = .ok (.getfield 65, 3) := by decide +kernel
theorem dM_item_53 : decode cM_item 53 = .ok (.iload 5, 2) := by decide +kernel
theorem dM_item_55 : decode cM_item 55 = .ok (.baload, 1) := by decide +kernel
theorem dM_item_56 : decode cM_item 56 = .ok (.ifCond .eq 5, 3) := by decide +kernel
theorem dM_item_59 : decode cM_item 59 = .ok (.iconst 0, 1) := by decide +kernel
theorem dM_item_60 : decode cM_item 60 = .ok (.ireturn, 1) := by decide +kernel
theorem dM_item_61 : decode cM_item 61 = .ok (.aload_n 0, 1) := by decide +kernel
theorem dM_item_62 : decode cM_item 62 = .ok (.getfield 65, 3) := by decide +kernel
theorem dM_item_65 : decode cM_item 65 = .ok (.iload 5, 2) := by decide +kernel
theorem dM_item_67 : decode cM_item 67 = .ok (.iconst 1, 1) := by decide +kernel
theorem dM_item_68 : decode cM_item 68 = .ok (.bastore, 1) := by decide +kernel
theorem dM_item_69 : decode cM_item 69 = .ok (.aload_n 0, 1) := by decide +kernel
theorem dM_item_70 : decode cM_item 70 = .ok (.getfield 62, 3) := by decide +kernel
theorem dM_item_73 : decode cM_item 73 = .ok (.iload 5, 2) := by decide +kernel
theorem dM_item_75 : decode cM_item 75 = .ok (.dup2, 1) := by decide +kernel
theorem dM_item_76 : decode cM_item 76 = .ok (.iaload, 1) := by decide +kernel
theorem dM_item_77 : decode cM_item 77 = .ok (.iconst 2, 1) := by decide +kernel
theorem dM_item_78 : decode cM_item 78 = .ok (.idiv, 1) := by decide +kernel
theorem dM_item_79 : decode cM_item 79 = .ok (.iastore, 1) := by decide +kernel
theorem dM_item_80 : decode cM_item 80 = .ok (.aload_n 0, 1) := by decide +kernel
theorem dM_item_81 : decode cM_item 81 = .ok (.getfield 62, 3) := by decide +kernel
theorem dM_item_84 : decode cM_item 84 = .ok (.iload 4, 2) := by decide +kernel
theorem dM_item_86 : decode cM_item 86 = .ok (.dup2, 1) := by decide +kernel
theorem dM_item_87 : decode cM_item 87 = .ok (.iaload, 1) := by decide +kernel
theorem dM_item_88 : decode cM_item 88 = .ok (.iconst 5, 1) := by decide +kernel
theorem dM_item_89 : decode cM_item 89 = .ok (.iadd, 1) := by decide +kernel
theorem dM_item_90 : decode cM_item 90 = .ok (.iastore, 1) := by decide +kernel
theorem dM_item_91 : decode cM_item 91 = .ok (.iconst 1, 1) := by decide +kernel
theorem dM_item_92 : decode cM_item 92 = .ok (.ireturn, 1) := by decide +kernel
theorem dM_make_0 : decode cM_make 0 = .ok (.iconst 0, 1) := by decide +kernel
theorem dM_make_1 : decode cM_make 1 = .ok (.istore_n 2, 1) := by decide +kernel
theorem dM_make_2 : decode cM_make 2 = .ok (.iload_n 1, 1) := by decide +kernel
theorem dM_make_3 : decode cM_make 3 = .ok (.istore_n 3, 1) := by decide +kernel
theorem dM_make_4 : decode cM_make 4 = .ok (.iload_n 3, 1) := by decide +kernel
theorem dM_make_5 : decode cM_make 5 = .ok (.ifCond .le 23, 3) := by decide +kernel
theorem dM_make_8 : decode cM_make 8 = .ok (.aload_n 0, 1) := by decide +kernel
theorem dM_make_9 : decode cM_make 9 = .ok (.getfield 74, 3) := by decide +kernel
theorem dM_make_12 : decode cM_make 12 = .ok (.iload_n 2, 1) := by decide +kernel
theorem dM_make_13 : decode cM_make 13 = .ok (.iload_n 3, 1) := by decide +kernel
theorem dM_make_14 : decode cM_make 14 = .ok (.iastore, 1) := by decide +kernel
theorem dM_make_15 : decode cM_make 15 = .ok (.iinc 2 1, 3) := by decide +kernel
theorem dM_make_18 : decode cM_make 18 = .ok (.aload_n 0, 1) := by decide +kernel
theorem dM_make_19 : decode cM_make 19 = .ok (.getfield 13, 3) := by decide +kernel
theorem dM_make_22 : decode cM_make 22 = .ok (.iload_n 3, 1) := by decide +kernel
theorem dM_make_23 : decode cM_make 23 = .ok (.iaload, 1) := by decide +kernel
theorem dM_make_24 : decode cM_make 24 = .ok (.istore_n 3, 1) := by decide +kernel
theorem dM_make_25 : decode cM_make 25 = .ok (.goto (-21), 3) := by decide +kernel
theorem dM_make_28 : decode cM_make 28 = .ok (.aload_n 0, 1) := by decide +kernel
theorem dM_make_29 : decode cM_make 29 = .ok (.invokevirtual 127, 3) := by decide +kernel
theorem dM_make_32 : decode cM_make 32 = .ok (.iload_n 2, 1) := by decide +kernel
theorem dM_make_33 : decode cM_make 33 = .ok (.iconst 1, 1) := by decide +kernel
theorem dM_make_34 : decode cM_make 34 = .ok (.isub, 1) := by decide +kernel
theorem dM_make_35 : decode cM_make 35 = .ok (.istore_n 3, 1) := by decide +kernel
theorem dM_make_36 : decode cM_make 36 = .ok (.iload_n 3, 1) := by decide +kernel
theorem dM_make_37 : decode cM_make 37 = .ok (.ifCond .lt 80, 3) := by decide +kernel
theorem dM_make_40 : decode cM_make 40 = .ok (.aload_n 0, 1) := by decide +kernel
theorem dM_make_41 : decode cM_make 41 = .ok (.getfield 74, 3) := by decide +kernel
theorem dM_make_44 : decode cM_make 44 = .ok (.iload_n 3, 1) := by decide +kernel
theorem dM_make_45 : decode cM_make 45 = .ok (.iaload, 1) := by decide +kernel
theorem dM_make_46 : decode cM_make 46 = .ok (.istore 4, 2) := by decide +kernel
theorem dM_make_48 : decode cM_make 48 = .ok (.aload_n 0, 1) := by decide +kernel
theorem dM_make_49 : decode cM_make 49 = .ok (.aload_n 0, 1) := by decide +kernel
theorem dM_make_50 : decode cM_make 50 = .ok (.getfield 16, 3) := by decide +kernel
theorem dM_make_53 : decode cM_make 53 = .ok (.iload 4, 2) := by decide +kernel
theorem dM_make_55 : decode cM_make 55 = .ok (.iaload, 1) := by decide +kernel
theorem dM_make_56 : decode cM_make 56 = .ok (.invokevirtual 130, 3) := by decide +kernel
theorem dM_make_59 : decode cM_make 59 = .ok (.iconst 0, 1) := by decide +kernel
theorem dM_make_60 : decode cM_make 60 = .ok (.istore 5, 2) := by decide +kernel
theorem dM_make_62 : decode cM_make 62 = .ok (.iload 5, 2) := by decide +kernel
theorem dM_make_64 : decode cM_make 64 = .ok (.aload_n 0, 1) := by decide +kernel
theorem dM_make_65 : decode cM_make 65 = .ok (.getfield 19, 3) := by decide +kernel
theorem dM_make_68 : decode cM_make 68 = .ok (.iload 4, 2) := by decide +kernel
theorem dM_make_70 : decode cM_make 70 = .ok (.iaload, 1) := by decide +kernel
theorem dM_make_71 : decode cM_make 71 = .ok (.if_icmp .ge 40, 3) := by decide +kernel
theorem dM_make_74 : decode cM_make 74 = .ok (.aload_n 0, 1) := by decide +kernel
theorem dM_make_75 : decode cM_make 75 = .ok (.aload_n 0, 1) := by decide +kernel
theorem dM_make_76 : decode cM_make 76 = .ok (.getfield 22, 3) := by decide +kernel
theorem dM_make_79 : decode cM_make 79 = .ok (.iconst 4, 1) := by decide +kernel
theorem dM_make_80 : decode cM_make 80 = .ok (.iload 4, 2) := by decide +kernel
theorem dM_make_82 : decode cM_make 82 = .ok (.imul, 1) := by decide +kernel
theorem dM_make_83 : decode cM_make 83 = .ok (.iload 5, 2) := by decide +kernel
theorem dM_make_85 : decode cM_make 85 = .ok (.iadd, 1) := by decide +kernel
theorem dM_make_86 : decode cM_make 86 = .ok (.iaload, 1) := by decide +kernel
theorem dM_make_87 : decode cM_make 87 = .ok (.aload_n 0, 1) := by decide +kernel
theorem dM_make_88 : decode cM_make 88 = .ok (.getfield 13, 3) := by decide +kernel
theorem dM_make_91 : decode cM_make 91 = .ok (.iload 4, 2) := by decide +kernel
theorem dM_make_93 : decode cM_make 93 = .ok (.iaload, 1) := by decide +kernel
theorem dM_make_94 : decode cM_make 94 = .ok (.aload_n 0, 1) := by decide +kernel
theorem dM_make_95 : decode cM_make 95 = .ok (.getfield 16, 3) := by decide +kernel
theorem dM_make_98 : decode cM_make 98 = .ok (.iload 4, 2) := by decide +kernel
theorem dM_make_100 : decode cM_make 100 = .ok (.iaload, 1) := by decide +kernel
theorem dM_make_101 : decode cM_make 101 = .ok (.invokevirtual 134, 3) := by decide +kernel
theorem dM_make_104 : decode cM_make 104 = .ok (.pop, 1) := by decide +kernel
theorem dM_make_105 : decode cM_make 105 = .ok (.iinc 5 1, 3) := by decide +kernel
theorem dM_make_108 : decode cM_make 108 = .ok (.goto (-46), 3) := by decide +kernel
theorem dM_make_111 : decode cM_make 111 = .ok (.iinc 3 (-1), 3) := by decide +kernel
theorem dM_make_114 : decode cM_make 114 = .ok (.goto (-78), 3) := by decide +kernel
theorem dM_make_117 : decode cM_make 117 = .ok (.return_, 1) := by decide +kernel
theorem dM_vote_0 : decode cM_vote 0 = .ok (.aload_n 0, 1) := by decide +kernel
theorem dM_vote_1 : decode cM_vote 1 = .ok (.iload_n 1, 1) := by decide +kernel
theorem dM_vote_2 : decode cM_vote 2 = .ok (.invokevirtual 137, 3) := by decide +kernel
theorem dM_vote_5 : decode cM_vote 5 = .ok (.ifCond .eq 22, 3) := by decide +kernel
theorem dM_vote_8 : decode cM_vote 8 = .ok (.aload_n 0, 1) := by decide +kernel
theorem dM_vote_9 : decode cM_vote 9 = .ok (.iload_n 2, 1) := by decide +kernel
theorem dM_vote_10 : decode cM_vote 10 = .ok (.invokevirtual 141, 3) := by decide +kernel
theorem dM_vote_13 : decode cM_vote 13 = .ok (.ifCond .eq 14, 3) := by decide +kernel
theorem dM_vote_16 : decode cM_vote 16 = .ok (.iload_n 3, 1) := by decide +kernel
theorem dM_vote_17 : decode cM_vote 17 = .ok (.iconst 0, 1) := by decide +kernel
theorem dM_vote_18 : decode cM_vote 18 = .ok (.sipush 240, 3) := by decide +kernel
theorem dM_vote_21 : decode cM_vote 21 = .ok (.invokestatic 144, 3) := by decide +kernel
theorem dM_vote_24 : decode cM_vote 24 = .ok (.ifCond .eq 5, 3) := by decide +kernel
theorem dM_vote_27 : decode cM_vote 27 = .ok (.iconst (-1), 1) := by decide +kernel
theorem dM_vote_28 : decode cM_vote 28 = .ok (.ireturn, 1) := by decide +kernel
theorem dM_vote_29 : decode cM_vote 29 = .ok (.aload_n 0, 1) := by decide +kernel
theorem dM_vote_30 : decode cM_vote 30 = .ok (.iload_n 2, 1) := by decide +kernel
theorem dM_vote_31 : decode cM_vote 31 = .ok (.invokevirtual 147, 3) := by decide +kernel
theorem dM_vote_34 : decode cM_vote 34 = .ok (.iload_n 3, 1) := by decide +kernel
theorem dM_vote_35 : decode cM_vote 35 = .ok (.aload_n 0, 1) := by decide +kernel
theorem dM_vote_36 : decode cM_vote 36 = .ok (.getfield 81, 3) := by decide +kernel
theorem dM_vote_39 : decode cM_vote 39 = .ok (.idiv, 1) := by decide +kernel
theorem dM_vote_40 : decode cM_vote 40 = .ok (.istore 4, 2) := by decide +kernel
theorem dM_vote_42 : decode cM_vote 42 = .ok (.aload_n 0, 1) := by decide +kernel
theorem dM_vote_43 : decode cM_vote 43 = .ok (.getfield 16, 3) := by decide +kernel
theorem dM_vote_46 : decode cM_vote 46 = .ok (.iload_n 2, 1) := by decide +kernel
theorem dM_vote_47 : decode cM_vote 47 = .ok (.iaload, 1) := by decide +kernel
theorem dM_vote_48 : decode cM_vote 48 = .ok (.iload_n 3, 1) := by decide +kernel
theorem dM_vote_49 : decode cM_vote 49 = .ok (.if_icmp .gt 12, 3) := by decide +kernel
theorem dM_vote_52 : decode cM_vote 52 = .ok (.aload_n 0, 1) := by decide +kernel
theorem dM_vote_53 : decode cM_vote 53 = .ok (.getfield 96, 3) := by decide +kernel
theorem dM_vote_56 : decode cM_vote 56 = .ok (.iload 4, 2) := by decide +kernel
theorem dM_vote_58 : decode cM_vote 58 = .ok (.if_icmp .lt 6, 3) := by decide +kernel
theorem dM_vote_61 : decode cM_vote 61 = .ok (.bipush (-3), 2) := by decide +kernel
theorem dM_vote_63 : decode cM_vote 63 = .ok (.ireturn, 1) := by decide +kernel
theorem dM_vote_64 : decode cM_vote 64 = .ok (.aload_n 0, 1) := by decide +kernel
theorem dM_vote_65 : decode cM_vote 65 = .ok (.iload_n 2, 1) := by decide +kernel
theorem dM_vote_66 : decode cM_vote 66 = .ok (.iload 4, 2) := by decide +kernel
theorem dM_vote_68 : decode cM_vote 68 = .ok (.invokevirtual 111, 3) := by decide +kernel
theorem dM_vote_71 : decode cM_vote 71 = .ok (.istore 5, 2) := by decide +kernel
theorem dM_vote_73 : decode cM_vote 73 = .ok (.iconst 0, 1) := by decide +kernel
theorem dM_vote_74 : decode cM_vote 74 = .ok (.istore 6, 2) := by decide +kernel
theorem dM_vote_76 : decode cM_vote 76 = .ok (.iload 6, 2) := by decide +kernel
theorem dM_vote_78 : decode cM_vote 78 = .ok (.aload_n 0, 1) := by decide +kernel
theorem dM_vote_79 : decode cM_vote 79 = .ok (.getfield 90, 3) := by decide +kernel
theorem dM_vote_82 : decode cM_vote 82 = .ok (.if_icmp .ge 97, 3) := by decide +kernel
theorem dM_vote_85 : decode cM_vote 85 = .ok (.aload_n 0, 1) := by decide +kernel
theorem dM_vote_86 : decode cM_vote 86 = .ok (.getfield 28, 3) := by decide +kernel
theorem dM_vote_89 : decode cM_vote 89 = .ok (.iload 6, 2) := by decide +kernel
theorem dM_vote_91 : decode cM_vote 91 = .ok (.iaload, 1) := by decide +kernel
theorem dM_vote_92 : decode cM_vote 92 = .ok (.iload_n 1, 1) := by decide +kernel
theorem dM_vote_93 : decode cM_vote 93 = .ok (.if_icmp .ne 29, 3) := by decide +kernel
theorem dM_vote_96 : decode cM_vote 96 = .ok (.aload_n 0, 1) := by decide +kernel
theorem dM_vote_97 : decode cM_vote 97 = .ok (.getfield 31, 3) := by decide +kernel
theorem dM_vote_100 : decode cM_vote 100 = .ok (.iload 6, 2) := by decide +kernel
theorem dM_vote_102 : decode cM_vote 102 = .ok (.iaload, 1) := by decide +kernel
theorem dM_vote_103 : decode cM_vote 103 = .ok (.iload_n 3, 1) := by decide +kernel
theorem dM_vote_104 : decode cM_vote 104 = .ok (.if_icmp .ne 18, 3) := by decide +kernel
theorem dM_vote_107 : decode cM_vote 107 = .ok (.aload_n 0, 1) := by decide +kernel
theorem dM_vote_108 : decode cM_vote 108 = .ok (.getfield 34, 3) := by decide +kernel
theorem dM_vote_111 : decode cM_vote 111 = .ok (.iload 6, 2) := by decide +kernel
theorem dM_vote_113 : decode cM_vote 113 = .ok (.iaload, 1) := by decide +kernel
theorem dM_vote_114 : decode cM_vote 114 = .ok (.iload_n 2, 1) := by decide +kernel
theorem dM_vote_115 : decode cM_vote 115 = .ok (.if_icmp .ne 7, 3) := by decide +kernel
theorem dM_vote_118 : decode cM_vote 118 = .ok (.iconst 1, 1) := by decide +kernel
theorem dM_vote_119 : decode cM_vote 119 = .ok (.goto 4, 3) := by decide +kernel
theorem dM_vote_122 : decode cM_vote 122 = .ok (.iconst 0, 1) := by decide +kernel
theorem dM_vote_123 : decode cM_vote 123 = .ok (.istore 7, 2) := by decide +kernel
theorem dM_vote_125 : decode cM_vote 125 = .ok (.iload 7, 2) := by decide +kernel
theorem dM_vote_127 : decode cM_vote 127 = .ok (.ifCond .eq 46, 3) := by decide +kernel
theorem dM_vote_130 : decode cM_vote 130 = .ok (.aload_n 0, 1) := by decide +kernel
theorem dM_vote_131 : decode cM_vote 131 = .ok (.getfield 37, 3) := by decide +kernel
theorem dM_vote_134 : decode cM_vote 134 = .ok (.iload 6, 2) := by decide +kernel
theorem dM_vote_136 : decode cM_vote 136 = .ok (.iaload, 1) := by decide +kernel
theorem dM_vote_137 : decode cM_vote 137 = .ok (.aload_n 0, 1) := by decide +kernel
theorem dM_vote_138 : decode cM_vote 138 = .ok (.getfield 96, 3) := by decide +kernel
theorem dM_vote_141 : decode cM_vote 141 = .ok (.if_icmp .ne 32, 3) := by decide +kernel
theorem dM_vote_144 : decode cM_vote 144 = .ok (.aload_n 0, 1) := by decide +kernel
theorem dM_vote_145 : decode cM_vote 145 = .ok (.getfield 40, 3) := by decide +kernel
theorem dM_vote_148 : decode cM_vote 148 = .ok (.iload 6, 2) := by decide +kernel
theorem dM_vote_150 : decode cM_vote 150 = .ok (.iaload, 1) := by decide +kernel
theorem dM_vote_151 : decode cM_vote 151 = .ok (.aload_n 0, 1) := by decide +kernel
theorem dM_vote_152 : decode cM_vote 152 = .ok (.getfield 99, 3) := by decide +kernel
theorem dM_vote_155 : decode cM_vote 155 = .ok (.if_icmp .ne 18, 3) := by decide +kernel
theorem dM_vote_158 : decode cM_vote 158 = .ok (.aload_n 0, 1) := by decide +kernel
theorem dM_vote_159 : decode cM_vote 159 = .ok (.getfield 46, 3) := by decide +kernel
theorem dM_vote_162 : decode cM_vote 162 = .ok (.iload 6, 2) := by decide +kernel
theorem dM_vote_164 : decode cM_vote 164 = .ok (.iaload, 1) := by decide +kernel
theorem dM_vote_165 : decode cM_vote 165 = .ok (.iload 5, 2) := by decide +kernel
theorem dM_vote_167 : decode cM_vote 167 = .ok (.if_icmp .ne 6, 3) := by decide +kernel
theorem dM_vote_170 : decode cM_vote 170 = .ok (.iload 6, 2) := by decide +kernel
theorem dM_vote_172 : decode cM_vote 172 = .ok (.ireturn, 1) := by decide +kernel
theorem dM_vote_173 : decode cM_vote 173 = .ok (.iinc 6 1, 3) := by decide +kernel
theorem dM_vote_176 : decode cM_vote 176 = .ok (.goto (-100), 3) := by decide +kernel
theorem dM_vote_179 : decode cM_vote 179 = .ok (.aload_n 0, 1) := by decide +kernel
theorem dM_vote_180 : decode cM_vote 180 = .ok (.getfield 90, 3) := by decide +kernel
theorem dM_vote_183 : decode cM_vote 183 = .ok (.bipush 80, 2) := by decide +kernel
theorem dM_vote_185 : decode cM_vote 185 = .ok (.if_icmp .ne 6, 3) := by decide +kernel
theorem dM_vote_188 : decode cM_vote 188 = .ok (.bipush (-2), 2) := by decide +kernel
theorem dM_vote_190 : decode cM_vote 190 = .ok (.ireturn, 1) := by decide +kernel
theorem dM_vote_191 : decode cM_vote 191 = .ok (.aload_n 0, 1) := by decide +kernel
theorem dM_vote_192 : decode cM_vote 192 = .ok (.getfield 28, 3) := by decide +kernel
theorem dM_vote_195 : decode cM_vote 195 = .ok (.aload_n 0, 1) := by decide +kernel
theorem dM_vote_196 : decode cM_vote 196 = .ok (.getfield 90, 3) := by decide +kernel
theorem dM_vote_199 : decode cM_vote 199 = .ok (.iload_n 1, 1) := by decide +kernel
theorem dM_vote_200 : decode cM_vote 200 = .ok (.iastore, 1) := by decide +kernel
theorem dM_vote_201 : decode cM_vote 201 = .ok (.aload_n 0, 1) := by decide +kernel
theorem dM_vote_202 : decode cM_vote 202 = .ok (.getfield 31, 3) := by decide +kernel
theorem dM_vote_205 : decode cM_vote 205 = .ok (.aload_n 0, 1) := by decide +kernel
theorem dM_vote_206 : decode cM_vote 206 = .ok (.getfield 90, 3) := by decide +kernel
theorem dM_vote_209 : decode cM_vote 209 = .ok (.iload_n 3, 1) := by decide +kernel
theorem dM_vote_210 : decode cM_vote 210 = .ok (.iastore, 1) := by decide +kernel
theorem dM_vote_211 : decode cM_vote 211 = .ok (.aload_n 0, 1) := by decide +kernel
theorem dM_vote_212 : decode cM_vote 212 = .ok (.getfield 34, 3) := by decide +kernel
theorem dM_vote_215 : decode cM_vote 215 = .ok (.aload_n 0, 1) := by decide +kernel
theorem dM_vote_216 : decode cM_vote 216 = .ok (.getfield 90, 3) := by decide +kernel
theorem dM_vote_219 : decode cM_vote 219 = .ok (.iload_n 2, 1) := by decide +kernel
theorem dM_vote_220 : decode cM_vote 220 = .ok (.iastore, 1) := by decide +kernel
theorem dM_vote_221 : decode cM_vote 221 = .ok (.aload_n 0, 1) := by decide +kernel
theorem dM_vote_222 : decode cM_vote 222 = .ok (.getfield 37, 3) := by decide +kernel
theorem dM_vote_225 : decode cM_vote 225 = .ok (.aload_n 0, 1) := by decide +kernel
theorem dM_vote_226 : decode cM_vote 226 = .ok (.getfield 90, 3) := by decide +kernel
theorem dM_vote_229 : decode cM_vote 229 = .ok (.aload_n 0, 1) := by decide +kernel
theorem dM_vote_230 : decode cM_vote 230 = .ok (.getfield 96, 3) := by decide +kernel
theorem dM_vote_233 : decode cM_vote 233 = .ok (.iastore, 1) := by decide +kernel
theorem dM_vote_234 : decode cM_vote 234 = .ok (.aload_n 0, 1) := by decide +kernel
theorem dM_vote_235 : decode cM_vote 235 = .ok (.getfield 40, 3) := by decide +kernel
theorem dM_vote_238 : decode cM_vote 238 = .ok (.aload_n 0, 1) := by decide +kernel
theorem dM_vote_239 : decode cM_vote 239 = .ok (.getfield 90, 3) := by decide +kernel
theorem dM_vote_242 : decode cM_vote 242 = .ok (.aload_n 0, 1) := by decide +kernel
theorem dM_vote_243 : decode cM_vote 243 = .ok (.getfield 99, 3) := by decide +kernel
theorem dM_vote_246 : decode cM_vote 246 = .ok (.iastore, 1) := by decide +kernel
theorem dM_vote_247 : decode cM_vote 247 = .ok (.aload_n 0, 1) := by decide +kernel
theorem dM_vote_248 : decode cM_vote 248 = .ok (.getfield 43, 3) := by decide +kernel
theorem dM_vote_251 : decode cM_vote 251 = .ok (.aload_n 0, 1) := by decide +kernel
theorem dM_vote_252 : decode cM_vote 252 = .ok (.getfield 90, 3) := by decide +kernel
theorem dM_vote_255 : decode cM_vote 255 = .ok (.iload 4, 2) := by decide +kernel
theorem dM_vote_257 : decode cM_vote 257 = .ok (.iastore, 1) := by decide +kernel
theorem dM_vote_258 : decode cM_vote 258 = .ok (.aload_n 0, 1) := by decide +kernel
theorem dM_vote_259 : decode cM_vote 259 = .ok (.getfield 46, 3) := by decide +kernel
theorem dM_vote_262 : decode cM_vote 262 = .ok (.aload_n 0, 1) := by decide +kernel
theorem dM_vote_263 : decode cM_vote 263 = .ok (.getfield 90, 3) := by decide +kernel
theorem dM_vote_266 : decode cM_vote 266 = .ok (.iload 5, 2) := by decide +kernel
theorem dM_vote_268 : decode cM_vote 268 = .ok (.iastore, 1) := by decide +kernel
theorem dM_vote_269 : decode cM_vote 269 = .ok (.aload_n 0, 1) := by decide +kernel
theorem dM_vote_270 : decode cM_vote 270 = .ok (.dup, 1) := by decide +kernel
theorem dM_vote_271 : decode cM_vote 271 = .ok (.getfield 90, 3) := by decide +kernel
theorem dM_vote_274 : decode cM_vote 274 = .ok (.iconst 1, 1) := by decide +kernel
theorem dM_vote_275 : decode cM_vote 275 = .ok (.iadd, 1) := by decide +kernel
theorem dM_vote_276 : decode cM_vote 276 = .ok (.putfield 90, 3) := by decide +kernel
theorem dM_vote_279 : decode cM_vote 279 = .ok (.aload_n 0, 1) := by decide +kernel
theorem dM_vote_280 : decode cM_vote 280 = .ok (.getfield 90, 3) := by decide +kernel
theorem dM_vote_283 : decode cM_vote 283 = .ok (.iconst 1, 1) := by decide +kernel
theorem dM_vote_284 : decode cM_vote 284 = .ok (.isub, 1) := by decide +kernel
theorem dM_vote_285 : decode cM_vote 285 = .ok (.ireturn, 1) := by decide +kernel
theorem dM_append_0 : decode cM_append 0 = .ok (.aload_n 0, 1) := by decide +kernel
theorem dM_append_1 : decode cM_append 1 = .ok (.getfield 150, 3) := by decide +kernel
theorem dM_append_4 : decode cM_append 4 = .ok (.iconst 4, 1) := by decide +kernel
theorem dM_append_5 : decode cM_append 5 = .ok (.if_icmp .ne 6, 3) := by decide +kernel
theorem dM_append_8 : decode cM_append 8 = .ok (.bipush (-2), 2) := by decide +kernel
theorem dM_append_10 : decode cM_append 10 = .ok (.ireturn, 1) := by decide +kernel
theorem dM_append_11 : decode cM_append 11 = .ok (.aload_n 0, 1) := by decide +kernel
theorem dM_append_12 : decode cM_append 12 = .ok (.getfield 25, 3) := by decide +kernel
theorem dM_append_15 : decode cM_append 15 = .ok (.aload_n 0, 1) := by decide +kernel
theorem dM_append_16 : decode cM_append 16 = .ok (.getfield 150, 3) := by decide +kernel
theorem dM_append_19 : decode cM_append 19 = .ok (.iload_n 1, 1) := by decide +kernel
theorem dM_append_20 : decode cM_append 20 = .ok (.iastore, 1) := by decide +kernel
theorem dM_append_21 : decode cM_append 21 = .ok (.aload_n 0, 1) := by decide +kernel
theorem dM_append_22 : decode cM_append 22 = .ok (.dup, 1) := by decide +kernel
theorem dM_append_23 : decode cM_append 23 = .ok (.getfield 150, 3) := by decide +kernel
theorem dM_append_26 : decode cM_append 26 = .ok (.iconst 1, 1) := by decide +kernel
theorem dM_append_27 : decode cM_append 27 = .ok (.iadd, 1) := by decide +kernel
theorem dM_append_28 : decode cM_append 28 = .ok (.putfield 150, 3) := by decide +kernel
theorem dM_append_31 : decode cM_append 31 = .ok (.aload_n 0, 1) := by decide +kernel
theorem dM_append_32 : decode cM_append 32 = .ok (.getfield 150, 3) := by decide +kernel
theorem dM_append_35 : decode cM_append 35 = .ok (.ireturn, 1) := by decide +kernel
theorem dM_include_0 : decode cM_include 0 = .ok (.aload_n 0, 1) := by decide +kernel
theorem dM_include_1 : decode cM_include 1 = .ok (.iload_n 1, 1) := by decide +kernel
theorem dM_include_2 : decode cM_include 2 = .ok (.invokevirtual 153, 3) := by decide +kernel
theorem dM_include_5 : decode cM_include 5 = .ok (.ifCond .eq 11, 3) := by decide +kernel
theorem dM_include_8 : decode cM_include 8 = .ok (.aload_n 0, 1) := by decide +kernel
theorem dM_include_9 : decode cM_include 9 = .ok (.iload_n 1, 1) := by decide +kernel
theorem dM_include_10 : decode cM_include 10 = .ok (.invokevirtual 156, 3) := by decide +kernel
theorem dM_include_13 : decode cM_include 13 = .ok (.goto 4, 3) := by decide +kernel
theorem dM_include_16 : decode cM_include 16 = .ok (.iconst (-1), 1) := by decide +kernel
theorem dM_include_17 : decode cM_include 17 = .ok (.ireturn, 1) := by decide +kernel
theorem dM_accuse_0 : decode cM_accuse 0 = .ok (.aload_n 0, 1) := by decide +kernel
theorem dM_accuse_1 : decode cM_accuse 1 = .ok (.iload_n 1, 1) := by decide +kernel
theorem dM_accuse_2 : decode cM_accuse 2 = .ok (.invokevirtual 153, 3) := by decide +kernel
theorem dM_accuse_5 : decode cM_accuse 5 = .ok (.ifCond .eq 11, 3) := by decide +kernel
theorem dM_accuse_8 : decode cM_accuse 8 = .ok (.aload_n 0, 1) := by decide +kernel
theorem dM_accuse_9 : decode cM_accuse 9 = .ok (.iload_n 2, 1) := by decide +kernel
theorem dM_accuse_10 : decode cM_accuse 10 = .ok (.invokevirtual 153, 3) := by decide +kernel
theorem dM_accuse_13 : decode cM_accuse 13 = .ok (.ifCond .ne 5, 3) := by decide +kernel
theorem dM_accuse_16 : decode cM_accuse 16 = .ok (.iconst (-1), 1) := by decide +kernel
theorem dM_accuse_17 : decode cM_accuse 17 = .ok (.ireturn, 1) := by decide +kernel
theorem dM_accuse_18 : decode cM_accuse 18 = .ok (.aload_n 0, 1) := by decide +kernel
theorem dM_accuse_19 : decode cM_accuse 19 = .ok (.iload_n 1, 1) := by decide +kernel
theorem dM_accuse_20 : decode cM_accuse 20 = .ok (.iload_n 2, 1) := by decide +kernel
theorem dM_accuse_21 : decode cM_accuse 21 = .ok (.invokevirtual 160, 3) := by decide +kernel
theorem dM_accuse_24 : decode cM_accuse 24 = .ok (.ifCond .eq 18, 3) := by decide +kernel
theorem dM_accuse_27 : decode cM_accuse 27 = .ok (.aload_n 0, 1) := by decide +kernel
theorem dM_accuse_28 : decode cM_accuse 28 = .ok (.iload_n 1, 1) := by decide +kernel
theorem dM_accuse_29 : decode cM_accuse 29 = .ok (.bipush 100, 2) := by decide +kernel
theorem dM_accuse_31 : decode cM_accuse 31 = .ok (.iload_n 2, 1) := by decide +kernel
theorem dM_accuse_32 : decode cM_accuse 32 = .ok (.iconst 1, 1) := by decide +kernel
theorem dM_accuse_33 : decode cM_accuse 33 = .ok (.iadd, 1) := by decide +kernel
theorem dM_accuse_34 : decode cM_accuse 34 = .ok (.imul, 1) := by decide +kernel
theorem dM_accuse_35 : decode cM_accuse 35 = .ok (.iadd, 1) := by decide +kernel
theorem dM_accuse_36 : decode cM_accuse 36 = .ok (.invokevirtual 156, 3) := by decide +kernel
theorem dM_accuse_39 : decode cM_accuse 39 = .ok (.goto 5, 3) := by decide +kernel
theorem dM_accuse_42 : decode cM_accuse 42 = .ok (.bipush (-3), 2) := by decide +kernel
theorem dM_accuse_44 : decode cM_accuse 44 = .ok (.ireturn, 1) := by decide +kernel
theorem dM_clear_0 : decode cM_clear 0 = .ok (.aload_n 0, 1) := by decide +kernel
theorem dM_clear_1 : decode cM_clear 1 = .ok (.getfield 150, 3) := by decide +kernel
theorem dM_clear_4 : decode cM_clear 4 = .ok (.istore_n 1, 1) := by decide +kernel
theorem dM_clear_5 : decode cM_clear 5 = .ok (.aload_n 0, 1) := by decide +kernel
theorem dM_clear_6 : decode cM_clear 6 = .ok (.iconst 0, 1) := by decide +kernel
theorem dM_clear_7 : decode cM_clear 7 = .ok (.putfield 150, 3) := by decide +kernel
theorem dM_clear_10 : decode cM_clear 10 = .ok (.iload_n 1, 1) := by decide +kernel
theorem dM_clear_11 : decode cM_clear 11 = .ok (.ireturn, 1) := by decide +kernel
theorem dM_propose_0 : decode cM_propose 0 = .ok (.aload_n 0, 1) := by decide +kernel
theorem dM_propose_1 : decode cM_propose 1 = .ok (.iload_n 1, 1) := by decide +kernel
theorem dM_propose_2 : decode cM_propose 2 = .ok (.invokevirtual 141, 3) := by decide +kernel
theorem dM_propose_5 : decode cM_propose 5 = .ok (.ifCond .eq 14, 3) := by decide +kernel
theorem dM_propose_8 : decode cM_propose 8 = .ok (.iload_n 2, 1) := by decide +kernel
theorem dM_propose_9 : decode cM_propose 9 = .ok (.iconst 1, 1) := by decide +kernel
theorem dM_propose_10 : decode cM_propose 10 = .ok (.sipush 240, 3) := by decide +kernel
theorem dM_propose_13 : decode cM_propose 13 = .ok (.invokestatic 144, 3) := by decide +kernel
theorem dM_propose_16 : decode cM_propose 16 = .ok (.ifCond .eq 5, 3) := by decide +kernel
theorem dM_propose_19 : decode cM_propose 19 = .ok (.iconst (-1), 1) := by decide +kernel
theorem dM_propose_20 : decode cM_propose 20 = .ok (.ireturn, 1) := by decide +kernel
theorem dM_propose_21 : decode cM_propose 21 = .ok (.aload_n 0, 1) := by decide +kernel
theorem dM_propose_22 : decode cM_propose 22 = .ok (.iload_n 1, 1) := by decide +kernel
theorem dM_propose_23 : decode cM_propose 23 = .ok (.invokevirtual 147, 3) := by decide +kernel
theorem dM_propose_26 : decode cM_propose 26 = .ok (.iload_n 2, 1) := by decide +kernel
theorem dM_propose_27 : decode cM_propose 27 = .ok (.aload_n 0, 1) := by decide +kernel
theorem dM_propose_28 : decode cM_propose 28 = .ok (.getfield 16, 3) := by decide +kernel
theorem dM_propose_31 : decode cM_propose 31 = .ok (.iload_n 1, 1) := by decide +kernel
theorem dM_propose_32 : decode cM_propose 32 = .ok (.iaload, 1) := by decide +kernel
theorem dM_propose_33 : decode cM_propose 33 = .ok (.if_icmp .le 17, 3) := by decide +kernel
theorem dM_propose_36 : decode cM_propose 36 = .ok (.aload_n 0, 1) := by decide +kernel
theorem dM_propose_37 : decode cM_propose 37 = .ok (.getfield 65, 3) := by decide +kernel
theorem dM_propose_40 : decode cM_propose 40 = .ok (.iload_n 2, 1) := by decide +kernel
theorem dM_propose_41 : decode cM_propose 41 = .ok (.aload_n 0, 1) := by decide +kernel
theorem dM_propose_42 : decode cM_propose 42 = .ok (.getfield 77, 3) := by decide +kernel
theorem dM_propose_45 : decode cM_propose 45 = .ok (.irem, 1) := by decide +kernel
theorem dM_propose_46 : decode cM_propose 46 = .ok (.baload, 1) := by decide +kernel
theorem dM_propose_47 : decode cM_propose 47 = .ok (.ifCond .eq 6, 3) := by decide +kernel
theorem dM_propose_50 : decode cM_propose 50 = .ok (.bipush (-3), 2) := by decide +kernel
theorem dM_propose_52 : decode cM_propose 52 = .ok (.ireturn, 1) := by decide +kernel
theorem dM_propose_53 : decode cM_propose 53 = .ok (.aload_n 0, 1) := by decide +kernel
theorem dM_propose_54 : decode cM_propose 54 = .ok (.getfield 87, 3) := by decide +kernel
theorem dM_propose_57 : decode cM_propose 57 = .ok (.bipush 60, 2) := by decide +kernel
theorem dM_propose_59 : decode cM_propose 59 = .ok (.if_icmp .ne 6, 3) := by decide +kernel
theorem dM_propose_62 : decode cM_propose 62 = .ok (.bipush (-2), 2) := by decide +kernel
theorem dM_propose_64 : decode cM_propose 64 = .ok (.ireturn, 1) := by decide +kernel
theorem dM_propose_65 : decode cM_propose 65 = .ok (.aload_n 0, 1) := by decide +kernel
theorem dM_propose_66 : decode cM_propose 66 = .ok (.iload_n 2, 1) := by decide +kernel
theorem dM_propose_67 : decode cM_propose 67 = .ok (.invokevirtual 130, 3) := by decide +kernel
theorem dM_propose_70 : decode cM_propose 70 = .ok (.iconst 0, 1) := by decide +kernel
theorem dM_propose_71 : decode cM_propose 71 = .ok (.istore_n 3, 1) := by decide +kernel
theorem dM_propose_72 : decode cM_propose 72 = .ok (.iload_n 3, 1) := by decide +kernel
theorem dM_propose_73 : decode cM_propose 73 = .ok (.aload_n 0, 1) := by decide +kernel
theorem dM_propose_74 : decode cM_propose 74 = .ok (.getfield 150, 3) := by decide +kernel
theorem dM_propose_77 : decode cM_propose 77 = .ok (.if_icmp .ge 29, 3) := by decide +kernel
theorem dM_propose_80 : decode cM_propose 80 = .ok (.aload_n 0, 1) := by decide +kernel
theorem dM_propose_81 : decode cM_propose 81 = .ok (.aload_n 0, 1) := by decide +kernel
theorem dM_propose_82 : decode cM_propose 82 = .ok (.getfield 25, 3) := by decide +kernel
theorem dM_propose_85 : decode cM_propose 85 = .ok (.iload_n 3, 1) := by decide +kernel
theorem dM_propose_86 : decode cM_propose 86 = .ok (.iaload, 1) := by decide +kernel
theorem dM_propose_87 : decode cM_propose 87 = .ok (.iload_n 1, 1) := by decide +kernel
theorem dM_propose_88 : decode cM_propose 88 = .ok (.iload_n 2, 1) := by decide +kernel
theorem dM_propose_89 : decode cM_propose 89 = .ok (.invokevirtual 134, 3) := by decide +kernel
theorem dM_propose_92 : decode cM_propose 92 = .ok (.ifCond .ne 8, 3) := by decide +kernel
theorem dM_propose_95 : decode cM_propose 95 = .ok (.bipush (-10), 2) := by decide +kernel
theorem dM_propose_97 : decode cM_propose 97 = .ok (.iload_n 3, 1) := by decide +kernel
theorem dM_propose_98 : decode cM_propose 98 = .ok (.isub, 1) := by decide +kernel
theorem dM_propose_99 : decode cM_propose 99 = .ok (.ireturn, 1) := by decide +kernel
theorem dM_propose_100 : decode cM_propose 100 = .ok (.iinc 3 1, 3) := by decide +kernel
theorem dM_propose_103 : decode cM_propose 103 = .ok (.goto (-31), 3) := by decide +kernel
theorem dM_propose_106 : decode cM_propose 106 = .ok (.iconst 0, 1) := by decide +kernel
theorem dM_propose_107 : decode cM_propose 107 = .ok (.istore_n 3, 1) := by decide +kernel
theorem dM_propose_108 : decode cM_propose 108 = .ok (.iload_n 3, 1) := by decide +kernel
theorem dM_propose_109 : decode cM_propose 109 = .ok (.aload_n 0, 1) := by decide +kernel
theorem dM_propose_110 : decode cM_propose 110 = .ok (.getfield 150, 3) := by decide +kernel
theorem dM_propose_113 : decode cM_propose 113 = .ok (.if_icmp .ge 28, 3) := by decide +kernel
theorem dM_propose_116 : decode cM_propose 116 = .ok (.aload_n 0, 1) := by decide +kernel
theorem dM_propose_117 : decode cM_propose 117 = .ok (.getfield 22, 3) := by decide +kernel
theorem dM_propose_120 : decode cM_propose 120 = .ok (.iconst 4, 1) := by decide +kernel
theorem dM_propose_121 : decode cM_propose 121 = .ok (.aload_n 0, 1) := by decide +kernel
theorem dM_propose_122 : decode cM_propose 122 = .ok (.getfield 87, 3) := by decide +kernel
theorem dM_propose_125 : decode cM_propose 125 = .ok (.imul, 1) := by decide +kernel
theorem dM_propose_126 : decode cM_propose 126 = .ok (.iload_n 3, 1) := by decide +kernel
theorem dM_propose_127 : decode cM_propose 127 = .ok (.iadd, 1) := by decide +kernel
theorem dM_propose_128 : decode cM_propose 128 = .ok (.aload_n 0, 1) := by decide +kernel
theorem dM_propose_129 : decode cM_propose 129 = .ok (.getfield 25, 3) := by decide +kernel
theorem dM_propose_132 : decode cM_propose 132 = .ok (.iload_n 3, 1) := by decide +kernel
theorem dM_propose_133 : decode cM_propose 133 = .ok (.iaload, 1) := by decide +kernel
theorem dM_propose_134 : decode cM_propose 134 = .ok (.iastore, 1) := by decide +kernel
theorem dM_propose_135 : decode cM_propose 135 = .ok (.iinc 3 1, 3) := by decide +kernel
theorem dM_propose_138 : decode cM_propose 138 = .ok (.goto (-30), 3) := by decide +kernel
theorem dM_propose_141 : decode cM_propose 141 = .ok (.aload_n 0, 1) := by decide +kernel
theorem dM_propose_142 : decode cM_propose 142 = .ok (.getfield 13, 3) := by decide +kernel
theorem dM_propose_145 : decode cM_propose 145 = .ok (.aload_n 0, 1) := by decide +kernel
theorem dM_propose_146 : decode cM_propose 146 = .ok (.getfield 87, 3) := by decide +kernel
theorem dM_propose_149 : decode cM_propose 149 = .ok (.iload_n 1, 1) := by decide +kernel
theorem dM_propose_150 : decode cM_propose 150 = .ok (.iastore, 1) := by decide +kernel
theorem dM_propose_151 : decode cM_propose 151 = .ok (.aload_n 0, 1) := by decide +kernel
theorem dM_propose_152 : decode cM_propose 152 = .ok (.getfield 16, 3) := by decide +kernel
theorem dM_propose_155 : decode cM_propose 155 = .ok (.aload_n 0, 1) := by decide +kernel
theorem dM_propose_156 : decode cM_propose 156 = .ok (.getfield 87, 3) := by decide +kernel
theorem dM_propose_159 : decode cM_propose 159 = .ok (.iload_n 2, 1) := by decide +kernel
theorem dM_propose_160 : decode cM_propose 160 = .ok (.iastore, 1) := by decide +kernel
theorem dM_propose_161 : decode cM_propose 161 = .ok (.aload_n 0, 1) := by decide +kernel
theorem dM_propose_162 : decode cM_propose 162 = .ok (.getfield 19, 3) := by decide +kernel
theorem dM_propose_165 : decode cM_propose 165 = .ok (.aload_n 0, 1) := by decide +kernel
theorem dM_propose_166 : decode cM_propose 166 = .ok (.getfield 87, 3) := by decide +kernel
theorem dM_propose_169 : decode cM_propose 169 = .ok (.aload_n 0, 1) := by decide +kernel
theorem dM_propose_170 : decode cM_propose 170 = .ok (.getfield 150, 3) := by decide +kernel
theorem dM_propose_173 : decode cM_propose 173 = .ok (.iastore, 1) := by decide +kernel
theorem dM_propose_174 : decode cM_propose 174 = .ok (.aload_n 0, 1) := by decide +kernel
theorem dM_propose_175 : decode cM_propose 175 = .ok (.iconst 0, 1) := by decide +kernel
theorem dM_propose_176 : decode cM_propose 176 = .ok (.putfield 150, 3) := by decide +kernel
theorem dM_propose_179 : decode cM_propose 179 = .ok (.aload_n 0, 1) := by decide +kernel
theorem dM_propose_180 : decode cM_propose 180 = .ok (.dup, 1) := by decide +kernel
theorem dM_propose_181 : decode cM_propose 181 = .ok (.getfield 87, 3) := by decide +kernel
theorem dM_propose_184 : decode cM_propose 184 = .ok (.iconst 1, 1) := by decide +kernel
theorem dM_propose_185 : decode cM_propose 185 = .ok (.iadd, 1) := by decide +kernel
theorem dM_propose_186 : decode cM_propose 186 = .ok (.putfield 87, 3) := by decide +kernel
theorem dM_propose_189 : decode cM_propose 189 = .ok (.aload_n 0, 1) := by decide +kernel
theorem dM_propose_190 : decode cM_propose 190 = .ok (.getfield 87, 3) := by decide +kernel
theorem dM_propose_193 : decode cM_propose 193 = .ok (.iconst 1, 1) := by decide +kernel
theorem dM_propose_194 : decode cM_propose 194 = .ok (.isub, 1) := by decide +kernel
theorem dM_propose_195 : decode cM_propose 195 = .ok (.ireturn, 1) := by decide +kernel
theorem dM_block_0 : decode cM_block 0 = .ok (.aload_n 0, 1) := by decide +kernel
theorem dM_block_1 : decode cM_block 1 = .ok (.iload_n 1, 1) := by decide +kernel
theorem dM_block_2 : decode cM_block 2 = .ok (.invokevirtual 141, 3) := by decide +kernel
theorem dM_block_5 : decode cM_block 5 = .ok (.ifCond .ne 5, 3) := by decide +kernel
theorem dM_block_8 : decode cM_block 8 = .ok (.iconst (-1), 1) := by decide +kernel
theorem dM_block_9 : decode cM_block 9 = .ok (.ireturn, 1) := by decide +kernel
theorem dM_block_10 : decode cM_block 10 = .ok (.iload_n 2, 1) := by decide +kernel
theorem dM_block_11 : decode cM_block 11 = .ok (.iconst 3, 1) := by decide +kernel
theorem dM_block_12 : decode cM_block 12 = .ok (.if_icmp .le 8, 3) := by decide +kernel
theorem dM_block_15 : decode cM_block 15 = .ok (.aload_n 0, 1) := by decide +kernel
theorem dM_block_16 : decode cM_block 16 = .ok (.iload_n 1, 1) := by decide +kernel
theorem dM_block_17 : decode cM_block 17 = .ok (.invokevirtual 147, 3) := by decide +kernel
theorem dM_block_20 : decode cM_block 20 = .ok (.iload_n 2, 1) := by decide +kernel
theorem dM_block_21 : decode cM_block 21 = .ok (.tableswitch 108 0 7 #[47, 54, 61, 81, 88, 93, 98, 103], 47) := by decide +kernel
theorem dM_block_68 : decode cM_block 68 = .ok (.aload_n 0, 1) := by decide +kernel
theorem dM_block_69 : decode cM_block 69 = .ok (.getfield 13, 3) := by decide +kernel
theorem dM_block_72 : decode cM_block 72 = .ok (.iload_n 1, 1) := by decide +kernel
theorem dM_block_73 : decode cM_block 73 = .ok (.iaload, 1) := by decide +kernel
theorem dM_block_74 : decode cM_block 74 = .ok (.ireturn, 1) := by decide +kernel
theorem dM_block_75 : decode cM_block 75 = .ok (.aload_n 0, 1) := by decide +kernel
theorem dM_block_76 : decode cM_block 76 = .ok (.getfield 16, 3) := by decide +kernel
theorem dM_block_79 : decode cM_block 79 = .ok (.iload_n 1, 1) := by decide +kernel
theorem dM_block_80 : decode cM_block 80 = .ok (.iaload, 1) := by decide +kernel
theorem dM_block_81 : decode cM_block 81 = .ok (.ireturn, 1) := by decide +kernel
theorem dM_block_82 : decode cM_block 82 = .ok (.iload_n 1, 1) := by decide +kernel
theorem dM_block_83 : decode cM_block 83 = .ok (.ifCond .ne 7, 3) := by decide +kernel
theorem dM_block_86 : decode cM_block 86 = .ok (.iconst 0, 1) := by decide +kernel
theorem dM_block_87 : decode cM_block 87 = .ok (.goto 14, 3) := by decide +kernel
theorem dM_block_90 : decode cM_block 90 = .ok (.aload_n 0, 1) := by decide +kernel
theorem dM_block_91 : decode cM_block 91 = .ok (.getfield 16, 3) := by decide +kernel
theorem dM_block_94 : decode cM_block 94 = .ok (.iload_n 1, 1) := by decide +kernel
theorem dM_block_95 : decode cM_block 95 = .ok (.iaload, 1) := by decide +kernel
theorem dM_block_96 : decode cM_block 96 = .ok (.aload_n 0, 1) := by decide +kernel
theorem dM_block_97 : decode cM_block 97 = .ok (.getfield 77, 3) := by decide +kernel
theorem dM_block_100 : decode cM_block 100 = .ok (.irem, 1) := by decide +kernel
theorem dM_block_101 : decode cM_block 101 = .ok (.ireturn, 1) := by decide +kernel
theorem dM_block_102 : decode cM_block 102 = .ok (.aload_n 0, 1) := by decide +kernel
theorem dM_block_103 : decode cM_block 103 = .ok (.getfield 19, 3) := by decide +kernel
theorem dM_block_106 : decode cM_block 106 = .ok (.iload_n 1, 1) := by decide +kernel
theorem dM_block_107 : decode cM_block 107 = .ok (.iaload, 1) := by decide +kernel
theorem dM_block_108 : decode cM_block 108 = .ok (.ireturn, 1) := by decide +kernel
theorem dM_block_109 : decode cM_block 109 = .ok (.aload_n 0, 1) := by decide +kernel
theorem dM_block_110 : decode cM_block 110 = .ok (.getfield 96, 3) := by decide +kernel
theorem dM_block_113 : decode cM_block 113 = .ok (.ireturn, 1) := by decide +kernel
theorem dM_block_114 : decode cM_block 114 = .ok (.aload_n 0, 1) := by decide +kernel
theorem dM_block_115 : decode cM_block 115 = .ok (.getfield 99, 3) := by decide +kernel
theorem dM_block_118 : decode cM_block 118 = .ok (.ireturn, 1) := by decide +kernel
theorem dM_block_119 : decode cM_block 119 = .ok (.aload_n 0, 1) := by decide +kernel
theorem dM_block_120 : decode cM_block 120 = .ok (.getfield 102, 3) := by decide +kernel
theorem dM_block_123 : decode cM_block 123 = .ok (.ireturn, 1) := by decide +kernel
theorem dM_block_124 : decode cM_block 124 = .ok (.aload_n 0, 1) := by decide +kernel
theorem dM_block_125 : decode cM_block 125 = .ok (.getfield 105, 3) := by decide +kernel
theorem dM_block_128 : decode cM_block 128 = .ok (.ireturn, 1) := by decide +kernel
theorem dM_block_129 : decode cM_block 129 = .ok (.iconst (-1), 1) := by decide +kernel
theorem dM_block_130 : decode cM_block 130 = .ok (.ireturn, 1) := by decide +kernel
theorem dM_balance_0 : decode cM_balance 0 = .ok (.aload_n 0, 1) := by decide +kernel
theorem dM_balance_1 : decode cM_balance 1 = .ok (.iload_n 1, 1) := by decide +kernel
theorem dM_balance_2 : decode cM_balance 2 = .ok (.invokevirtual 141, 3) := by decide +kernel
theorem dM_balance_5 : decode cM_balance 5 = .ok (.ifCond .eq 11, 3) := by decide +kernel
theorem dM_balance_8 : decode cM_balance 8 = .ok (.aload_n 0, 1) := by decide +kernel
theorem dM_balance_9 : decode cM_balance 9 = .ok (.iload_n 2, 1) := by decide +kernel
theorem dM_balance_10 : decode cM_balance 10 = .ok (.invokevirtual 137, 3) := by decide +kernel
theorem dM_balance_13 : decode cM_balance 13 = .ok (.ifCond .ne 5, 3) := by decide +kernel
theorem dM_balance_16 : decode cM_balance 16 = .ok (.iconst (-1), 1) := by decide +kernel
theorem dM_balance_17 : decode cM_balance 17 = .ok (.ireturn, 1) := by decide +kernel
theorem dM_balance_18 : decode cM_balance 18 = .ok (.aload_n 0, 1) := by decide +kernel
theorem dM_balance_19 : decode cM_balance 19 = .ok (.iload_n 1, 1) := by decide +kernel
theorem dM_balance_20 : decode cM_balance 20 = .ok (.invokevirtual 147, 3) := by decide +kernel
theorem dM_balance_23 : decode cM_balance 23 = .ok (.aload_n 0, 1) := by decide +kernel
theorem dM_balance_24 : decode cM_balance 24 = .ok (.getfield 62, 3) := by decide +kernel
theorem dM_balance_27 : decode cM_balance 27 = .ok (.iload_n 2, 1) := by decide +kernel
theorem dM_balance_28 : decode cM_balance 28 = .ok (.iaload, 1) := by decide +kernel
theorem dM_balance_29 : decode cM_balance 29 = .ok (.ireturn, 1) := by decide +kernel
theorem dM_punished_0 : decode cM_punished 0 = .ok (.aload_n 0, 1) := by decide +kernel
theorem dM_punished_1 : decode cM_punished 1 = .ok (.iload_n 1, 1) := by decide +kernel
theorem dM_punished_2 : decode cM_punished 2 = .ok (.invokevirtual 141, 3) := by decide +kernel
theorem dM_punished_5 : decode cM_punished 5 = .ok (.ifCond .eq 11, 3) := by decide +kernel
theorem dM_punished_8 : decode cM_punished 8 = .ok (.aload_n 0, 1) := by decide +kernel
theorem dM_punished_9 : decode cM_punished 9 = .ok (.iload_n 2, 1) := by decide +kernel
theorem dM_punished_10 : decode cM_punished 10 = .ok (.invokevirtual 137, 3) := by decide +kernel
theorem dM_punished_13 : decode cM_punished 13 = .ok (.ifCond .ne 5, 3) := by decide +kernel
theorem dM_punished_16 : decode cM_punished 16 = .ok (.iconst 0, 1) := by decide +kernel
theorem dM_punished_17 : decode cM_punished 17 = .ok (.ireturn, 1) := by decide +kernel
theorem dM_punished_18 : decode cM_punished 18 = .ok (.aload_n 0, 1) := by decide +kernel
theorem dM_punished_19 : decode cM_punished 19 = .ok (.iload_n 1, 1) := by decide +kernel
theorem dM_punished_20 : decode cM_punished 20 = .ok (.invokevirtual 147, 3) := by decide +kernel
theorem dM_punished_23 : decode cM_punished 23 = .ok (.aload_n 0, 1) := by decide +kernel
theorem dM_punished_24 : decode cM_punished 24 = .ok (.getfield 65, 3) := by decide +kernel
theorem dM_punished_27 : decode cM_punished 27 = .ok (.iload_n 2, 1) := by decide +kernel
theorem dM_punished_28 : decode cM_punished 28 = .ok (.baload, 1) := by decide +kernel
theorem dM_punished_29 : decode cM_punished 29 = .ok (.ireturn, 1) := by decide +kernel
theorem dM_counted_0 : decode cM_counted 0 = .ok (.aload_n 0, 1) := by decide +kernel
theorem dM_counted_1 : decode cM_counted 1 = .ok (.iload_n 1, 1) := by decide +kernel
theorem dM_counted_2 : decode cM_counted 2 = .ok (.invokevirtual 141, 3) := by decide +kernel
theorem dM_counted_5 : decode cM_counted 5 = .ok (.ifCond .ne 5, 3) := by decide +kernel
theorem dM_counted_8 : decode cM_counted 8 = .ok (.iconst (-1), 1) := by decide +kernel
theorem dM_counted_9 : decode cM_counted 9 = .ok (.ireturn, 1) := by decide +kernel
theorem dM_counted_10 : decode cM_counted 10 = .ok (.aload_n 0, 1) := by decide +kernel
theorem dM_counted_11 : decode cM_counted 11 = .ok (.iload_n 1, 1) := by decide +kernel
theorem dM_counted_12 : decode cM_counted 12 = .ok (.invokevirtual 147, 3) := by decide +kernel
theorem dM_counted_15 : decode cM_counted 15 = .ok (.iload_n 2, 1) := by decide +kernel
theorem dM_counted_16 : decode cM_counted 16 = .ok (.aload_n 0, 1) := by decide +kernel
theorem dM_counted_17 : decode cM_counted 17 = .ok (.getfield 93, 3) := by decide +kernel
theorem dM_counted_20 : decode cM_counted 20 = .ok (.if_icmp .ne 11, 3) := by decide +kernel
theorem dM_counted_23 : decode cM_counted 23 = .ok (.aload_n 0, 1) := by decide +kernel
theorem dM_counted_24 : decode cM_counted 24 = .ok (.iconst 1, 1) := by decide +kernel
theorem dM_counted_25 : decode cM_counted 25 = .ok (.invokevirtual 115, 3) := by decide +kernel
theorem dM_counted_28 : decode cM_counted 28 = .ok (.goto 22, 3) := by decide +kernel
theorem dM_counted_31 : decode cM_counted 31 = .ok (.iload_n 2, 1) := by decide +kernel
theorem dM_counted_32 : decode cM_counted 32 = .ok (.aload_n 0, 1) := by decide +kernel
theorem dM_counted_33 : decode cM_counted 33 = .ok (.getfield 93, 3) := by decide +kernel
theorem dM_counted_36 : decode cM_counted 36 = .ok (.iconst 1, 1) := by decide +kernel
theorem dM_counted_37 : decode cM_counted 37 = .ok (.isub, 1) := by decide +kernel
theorem dM_counted_38 : decode cM_counted 38 = .ok (.if_icmp .ne 11, 3) := by decide +kernel
theorem dM_counted_41 : decode cM_counted 41 = .ok (.aload_n 0, 1) := by decide +kernel
theorem dM_counted_42 : decode cM_counted 42 = .ok (.iconst 0, 1) := by decide +kernel
theorem dM_counted_43 : decode cM_counted 43 = .ok (.invokevirtual 115, 3) := by decide +kernel
theorem dM_counted_46 : decode cM_counted 46 = .ok (.goto 4, 3) := by decide +kernel
theorem dM_counted_49 : decode cM_counted 49 = .ok (.iconst 0, 1) := by decide +kernel
theorem dM_counted_50 : decode cM_counted 50 = .ok (.ireturn, 1) := by decide +kernel
theorem dM_ballot_0 : decode cM_ballot 0 = .ok (.aload_n 0, 1) := by decide +kernel
theorem dM_ballot_1 : decode cM_ballot 1 = .ok (.iload_n 1, 1) := by decide +kernel
theorem dM_ballot_2 : decode cM_ballot 2 = .ok (.invokevirtual 153, 3) := by decide +kernel
theorem dM_ballot_5 : decode cM_ballot 5 = .ok (.ifCond .ne 5, 3) := by decide +kernel
theorem dM_ballot_8 : decode cM_ballot 8 = .ok (.iconst (-1), 1) := by decide +kernel
theorem dM_ballot_9 : decode cM_ballot 9 = .ok (.ireturn, 1) := by decide +kernel
theorem dM_ballot_10 : decode cM_ballot 10 = .ok (.iload_n 2, 1) := by decide +kernel
theorem dM_ballot_11 : decode cM_ballot 11 = .ok (.tableswitch 90 0 6 #[41, 48, 55, 62, 69, 76, 83], 41) := by decide +kernel
theorem dM_ballot_52 : decode cM_ballot 52 = .ok (.aload_n 0, 1) := by decide +kernel
theorem dM_ballot_53 : decode cM_ballot 53 = .ok (.getfield 28, 3) := by decide +kernel
theorem dM_ballot_56 : decode cM_ballot 56 = .ok (.iload_n 1, 1) := by decide +kernel
theorem dM_ballot_57 : decode cM_ballot 57 = .ok (.iaload, 1) := by decide +kernel
theorem dM_ballot_58 : decode cM_ballot 58 = .ok (.ireturn, 1) := by decide +kernel
theorem dM_ballot_59 : decode cM_ballot 59 = .ok (.aload_n 0, 1) := by decide +kernel
theorem dM_ballot_60 : decode cM_ballot 60 = .ok (.getfield 31, 3) := by decide +kernel
theorem dM_ballot_63 : decode cM_ballot 63 = .ok (.iload_n 1, 1) := by decide +kernel
theorem dM_ballot_64 : decode cM_ballot 64 = .ok (.iaload, 1) := by decide +kernel
theorem dM_ballot_65 : decode cM_ballot 65 = .ok (.ireturn, 1) := by decide +kernel
theorem dM_ballot_66 : decode cM_ballot 66 = .ok (.aload_n 0, 1) := by decide +kernel
theorem dM_ballot_67 : decode cM_ballot 67 = .ok (.getfield 34, 3) := by decide +kernel
theorem dM_ballot_70 : decode cM_ballot 70 = .ok (.iload_n 1, 1) := by decide +kernel
theorem dM_ballot_71 : decode cM_ballot 71 = .ok (.iaload, 1) := by decide +kernel
theorem dM_ballot_72 : decode cM_ballot 72 = .ok (.ireturn, 1) := by decide +kernel
theorem dM_ballot_73 : decode cM_ballot 73 = .ok (.aload_n 0, 1) := by decide +kernel
theorem dM_ballot_74 : decode cM_ballot 74 = .ok (.getfield 37, 3) := by decide +kernel
theorem dM_ballot_77 : decode cM_ballot 77 = .ok (.iload_n 1, 1) := by decide +kernel
theorem dM_ballot_78 : decode cM_ballot 78 = .ok (.iaload, 1) := by decide +kernel
theorem dM_ballot_79 : decode cM_ballot 79 = .ok (.ireturn, 1) := by decide +kernel
theorem dM_ballot_80 : decode cM_ballot 80 = .ok (.aload_n 0, 1) := by decide +kernel
theorem dM_ballot_81 : decode cM_ballot 81 = .ok (.getfield 40, 3) := by decide +kernel
theorem dM_ballot_84 : decode cM_ballot 84 = .ok (.iload_n 1, 1) := by decide +kernel
theorem dM_ballot_85 : decode cM_ballot 85 = .ok (.iaload, 1) := by decide +kernel
theorem dM_ballot_86 : decode cM_ballot 86 = .ok (.ireturn, 1) := by decide +kernel
theorem dM_ballot_87 : decode cM_ballot 87 = .ok (.aload_n 0, 1) := by decide +kernel
theorem dM_ballot_88 : decode cM_ballot 88 = .ok (.getfield 43, 3) := by decide +kernel
theorem dM_ballot_91 : decode cM_ballot 91 = .ok (.iload_n 1, 1) := by decide +kernel
theorem dM_ballot_92 : decode cM_ballot 92 = .ok (.iaload, 1) := by decide +kernel
theorem dM_ballot_93 : decode cM_ballot 93 = .ok (.ireturn, 1) := by decide +kernel
theorem dM_ballot_94 : decode cM_ballot 94 = .ok (.aload_n 0, 1) := by decide +kernel
theorem dM_ballot_95 : decode cM_ballot 95 = .ok (.getfield 46, 3) := by decide +kernel
theorem dM_ballot_98 : decode cM_ballot 98 = .ok (.iload_n 1, 1) := by decide +kernel
theorem dM_ballot_99 : decode cM_ballot 99 = .ok (.iaload, 1) := by decide +kernel
theorem dM_ballot_100 : decode cM_ballot 100 = .ok (.ireturn, 1) := by decide +kernel
theorem dM_ballot_101 : decode cM_ballot 101 = .ok (.iconst (-1), 1) := by decide +kernel
theorem dM_ballot_102 : decode cM_ballot 102 = .ok (.ireturn, 1) := by decide +kernel
