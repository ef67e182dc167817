theorem dX10_takeLog_65 : decode cX10_takeLog 65 = .ok (.ifCond .eq (-63), 3) := by decide +kernel
theorem dX10_takeLog_68 : decode cX10_takeLog 68 = .ok (.aload_n 0, 1) := by decide +kernel
theorem dX10_takeLog_69 : decode cX10_takeLog 69 = .ok (.aload_n 0, 1) := by decide +kernel
theorem dX10_takeLog_70 : decode cX10_takeLog 70 = .ok (.getfield 99, 3) := by decide +kernel
theorem dX10_takeLog_73 : decode cX10_takeLog 73 = .ok (.bipush 12, 2) := by decide +kernel
theorem dX10_takeLog_75 : decode cX10_takeLog 75 = .ok (.if_icmp .ge 7, 3) := by decide +kernel
theorem dX10_takeLog_78 : decode cX10_takeLog 78 = .ok (.iconst 1, 1) := by decide +kernel
theorem dX10_takeLog_79 : decode cX10_takeLog 79 = .ok (.goto 4, 3) := by decide +kernel
theorem dX10_takeLog_82 : decode cX10_takeLog 82 = .ok (.iconst 0, 1) := by decide +kernel
theorem dX10_takeLog_83 : decode cX10_takeLog 83 = .ok (.iconst 1, 1) := by decide +kernel
theorem dX10_takeLog_84 : decode cX10_takeLog 84 = .ok (.aload_n 0, 1) := by decide +kernel
theorem dX10_takeLog_85 : decode cX10_takeLog 85 = .ok (.getfield 77, 3) := by decide +kernel
theorem dX10_takeLog_88 : decode cX10_takeLog 88 = .ok (.invokevirtual 94, 3) := by decide +kernel
theorem dX10_takeLog_91 : decode cX10_takeLog 91 = .ok (.ifCond .eq (-89), 3) := by decide +kernel
theorem dX10_takeLog_94 : decode cX10_takeLog 94 = .ok (.aload_n 0, 1) := by decide +kernel
theorem dX10_takeLog_95 : decode cX10_takeLog 95 = .ok (.dup, 1) := by decide +kernel
theorem dX10_takeLog_96 : decode cX10_takeLog 96 = .ok (.getfield 77, 3) := by decide +kernel
theorem dX10_takeLog_99 : decode cX10_takeLog 99 = .ok (.iconst 1, 1) := by decide +kernel
theorem dX10_takeLog_100 : decode cX10_takeLog 100 = .ok (.iadd, 1) := by decide +kernel
theorem dX10_takeLog_101 : decode cX10_takeLog 101 = .ok (.putfield 77, 3) := by decide +kernel
theorem dX10_takeLog_104 : decode cX10_takeLog 104 = .ok (.goto (-102), 3) := by decide +kernel
theorem dX10_takeLog_107 : decode cX10_takeLog 107 = .ok (.return_, 1) := by decide +kernel
theorem dX10_takePerson_0 : decode cX10_takePerson 0 = .ok (.iconst 4, 1) := by decide +kernel
theorem dX10_takePerson_1 : decode cX10_takePerson 1 = .ok (.aload_n 0, 1) := by decide +kernel
theorem dX10_takePerson_2 : decode cX10_takePerson 2 = .ok (.getfield 106, 3) := by decide +kernel
theorem dX10_takePerson_5 : decode cX10_takePerson 5 = .ok (.iadd, 1) := by decide +kernel
theorem dX10_takePerson_6 : decode cX10_takePerson 6 = .ok (.istore_n 1, 1) := by decide +kernel
theorem dX10_takePerson_7 : decode cX10_takePerson 7 = .ok (.aload_n 0, 1) := by decide +kernel
theorem dX10_takePerson_8 : decode cX10_takePerson 8 = .ok (.getfield 20, 3) := by decide +kernel
theorem dX10_takePerson_11 : decode cX10_takePerson 11 = .ok (.iload_n 1, 1) := by decide +kernel
theorem dX10_takePerson_12 : decode cX10_takePerson 12 = .ok (.aload_n 0, 1) := by decide +kernel
theorem dX10_takePerson_13 : decode cX10_takePerson 13 = .ok (.iconst 1, 1) := by decide +kernel
theorem dX10_takePerson_14 : decode cX10_takePerson 14 = .ok (.bipush 20, 2) := by decide +kernel
theorem dX10_takePerson_16 : decode cX10_takePerson 16 = .ok (.invokevirtual 102, 3) := by decide +kernel
theorem dX10_takePerson_19 : decode cX10_takePerson 19 = .ok (.iastore, 1) := by decide +kernel
theorem dX10_takePerson_20 : decode cX10_takePerson 20 = .ok (.aload_n 0, 1) := by decide +kernel
theorem dX10_takePerson_21 : decode cX10_takePerson 21 = .ok (.getfield 23, 3) := by decide +kernel
theorem dX10_takePerson_24 : decode cX10_takePerson 24 = .ok (.iload_n 1, 1) := by decide +kernel
theorem dX10_takePerson_25 : decode cX10_takePerson 25 = .ok (.aload_n 0, 1) := by decide +kernel
theorem dX10_takePerson_26 : decode cX10_takePerson 26 = .ok (.iconst 0, 1) := by decide +kernel
theorem dX10_takePerson_27 : decode cX10_takePerson 27 = .ok (.bipush 9, 2) := by decide +kernel
theorem dX10_takePerson_29 : decode cX10_takePerson 29 = .ok (.invokevirtual 102, 3) := by decide +kernel
theorem dX10_takePerson_32 : decode cX10_takePerson 32 = .ok (.iastore, 1) := by decide +kernel
theorem dX10_takePerson_33 : decode cX10_takePerson 33 = .ok (.aload_n 0, 1) := by decide +kernel
theorem dX10_takePerson_34 : decode cX10_takePerson 34 = .ok (.getfield 26, 3) := by decide +kernel
theorem dX10_takePerson_37 : decode cX10_takePerson 37 = .ok (.iload_n 1, 1) := by decide +kernel
theorem dX10_takePerson_38 : decode cX10_takePerson 38 = .ok (.aload_n 0, 1) := by decide +kernel
theorem dX10_takePerson_39 : decode cX10_takePerson 39 = .ok (.iconst 0, 1) := by decide +kernel
theorem dX10_takePerson_40 : decode cX10_takePerson 40 = .ok (.iconst 5, 1) := by decide +kernel
theorem dX10_takePerson_41 : decode cX10_takePerson 41 = .ok (.invokevirtual 102, 3) := by decide +kernel
theorem dX10_takePerson_44 : decode cX10_takePerson 44 = .ok (.iastore, 1) := by decide +kernel
theorem dX10_takePerson_45 : decode cX10_takePerson 45 = .ok (.aload_n 0, 1) := by decide +kernel
theorem dX10_takePerson_46 : decode cX10_takePerson 46 = .ok (.getfield 29, 3) := by decide +kernel
theorem dX10_takePerson_49 : decode cX10_takePerson 49 = .ok (.iload_n 1, 1) := by decide +kernel
theorem dX10_takePerson_50 : decode cX10_takePerson 50 = .ok (.aload_n 0, 1) := by decide +kernel
theorem dX10_takePerson_51 : decode cX10_takePerson 51 = .ok (.iconst 0, 1) := by decide +kernel
theorem dX10_takePerson_52 : decode cX10_takePerson 52 = .ok (.bipush 9, 2) := by decide +kernel
theorem dX10_takePerson_54 : decode cX10_takePerson 54 = .ok (.invokevirtual 102, 3) := by decide +kernel
theorem dX10_takePerson_57 : decode cX10_takePerson 57 = .ok (.iastore, 1) := by decide +kernel
theorem dX10_takePerson_58 : decode cX10_takePerson 58 = .ok (.aload_n 0, 1) := by decide +kernel
theorem dX10_takePerson_59 : decode cX10_takePerson 59 = .ok (.getfield 32, 3) := by decide +kernel
theorem dX10_takePerson_62 : decode cX10_takePerson 62 = .ok (.iload_n 1, 1) := by decide +kernel
theorem dX10_takePerson_63 : decode cX10_takePerson 63 = .ok (.aload_n 0, 1) := by decide +kernel
theorem dX10_takePerson_64 : decode cX10_takePerson 64 = .ok (.iconst 0, 1) := by decide +kernel
theorem dX10_takePerson_65 : decode cX10_takePerson 65 = .ok (.iconst 2, 1) := by decide +kernel
theorem dX10_takePerson_66 : decode cX10_takePerson 66 = .ok (.invokevirtual 102, 3) := by decide +kernel
theorem dX10_takePerson_69 : decode cX10_takePerson 69 = .ok (.iastore, 1) := by decide +kernel
theorem dX10_takePerson_70 : decode cX10_takePerson 70 = .ok (.aload_n 0, 1) := by decide +kernel
theorem dX10_takePerson_71 : decode cX10_takePerson 71 = .ok (.dup, 1) := by decide +kernel
theorem dX10_takePerson_72 : decode cX10_takePerson 72 = .ok (.getfield 106, 3) := by decide +kernel
theorem dX10_takePerson_75 : decode cX10_takePerson 75 = .ok (.iconst 1, 1) := by decide +kernel
theorem dX10_takePerson_76 : decode cX10_takePerson 76 = .ok (.iadd, 1) := by decide +kernel
theorem dX10_takePerson_77 : decode cX10_takePerson 77 = .ok (.putfield 106, 3) := by decide +kernel
theorem dX10_takePerson_80 : decode cX10_takePerson 80 = .ok (.return_, 1) := by decide +kernel
theorem dX10_wordOf_0 : decode cX10_wordOf 0 = .ok (.iload_n 0, 1) := by decide +kernel
theorem dX10_wordOf_1 : decode cX10_wordOf 1 = .ok (.bipush 108, 2) := by decide +kernel
theorem dX10_wordOf_3 : decode cX10_wordOf 3 = .ok (.if_icmp .ne 7, 3) := by decide +kernel
theorem dX10_wordOf_6 : decode cX10_wordOf 6 = .ok (.iconst 0, 1) := by decide +kernel
theorem dX10_wordOf_7 : decode cX10_wordOf 7 = .ok (.goto 34, 3) := by decide +kernel
theorem dX10_wordOf_10 : decode cX10_wordOf 10 = .ok (.iload_n 0, 1) := by decide +kernel
theorem dX10_wordOf_11 : decode cX10_wordOf 11 = .ok (.bipush 115, 2) := by decide +kernel
theorem dX10_wordOf_13 : decode cX10_wordOf 13 = .ok (.if_icmp .ne 7, 3) := by decide +kernel
theorem dX10_wordOf_16 : decode cX10_wordOf 16 = .ok (.iconst 1, 1) := by decide +kernel
theorem dX10_wordOf_17 : decode cX10_wordOf 17 = .ok (.goto 24, 3) := by decide +kernel
theorem dX10_wordOf_20 : decode cX10_wordOf 20 = .ok (.iload_n 0, 1) := by decide +kernel
theorem dX10_wordOf_21 : decode cX10_wordOf 21 = .ok (.bipush 99, 2) := by decide +kernel
theorem dX10_wordOf_23 : decode cX10_wordOf 23 = .ok (.if_icmp .ne 7, 3) := by decide +kernel
theorem dX10_wordOf_26 : decode cX10_wordOf 26 = .ok (.iconst 2, 1) := by decide +kernel
theorem dX10_wordOf_27 : decode cX10_wordOf 27 = .ok (.goto 14, 3) := by decide +kernel
theorem dX10_wordOf_30 : decode cX10_wordOf 30 = .ok (.iload_n 0, 1) := by decide +kernel
theorem dX10_wordOf_31 : decode cX10_wordOf 31 = .ok (.bipush 112, 2) := by decide +kernel
theorem dX10_wordOf_33 : decode cX10_wordOf 33 = .ok (.if_icmp .ne 7, 3) := by decide +kernel
theorem dX10_wordOf_36 : decode cX10_wordOf 36 = .ok (.iconst 3, 1) := by decide +kernel
theorem dX10_wordOf_37 : decode cX10_wordOf 37 = .ok (.goto 4, 3) := by decide +kernel
theorem dX10_wordOf_40 : decode cX10_wordOf 40 = .ok (.iconst (-1), 1) := by decide +kernel
theorem dX10_wordOf_41 : decode cX10_wordOf 41 = .ok (.ireturn, 1) := by decide +kernel
theorem dX10_takeClause_0 : decode cX10_takeClause 0 = .ok (.aload_n 0, 1) := by decide +kernel
theorem dX10_takeClause_1 : decode cX10_takeClause 1 = .ok (.invokevirtual 83, 3) := by decide +kernel
theorem dX10_takeClause_4 : decode cX10_takeClause 4 = .ok (.invokestatic 109, 3) := by decide +kernel
theorem dX10_takeClause_7 : decode cX10_takeClause 7 = .ok (.istore_n 1, 1) := by decide +kernel
theorem dX10_takeClause_8 : decode cX10_takeClause 8 = .ok (.aload_n 0, 1) := by decide +kernel
theorem dX10_takeClause_9 : decode cX10_takeClause 9 = .ok (.getfield 77, 3) := by decide +kernel
theorem dX10_takeClause_12 : decode cX10_takeClause 12 = .ok (.istore_n 2, 1) := by decide +kernel
theorem dX10_takeClause_13 : decode cX10_takeClause 13 = .ok (.aload_n 0, 1) := by decide +kernel
theorem dX10_takeClause_14 : decode cX10_takeClause 14 = .ok (.dup, 1) := by decide +kernel
theorem dX10_takeClause_15 : decode cX10_takeClause 15 = .ok (.getfield 77, 3) := by decide +kernel
theorem dX10_takeClause_18 : decode cX10_takeClause 18 = .ok (.iconst 1, 1) := by decide +kernel
theorem dX10_takeClause_19 : decode cX10_takeClause 19 = .ok (.iadd, 1) := by decide +kernel
theorem dX10_takeClause_20 : decode cX10_takeClause 20 = .ok (.putfield 77, 3) := by decide +kernel
theorem dX10_takeClause_23 : decode cX10_takeClause 23 = .ok (.iload_n 1, 1) := by decide +kernel
theorem dX10_takeClause_24 : decode cX10_takeClause 24 = .ok (.ifCond .eq 18, 3) := by decide +kernel
theorem dX10_takeClause_27 : decode cX10_takeClause 27 = .ok (.iload_n 1, 1) := by decide +kernel
theorem dX10_takeClause_28 : decode cX10_takeClause 28 = .ok (.ifCond .le 18, 3) := by decide +kernel
theorem dX10_takeClause_31 : decode cX10_takeClause 31 = .ok (.aload_n 0, 1) := by decide +kernel
theorem dX10_takeClause_32 : decode cX10_takeClause 32 = .ok (.getfield 113, 3) := by decide +kernel
theorem dX10_takeClause_35 : decode cX10_takeClause 35 = .ok (.iconst 0, 1) := by decide +kernel
theorem dX10_takeClause_36 : decode cX10_takeClause 36 = .ok (.invokestatic 116, 3) := by decide +kernel
theorem dX10_takeClause_39 : decode cX10_takeClause 39 = .ok (.ifCond .eq 7, 3) := by decide +kernel
theorem dX10_takeClause_42 : decode cX10_takeClause 42 = .ok (.iconst 1, 1) := by decide +kernel
theorem dX10_takeClause_43 : decode cX10_takeClause 43 = .ok (.goto 4, 3) := by decide +kernel
theorem dX10_takeClause_46 : decode cX10_takeClause 46 = .ok (.iconst 0, 1) := by decide +kernel
theorem dX10_takeClause_47 : decode cX10_takeClause 47 = .ok (.istore_n 3, 1) := by decide +kernel
theorem dX10_takeClause_48 : decode cX10_takeClause 48 = .ok (.iload_n 1, 1) := by decide +kernel
theorem dX10_takeClause_49 : decode cX10_takeClause 49 = .ok (.iconst 3, 1) := by decide +kernel
theorem dX10_takeClause_50 : decode cX10_takeClause 50 = .ok (.if_icmp .ne 19, 3) := by decide +kernel
theorem dX10_takeClause_53 : decode cX10_takeClause 53 = .ok (.aload_n 0, 1) := by decide +kernel
theorem dX10_takeClause_54 : decode cX10_takeClause 54 = .ok (.getfield 106, 3) := by decide +kernel
theorem dX10_takeClause_57 : decode cX10_takeClause 57 = .ok (.iconst 4, 1) := by decide +kernel
theorem dX10_takeClause_58 : decode cX10_takeClause 58 = .ok (.if_icmp .ne 7, 3) := by decide +kernel
theorem dX10_takeClause_61 : decode cX10_takeClause 61 = .ok (.iconst 1, 1) := by decide +kernel
theorem dX10_takeClause_62 : decode cX10_takeClause 62 = .ok (.goto 15, 3) := by decide +kernel
theorem dX10_takeClause_65 : decode cX10_takeClause 65 = .ok (.iconst 0, 1) := by decide +kernel
theorem dX10_takeClause_66 : decode cX10_takeClause 66 = .ok (.goto 11, 3) := by decide +kernel
theorem dX10_takeClause_69 : decode cX10_takeClause 69 = .ok (.aload_n 0, 1) := by decide +kernel
theorem dX10_takeClause_70 : decode cX10_takeClause 70 = .ok (.getfield 113, 3) := by decide +kernel
theorem dX10_takeClause_73 : decode cX10_takeClause 73 = .ok (.iload_n 1, 1) := by decide +kernel
theorem dX10_takeClause_74 : decode cX10_takeClause 74 = .ok (.invokestatic 116, 3) := by decide +kernel
theorem dX10_takeClause_77 : decode cX10_takeClause 77 = .ok (.istore 4, 2) := by decide +kernel
theorem dX10_takeClause_79 : decode cX10_takeClause 79 = .ok (.aload_n 0, 1) := by decide +kernel
theorem dX10_takeClause_80 : decode cX10_takeClause 80 = .ok (.iload_n 3, 1) := by decide +kernel
theorem dX10_takeClause_81 : decode cX10_takeClause 81 = .ok (.iconst 1, 1) := by decide +kernel
theorem dX10_takeClause_82 : decode cX10_takeClause 82 = .ok (.iload_n 2, 1) := by decide +kernel
theorem dX10_takeClause_83 : decode cX10_takeClause 83 = .ok (.invokevirtual 94, 3) := by decide +kernel
theorem dX10_takeClause_86 : decode cX10_takeClause 86 = .ok (.ifCond .eq 22, 3) := by decide +kernel
theorem dX10_takeClause_89 : decode cX10_takeClause 89 = .ok (.aload_n 0, 1) := by decide +kernel
theorem dX10_takeClause_90 : decode cX10_takeClause 90 = .ok (.iload 4, 2) := by decide +kernel
theorem dX10_takeClause_92 : decode cX10_takeClause 92 = .ok (.ifCond .ne 7, 3) := by decide +kernel
theorem dX10_takeClause_95 : decode cX10_takeClause 95 = .ok (.iconst 1, 1) := by decide +kernel
theorem dX10_takeClause_96 : decode cX10_takeClause 96 = .ok (.goto 4, 3) := by decide +kernel
theorem dX10_takeClause_99 : decode cX10_takeClause 99 = .ok (.iconst 0, 1) := by decide +kernel
theorem dX10_takeClause_100 : decode cX10_takeClause 100 = .ok (.iconst 3, 1) := by decide +kernel
theorem dX10_takeClause_101 : decode cX10_takeClause 101 = .ok (.iload_n 2, 1) := by decide +kernel
theorem dX10_takeClause_102 : decode cX10_takeClause 102 = .ok (.invokevirtual 94, 3) := by decide +kernel
theorem dX10_takeClause_105 : decode cX10_takeClause 105 = .ok (.ifCond .ne 4, 3) := by decide +kernel
theorem dX10_takeClause_108 : decode cX10_takeClause 108 = .ok (.return_, 1) := by decide +kernel
theorem dX10_takeClause_109 : decode cX10_takeClause 109 = .ok (.aload_n 0, 1) := by decide +kernel
theorem dX10_takeClause_110 : decode cX10_takeClause 110 = .ok (.dup, 1) := by decide +kernel
theorem dX10_takeClause_111 : decode cX10_takeClause 111 = .ok (.getfield 113, 3) := by decide +kernel
theorem dX10_takeClause_114 : decode cX10_takeClause 114 = .ok (.iconst 1, 1) := by decide +kernel
theorem dX10_takeClause_115 : decode cX10_takeClause 115 = .ok (.iload_n 1, 1) := by decide +kernel
theorem dX10_takeClause_116 : decode cX10_takeClause 116 = .ok (.ishl, 1) := by decide +kernel
theorem dX10_takeClause_117 : decode cX10_takeClause 117 = .ok (.ior, 1) := by decide +kernel
theorem dX10_takeClause_118 : decode cX10_takeClause 118 = .ok (.putfield 113, 3) := by decide +kernel
theorem dX10_takeClause_121 : decode cX10_takeClause 121 = .ok (.iload_n 1, 1) := by decide +kernel
theorem dX10_takeClause_122 : decode cX10_takeClause 122 = .ok (.ifCond .ne 10, 3) := by decide +kernel
theorem dX10_takeClause_125 : decode cX10_takeClause 125 = .ok (.aload_n 0, 1) := by decide +kernel
theorem dX10_takeClause_126 : decode cX10_takeClause 126 = .ok (.invokevirtual 120, 3) := by decide +kernel
theorem dX10_takeClause_129 : decode cX10_takeClause 129 = .ok (.goto 67, 3) := by decide +kernel
theorem dX10_takeClause_132 : decode cX10_takeClause 132 = .ok (.iload_n 1, 1) := by decide +kernel
theorem dX10_takeClause_133 : decode cX10_takeClause 133 = .ok (.iconst 1, 1) := by decide +kernel
theorem dX10_takeClause_134 : decode cX10_takeClause 134 = .ok (.if_icmp .ne 39, 3) := by decide +kernel
theorem dX10_takeClause_137 : decode cX10_takeClause 137 = .ok (.aload_n 0, 1) := by decide +kernel
theorem dX10_takeClause_138 : decode cX10_takeClause 138 = .ok (.aload_n 0, 1) := by decide +kernel
theorem dX10_takeClause_139 : decode cX10_takeClause 139 = .ok (.iconst 1, 1) := by decide +kernel
theorem dX10_takeClause_140 : decode cX10_takeClause 140 = .ok (.bipush 9, 2) := by decide +kernel
theorem dX10_takeClause_142 : decode cX10_takeClause 142 = .ok (.invokevirtual 102, 3) := by decide +kernel
theorem dX10_takeClause_145 : decode cX10_takeClause 145 = .ok (.putfield 123, 3) := by decide +kernel
theorem dX10_takeClause_148 : decode cX10_takeClause 148 = .ok (.aload_n 0, 1) := by decide +kernel
theorem dX10_takeClause_149 : decode cX10_takeClause 149 = .ok (.aload_n 0, 1) := by decide +kernel
theorem dX10_takeClause_150 : decode cX10_takeClause 150 = .ok (.iconst 0, 1) := by decide +kernel
theorem dX10_takeClause_151 : decode cX10_takeClause 151 = .ok (.bipush 9, 2) := by decide +kernel
theorem dX10_takeClause_153 : decode cX10_takeClause 153 = .ok (.invokevirtual 102, 3) := by decide +kernel
theorem dX10_takeClause_156 : decode cX10_takeClause 156 = .ok (.putfield 126, 3) := by decide +kernel
theorem dX10_takeClause_159 : decode cX10_takeClause 159 = .ok (.aload_n 0, 1) := by decide +kernel
theorem dX10_takeClause_160 : decode cX10_takeClause 160 = .ok (.aload_n 0, 1) := by decide +kernel
theorem dX10_takeClause_161 : decode cX10_takeClause 161 = .ok (.iconst 0, 1) := by decide +kernel
theorem dX10_takeClause_162 : decode cX10_takeClause 162 = .ok (.bipush 9, 2) := by decide +kernel
theorem dX10_takeClause_164 : decode cX10_takeClause 164 = .ok (.invokevirtual 102, 3) := by decide +kernel
theorem dX10_takeClause_167 : decode cX10_takeClause 167 = .ok (.putfield 129, 3) := by decide +kernel
theorem dX10_takeClause_170 : decode cX10_takeClause 170 = .ok (.goto 26, 3) := by decide +kernel
theorem dX10_takeClause_173 : decode cX10_takeClause 173 = .ok (.iload_n 1, 1) := by decide +kernel
theorem dX10_takeClause_174 : decode cX10_takeClause 174 = .ok (.iconst 2, 1) := by decide +kernel
theorem dX10_takeClause_175 : decode cX10_takeClause 175 = .ok (.if_icmp .ne 17, 3) := by decide +kernel
theorem dX10_takeClause_178 : decode cX10_takeClause 178 = .ok (.aload_n 0, 1) := by decide +kernel
theorem dX10_takeClause_179 : decode cX10_takeClause 179 = .ok (.aload_n 0, 1) := by decide +kernel
theorem dX10_takeClause_180 : decode cX10_takeClause 180 = .ok (.iconst 0, 1) := by decide +kernel
theorem dX10_takeClause_181 : decode cX10_takeClause 181 = .ok (.bipush 12, 2) := by decide +kernel
theorem dX10_takeClause_183 : decode cX10_takeClause 183 = .ok (.invokevirtual 102, 3) := by decide +kernel
theorem dX10_takeClause_186 : decode cX10_takeClause 186 = .ok (.putfield 132, 3) := by decide +kernel
theorem dX10_takeClause_189 : decode cX10_takeClause 189 = .ok (.goto 7, 3) := by decide +kernel
theorem dX10_takeClause_192 : decode cX10_takeClause 192 = .ok (.aload_n 0, 1) := by decide +kernel
theorem dX10_takeClause_193 : decode cX10_takeClause 193 = .ok (.invokevirtual 135, 3) := by decide +kernel
theorem dX10_takeClause_196 : decode cX10_takeClause 196 = .ok (.return_, 1) := by decide +kernel
theorem dX10_yard_0 : decode cX10_yard 0 = .ok (.aload_n 0, 1) := by decide +kernel
theorem dX10_yard_1 : decode cX10_yard 1 = .ok (.iconst 0, 1) := by decide +kernel
theorem dX10_yard_2 : decode cX10_yard 2 = .ok (.putfield 77, 3) := by decide +kernel
theorem dX10_yard_5 : decode cX10_yard 5 = .ok (.aload_n 0, 1) := by decide +kernel
theorem dX10_yard_6 : decode cX10_yard 6 = .ok (.iconst 0, 1) := by decide +kernel
theorem dX10_yard_7 : decode cX10_yard 7 = .ok (.putfield 80, 3) := by decide +kernel
theorem dX10_yard_10 : decode cX10_yard 10 = .ok (.aload_n 0, 1) := by decide +kernel
theorem dX10_yard_11 : decode cX10_yard 11 = .ok (.iconst (-1), 1) := by decide +kernel
theorem dX10_yard_12 : decode cX10_yard 12 = .ok (.putfield 38, 3) := by decide +kernel
theorem dX10_yard_15 : decode cX10_yard 15 = .ok (.aload_n 0, 1) := by decide +kernel
theorem dX10_yard_16 : decode cX10_yard 16 = .ok (.iconst 0, 1) := by decide +kernel
theorem dX10_yard_17 : decode cX10_yard 17 = .ok (.putfield 99, 3) := by decide +kernel
theorem dX10_yard_20 : decode cX10_yard 20 = .ok (.aload_n 0, 1) := by decide +kernel
theorem dX10_yard_21 : decode cX10_yard 21 = .ok (.iconst 0, 1) := by decide +kernel
theorem dX10_yard_22 : decode cX10_yard 22 = .ok (.putfield 106, 3) := by decide +kernel
theorem dX10_yard_25 : decode cX10_yard 25 = .ok (.aload_n 0, 1) := by decide +kernel
theorem dX10_yard_26 : decode cX10_yard 26 = .ok (.iconst 5, 1) := by decide +kernel
theorem dX10_yard_27 : decode cX10_yard 27 = .ok (.putfield 123, 3) := by decide +kernel
theorem dX10_yard_30 : decode cX10_yard 30 = .ok (.aload_n 0, 1) := by decide +kernel
theorem dX10_yard_31 : decode cX10_yard 31 = .ok (.iconst 2, 1) := by decide +kernel
theorem dX10_yard_32 : decode cX10_yard 32 = .ok (.putfield 126, 3) := by decide +kernel
theorem dX10_yard_35 : decode cX10_yard 35 = .ok (.aload_n 0, 1) := by decide +kernel
theorem dX10_yard_36 : decode cX10_yard 36 = .ok (.iconst 0, 1) := by decide +kernel
theorem dX10_yard_37 : decode cX10_yard 37 = .ok (.putfield 129, 3) := by decide +kernel
theorem dX10_yard_40 : decode cX10_yard 40 = .ok (.aload_n 0, 1) := by decide +kernel
theorem dX10_yard_41 : decode cX10_yard 41 = .ok (.bipush 12, 2) := by decide +kernel
theorem dX10_yard_43 : decode cX10_yard 43 = .ok (.putfield 132, 3) := by decide +kernel
theorem dX10_yard_46 : decode cX10_yard 46 = .ok (.aload_n 0, 1) := by decide +kernel
theorem dX10_yard_47 : decode cX10_yard 47 = .ok (.iconst 0, 1) := by decide +kernel
theorem dX10_yard_48 : decode cX10_yard 48 = .ok (.putfield 113, 3) := by decide +kernel
theorem dX10_yard_51 : decode cX10_yard 51 = .ok (.aload_n 0, 1) := by decide +kernel
theorem dX10_yard_52 : decode cX10_yard 52 = .ok (.getfield 80, 3) := by decide +kernel
theorem dX10_yard_55 : decode cX10_yard 55 = .ok (.ifCond .ne 60, 3) := by decide +kernel
theorem dX10_yard_58 : decode cX10_yard 58 = .ok (.aload_n 0, 1) := by decide +kernel
theorem dX10_yard_59 : decode cX10_yard 59 = .ok (.invokevirtual 83, 3) := by decide +kernel
theorem dX10_yard_62 : decode cX10_yard 62 = .ok (.ifCond .lt 53, 3) := by decide +kernel
theorem dX10_yard_65 : decode cX10_yard 65 = .ok (.aload_n 0, 1) := by decide +kernel
theorem dX10_yard_66 : decode cX10_yard 66 = .ok (.invokevirtual 138, 3) := by decide +kernel
theorem dX10_yard_69 : decode cX10_yard 69 = .ok (.aload_n 0, 1) := by decide +kernel
theorem dX10_yard_70 : decode cX10_yard 70 = .ok (.getfield 80, 3) := by decide +kernel
theorem dX10_yard_73 : decode cX10_yard 73 = .ok (.ifCond .ne (-22), 3) := by decide +kernel
theorem dX10_yard_76 : decode cX10_yard 76 = .ok (.aload_n 0, 1) := by decide +kernel
theorem dX10_yard_77 : decode cX10_yard 77 = .ok (.aload_n 0, 1) := by decide +kernel
theorem dX10_yard_78 : decode cX10_yard 78 = .ok (.invokevirtual 83, 3) := by decide +kernel
theorem dX10_yard_81 : decode cX10_yard 81 = .ok (.bipush 59, 2) := by decide +kernel
theorem dX10_yard_83 : decode cX10_yard 83 = .ok (.if_icmp .ne 7, 3) := by decide +kernel
theorem dX10_yard_86 : decode cX10_yard 86 = .ok (.iconst 1, 1) := by decide +kernel
theorem dX10_yard_87 : decode cX10_yard 87 = .ok (.goto 4, 3) := by decide +kernel
theorem dX10_yard_90 : decode cX10_yard 90 = .ok (.iconst 0, 1) := by decide +kernel
theorem dX10_yard_91 : decode cX10_yard 91 = .ok (.iconst 1, 1) := by decide +kernel
theorem dX10_yard_92 : decode cX10_yard 92 = .ok (.aload_n 0, 1) := by decide +kernel
theorem dX10_yard_93 : decode cX10_yard 93 = .ok (.getfield 77, 3) := by decide +kernel
theorem dX10_yard_96 : decode cX10_yard 96 = .ok (.invokevirtual 94, 3) := by decide +kernel
theorem dX10_yard_99 : decode cX10_yard 99 = .ok (.ifCond .eq (-48), 3) := by decide +kernel
theorem dX10_yard_102 : decode cX10_yard 102 = .ok (.aload_n 0, 1) := by decide +kernel
theorem dX10_yard_103 : decode cX10_yard 103 = .ok (.dup, 1) := by decide +kernel
theorem dX10_yard_104 : decode cX10_yard 104 = .ok (.getfield 77, 3) := by decide +kernel
theorem dX10_yard_107 : decode cX10_yard 107 = .ok (.iconst 1, 1) := by decide +kernel
theorem dX10_yard_108 : decode cX10_yard 108 = .ok (.iadd, 1) := by decide +kernel
theorem dX10_yard_109 : decode cX10_yard 109 = .ok (.putfield 77, 3) := by decide +kernel
theorem dX10_yard_112 : decode cX10_yard 112 = .ok (.goto (-61), 3) := by decide +kernel
theorem dX10_yard_115 : decode cX10_yard 115 = .ok (.aload_n 0, 1) := by decide +kernel
theorem dX10_yard_116 : decode cX10_yard 116 = .ok (.iconst 0, 1) := by decide +kernel
theorem dX10_yard_117 : decode cX10_yard 117 = .ok (.putfield 73, 3) := by decide +kernel
theorem dX10_yard_120 : decode cX10_yard 120 = .ok (.aload_n 0, 1) := by decide +kernel
theorem dX10_yard_121 : decode cX10_yard 121 = .ok (.getfield 80, 3) := by decide +kernel
theorem dX10_yard_124 : decode cX10_yard 124 = .ok (.ifCond .le 11, 3) := by decide +kernel
theorem dX10_yard_127 : decode cX10_yard 127 = .ok (.bipush (-10), 2) := by decide +kernel
theorem dX10_yard_129 : decode cX10_yard 129 = .ok (.aload_n 0, 1) := by decide +kernel
theorem dX10_yard_130 : decode cX10_yard 130 = .ok (.getfield 80, 3) := by decide +kernel
theorem dX10_yard_133 : decode cX10_yard 133 = .ok (.isub, 1) := by decide +kernel
theorem dX10_yard_134 : decode cX10_yard 134 = .ok (.ireturn, 1) := by decide +kernel
theorem dX10_yard_135 : decode cX10_yard 135 = .ok (.aload_n 0, 1) := by decide +kernel
theorem dX10_yard_136 : decode cX10_yard 136 = .ok (.invokevirtual 141, 3) := by decide +kernel
theorem dX10_yard_139 : decode cX10_yard 139 = .ok (.aload_n 0, 1) := by decide +kernel
theorem dX10_yard_140 : decode cX10_yard 140 = .ok (.getfield 144, 3) := by decide +kernel
theorem dX10_yard_143 : decode cX10_yard 143 = .ok (.ireturn, 1) := by decide +kernel
theorem dX10_take_0 : decode cX10_take 0 = .ok (.aload_n 0, 1) := by decide +kernel
theorem dX10_take_1 : decode cX10_take 1 = .ok (.aload_n 0, 1) := by decide +kernel
theorem dX10_take_2 : decode cX10_take 2 = .ok (.getfield 99, 3) := by decide +kernel
theorem dX10_take_5 : decode cX10_take 5 = .ok (.putfield 144, 3) := by decide +kernel
theorem dX10_take_8 : decode cX10_take 8 = .ok (.aload_n 0, 1) := by decide +kernel
theorem dX10_take_9 : decode cX10_take 9 = .ok (.aload_n 0, 1) := by decide +kernel
theorem dX10_take_10 : decode cX10_take 10 = .ok (.getfield 106, 3) := by decide +kernel
theorem dX10_take_13 : decode cX10_take 13 = .ok (.putfield 147, 3) := by decide +kernel
theorem dX10_take_16 : decode cX10_take 16 = .ok (.aload_n 0, 1) := by decide +kernel
theorem dX10_take_17 : decode cX10_take 17 = .ok (.aload_n 0, 1) := by decide +kernel
theorem dX10_take_18 : decode cX10_take 18 = .ok (.getfield 126, 3) := by decide +kernel
theorem dX10_take_21 : decode cX10_take 21 = .ok (.putfield 60, 3) := by decide +kernel
theorem dX10_take_24 : decode cX10_take 24 = .ok (.aload_n 0, 1) := by decide +kernel
theorem dX10_take_25 : decode cX10_take 25 = .ok (.aload_n 0, 1) := by decide +kernel
theorem dX10_take_26 : decode cX10_take 26 = .ok (.getfield 129, 3) := by decide +kernel
theorem dX10_take_29 : decode cX10_take 29 = .ok (.putfield 150, 3) := by decide +kernel
theorem dX10_take_32 : decode cX10_take 32 = .ok (.aload_n 0, 1) := by decide +kernel
theorem dX10_take_33 : decode cX10_take 33 = .ok (.aload_n 0, 1) := by decide +kernel
theorem dX10_take_34 : decode cX10_take 34 = .ok (.getfield 132, 3) := by decide +kernel
theorem dX10_take_37 : decode cX10_take 37 = .ok (.putfield 63, 3) := by decide +kernel
theorem dX10_take_40 : decode cX10_take 40 = .ok (.iconst 0, 1) := by decide +kernel
theorem dX10_take_41 : decode cX10_take 41 = .ok (.istore_n 1, 1) := by decide +kernel
theorem dX10_take_42 : decode cX10_take 42 = .ok (.iload_n 1, 1) := by decide +kernel
theorem dX10_take_43 : decode cX10_take 43 = .ok (.bipush 12, 2) := by decide +kernel
theorem dX10_take_45 : decode cX10_take 45 = .ok (.if_icmp .ge 24, 3) := by decide +kernel
theorem dX10_take_48 : decode cX10_take 48 = .ok (.aload_n 0, 1) := by decide +kernel
theorem dX10_take_49 : decode cX10_take 49 = .ok (.getfield 17, 3) := by decide +kernel
theorem dX10_take_52 : decode cX10_take 52 = .ok (.iload_n 1, 1) := by decide +kernel
theorem dX10_take_53 : decode cX10_take 53 = .ok (.aload_n 0, 1) := by decide +kernel
theorem dX10_take_54 : decode cX10_take 54 = .ok (.getfield 17, 3) := by decide +kernel
theorem dX10_take_57 : decode cX10_take 57 = .ok (.bipush 12, 2) := by decide +kernel
theorem dX10_take_59 : decode cX10_take 59 = .ok (.iload_n 1, 1) := by decide +kernel
theorem dX10_take_60 : decode cX10_take 60 = .ok (.iadd, 1) := by decide +kernel
theorem dX10_take_61 : decode cX10_take 61 = .ok (.iaload, 1) := by decide +kernel
theorem dX10_take_62 : decode cX10_take 62 = .ok (.iastore, 1) := by decide +kernel
theorem dX10_take_63 : decode cX10_take 63 = .ok (.iinc 1 1, 3) := by decide +kernel
theorem dX10_take_66 : decode cX10_take 66 = .ok (.goto (-24), 3) := by decide +kernel
theorem dX10_take_69 : decode cX10_take 69 = .ok (.iconst 0, 1) := by decide +kernel
theorem dX10_take_70 : decode cX10_take 70 = .ok (.istore_n 1, 1) := by decide +kernel
theorem dX10_take_71 : decode cX10_take 71 = .ok (.iload_n 1, 1) := by decide +kernel
theorem dX10_take_72 : decode cX10_take 72 = .ok (.iconst 4, 1) := by decide +kernel
theorem dX10_take_73 : decode cX10_take 73 = .ok (.if_icmp .ge 106, 3) := by decide +kernel
theorem dX10_take_76 : decode cX10_take 76 = .ok (.aload_n 0, 1) := by decide +kernel
theorem dX10_take_77 : decode cX10_take 77 = .ok (.getfield 20, 3) := by decide +kernel
theorem dX10_take_80 : decode cX10_take 80 = .ok (.iload_n 1, 1) := by decide +kernel
theorem dX10_take_81 : decode cX10_take 81 = .ok (.aload_n 0, 1) := by decide +kernel
theorem dX10_take_82 : decode cX10_take 82 = .ok (.getfield 20, 3) := by decide +kernel
theorem dX10_take_85 : decode cX10_take 85 = .ok (.iconst 4, 1) := by decide +kernel
theorem dX10_take_86 : decode cX10_take 86 = .ok (.iload_n 1, 1) := by decide +kernel
theorem dX10_take_87 : decode cX10_take 87 = .ok (.iadd, 1) := by decide +kernel
theorem dX10_take_88 : decode cX10_take 88 = .ok (.iaload, 1) := by decide +kernel
theorem dX10_take_89 : decode cX10_take 89 = .ok (.iastore, 1) := by decide +kernel
theorem dX10_take_90 : decode cX10_take 90 = .ok (.aload_n 0, 1) := by decide +kernel
theorem dX10_take_91 : decode cX10_take 91 = .ok (.getfield 23, 3) := by decide +kernel
theorem dX10_take_94 : decode cX10_take 94 = .ok (.iload_n 1, 1) := by decide +kernel
theorem dX10_take_95 : decode cX10_take 95 = .ok (.aload_n 0, 1) := by decide +kernel
theorem dX10_take_96 : decode cX10_take 96 = .ok (.getfield 23, 3) := by decide +kernel
theorem dX10_take_99 : decode cX10_take 99 = .ok (.iconst 4, 1) := by decide +kernel
theorem dX10_take_100 : decode cX10_take 100 = .ok (.iload_n 1, 1) := by decide +kernel
theorem dX10_take_101 : decode cX10_take 101 = .ok (.iadd, 1) := by decide +kernel
theorem dX10_take_102 : decode cX10_take 102 = .ok (.iaload, 1) := by decide +kernel
theorem dX10_take_103 : decode cX10_take 103 = .ok (.iastore, 1) := by decide +kernel
theorem dX10_take_104 : decode cX10_take 104 = .ok (.aload_n 0, 1) := by decide +kernel
theorem dX10_take_105 : decode cX10_take 105 = .ok (.getfield 26, 3) := by decide +kernel
theorem dX10_take_108 : decode cX10_take 108 = .ok (.iload_n 1, 1) := by decide +kernel
theorem dX10_take_109 : decode cX10_take 109 = .ok (.aload_n 0, 1) := by decide +kernel
theorem dX10_take_110 : decode cX10_take 110 = .ok (.getfield 26, 3) := by decide +kernel
theorem dX10_take_113 : decode cX10_take 113 = .ok (.iconst 4, 1) := by decide +kernel
theorem dX10_take_114 : decode cX10_take 114 = .ok (.iload_n 1, 1) := by decide +kernel
theorem dX10_take_115 : decode cX10_take 115 = .ok (.iadd, 1) := by decide +kernel
theorem dX10_take_116 : decode cX10_take 116 = .ok (.iaload, 1) := by decide +kernel
theorem dX10_take_117 : decode cX10_take 117 = .ok (.iastore, 1) := by decide +kernel
theorem dX10_take_118 : decode cX10_take 118 = .ok (.aload_n 0, 1) := by decide +kernel
theorem dX10_take_119 : decode cX10_take 119 = .ok (.getfield 29, 3) := by decide +kernel
theorem dX10_take_122 : decode cX10_take 122 = .ok (.iload_n 1, 1) := by decide +kernel
theorem dX10_take_123 : decode cX10_take 123 = .ok (.aload_n 0, 1) := by decide +kernel
theorem dX10_take_124 : decode cX10_take 124 = .ok (.getfield 29, 3) := by decide +kernel
theorem dX10_take_127 : decode cX10_take 127 = .ok (.iconst 4, 1) := by decide +kernel
theorem dX10_take_128 : decode cX10_take 128 = .ok (.iload_n 1, 1) := by decide +kernel
theorem dX10_take_129 : decode cX10_take 129 = .ok (.iadd, 1) := by decide +kernel
theorem dX10_take_130 : decode cX10_take 130 = .ok (.iaload, 1) := by decide +kernel
theorem dX10_take_131 : decode cX10_take 131 = .ok (.iastore, 1) := by decide +kernel
theorem dX10_take_132 : decode cX10_take 132 = .ok (.aload_n 0, 1) := by decide +kernel
theorem dX10_take_133 : decode cX10_take 133 = .ok (.getfield 32, 3) := by decide +kernel
theorem dX10_take_136 : decode cX10_take 136 = .ok (.iload_n 1, 1) := by decide +kernel
theorem dX10_take_137 : decode cX10_take 137 = .ok (.aload_n 0, 1) := by decide +kernel
theorem dX10_take_138 : decode cX10_take 138 = .ok (.getfield 32, 3) := by decide +kernel
theorem dX10_take_141 : decode cX10_take 141 = .ok (.iconst 4, 1) := by decide +kernel
theorem dX10_take_142 : decode cX10_take 142 = .ok (.iload_n 1, 1) := by decide +kernel
theorem dX10_take_143 : decode cX10_take 143 = .ok (.iadd, 1) := by decide +kernel
theorem dX10_take_144 : decode cX10_take 144 = .ok (.iaload, 1) := by decide +kernel
theorem dX10_take_145 : decode cX10_take 145 = .ok (.iastore, 1) := by decide +kernel
theorem dX10_take_146 : decode cX10_take 146 = .ok (.aload_n 0, 1) := by decide +kernel
theorem dX10_take_147 : decode cX10_take 147 = .ok (.getfield 7, 3) := by decide +kernel
theorem dX10_take_150 : decode cX10_take 150 = .ok (.iload_n 1, 1) := by decide +kernel
theorem dX10_take_151 : decode cX10_take 151 = .ok (.aload_n 0, 1) := by decide +kernel
theorem dX10_take_152 : decode cX10_take 152 = .ok (.getfield 20, 3) := by decide +kernel
theorem dX10_take_155 : decode cX10_take 155 = .ok (.iload_n 1, 1) := by decide +kernel
theorem dX10_take_156 : decode cX10_take 156 = .ok (.iaload, 1) := by decide +kernel
theorem dX10_take_157 : decode cX10_take 157 = .ok (.iastore, 1) := by decide +kernel
theorem dX10_take_158 : decode cX10_take 158 = .ok (.aload_n 0, 1) := by decide +kernel
theorem dX10_take_159 : decode cX10_take 159 = .ok (.getfield 7, 3) := by decide +kernel
theorem dX10_take_162 : decode cX10_take 162 = .ok (.bipush 12, 2) := by decide +kernel
theorem dX10_take_164 : decode cX10_take 164 = .ok (.iload_n 1, 1) := by decide +kernel
theorem dX10_take_165 : decode cX10_take 165 = .ok (.iadd, 1) := by decide +kernel
theorem dX10_take_166 : decode cX10_take 166 = .ok (.aload_n 0, 1) := by decide +kernel
theorem dX10_take_167 : decode cX10_take 167 = .ok (.getfield 29, 3) := by decide +kernel
theorem dX10_take_170 : decode cX10_take 170 = .ok (.iload_n 1, 1) := by decide +kernel
theorem dX10_take_171 : decode cX10_take 171 = .ok (.iaload, 1) := by decide +kernel
theorem dX10_take_172 : decode cX10_take 172 = .ok (.iastore, 1) := by decide +kernel
theorem dX10_take_173 : decode cX10_take 173 = .ok (.iinc 1 1, 3) := by decide +kernel
theorem dX10_take_176 : decode cX10_take 176 = .ok (.goto (-105), 3) := by decide +kernel
theorem dX10_take_179 : decode cX10_take 179 = .ok (.aload_n 0, 1) := by decide +kernel
theorem dX10_take_180 : decode cX10_take 180 = .ok (.getfield 7, 3) := by decide +kernel
theorem dX10_take_183 : decode cX10_take 183 = .ok (.bipush 24, 2) := by decide +kernel
theorem dX10_take_185 : decode cX10_take 185 = .ok (.aload_n 0, 1) := by decide +kernel
theorem dX10_take_186 : decode cX10_take 186 = .ok (.getfield 123, 3) := by decide +kernel
theorem dX10_take_189 : decode cX10_take 189 = .ok (.iastore, 1) := by decide +kernel
theorem dX10_take_190 : decode cX10_take 190 = .ok (.aload_n 0, 1) := by decide +kernel
theorem dX10_take_191 : decode cX10_take 191 = .ok (.iconst 0, 1) := by decide +kernel
theorem dX10_take_192 : decode cX10_take 192 = .ok (.iconst (-1), 1) := by decide +kernel
theorem dX10_take_193 : decode cX10_take 193 = .ok (.iconst (-1), 1) := by decide +kernel
theorem dX10_take_194 : decode cX10_take 194 = .ok (.invokevirtual 153, 3) := by decide +kernel
theorem dX10_take_197 : decode cX10_take 197 = .ok (.aload_n 0, 1) := by decide +kernel
theorem dX10_take_198 : decode cX10_take 198 = .ok (.iconst 0, 1) := by decide +kernel
theorem dX10_take_199 : decode cX10_take 199 = .ok (.putfield 157, 3) := by decide +kernel
theorem dX10_take_202 : decode cX10_take 202 = .ok (.aload_n 0, 1) := by decide +kernel
theorem dX10_take_203 : decode cX10_take 203 = .ok (.iconst 0, 1) := by decide +kernel
theorem dX10_take_204 : decode cX10_take 204 = .ok (.putfield 160, 3) := by decide +kernel
theorem dX10_take_207 : decode cX10_take 207 = .ok (.aload_n 0, 1) := by decide +kernel
theorem dX10_take_208 : decode cX10_take 208 = .ok (.iconst 0, 1) := by decide +kernel
theorem dX10_take_209 : decode cX10_take 209 = .ok (.putfield 163, 3) := by decide +kernel
theorem dX10_take_212 : decode cX10_take 212 = .ok (.aload_n 0, 1) := by decide +kernel
theorem dX10_take_213 : decode cX10_take 213 = .ok (.getfield 13, 3) := by decide +kernel
theorem dX10_take_216 : decode cX10_take 216 = .ok (.iconst 0, 1) := by decide +kernel
theorem dX10_take_217 : decode cX10_take 217 = .ok (.iconst 0, 1) := by decide +kernel
theorem dX10_take_218 : decode cX10_take 218 = .ok (.bastore, 1) := by decide +kernel
theorem dX10_take_219 : decode cX10_take 219 = .ok (.aload_n 0, 1) := by decide +kernel
theorem dX10_take_220 : decode cX10_take 220 = .ok (.getfield 13, 3) := by decide +kernel
theorem dX10_take_223 : decode cX10_take 223 = .ok (.iconst 1, 1) := by decide +kernel
theorem dX10_take_224 : decode cX10_take 224 = .ok (.iconst 0, 1) := by decide +kernel
theorem dX10_take_225 : decode cX10_take 225 = .ok (.bastore, 1) := by decide +kernel
theorem dX10_take_226 : decode cX10_take 226 = .ok (.return_, 1) := by decide +kernel
theorem dX10_begin_0 : decode cX10_begin 0 = .ok (.iconst 0, 1) := by decide +kernel
theorem dX10_begin_1 : decode cX10_begin 1 = .ok (.istore 4, 2) := by decide +kernel
theorem dX10_begin_3 : decode cX10_begin 3 = .ok (.iload 4, 2) := by decide +kernel
theorem dX10_begin_5 : decode cX10_begin 5 = .ok (.iconst 4, 1) := by decide +kernel
theorem dX10_begin_6 : decode cX10_begin 6 = .ok (.if_icmp .ge 34, 3) := by decide +kernel
theorem dX10_begin_9 : decode cX10_begin 9 = .ok (.aload_n 0, 1) := by decide +kernel
theorem dX10_begin_10 : decode cX10_begin 10 = .ok (.getfield 7, 3) := by decide +kernel
theorem dX10_begin_13 : decode cX10_begin 13 = .ok (.iload_n 1, 1) := by decide +kernel
theorem dX10_begin_14 : decode cX10_begin 14 = .ok (.iconst 4, 1) := by decide +kernel
theorem dX10_begin_15 : decode cX10_begin 15 = .ok (.iadd, 1) := by decide +kernel
theorem dX10_begin_16 : decode cX10_begin 16 = .ok (.iload 4, 2) := by decide +kernel
theorem dX10_begin_18 : decode cX10_begin 18 = .ok (.iadd, 1) := by decide +kernel
theorem dX10_begin_19 : decode cX10_begin 19 = .ok (.iconst 0, 1) := by decide +kernel
theorem dX10_begin_20 : decode cX10_begin 20 = .ok (.iastore, 1) := by decide +kernel
theorem dX10_begin_21 : decode cX10_begin 21 = .ok (.aload_n 0, 1) := by decide +kernel
theorem dX10_begin_22 : decode cX10_begin 22 = .ok (.getfield 7, 3) := by decide +kernel
theorem dX10_begin_25 : decode cX10_begin 25 = .ok (.iload_n 1, 1) := by decide +kernel
theorem dX10_begin_26 : decode cX10_begin 26 = .ok (.bipush 8, 2) := by decide +kernel
theorem dX10_begin_28 : decode cX10_begin 28 = .ok (.iadd, 1) := by decide +kernel
theorem dX10_begin_29 : decode cX10_begin 29 = .ok (.iload 4, 2) := by decide +kernel
theorem dX10_begin_31 : decode cX10_begin 31 = .ok (.iadd, 1) := by decide +kernel
theorem dX10_begin_32 : decode cX10_begin 32 = .ok (.iconst 0, 1) := by decide +kernel
theorem dX10_begin_33 : decode cX10_begin 33 = .ok (.iastore, 1) := by decide +kernel
theorem dX10_begin_34 : decode cX10_begin 34 = .ok (.iinc 4 1, 3) := by decide +kernel
theorem dX10_begin_37 : decode cX10_begin 37 = .ok (.goto (-34), 3) := by decide +kernel
theorem dX10_begin_40 : decode cX10_begin 40 = .ok (.aload_n 0, 1) := by decide +kernel
theorem dX10_begin_41 : decode cX10_begin 41 = .ok (.getfield 7, 3) := by decide +kernel
theorem dX10_begin_44 : decode cX10_begin 44 = .ok (.iload_n 1, 1) := by decide +kernel
theorem dX10_begin_45 : decode cX10_begin 45 = .ok (.bipush 16, 2) := by decide +kernel
theorem dX10_begin_47 : decode cX10_begin 47 = .ok (.iadd, 1) := by decide +kernel
theorem dX10_begin_48 : decode cX10_begin 48 = .ok (.iload_n 2, 1) := by decide +kernel
theorem dX10_begin_49 : decode cX10_begin 49 = .ok (.iastore, 1) := by decide +kernel
theorem dX10_begin_50 : decode cX10_begin 50 = .ok (.aload_n 0, 1) := by decide +kernel
theorem dX10_begin_51 : decode cX10_begin 51 = .ok (.getfield 7, 3) := by decide +kernel
theorem dX10_begin_54 : decode cX10_begin 54 = .ok (.iload_n 1, 1) := by decide +kernel
theorem dX10_begin_55 : decode cX10_begin 55 = .ok (.bipush 17, 2) := by decide +kernel
theorem dX10_begin_57 : decode cX10_begin 57 = .ok (.iadd, 1) := by decide +kernel
theorem dX10_begin_58 : decode cX10_begin 58 = .ok (.iload_n 3, 1) := by decide +kernel
theorem dX10_begin_59 : decode cX10_begin 59 = .ok (.iastore, 1) := by decide +kernel
theorem dX10_begin_60 : decode cX10_begin 60 = .ok (.aload_n 0, 1) := by decide +kernel
theorem dX10_begin_61 : decode cX10_begin 61 = .ok (.getfield 7, 3) := by decide +kernel
theorem dX10_begin_64 : decode cX10_begin 64 = .ok (.iload_n 1, 1) := by decide +kernel
theorem dX10_begin_65 : decode cX10_begin 65 = .ok (.bipush 18, 2) := by decide +kernel
theorem dX10_begin_67 : decode cX10_begin 67 = .ok (.iadd, 1) := by decide +kernel
theorem dX10_begin_68 : decode cX10_begin 68 = .ok (.iload_n 2, 1) := by decide +kernel
theorem dX10_begin_69 : decode cX10_begin 69 = .ok (.iastore, 1) := by decide +kernel
theorem dX10_begin_70 : decode cX10_begin 70 = .ok (.aload_n 0, 1) := by decide +kernel
theorem dX10_begin_71 : decode cX10_begin 71 = .ok (.getfield 7, 3) := by decide +kernel
theorem dX10_begin_74 : decode cX10_begin 74 = .ok (.iload_n 1, 1) := by decide +kernel
theorem dX10_begin_75 : decode cX10_begin 75 = .ok (.bipush 19, 2) := by decide +kernel
theorem dX10_begin_77 : decode cX10_begin 77 = .ok (.iadd, 1) := by decide +kernel
theorem dX10_begin_78 : decode cX10_begin 78 = .ok (.iconst 0, 1) := by decide +kernel
theorem dX10_begin_79 : decode cX10_begin 79 = .ok (.iastore, 1) := by decide +kernel
theorem dX10_begin_80 : decode cX10_begin 80 = .ok (.aload_n 0, 1) := by decide +kernel
theorem dX10_begin_81 : decode cX10_begin 81 = .ok (.getfield 7, 3) := by decide +kernel
theorem dX10_begin_84 : decode cX10_begin 84 = .ok (.iload_n 1, 1) := by decide +kernel
theorem dX10_begin_85 : decode cX10_begin 85 = .ok (.bipush 20, 2) := by decide +kernel
theorem dX10_begin_87 : decode cX10_begin 87 = .ok (.iadd, 1) := by decide +kernel
theorem dX10_begin_88 : decode cX10_begin 88 = .ok (.iconst 0, 1) := by decide +kernel
theorem dX10_begin_89 : decode cX10_begin 89 = .ok (.iastore, 1) := by decide +kernel
theorem dX10_begin_90 : decode cX10_begin 90 = .ok (.aload_n 0, 1) := by decide +kernel
theorem dX10_begin_91 : decode cX10_begin 91 = .ok (.getfield 7, 3) := by decide +kernel
theorem dX10_begin_94 : decode cX10_begin 94 = .ok (.iload_n 1, 1) := by decide +kernel
theorem dX10_begin_95 : decode cX10_begin 95 = .ok (.bipush 21, 2) := by decide +kernel
theorem dX10_begin_97 : decode cX10_begin 97 = .ok (.iadd, 1) := by decide +kernel
theorem dX10_begin_98 : decode cX10_begin 98 = .ok (.iconst 0, 1) := by decide +kernel
theorem dX10_begin_99 : decode cX10_begin 99 = .ok (.iastore, 1) := by decide +kernel
theorem dX10_begin_100 : decode cX10_begin 100 = .ok (.aload_n 0, 1) := by decide +kernel
theorem dX10_begin_101 : decode cX10_begin 101 = .ok (.getfield 7, 3) := by decide +kernel
theorem dX10_begin_104 : decode cX10_begin 104 = .ok (.iload_n 1, 1) := by decide +kernel
theorem dX10_begin_105 : decode cX10_begin 105 = .ok (.bipush 22, 2) := by decide +kernel
theorem dX10_begin_107 : decode cX10_begin 107 = .ok (.iadd, 1) := by decide +kernel
theorem dX10_begin_108 : decode cX10_begin 108 = .ok (.iconst 0, 1) := by decide +kernel
theorem dX10_begin_109 : decode cX10_begin 109 = .ok (.iastore, 1) := by decide +kernel
theorem dX10_begin_110 : decode cX10_begin 110 = .ok (.aload_n 0, 1) := by decide +kernel
theorem dX10_begin_111 : decode cX10_begin 111 = .ok (.getfield 7, 3) := by decide +kernel
theorem dX10_begin_114 : decode cX10_begin 114 = .ok (.iload_n 1, 1) := by decide +kernel
theorem dX10_begin_115 : decode cX10_begin 115 = .ok (.bipush 23, 2) := by decide +kernel
theorem dX10_begin_117 : decode cX10_begin 117 = .ok (.iadd, 1) := by decide +kernel
theorem dX10_begin_118 : decode cX10_begin 118 = .ok (.iconst 0, 1) := by decide +kernel
theorem dX10_begin_119 : decode cX10_begin 119 = .ok (.iastore, 1) := by decide +kernel
theorem dX10_begin_120 : decode cX10_begin 120 = .ok (.return_, 1) := by decide +kernel
theorem dX10_fault_0 : decode cX10_fault 0 = .ok (.aload_n 0, 1) := by decide +kernel
theorem dX10_fault_1 : decode cX10_fault 1 = .ok (.getfield 38, 3) := by decide +kernel
theorem dX10_fault_4 : decode cX10_fault 4 = .ok (.ireturn, 1) := by decide +kernel
theorem dX10_isPerson_0 : decode cX10_isPerson 0 = .ok (.iload_n 1, 1) := by decide +kernel
theorem dX10_isPerson_1 : decode cX10_isPerson 1 = .ok (.i2l, 1) := by decide +kernel
theorem dX10_isPerson_2 : decode cX10_isPerson 2 = .ok (.lconst 0, 1) := by decide +kernel
theorem dX10_isPerson_3 : decode cX10_isPerson 3 = .ok (.aload_n 0, 1) := by decide +kernel
theorem dX10_isPerson_4 : decode cX10_isPerson 4 = .ok (.getfield 147, 3) := by decide +kernel
theorem dX10_isPerson_7 : decode cX10_isPerson 7 = .ok (.iconst 1, 1) := by decide +kernel
theorem dX10_isPerson_8 : decode cX10_isPerson 8 = .ok (.isub, 1) := by decide +kernel
theorem dX10_isPerson_9 : decode cX10_isPerson 9 = .ok (.i2l, 1) := by decide +kernel
theorem dX10_isPerson_10 : decode cX10_isPerson 10 = .ok (.invokestatic 68, 3) := by decide +kernel
theorem dX10_isPerson_13 : decode cX10_isPerson 13 = .ok (.ireturn, 1) := by decide +kernel
theorem dX10_isThrough_0 : decode cX10_isThrough 0 = .ok (.aload_n 0, 1) := by decide +kernel
theorem dX10_isThrough_1 : decode cX10_isThrough 1 = .ok (.getfield 7, 3) := by decide +kernel
theorem dX10_isThrough_4 : decode cX10_isThrough 4 = .ok (.iload_n 1, 1) := by decide +kernel
theorem dX10_isThrough_5 : decode cX10_isThrough 5 = .ok (.bipush 19, 2) := by decide +kernel
theorem dX10_isThrough_7 : decode cX10_isThrough 7 = .ok (.iadd, 1) := by decide +kernel
theorem dX10_isThrough_8 : decode cX10_isThrough 8 = .ok (.iaload, 1) := by decide +kernel
theorem dX10_isThrough_9 : decode cX10_isThrough 9 = .ok (.bipush 100, 2) := by decide +kernel
theorem dX10_isThrough_11 : decode cX10_isThrough 11 = .ok (.aload_n 0, 1) := by decide +kernel
theorem dX10_isThrough_12 : decode cX10_isThrough 12 = .ok (.getfield 144, 3) := by decide +kernel
theorem dX10_isThrough_15 : decode cX10_isThrough 15 = .ok (.imul, 1) := by decide +kernel
theorem dX10_isThrough_16 : decode cX10_isThrough 16 = .ok (.if_icmp .lt 7, 3) := by decide +kernel
theorem dX10_isThrough_19 : decode cX10_isThrough 19 = .ok (.iconst 1, 1) := by decide +kernel
theorem dX10_isThrough_20 : decode cX10_isThrough 20 = .ok (.goto 4, 3) := by decide +kernel
theorem dX10_isThrough_23 : decode cX10_isThrough 23 = .ok (.iconst 0, 1) := by decide +kernel
theorem dX10_isThrough_24 : decode cX10_isThrough 24 = .ok (.ireturn, 1) := by decide +kernel
theorem dX10_isPair_0 : decode cX10_isPair 0 = .ok (.aload_n 0, 1) := by decide +kernel
theorem dX10_isPair_1 : decode cX10_isPair 1 = .ok (.getfield 7, 3) := by decide +kernel
theorem dX10_isPair_4 : decode cX10_isPair 4 = .ok (.bipush 16, 2) := by decide +kernel
theorem dX10_isPair_6 : decode cX10_isPair 6 = .ok (.iaload, 1) := by decide +kernel
theorem dX10_isPair_7 : decode cX10_isPair 7 = .ok (.ifCond .lt 7, 3) := by decide +kernel
theorem dX10_isPair_10 : decode cX10_isPair 10 = .ok (.iconst 1, 1) := by decide +kernel
theorem dX10_isPair_11 : decode cX10_isPair 11 = .ok (.goto 4, 3) := by decide +kernel
theorem dX10_isPair_14 : decode cX10_isPair 14 = .ok (.iconst 0, 1) := by decide +kernel
theorem dX10_isPair_15 : decode cX10_isPair 15 = .ok (.ireturn, 1) := by decide +kernel
theorem dX10_told_0 : decode cX10_told 0 = .ok (.iload_n 1, 1) := by decide +kernel
theorem dX10_told_1 : decode cX10_told 1 = .ok (.tableswitch 232 0 18 #[91, 96, 101, 106, 114, 122, 130, 138, 146, 154, 162, 170, 178, 183, 188, 193, 217, 222, 227], 91) := by decide +kernel
theorem dX10_told_92 : decode cX10_told 92 = .ok (.aload_n 0, 1) := by decide +kernel
theorem dX10_told_93 : decode cX10_told 93 = .ok (.getfield 144, 3) := by decide +kernel
theorem dX10_told_96 : decode cX10_told 96 = .ok (.ireturn, 1) := by decide +kernel
theorem dX10_told_97 : decode cX10_told 97 = .ok (.aload_n 0, 1) := by decide +kernel
theorem dX10_told_98 : decode cX10_told 98 = .ok (.getfield 147, 3) := by decide +kernel
theorem dX10_told_101 : decode cX10_told 101 = .ok (.ireturn, 1) := by decide +kernel
theorem dX10_told_102 : decode cX10_told 102 = .ok (.aload_n 0, 1) := by decide +kernel
theorem dX10_told_103 : decode cX10_told 103 = .ok (.getfield 73, 3) := by decide +kernel
theorem dX10_told_106 : decode cX10_told 106 = .ok (.ireturn, 1) := by decide +kernel
theorem dX10_told_107 : decode cX10_told 107 = .ok (.aload_n 0, 1) := by decide +kernel
theorem dX10_told_108 : decode cX10_told 108 = .ok (.getfield 7, 3) := by decide +kernel
theorem dX10_told_111 : decode cX10_told 111 = .ok (.bipush 16, 2) := by decide +kernel
theorem dX10_told_113 : decode cX10_told 113 = .ok (.iaload, 1) := by decide +kernel
theorem dX10_told_114 : decode cX10_told 114 = .ok (.ireturn, 1) := by decide +kernel
theorem dX10_told_115 : decode cX10_told 115 = .ok (.aload_n 0, 1) := by decide +kernel
theorem dX10_told_116 : decode cX10_told 116 = .ok (.getfield 7, 3) := by decide +kernel
theorem dX10_told_119 : decode cX10_told 119 = .ok (.bipush 17, 2) := by decide +kernel
theorem dX10_told_121 : decode cX10_told 121 = .ok (.iaload, 1) := by decide +kernel
theorem dX10_told_122 : decode cX10_told 122 = .ok (.ireturn, 1) := by decide +kernel
theorem dX10_told_123 : decode cX10_told 123 = .ok (.aload_n 0, 1) := by decide +kernel
theorem dX10_told_124 : decode cX10_told 124 = .ok (.getfield 7, 3) := by decide +kernel
theorem dX10_told_127 : decode cX10_told 127 = .ok (.bipush 18, 2) := by decide +kernel
theorem dX10_told_129 : decode cX10_told 129 = .ok (.iaload, 1) := by decide +kernel
theorem dX10_told_130 : decode cX10_told 130 = .ok (.ireturn, 1) := by decide +kernel
theorem dX10_told_131 : decode cX10_told 131 = .ok (.aload_n 0, 1) := by decide +kernel
theorem dX10_told_132 : decode cX10_told 132 = .ok (.getfield 7, 3) := by decide +kernel
theorem dX10_told_135 : decode cX10_told 135 = .ok (.bipush 19, 2) := by decide +kernel
theorem dX10_told_137 : decode cX10_told 137 = .ok (.iaload, 1) := by decide +kernel
theorem dX10_told_138 : decode cX10_told 138 = .ok (.ireturn, 1) := by decide +kernel
theorem dX10_told_139 : decode cX10_told 139 = .ok (.aload_n 0, 1) := by decide +kernel
theorem dX10_told_140 : decode cX10_told 140 = .ok (.getfield 7, 3) := by decide +kernel
theorem dX10_told_143 : decode cX10_told 143 = .ok (.bipush 20, 2) := by decide +kernel
theorem dX10_told_145 : decode cX10_told 145 = .ok (.iaload, 1) := by decide +kernel
theorem dX10_told_146 : decode cX10_told 146 = .ok (.ireturn, 1) := by decide +kernel
theorem dX10_told_147 : decode cX10_told 147 = .ok (.aload_n 0, 1) := by decide +kernel
theorem dX10_told_148 : decode cX10_told 148 = .ok (.getfield 7, 3) := by decide +kernel
theorem dX10_told_151 : decode cX10_told 151 = .ok (.bipush 21, 2) := by decide +kernel
theorem dX10_told_153 : decode cX10_told 153 = .ok (.iaload, 1) := by decide +kernel
theorem dX10_told_154 : decode cX10_told 154 = .ok (.ireturn, 1) := by decide +kernel
theorem dX10_told_155 : decode cX10_told 155 = .ok (.aload_n 0, 1) := by decide +kernel
theorem dX10_told_156 : decode cX10_told 156 = .ok (.getfield 7, 3) := by decide +kernel
theorem dX10_told_159 : decode cX10_told 159 = .ok (.bipush 22, 2) := by decide +kernel
theorem dX10_told_161 : decode cX10_told 161 = .ok (.iaload, 1) := by decide +kernel
theorem dX10_told_162 : decode cX10_told 162 = .ok (.ireturn, 1) := by decide +kernel
theorem dX10_told_163 : decode cX10_told 163 = .ok (.aload_n 0, 1) := by decide +kernel
theorem dX10_told_164 : decode cX10_told 164 = .ok (.getfield 7, 3) := by decide +kernel
theorem dX10_told_167 : decode cX10_told 167 = .ok (.bipush 23, 2) := by decide +kernel
theorem dX10_told_169 : decode cX10_told 169 = .ok (.iaload, 1) := by decide +kernel
theorem dX10_told_170 : decode cX10_told 170 = .ok (.ireturn, 1) := by decide +kernel
theorem dX10_told_171 : decode cX10_told 171 = .ok (.aload_n 0, 1) := by decide +kernel
theorem dX10_told_172 : decode cX10_told 172 = .ok (.getfield 7, 3) := by decide +kernel
theorem dX10_told_175 : decode cX10_told 175 = .ok (.bipush 24, 2) := by decide +kernel
theorem dX10_told_177 : decode cX10_told 177 = .ok (.iaload, 1) := by decide +kernel
theorem dX10_told_178 : decode cX10_told 178 = .ok (.ireturn, 1) := by decide +kernel
theorem dX10_told_179 : decode cX10_told 179 = .ok (.aload_n 0, 1) := by decide +kernel
theorem dX10_told_180 : decode cX10_told 180 = .ok (.getfield 60, 3) := by decide +kernel
theorem dX10_told_183 : decode cX10_told 183 = .ok (.ireturn, 1) := by decide +kernel
theorem dX10_told_184 : decode cX10_told 184 = .ok (.aload_n 0, 1) := by decide +kernel
theorem dX10_told_185 : decode cX10_told 185 = .ok (.getfield 150, 3) := by decide +kernel
theorem dX10_told_188 : decode cX10_told 188 = .ok (.ireturn, 1) := by decide +kernel
theorem dX10_told_189 : decode cX10_told 189 = .ok (.aload_n 0, 1) := by decide +kernel
theorem dX10_told_190 : decode cX10_told 190 = .ok (.getfield 63, 3) := by decide +kernel
theorem dX10_told_193 : decode cX10_told 193 = .ok (.ireturn, 1) := by decide +kernel
theorem dX10_told_194 : decode cX10_told 194 = .ok (.aload_n 0, 1) := by decide +kernel
theorem dX10_told_195 : decode cX10_told 195 = .ok (.getfield 144, 3) := by decide +kernel
theorem dX10_told_198 : decode cX10_told 198 = .ok (.ifCond .le 15, 3) := by decide +kernel
theorem dX10_told_201 : decode cX10_told 201 = .ok (.aload_n 0, 1) := by decide +kernel
theorem dX10_told_202 : decode cX10_told 202 = .ok (.iconst 0, 1) := by decide +kernel
theorem dX10_told_203 : decode cX10_told 203 = .ok (.invokevirtual 166, 3) := by decide +kernel
theorem dX10_told_206 : decode cX10_told 206 = .ok (.ifCond .eq 7, 3) := by decide +kernel
theorem dX10_told_209 : decode cX10_told 209 = .ok (.iconst 1, 1) := by decide +kernel
theorem dX10_told_210 : decode cX10_told 210 = .ok (.goto 4, 3) := by decide +kernel
theorem dX10_told_213 : decode cX10_told 213 = .ok (.iconst 0, 1) := by decide +kernel
theorem dX10_told_214 : decode cX10_told 214 = .ok (.invokestatic 170, 3) := by decide +kernel
theorem dX10_told_217 : decode cX10_told 217 = .ok (.ireturn, 1) := by decide +kernel
theorem dX10_told_218 : decode cX10_told 218 = .ok (.aload_n 0, 1) := by decide +kernel
theorem dX10_told_219 : decode cX10_told 219 = .ok (.getfield 157, 3) := by decide +kernel
theorem dX10_told_222 : decode cX10_told 222 = .ok (.ireturn, 1) := by decide +kernel
theorem dX10_told_223 : decode cX10_told 223 = .ok (.aload_n 0, 1) := by decide +kernel
theorem dX10_told_224 : decode cX10_told 224 = .ok (.getfield 160, 3) := by decide +kernel
theorem dX10_told_227 : decode cX10_told 227 = .ok (.ireturn, 1) := by decide +kernel
theorem dX10_told_228 : decode cX10_told 228 = .ok (.aload_n 0, 1) := by decide +kernel
theorem dX10_told_229 : decode cX10_told 229 = .ok (.getfield 163, 3) := by decide +kernel
theorem dX10_told_232 : decode cX10_told 232 = .ok (.ireturn, 1) := by decide +kernel
theorem dX10_told_233 : decode cX10_told 233 = .ok (.ldc 72, 2) := by decide +kernel
theorem dX10_told_235 : decode cX10_told 235 = .ok (.ireturn, 1) := by decide +kernel
theorem dX10_wood_0 : decode cX10_wood 0 = .ok (.iload_n 1, 1) := by decide +kernel
theorem dX10_wood_1 : decode cX10_wood 1 = .ok (.i2l, 1) := by decide +kernel
theorem dX10_wood_2 : decode cX10_wood 2 = .ok (.lconst 0, 1) := by decide +kernel
theorem dX10_wood_3 : decode cX10_wood 3 = .ok (.aload_n 0, 1) := by decide +kernel
theorem dX10_wood_4 : decode cX10_wood 4 = .ok (.getfield 144, 3) := by decide +kernel
theorem dX10_wood_7 : decode cX10_wood 7 = .ok (.iconst 1, 1) := by decide +kernel
theorem dX10_wood_8 : decode cX10_wood 8 = .ok (.isub, 1) := by decide +kernel
theorem dX10_wood_9 : decode cX10_wood 9 = .ok (.i2l, 1) := by decide +kernel
theorem dX10_wood_10 : decode cX10_wood 10 = .ok (.invokestatic 68, 3) := by decide +kernel
theorem dX10_wood_13 : decode cX10_wood 13 = .ok (.ifCond .eq 12, 3) := by decide +kernel
theorem dX10_wood_16 : decode cX10_wood 16 = .ok (.aload_n 0, 1) := by decide +kernel
theorem dX10_wood_17 : decode cX10_wood 17 = .ok (.getfield 17, 3) := by decide +kernel
theorem dX10_wood_20 : decode cX10_wood 20 = .ok (.iload_n 1, 1) := by decide +kernel
theorem dX10_wood_21 : decode cX10_wood 21 = .ok (.iaload, 1) := by decide +kernel
theorem dX10_wood_22 : decode cX10_wood 22 = .ok (.goto 5, 3) := by decide +kernel
theorem dX10_wood_25 : decode cX10_wood 25 = .ok (.ldc 174, 2) := by decide +kernel
theorem dX10_wood_27 : decode cX10_wood 27 = .ok (.ireturn, 1) := by decide +kernel
theorem dX10_person_0 : decode cX10_person 0 = .ok (.aload_n 0, 1) := by decide +kernel
theorem dX10_person_1 : decode cX10_person 1 = .ok (.iload_n 1, 1) := by decide +kernel
theorem dX10_person_2 : decode cX10_person 2 = .ok (.invokevirtual 175, 3) := by decide +kernel
theorem dX10_person_5 : decode cX10_person 5 = .ok (.ifCond .ne 6, 3) := by decide +kernel
theorem dX10_person_8 : decode cX10_person 8 = .ok (.ldc 174, 2) := by decide +kernel
theorem dX10_person_10 : decode cX10_person 10 = .ok (.ireturn, 1) := by decide +kernel
theorem dX10_person_11 : decode cX10_person 11 = .ok (.iload_n 2, 1) := by decide +kernel
theorem dX10_person_12 : decode cX10_person 12 = .ok (.tableswitch 112 0 7 #[48, 55, 62, 69, 79, 86, 93, 102], 48) := by decide +kernel
theorem dX10_person_60 : decode cX10_person 60 = .ok (.aload_n 0, 1) := by decide +kernel
theorem dX10_person_61 : decode cX10_person 61 = .ok (.getfield 20, 3) := by decide +kernel
theorem dX10_person_64 : decode cX10_person 64 = .ok (.iload_n 1, 1) := by decide +kernel
theorem dX10_person_65 : decode cX10_person 65 = .ok (.iaload, 1) := by decide +kernel
theorem dX10_person_66 : decode cX10_person 66 = .ok (.ireturn, 1) := by decide +kernel
theorem dX10_person_67 : decode cX10_person 67 = .ok (.aload_n 0, 1) := by decide +kernel
theorem dX10_person_68 : decode cX10_person 68 = .ok (.getfield 23, 3) := by decide +kernel
theorem dX10_person_71 : decode cX10_person 71 = .ok (.iload_n 1, 1) := by decide +kernel
theorem dX10_person_72 : decode cX10_person 72 = .ok (.iaload, 1) := by decide +kernel
theorem dX10_person_73 : decode cX10_person 73 = .ok (.ireturn, 1) := by decide +kernel
theorem dX10_person_74 : decode cX10_person 74 = .ok (.aload_n 0, 1) := by decide +kernel
theorem dX10_person_75 : decode cX10_person 75 = .ok (.getfield 26, 3) := by decide +kernel
theorem dX10_person_78 : decode cX10_person 78 = .ok (.iload_n 1, 1) := by decide +kernel
theorem dX10_person_79 : decode cX10_person 79 = .ok (.iaload, 1) := by decide +kernel
theorem dX10_person_80 : decode cX10_person 80 = .ok (.ireturn, 1) := by decide +kernel
theorem dX10_person_81 : decode cX10_person 81 = .ok (.aload_n 0, 1) := by decide +kernel
theorem dX10_person_82 : decode cX10_person 82 = .ok (.getfield 7, 3) := by decide +kernel
theorem dX10_person_85 : decode cX10_person 85 = .ok (.bipush 12, 2) := by decide +kernel
theorem dX10_person_87 : decode cX10_person 87 = .ok (.iload_n 1, 1) := by decide +kernel
theorem dX10_person_88 : decode cX10_person 88 = .ok (.iadd, 1) := by decide +kernel
theorem dX10_person_89 : decode cX10_person 89 = .ok (.iaload, 1) := by decide +kernel
theorem dX10_person_90 : decode cX10_person 90 = .ok (.ireturn, 1) := by decide +kernel
theorem dX10_person_91 : decode cX10_person 91 = .ok (.aload_n 0, 1) := by decide +kernel
theorem dX10_person_92 : decode cX10_person 92 = .ok (.getfield 32, 3) := by decide +kernel
theorem dX10_person_95 : decode cX10_person 95 = .ok (.iload_n 1, 1) := by decide +kernel
theorem dX10_person_96 : decode cX10_person 96 = .ok (.iaload, 1) := by decide +kernel
theorem dX10_person_97 : decode cX10_person 97 = .ok (.ireturn, 1) := by decide +kernel
theorem dX10_person_98 : decode cX10_person 98 = .ok (.aload_n 0, 1) := by decide +kernel
theorem dX10_person_99 : decode cX10_person 99 = .ok (.getfield 7, 3) := by decide +kernel
theorem dX10_person_102 : decode cX10_person 102 = .ok (.iload_n 1, 1) := by decide +kernel
theorem dX10_person_103 : decode cX10_person 103 = .ok (.iaload, 1) := by decide +kernel
theorem dX10_person_104 : decode cX10_person 104 = .ok (.ireturn, 1) := by decide +kernel
theorem dX10_person_105 : decode cX10_person 105 = .ok (.aload_n 0, 1) := by decide +kernel
theorem dX10_person_106 : decode cX10_person 106 = .ok (.getfield 7, 3) := by decide +kernel
theorem dX10_person_109 : decode cX10_person 109 = .ok (.iconst 4, 1) := by decide +kernel
theorem dX10_person_110 : decode cX10_person 110 = .ok (.iload_n 1, 1) := by decide +kernel
theorem dX10_person_111 : decode cX10_person 111 = .ok (.iadd, 1) := by decide +kernel
theorem dX10_person_112 : decode cX10_person 112 = .ok (.iaload, 1) := by decide +kernel
theorem dX10_person_113 : decode cX10_person 113 = .ok (.ireturn, 1) := by decide +kernel
theorem dX10_person_114 : decode cX10_person 114 = .ok (.aload_n 0, 1) := by decide +kernel
theorem dX10_person_115 : decode cX10_person 115 = .ok (.getfield 7, 3) := by decide +kernel
theorem dX10_person_118 : decode cX10_person 118 = .ok (.bipush 8, 2) := by decide +kernel
theorem dX10_person_120 : decode cX10_person 120 = .ok (.iload_n 1, 1) := by decide +kernel
theorem dX10_person_121 : decode cX10_person 121 = .ok (.iadd, 1) := by decide +kernel
theorem dX10_person_122 : decode cX10_person 122 = .ok (.iaload, 1) := by decide +kernel
theorem dX10_person_123 : decode cX10_person 123 = .ok (.ireturn, 1) := by decide +kernel
theorem dX10_person_124 : decode cX10_person 124 = .ok (.ldc 72, 2) := by decide +kernel
theorem dX10_person_126 : decode cX10_person 126 = .ok (.ireturn, 1) := by decide +kernel
theorem dX10_tire_0 : decode cX10_tire 0 = .ok (.aload_n 0, 1) := by decide +kernel
theorem dX10_tire_1 : decode cX10_tire 1 = .ok (.getfield 7, 3) := by decide +kernel
theorem dX10_tire_4 : decode cX10_tire 4 = .ok (.iload_n 1, 1) := by decide +kernel
theorem dX10_tire_5 : decode cX10_tire 5 = .ok (.iaload, 1) := by decide +kernel
theorem dX10_tire_6 : decode cX10_tire 6 = .ok (.iload_n 2, 1) := by decide +kernel
theorem dX10_tire_7 : decode cX10_tire 7 = .ok (.iadd, 1) := by decide +kernel
theorem dX10_tire_8 : decode cX10_tire 8 = .ok (.istore_n 3, 1) := by decide +kernel
theorem dX10_tire_9 : decode cX10_tire 9 = .ok (.aload_n 0, 1) := by decide +kernel
theorem dX10_tire_10 : decode cX10_tire 10 = .ok (.getfield 7, 3) := by decide +kernel
theorem dX10_tire_13 : decode cX10_tire 13 = .ok (.iload_n 1, 1) := by decide +kernel
theorem dX10_tire_14 : decode cX10_tire 14 = .ok (.iload_n 3, 1) := by decide +kernel
theorem dX10_tire_15 : decode cX10_tire 15 = .ok (.sipush 999, 3) := by decide +kernel
theorem dX10_tire_18 : decode cX10_tire 18 = .ok (.if_icmp .le 9, 3) := by decide +kernel
theorem dX10_tire_21 : decode cX10_tire 21 = .ok (.sipush 999, 3) := by decide +kernel
theorem dX10_tire_24 : decode cX10_tire 24 = .ok (.goto 12, 3) := by decide +kernel
theorem dX10_tire_27 : decode cX10_tire 27 = .ok (.iload_n 3, 1) := by decide +kernel
theorem dX10_tire_28 : decode cX10_tire 28 = .ok (.ifCond .ge 7, 3) := by decide +kernel
theorem dX10_tire_31 : decode cX10_tire 31 = .ok (.iconst 0, 1) := by decide +kernel
theorem dX10_tire_32 : decode cX10_tire 32 = .ok (.goto 4, 3) := by decide +kernel
theorem dX10_tire_35 : decode cX10_tire 35 = .ok (.iload_n 3, 1) := by decide +kernel
theorem dX10_tire_36 : decode cX10_tire 36 = .ok (.iastore, 1) := by decide +kernel
theorem dX10_tire_37 : decode cX10_tire 37 = .ok (.return_, 1) := by decide +kernel
theorem dX10_pullOf_0 : decode cX10_pullOf 0 = .ok (.aload_n 0, 1) := by decide +kernel
theorem dX10_pullOf_1 : decode cX10_pullOf 1 = .ok (.getfield 20, 3) := by decide +kernel
theorem dX10_pullOf_4 : decode cX10_pullOf 4 = .ok (.iload_n 2, 1) := by decide +kernel
theorem dX10_pullOf_5 : decode cX10_pullOf 5 = .ok (.iaload, 1) := by decide +kernel
theorem dX10_pullOf_6 : decode cX10_pullOf 6 = .ok (.aload_n 0, 1) := by decide +kernel
theorem dX10_pullOf_7 : decode cX10_pullOf 7 = .ok (.getfield 7, 3) := by decide +kernel
theorem dX10_pullOf_10 : decode cX10_pullOf 10 = .ok (.iload_n 1, 1) := by decide +kernel
theorem dX10_pullOf_11 : decode cX10_pullOf 11 = .ok (.iload_n 2, 1) := by decide +kernel
theorem dX10_pullOf_12 : decode cX10_pullOf 12 = .ok (.iadd, 1) := by decide +kernel
theorem dX10_pullOf_13 : decode cX10_pullOf 13 = .ok (.iaload, 1) := by decide +kernel
theorem dX10_pullOf_14 : decode cX10_pullOf 14 = .ok (.if_icmp .ge 12, 3) := by decide +kernel
theorem dX10_pullOf_17 : decode cX10_pullOf 17 = .ok (.aload_n 0, 1) := by decide +kernel
theorem dX10_pullOf_18 : decode cX10_pullOf 18 = .ok (.getfield 20, 3) := by decide +kernel
theorem dX10_pullOf_21 : decode cX10_pullOf 21 = .ok (.iload_n 2, 1) := by decide +kernel
theorem dX10_pullOf_22 : decode cX10_pullOf 22 = .ok (.iaload, 1) := by decide +kernel
theorem dX10_pullOf_23 : decode cX10_pullOf 23 = .ok (.goto 11, 3) := by decide +kernel
theorem dX10_pullOf_26 : decode cX10_pullOf 26 = .ok (.aload_n 0, 1) := by decide +kernel
theorem dX10_pullOf_27 : decode cX10_pullOf 27 = .ok (.getfield 7, 3) := by decide +kernel
theorem dX10_pullOf_30 : decode cX10_pullOf 30 = .ok (.iload_n 1, 1) := by decide +kernel
theorem dX10_pullOf_31 : decode cX10_pullOf 31 = .ok (.iload_n 2, 1) := by decide +kernel
theorem dX10_pullOf_32 : decode cX10_pullOf 32 = .ok (.iadd, 1) := by decide +kernel
theorem dX10_pullOf_33 : decode cX10_pullOf 33 = .ok (.iaload, 1) := by decide +kernel
theorem dX10_pullOf_34 : decode cX10_pullOf 34 = .ok (.istore 4, 2) := by decide +kernel
theorem dX10_pullOf_36 : decode cX10_pullOf 36 = .ok (.iload 4, 2) := by decide +kernel
theorem dX10_pullOf_38 : decode cX10_pullOf 38 = .ok (.aload_n 0, 1) := by decide +kernel
theorem dX10_pullOf_39 : decode cX10_pullOf 39 = .ok (.getfield 7, 3) := by decide +kernel
theorem dX10_pullOf_42 : decode cX10_pullOf 42 = .ok (.iload_n 1, 1) := by decide +kernel
theorem dX10_pullOf_43 : decode cX10_pullOf 43 = .ok (.bipush 8, 2) := by decide +kernel
theorem dX10_pullOf_45 : decode cX10_pullOf 45 = .ok (.iadd, 1) := by decide +kernel
theorem dX10_pullOf_46 : decode cX10_pullOf 46 = .ok (.iload_n 2, 1) := by decide +kernel
theorem dX10_pullOf_47 : decode cX10_pullOf 47 = .ok (.iadd, 1) := by decide +kernel
theorem dX10_pullOf_48 : decode cX10_pullOf 48 = .ok (.iaload, 1) := by decide +kernel
theorem dX10_pullOf_49 : decode cX10_pullOf 49 = .ok (.iadd, 1) := by decide +kernel
theorem dX10_pullOf_50 : decode cX10_pullOf 50 = .ok (.aload_n 0, 1) := by decide +kernel
theorem dX10_pullOf_51 : decode cX10_pullOf 51 = .ok (.getfield 7, 3) := by decide +kernel
theorem dX10_pullOf_54 : decode cX10_pullOf 54 = .ok (.iload_n 1, 1) := by decide +kernel
theorem dX10_pullOf_55 : decode cX10_pullOf 55 = .ok (.iconst 4, 1) := by decide +kernel
theorem dX10_pullOf_56 : decode cX10_pullOf 56 = .ok (.iadd, 1) := by decide +kernel
theorem dX10_pullOf_57 : decode cX10_pullOf 57 = .ok (.iload_n 2, 1) := by decide +kernel
theorem dX10_pullOf_58 : decode cX10_pullOf 58 = .ok (.iadd, 1) := by decide +kernel
theorem dX10_pullOf_59 : decode cX10_pullOf 59 = .ok (.iaload, 1) := by decide +kernel
theorem dX10_pullOf_60 : decode cX10_pullOf 60 = .ok (.bipush 10, 2) := by decide +kernel
theorem dX10_pullOf_62 : decode cX10_pullOf 62 = .ok (.idiv, 1) := by decide +kernel
theorem dX10_pullOf_63 : decode cX10_pullOf 63 = .ok (.isub, 1) := by decide +kernel
theorem dX10_pullOf_64 : decode cX10_pullOf 64 = .ok (.istore 5, 2) := by decide +kernel
theorem dX10_pullOf_66 : decode cX10_pullOf 66 = .ok (.iload 5, 2) := by decide +kernel
theorem dX10_pullOf_68 : decode cX10_pullOf 68 = .ok (.ifCond .ge 7, 3) := by decide +kernel
theorem dX10_pullOf_71 : decode cX10_pullOf 71 = .ok (.iconst 0, 1) := by decide +kernel
theorem dX10_pullOf_72 : decode cX10_pullOf 72 = .ok (.goto 5, 3) := by decide +kernel
theorem dX10_pullOf_75 : decode cX10_pullOf 75 = .ok (.iload 5, 2) := by decide +kernel
theorem dX10_pullOf_77 : decode cX10_pullOf 77 = .ok (.istore 5, 2) := by decide +kernel
theorem dX10_pullOf_79 : decode cX10_pullOf 79 = .ok (.aload_n 0, 1) := by decide +kernel
theorem dX10_pullOf_80 : decode cX10_pullOf 80 = .ok (.getfield 7, 3) := by decide +kernel
theorem dX10_pullOf_83 : decode cX10_pullOf 83 = .ok (.iload_n 1, 1) := by decide +kernel
theorem dX10_pullOf_84 : decode cX10_pullOf 84 = .ok (.bipush 12, 2) := by decide +kernel
theorem dX10_pullOf_86 : decode cX10_pullOf 86 = .ok (.iadd, 1) := by decide +kernel
theorem dX10_pullOf_87 : decode cX10_pullOf 87 = .ok (.iload_n 3, 1) := by decide +kernel
theorem dX10_pullOf_88 : decode cX10_pullOf 88 = .ok (.iadd, 1) := by decide +kernel
theorem dX10_pullOf_89 : decode cX10_pullOf 89 = .ok (.iaload, 1) := by decide +kernel
theorem dX10_pullOf_90 : decode cX10_pullOf 90 = .ok (.istore 6, 2) := by decide +kernel
theorem dX10_pullOf_92 : decode cX10_pullOf 92 = .ok (.iload 6, 2) := by decide +kernel
theorem dX10_pullOf_94 : decode cX10_pullOf 94 = .ok (.iconst 5, 1) := by decide +kernel
theorem dX10_pullOf_95 : decode cX10_pullOf 95 = .ok (.if_icmp .ge 13, 3) := by decide +kernel
theorem dX10_pullOf_98 : decode cX10_pullOf 98 = .ok (.iload 5, 2) := by decide +kernel
theorem dX10_pullOf_100 : decode cX10_pullOf 100 = .ok (.iload 6, 2) := by decide +kernel
theorem dX10_pullOf_102 : decode cX10_pullOf 102 = .ok (.isub, 1) := by decide +kernel
theorem dX10_pullOf_103 : decode cX10_pullOf 103 = .ok (.istore 5, 2) := by decide +kernel
theorem dX10_pullOf_105 : decode cX10_pullOf 105 = .ok (.goto 61, 3) := by decide +kernel
theorem dX10_pullOf_108 : decode cX10_pullOf 108 = .ok (.iload 6, 2) := by decide +kernel
theorem dX10_pullOf_110 : decode cX10_pullOf 110 = .ok (.iconst 5, 1) := by decide +kernel
theorem dX10_pullOf_111 : decode cX10_pullOf 111 = .ok (.if_icmp .le 26, 3) := by decide +kernel
theorem dX10_pullOf_114 : decode cX10_pullOf 114 = .ok (.iload 6, 2) := by decide +kernel
theorem dX10_pullOf_116 : decode cX10_pullOf 116 = .ok (.iconst 5, 1) := by decide +kernel
theorem dX10_pullOf_117 : decode cX10_pullOf 117 = .ok (.isub, 1) := by decide +kernel
theorem dX10_pullOf_118 : decode cX10_pullOf 118 = .ok (.aload_n 0, 1) := by decide +kernel
theorem dX10_pullOf_119 : decode cX10_pullOf 119 = .ok (.getfield 60, 3) := by decide +kernel
theorem dX10_pullOf_122 : decode cX10_pullOf 122 = .ok (.if_icmp .gt 15, 3) := by decide +kernel
theorem dX10_pullOf_125 : decode cX10_pullOf 125 = .ok (.iload 5, 2) := by decide +kernel
theorem dX10_pullOf_127 : decode cX10_pullOf 127 = .ok (.iload 5, 2) := by decide +kernel
theorem dX10_pullOf_129 : decode cX10_pullOf 129 = .ok (.iconst 2, 1) := by decide +kernel
theorem dX10_pullOf_130 : decode cX10_pullOf 130 = .ok (.idiv, 1) := by decide +kernel
theorem dX10_pullOf_131 : decode cX10_pullOf 131 = .ok (.iadd, 1) := by decide +kernel
theorem dX10_pullOf_132 : decode cX10_pullOf 132 = .ok (.istore 5, 2) := by decide +kernel
theorem dX10_pullOf_134 : decode cX10_pullOf 134 = .ok (.goto 32, 3) := by decide +kernel
theorem dX10_pullOf_137 : decode cX10_pullOf 137 = .ok (.iload 6, 2) := by decide +kernel
theorem dX10_pullOf_139 : decode cX10_pullOf 139 = .ok (.iconst 5, 1) := by decide +kernel
theorem dX10_pullOf_140 : decode cX10_pullOf 140 = .ok (.if_icmp .le 26, 3) := by decide +kernel
theorem dX10_pullOf_143 : decode cX10_pullOf 143 = .ok (.iconst 0, 1) := by decide +kernel
theorem dX10_pullOf_144 : decode cX10_pullOf 144 = .ok (.istore 5, 2) := by decide +kernel
theorem dX10_pullOf_146 : decode cX10_pullOf 146 = .ok (.aload_n 0, 1) := by decide +kernel
theorem dX10_pullOf_147 : decode cX10_pullOf 147 = .ok (.iload_n 1, 1) := by decide +kernel
theorem dX10_pullOf_148 : decode cX10_pullOf 148 = .ok (.iconst 4, 1) := by decide +kernel
theorem dX10_pullOf_149 : decode cX10_pullOf 149 = .ok (.iadd, 1) := by decide +kernel
theorem dX10_pullOf_150 : decode cX10_pullOf 150 = .ok (.iload_n 2, 1) := by decide +kernel
theorem dX10_pullOf_151 : decode cX10_pullOf 151 = .ok (.iadd, 1) := by decide +kernel
theorem dX10_pullOf_152 : decode cX10_pullOf 152 = .ok (.iconst 2, 1) := by decide +kernel
theorem dX10_pullOf_153 : decode cX10_pullOf 153 = .ok (.invokevirtual 178, 3) := by decide +kernel
theorem dX10_pullOf_156 : decode cX10_pullOf 156 = .ok (.aload_n 0, 1) := by decide +kernel
theorem dX10_pullOf_157 : decode cX10_pullOf 157 = .ok (.iload_n 1, 1) := by decide +kernel
theorem dX10_pullOf_158 : decode cX10_pullOf 158 = .ok (.iconst 4, 1) := by decide +kernel
theorem dX10_pullOf_159 : decode cX10_pullOf 159 = .ok (.iadd, 1) := by decide +kernel
theorem dX10_pullOf_160 : decode cX10_pullOf 160 = .ok (.iload_n 3, 1) := by decide +kernel
theorem dX10_pullOf_161 : decode cX10_pullOf 161 = .ok (.iadd, 1) := by decide +kernel
theorem dX10_pullOf_162 : decode cX10_pullOf 162 = .ok (.iconst 2, 1) := by decide +kernel
theorem dX10_pullOf_163 : decode cX10_pullOf 163 = .ok (.invokevirtual 178, 3) := by decide +kernel
theorem dX10_pullOf_166 : decode cX10_pullOf 166 = .ok (.iload 5, 2) := by decide +kernel
theorem dX10_pullOf_168 : decode cX10_pullOf 168 = .ok (.aload_n 0, 1) := by decide +kernel
theorem dX10_pullOf_169 : decode cX10_pullOf 169 = .ok (.getfield 7, 3) := by decide +kernel
theorem dX10_pullOf_172 : decode cX10_pullOf 172 = .ok (.iload_n 1, 1) := by decide +kernel
theorem dX10_pullOf_173 : decode cX10_pullOf 173 = .ok (.bipush 22, 2) := by decide +kernel
theorem dX10_pullOf_175 : decode cX10_pullOf 175 = .ok (.iadd, 1) := by decide +kernel
theorem dX10_pullOf_176 : decode cX10_pullOf 176 = .ok (.iaload, 1) := by decide +kernel
theorem dX10_pullOf_177 : decode cX10_pullOf 177 = .ok (.bipush 10, 2) := by decide +kernel
theorem dX10_pullOf_179 : decode cX10_pullOf 179 = .ok (.idiv, 1) := by decide +kernel
theorem dX10_pullOf_180 : decode cX10_pullOf 180 = .ok (.isub, 1) := by decide +kernel
theorem dX10_pullOf_181 : decode cX10_pullOf 181 = .ok (.istore 5, 2) := by decide +kernel
theorem dX10_pullOf_183 : decode cX10_pullOf 183 = .ok (.aload_n 0, 1) := by decide +kernel
theorem dX10_pullOf_184 : decode cX10_pullOf 184 = .ok (.getfield 7, 3) := by decide +kernel
theorem dX10_pullOf_187 : decode cX10_pullOf 187 = .ok (.iload_n 1, 1) := by decide +kernel
theorem dX10_pullOf_188 : decode cX10_pullOf 188 = .ok (.bipush 19, 2) := by decide +kernel
theorem dX10_pullOf_190 : decode cX10_pullOf 190 = .ok (.iadd, 1) := by decide +kernel
theorem dX10_pullOf_191 : decode cX10_pullOf 191 = .ok (.iaload, 1) := by decide +kernel
theorem dX10_pullOf_192 : decode cX10_pullOf 192 = .ok (.bipush 100, 2) := by decide +kernel
theorem dX10_pullOf_194 : decode cX10_pullOf 194 = .ok (.idiv, 1) := by decide +kernel
theorem dX10_pullOf_195 : decode cX10_pullOf 195 = .ok (.aload_n 0, 1) := by decide +kernel
theorem dX10_pullOf_196 : decode cX10_pullOf 196 = .ok (.getfield 63, 3) := by decide +kernel
theorem dX10_pullOf_199 : decode cX10_pullOf 199 = .ok (.if_icmp .lt 22, 3) := by decide +kernel
theorem dX10_pullOf_202 : decode cX10_pullOf 202 = .ok (.aload_n 0, 1) := by decide +kernel
theorem dX10_pullOf_203 : decode cX10_pullOf 203 = .ok (.getfield 7, 3) := by decide +kernel
theorem dX10_pullOf_206 : decode cX10_pullOf 206 = .ok (.iload_n 1, 1) := by decide +kernel
theorem dX10_pullOf_207 : decode cX10_pullOf 207 = .ok (.bipush 23, 2) := by decide +kernel
theorem dX10_pullOf_209 : decode cX10_pullOf 209 = .ok (.iadd, 1) := by decide +kernel
theorem dX10_pullOf_210 : decode cX10_pullOf 210 = .ok (.iaload, 1) := by decide +kernel
theorem dX10_pullOf_211 : decode cX10_pullOf 211 = .ok (.ifCond .ne 10, 3) := by decide +kernel
theorem dX10_pullOf_214 : decode cX10_pullOf 214 = .ok (.iload 5, 2) := by decide +kernel
theorem dX10_pullOf_216 : decode cX10_pullOf 216 = .ok (.iconst 2, 1) := by decide +kernel
theorem dX10_pullOf_217 : decode cX10_pullOf 217 = .ok (.idiv, 1) := by decide +kernel
theorem dX10_pullOf_218 : decode cX10_pullOf 218 = .ok (.goto 5, 3) := by decide +kernel
theorem dX10_pullOf_221 : decode cX10_pullOf 221 = .ok (.iload 5, 2) := by decide +kernel
theorem dX10_pullOf_223 : decode cX10_pullOf 223 = .ok (.istore 5, 2) := by decide +kernel
theorem dX10_pullOf_225 : decode cX10_pullOf 225 = .ok (.iload 5, 2) := by decide +kernel
theorem dX10_pullOf_227 : decode cX10_pullOf 227 = .ok (.ifCond .ge 7, 3) := by decide +kernel
theorem dX10_pullOf_230 : decode cX10_pullOf 230 = .ok (.iconst 0, 1) := by decide +kernel
theorem dX10_pullOf_231 : decode cX10_pullOf 231 = .ok (.goto 5, 3) := by decide +kernel
theorem dX10_pullOf_234 : decode cX10_pullOf 234 = .ok (.iload 5, 2) := by decide +kernel
theorem dX10_pullOf_236 : decode cX10_pullOf 236 = .ok (.ireturn, 1) := by decide +kernel
theorem dX10_feel_0 : decode cX10_feel 0 = .ok (.aload_n 0, 1) := by decide +kernel
theorem dX10_feel_1 : decode cX10_feel 1 = .ok (.getfield 7, 3) := by decide +kernel
theorem dX10_feel_4 : decode cX10_feel 4 = .ok (.iload_n 1, 1) := by decide +kernel
theorem dX10_feel_5 : decode cX10_feel 5 = .ok (.bipush 12, 2) := by decide +kernel
theorem dX10_feel_7 : decode cX10_feel 7 = .ok (.iadd, 1) := by decide +kernel
theorem dX10_feel_8 : decode cX10_feel 8 = .ok (.iload_n 3, 1) := by decide +kernel
theorem dX10_feel_9 : decode cX10_feel 9 = .ok (.iadd, 1) := by decide +kernel
theorem dX10_feel_10 : decode cX10_feel 10 = .ok (.iaload, 1) := by decide +kernel
theorem dX10_feel_11 : decode cX10_feel 11 = .ok (.i2l, 1) := by decide +kernel
theorem dX10_feel_12 : decode cX10_feel 12 = .ok (.lconst 1, 1) := by decide +kernel
theorem dX10_feel_13 : decode cX10_feel 13 = .ok (.ldc2_w 182, 3) := by decide +kernel
theorem dX10_feel_16 : decode cX10_feel 16 = .ok (.invokestatic 68, 3) := by decide +kernel
theorem dX10_feel_19 : decode cX10_feel 19 = .ok (.istore 4, 2) := by decide +kernel
theorem dX10_feel_21 : decode cX10_feel 21 = .ok (.aload_n 0, 1) := by decide +kernel
theorem dX10_feel_22 : decode cX10_feel 22 = .ok (.getfield 7, 3) := by decide +kernel
theorem dX10_feel_25 : decode cX10_feel 25 = .ok (.iload_n 1, 1) := by decide +kernel
theorem dX10_feel_26 : decode cX10_feel 26 = .ok (.bipush 8, 2) := by decide +kernel
theorem dX10_feel_28 : decode cX10_feel 28 = .ok (.iadd, 1) := by decide +kernel
theorem dX10_feel_29 : decode cX10_feel 29 = .ok (.iload_n 2, 1) := by decide +kernel
theorem dX10_feel_30 : decode cX10_feel 30 = .ok (.iadd, 1) := by decide +kernel
theorem dX10_feel_31 : decode cX10_feel 31 = .ok (.iaload, 1) := by decide +kernel
theorem dX10_feel_32 : decode cX10_feel 32 = .ok (.istore 5, 2) := by decide +kernel
theorem dX10_feel_34 : decode cX10_feel 34 = .ok (.iload 4, 2) := by decide +kernel
theorem dX10_feel_36 : decode cX10_feel 36 = .ok (.ifCond .eq 40, 3) := by decide +kernel
theorem dX10_feel_39 : decode cX10_feel 39 = .ok (.iload 5, 2) := by decide +kernel
theorem dX10_feel_41 : decode cX10_feel 41 = .ok (.aload_n 0, 1) := by decide +kernel
theorem dX10_feel_42 : decode cX10_feel 42 = .ok (.getfield 32, 3) := by decide +kernel
theorem dX10_feel_45 : decode cX10_feel 45 = .ok (.iload_n 2, 1) := by decide +kernel
theorem dX10_feel_46 : decode cX10_feel 46 = .ok (.iaload, 1) := by decide +kernel
theorem dX10_feel_47 : decode cX10_feel 47 = .ok (.iconst 1, 1) := by decide +kernel
theorem dX10_feel_48 : decode cX10_feel 48 = .ok (.if_icmp .ne 7, 3) := by decide +kernel
theorem dX10_feel_51 : decode cX10_feel 51 = .ok (.iconst 1, 1) := by decide +kernel
theorem dX10_feel_52 : decode cX10_feel 52 = .ok (.goto 18, 3) := by decide +kernel
theorem dX10_feel_55 : decode cX10_feel 55 = .ok (.aload_n 0, 1) := by decide +kernel
theorem dX10_feel_56 : decode cX10_feel 56 = .ok (.getfield 32, 3) := by decide +kernel
theorem dX10_feel_59 : decode cX10_feel 59 = .ok (.iload_n 2, 1) := by decide +kernel
theorem dX10_feel_60 : decode cX10_feel 60 = .ok (.iaload, 1) := by decide +kernel
theorem dX10_feel_61 : decode cX10_feel 61 = .ok (.iconst 2, 1) := by decide +kernel
theorem dX10_feel_62 : decode cX10_feel 62 = .ok (.if_icmp .ne 7, 3) := by decide +kernel
theorem dX10_feel_65 : decode cX10_feel 65 = .ok (.iconst (-1), 1) := by decide +kernel
theorem dX10_feel_66 : decode cX10_feel 66 = .ok (.goto 4, 3) := by decide +kernel
theorem dX10_feel_69 : decode cX10_feel 69 = .ok (.iconst 0, 1) := by decide +kernel
theorem dX10_feel_70 : decode cX10_feel 70 = .ok (.iadd, 1) := by decide +kernel
theorem dX10_feel_71 : decode cX10_feel 71 = .ok (.istore 5, 2) := by decide +kernel
theorem dX10_feel_73 : decode cX10_feel 73 = .ok (.goto 27, 3) := by decide +kernel
theorem dX10_feel_76 : decode cX10_feel 76 = .ok (.iload 5, 2) := by decide +kernel
theorem dX10_feel_78 : decode cX10_feel 78 = .ok (.iload 5, 2) := by decide +kernel
theorem dX10_feel_80 : decode cX10_feel 80 = .ok (.ifCond .le 7, 3) := by decide +kernel
theorem dX10_feel_83 : decode cX10_feel 83 = .ok (.iconst (-1), 1) := by decide +kernel
theorem dX10_feel_84 : decode cX10_feel 84 = .ok (.goto 13, 3) := by decide +kernel
theorem dX10_feel_87 : decode cX10_feel 87 = .ok (.iload 5, 2) := by decide +kernel
theorem dX10_feel_89 : decode cX10_feel 89 = .ok (.ifCond .ge 7, 3) := by decide +kernel
theorem dX10_feel_92 : decode cX10_feel 92 = .ok (.iconst 1, 1) := by decide +kernel
theorem dX10_feel_93 : decode cX10_feel 93 = .ok (.goto 4, 3) := by decide +kernel
theorem dX10_feel_96 : decode cX10_feel 96 = .ok (.iconst 0, 1) := by decide +kernel
theorem dX10_feel_97 : decode cX10_feel 97 = .ok (.iadd, 1) := by decide +kernel
theorem dX10_feel_98 : decode cX10_feel 98 = .ok (.istore 5, 2) := by decide +kernel
theorem dX10_feel_100 : decode cX10_feel 100 = .ok (.aload_n 0, 1) := by decide +kernel
theorem dX10_feel_101 : decode cX10_feel 101 = .ok (.getfield 7, 3) := by decide +kernel
theorem dX10_feel_104 : decode cX10_feel 104 = .ok (.iload_n 1, 1) := by decide +kernel
theorem dX10_feel_105 : decode cX10_feel 105 = .ok (.bipush 8, 2) := by decide +kernel
theorem dX10_feel_107 : decode cX10_feel 107 = .ok (.iadd, 1) := by decide +kernel
theorem dX10_feel_108 : decode cX10_feel 108 = .ok (.iload_n 2, 1) := by decide +kernel
theorem dX10_feel_109 : decode cX10_feel 109 = .ok (.iadd, 1) := by decide +kernel
theorem dX10_feel_110 : decode cX10_feel 110 = .ok (.iload 5, 2) := by decide +kernel
theorem dX10_feel_112 : decode cX10_feel 112 = .ok (.bipush 9, 2) := by decide +kernel
theorem dX10_feel_114 : decode cX10_feel 114 = .ok (.if_icmp .le 8, 3) := by decide +kernel
theorem dX10_feel_117 : decode cX10_feel 117 = .ok (.bipush 9, 2) := by decide +kernel
theorem dX10_feel_119 : decode cX10_feel 119 = .ok (.goto 17, 3) := by decide +kernel
theorem dX10_feel_122 : decode cX10_feel 122 = .ok (.iload 5, 2) := by decide +kernel
theorem dX10_feel_124 : decode cX10_feel 124 = .ok (.bipush (-9), 2) := by decide +kernel
theorem dX10_feel_126 : decode cX10_feel 126 = .ok (.if_icmp .ge 8, 3) := by decide +kernel
theorem dX10_feel_129 : decode cX10_feel 129 = .ok (.bipush (-9), 2) := by decide +kernel
theorem dX10_feel_131 : decode cX10_feel 131 = .ok (.goto 5, 3) := by decide +kernel
theorem dX10_feel_134 : decode cX10_feel 134 = .ok (.iload 5, 2) := by decide +kernel
theorem dX10_feel_136 : decode cX10_feel 136 = .ok (.iastore, 1) := by decide +kernel
theorem dX10_feel_137 : decode cX10_feel 137 = .ok (.return_, 1) := by decide +kernel
theorem dX10_pull_0 : decode cX10_pull 0 = .ok (.aload_n 0, 1) := by decide +kernel
theorem dX10_pull_1 : decode cX10_pull 1 = .ok (.getfield 7, 3) := by decide +kernel
theorem dX10_pull_4 : decode cX10_pull 4 = .ok (.iload_n 1, 1) := by decide +kernel
theorem dX10_pull_5 : decode cX10_pull 5 = .ok (.bipush 18, 2) := by decide +kernel
theorem dX10_pull_7 : decode cX10_pull 7 = .ok (.iadd, 1) := by decide +kernel
theorem dX10_pull_8 : decode cX10_pull 8 = .ok (.iaload, 1) := by decide +kernel
theorem dX10_pull_9 : decode cX10_pull 9 = .ok (.istore_n 2, 1) := by decide +kernel
theorem dX10_pull_10 : decode cX10_pull 10 = .ok (.iload_n 2, 1) := by decide +kernel
theorem dX10_pull_11 : decode cX10_pull 11 = .ok (.aload_n 0, 1) := by decide +kernel
theorem dX10_pull_12 : decode cX10_pull 12 = .ok (.getfield 7, 3) := by decide +kernel
theorem dX10_pull_15 : decode cX10_pull 15 = .ok (.iload_n 1, 1) := by decide +kernel
theorem dX10_pull_16 : decode cX10_pull 16 = .ok (.bipush 16, 2) := by decide +kernel
theorem dX10_pull_18 : decode cX10_pull 18 = .ok (.iadd, 1) := by decide +kernel
theorem dX10_pull_19 : decode cX10_pull 19 = .ok (.iaload, 1) := by decide +kernel
theorem dX10_pull_20 : decode cX10_pull 20 = .ok (.if_icmp .ne 15, 3) := by decide +kernel
theorem dX10_pull_23 : decode cX10_pull 23 = .ok (.aload_n 0, 1) := by decide +kernel
theorem dX10_pull_24 : decode cX10_pull 24 = .ok (.getfield 7, 3) := by decide +kernel
theorem dX10_pull_27 : decode cX10_pull 27 = .ok (.iload_n 1, 1) := by decide +kernel
theorem dX10_pull_28 : decode cX10_pull 28 = .ok (.bipush 17, 2) := by decide +kernel
theorem dX10_pull_30 : decode cX10_pull 30 = .ok (.iadd, 1) := by decide +kernel
theorem dX10_pull_31 : decode cX10_pull 31 = .ok (.iaload, 1) := by decide +kernel
theorem dX10_pull_32 : decode cX10_pull 32 = .ok (.goto 12, 3) := by decide +kernel
theorem dX10_pull_35 : decode cX10_pull 35 = .ok (.aload_n 0, 1) := by decide +kernel
theorem dX10_pull_36 : decode cX10_pull 36 = .ok (.getfield 7, 3) := by decide +kernel
theorem dX10_pull_39 : decode cX10_pull 39 = .ok (.iload_n 1, 1) := by decide +kernel
theorem dX10_pull_40 : decode cX10_pull 40 = .ok (.bipush 16, 2) := by decide +kernel
theorem dX10_pull_42 : decode cX10_pull 42 = .ok (.iadd, 1) := by decide +kernel
theorem dX10_pull_43 : decode cX10_pull 43 = .ok (.iaload, 1) := by decide +kernel
theorem dX10_pull_44 : decode cX10_pull 44 = .ok (.istore_n 3, 1) := by decide +kernel
theorem dX10_pull_45 : decode cX10_pull 45 = .ok (.aload_n 0, 1) := by decide +kernel
theorem dX10_pull_46 : decode cX10_pull 46 = .ok (.iload_n 1, 1) := by decide +kernel
theorem dX10_pull_47 : decode cX10_pull 47 = .ok (.iload_n 2, 1) := by decide +kernel
theorem dX10_pull_48 : decode cX10_pull 48 = .ok (.iload_n 3, 1) := by decide +kernel
theorem dX10_pull_49 : decode cX10_pull 49 = .ok (.invokevirtual 184, 3) := by decide +kernel
theorem dX10_pull_52 : decode cX10_pull 52 = .ok (.aload_n 0, 1) := by decide +kernel
theorem dX10_pull_53 : decode cX10_pull 53 = .ok (.getfield 7, 3) := by decide +kernel
theorem dX10_pull_56 : decode cX10_pull 56 = .ok (.iload_n 1, 1) := by decide +kernel
theorem dX10_pull_57 : decode cX10_pull 57 = .ok (.bipush 24, 2) := by decide +kernel
theorem dX10_pull_59 : decode cX10_pull 59 = .ok (.iadd, 1) := by decide +kernel
theorem dX10_pull_60 : decode cX10_pull 60 = .ok (.iaload, 1) := by decide +kernel
theorem dX10_pull_61 : decode cX10_pull 61 = .ok (.imul, 1) := by decide +kernel
theorem dX10_pull_62 : decode cX10_pull 62 = .ok (.aload_n 0, 1) := by decide +kernel
theorem dX10_pull_63 : decode cX10_pull 63 = .ok (.getfield 17, 3) := by decide +kernel
theorem dX10_pull_66 : decode cX10_pull 66 = .ok (.aload_n 0, 1) := by decide +kernel
theorem dX10_pull_67 : decode cX10_pull 67 = .ok (.getfield 7, 3) := by decide +kernel
theorem dX10_pull_70 : decode cX10_pull 70 = .ok (.iload_n 1, 1) := by decide +kernel
theorem dX10_pull_71 : decode cX10_pull 71 = .ok (.bipush 19, 2) := by decide +kernel
theorem dX10_pull_73 : decode cX10_pull 73 = .ok (.iadd, 1) := by decide +kernel
theorem dX10_pull_74 : decode cX10_pull 74 = .ok (.iaload, 1) := by decide +kernel
theorem dX10_pull_75 : decode cX10_pull 75 = .ok (.bipush 100, 2) := by decide +kernel
theorem dX10_pull_77 : decode cX10_pull 77 = .ok (.idiv, 1) := by decide +kernel
theorem dX10_pull_78 : decode cX10_pull 78 = .ok (.iaload, 1) := by decide +kernel
theorem dX10_pull_79 : decode cX10_pull 79 = .ok (.idiv, 1) := by decide +kernel
theorem dX10_pull_80 : decode cX10_pull 80 = .ok (.istore 4, 2) := by decide +kernel
theorem dX10_pull_82 : decode cX10_pull 82 = .ok (.aload_n 0, 1) := by decide +kernel
theorem dX10_pull_83 : decode cX10_pull 83 = .ok (.getfield 7, 3) := by decide +kernel
theorem dX10_pull_86 : decode cX10_pull 86 = .ok (.iload_n 1, 1) := by decide +kernel
theorem dX10_pull_87 : decode cX10_pull 87 = .ok (.bipush 19, 2) := by decide +kernel
theorem dX10_pull_89 : decode cX10_pull 89 = .ok (.iadd, 1) := by decide +kernel
theorem dX10_pull_90 : decode cX10_pull 90 = .ok (.iaload, 1) := by decide +kernel
theorem dX10_pull_91 : decode cX10_pull 91 = .ok (.iload 4, 2) := by decide +kernel
theorem dX10_pull_93 : decode cX10_pull 93 = .ok (.iadd, 1) := by decide +kernel
theorem dX10_pull_94 : decode cX10_pull 94 = .ok (.istore 5, 2) := by decide +kernel
theorem dX10_pull_96 : decode cX10_pull 96 = .ok (.aload_n 0, 1) := by decide +kernel
theorem dX10_pull_97 : decode cX10_pull 97 = .ok (.getfield 7, 3) := by decide +kernel
theorem dX10_pull_100 : decode cX10_pull 100 = .ok (.iload_n 1, 1) := by decide +kernel
theorem dX10_pull_101 : decode cX10_pull 101 = .ok (.bipush 19, 2) := by decide +kernel
theorem dX10_pull_103 : decode cX10_pull 103 = .ok (.iadd, 1) := by decide +kernel
theorem dX10_pull_104 : decode cX10_pull 104 = .ok (.iload 5, 2) := by decide +kernel
theorem dX10_pull_106 : decode cX10_pull 106 = .ok (.bipush 100, 2) := by decide +kernel
theorem dX10_pull_108 : decode cX10_pull 108 = .ok (.aload_n 0, 1) := by decide +kernel
theorem dX10_pull_109 : decode cX10_pull 109 = .ok (.getfield 144, 3) := by decide +kernel
theorem dX10_pull_112 : decode cX10_pull 112 = .ok (.imul, 1) := by decide +kernel
theorem dX10_pull_113 : decode cX10_pull 113 = .ok (.if_icmp .le 13, 3) := by decide +kernel
theorem dX10_pull_116 : decode cX10_pull 116 = .ok (.bipush 100, 2) := by decide +kernel
theorem dX10_pull_118 : decode cX10_pull 118 = .ok (.aload_n 0, 1) := by decide +kernel
theorem dX10_pull_119 : decode cX10_pull 119 = .ok (.getfield 144, 3) := by decide +kernel
theorem dX10_pull_122 : decode cX10_pull 122 = .ok (.imul, 1) := by decide +kernel
theorem dX10_pull_123 : decode cX10_pull 123 = .ok (.goto 5, 3) := by decide +kernel
theorem dX10_pull_126 : decode cX10_pull 126 = .ok (.iload 5, 2) := by decide +kernel
theorem dX10_pull_128 : decode cX10_pull 128 = .ok (.iastore, 1) := by decide +kernel
theorem dX10_pull_129 : decode cX10_pull 129 = .ok (.aload_n 0, 1) := by decide +kernel
theorem dX10_pull_130 : decode cX10_pull 130 = .ok (.getfield 7, 3) := by decide +kernel
theorem dX10_pull_133 : decode cX10_pull 133 = .ok (.iload_n 1, 1) := by decide +kernel
theorem dX10_pull_134 : decode cX10_pull 134 = .ok (.bipush 22, 2) := by decide +kernel
theorem dX10_pull_136 : decode cX10_pull 136 = .ok (.iadd, 1) := by decide +kernel
theorem dX10_pull_137 : decode cX10_pull 137 = .ok (.dup2, 1) := by decide +kernel
theorem dX10_pull_138 : decode cX10_pull 138 = .ok (.iaload, 1) := by decide +kernel
theorem dX10_pull_139 : decode cX10_pull 139 = .ok (.aload_n 0, 1) := by decide +kernel
theorem dX10_pull_140 : decode cX10_pull 140 = .ok (.getfield 150, 3) := by decide +kernel
theorem dX10_pull_143 : decode cX10_pull 143 = .ok (.iadd, 1) := by decide +kernel
theorem dX10_pull_144 : decode cX10_pull 144 = .ok (.iastore, 1) := by decide +kernel
theorem dX10_pull_145 : decode cX10_pull 145 = .ok (.aload_n 0, 1) := by decide +kernel
theorem dX10_pull_146 : decode cX10_pull 146 = .ok (.iload_n 1, 1) := by decide +kernel
theorem dX10_pull_147 : decode cX10_pull 147 = .ok (.iconst 4, 1) := by decide +kernel
theorem dX10_pull_148 : decode cX10_pull 148 = .ok (.iadd, 1) := by decide +kernel
theorem dX10_pull_149 : decode cX10_pull 149 = .ok (.iload_n 2, 1) := by decide +kernel
theorem dX10_pull_150 : decode cX10_pull 150 = .ok (.iadd, 1) := by decide +kernel
theorem dX10_pull_151 : decode cX10_pull 151 = .ok (.aload_n 0, 1) := by decide +kernel
theorem dX10_pull_152 : decode cX10_pull 152 = .ok (.getfield 26, 3) := by decide +kernel
theorem dX10_pull_155 : decode cX10_pull 155 = .ok (.iload_n 2, 1) := by decide +kernel
theorem dX10_pull_156 : decode cX10_pull 156 = .ok (.iaload, 1) := by decide +kernel
theorem dX10_pull_157 : decode cX10_pull 157 = .ok (.invokevirtual 178, 3) := by decide +kernel
theorem dX10_pull_160 : decode cX10_pull 160 = .ok (.aload_n 0, 1) := by decide +kernel
theorem dX10_pull_161 : decode cX10_pull 161 = .ok (.iload_n 1, 1) := by decide +kernel
theorem dX10_pull_162 : decode cX10_pull 162 = .ok (.iconst 4, 1) := by decide +kernel
theorem dX10_pull_163 : decode cX10_pull 163 = .ok (.iadd, 1) := by decide +kernel
theorem dX10_pull_164 : decode cX10_pull 164 = .ok (.iload_n 3, 1) := by decide +kernel
theorem dX10_pull_165 : decode cX10_pull 165 = .ok (.iadd, 1) := by decide +kernel
theorem dX10_pull_166 : decode cX10_pull 166 = .ok (.iconst (-1), 1) := by decide +kernel
theorem dX10_pull_167 : decode cX10_pull 167 = .ok (.invokevirtual 178, 3) := by decide +kernel
theorem dX10_pull_170 : decode cX10_pull 170 = .ok (.aload_n 0, 1) := by decide +kernel
theorem dX10_pull_171 : decode cX10_pull 171 = .ok (.iload_n 1, 1) := by decide +kernel
theorem dX10_pull_172 : decode cX10_pull 172 = .ok (.iload_n 2, 1) := by decide +kernel
theorem dX10_pull_173 : decode cX10_pull 173 = .ok (.iload_n 3, 1) := by decide +kernel
theorem dX10_pull_174 : decode cX10_pull 174 = .ok (.invokevirtual 188, 3) := by decide +kernel
theorem dX10_pull_177 : decode cX10_pull 177 = .ok (.aload_n 0, 1) := by decide +kernel
theorem dX10_pull_178 : decode cX10_pull 178 = .ok (.getfield 7, 3) := by decide +kernel
theorem dX10_pull_181 : decode cX10_pull 181 = .ok (.iload_n 1, 1) := by decide +kernel
theorem dX10_pull_182 : decode cX10_pull 182 = .ok (.bipush 21, 2) := by decide +kernel
theorem dX10_pull_184 : decode cX10_pull 184 = .ok (.iadd, 1) := by decide +kernel
theorem dX10_pull_185 : decode cX10_pull 185 = .ok (.dup2, 1) := by decide +kernel
theorem dX10_pull_186 : decode cX10_pull 186 = .ok (.iaload, 1) := by decide +kernel
theorem dX10_pull_187 : decode cX10_pull 187 = .ok (.iload 4, 2) := by decide +kernel
theorem dX10_pull_189 : decode cX10_pull 189 = .ok (.ifCond .le 35, 3) := by decide +kernel
theorem dX10_pull_192 : decode cX10_pull 192 = .ok (.aload_n 0, 1) := by decide +kernel
theorem dX10_pull_193 : decode cX10_pull 193 = .ok (.getfield 23, 3) := by decide +kernel
theorem dX10_pull_196 : decode cX10_pull 196 = .ok (.aload_n 0, 1) := by decide +kernel
theorem dX10_pull_197 : decode cX10_pull 197 = .ok (.getfield 7, 3) := by decide +kernel
theorem dX10_pull_200 : decode cX10_pull 200 = .ok (.iload_n 1, 1) := by decide +kernel
theorem dX10_pull_201 : decode cX10_pull 201 = .ok (.bipush 16, 2) := by decide +kernel
theorem dX10_pull_203 : decode cX10_pull 203 = .ok (.iadd, 1) := by decide +kernel
theorem dX10_pull_204 : decode cX10_pull 204 = .ok (.iaload, 1) := by decide +kernel
theorem dX10_pull_205 : decode cX10_pull 205 = .ok (.iaload, 1) := by decide +kernel
theorem dX10_pull_206 : decode cX10_pull 206 = .ok (.aload_n 0, 1) := by decide +kernel
theorem dX10_pull_207 : decode cX10_pull 207 = .ok (.getfield 23, 3) := by decide +kernel
theorem dX10_pull_210 : decode cX10_pull 210 = .ok (.aload_n 0, 1) := by decide +kernel
theorem dX10_pull_211 : decode cX10_pull 211 = .ok (.getfield 7, 3) := by decide +kernel
theorem dX10_pull_214 : decode cX10_pull 214 = .ok (.iload_n 1, 1) := by decide +kernel
theorem dX10_pull_215 : decode cX10_pull 215 = .ok (.bipush 17, 2) := by decide +kernel
theorem dX10_pull_217 : decode cX10_pull 217 = .ok (.iadd, 1) := by decide +kernel
theorem dX10_pull_218 : decode cX10_pull 218 = .ok (.iaload, 1) := by decide +kernel
theorem dX10_pull_219 : decode cX10_pull 219 = .ok (.iaload, 1) := by decide +kernel
theorem dX10_pull_220 : decode cX10_pull 220 = .ok (.isub, 1) := by decide +kernel
theorem dX10_pull_221 : decode cX10_pull 221 = .ok (.goto 4, 3) := by decide +kernel
theorem dX10_pull_224 : decode cX10_pull 224 = .ok (.iconst 0, 1) := by decide +kernel
theorem dX10_pull_225 : decode cX10_pull 225 = .ok (.iadd, 1) := by decide +kernel
theorem dX10_pull_226 : decode cX10_pull 226 = .ok (.iastore, 1) := by decide +kernel
theorem dX10_pull_227 : decode cX10_pull 227 = .ok (.aload_n 0, 1) := by decide +kernel
theorem dX10_pull_228 : decode cX10_pull 228 = .ok (.getfield 7, 3) := by decide +kernel
theorem dX10_pull_231 : decode cX10_pull 231 = .ok (.iload_n 1, 1) := by decide +kernel
theorem dX10_pull_232 : decode cX10_pull 232 = .ok (.bipush 20, 2) := by decide +kernel
theorem dX10_pull_234 : decode cX10_pull 234 = .ok (.iadd, 1) := by decide +kernel
theorem dX10_pull_235 : decode cX10_pull 235 = .ok (.dup2, 1) := by decide +kernel
theorem dX10_pull_236 : decode cX10_pull 236 = .ok (.iaload, 1) := by decide +kernel
theorem dX10_pull_237 : decode cX10_pull 237 = .ok (.iconst 1, 1) := by decide +kernel
theorem dX10_pull_238 : decode cX10_pull 238 = .ok (.iadd, 1) := by decide +kernel
theorem dX10_pull_239 : decode cX10_pull 239 = .ok (.iastore, 1) := by decide +kernel
theorem dX10_pull_240 : decode cX10_pull 240 = .ok (.aload_n 0, 1) := by decide +kernel
theorem dX10_pull_241 : decode cX10_pull 241 = .ok (.getfield 7, 3) := by decide +kernel
theorem dX10_pull_244 : decode cX10_pull 244 = .ok (.iload_n 1, 1) := by decide +kernel
theorem dX10_pull_245 : decode cX10_pull 245 = .ok (.bipush 18, 2) := by decide +kernel
theorem dX10_pull_247 : decode cX10_pull 247 = .ok (.iadd, 1) := by decide +kernel
theorem dX10_pull_248 : decode cX10_pull 248 = .ok (.iload_n 3, 1) := by decide +kernel
theorem dX10_pull_249 : decode cX10_pull 249 = .ok (.iastore, 1) := by decide +kernel
theorem dX10_pull_250 : decode cX10_pull 250 = .ok (.iload 4, 2) := by decide +kernel
theorem dX10_pull_252 : decode cX10_pull 252 = .ok (.ireturn, 1) := by decide +kernel
theorem dX10_relax_0 : decode cX10_relax 0 = .ok (.aload_n 0, 1) := by decide +kernel
theorem dX10_relax_1 : decode cX10_relax 1 = .ok (.iload_n 1, 1) := by decide +kernel
theorem dX10_relax_2 : decode cX10_relax 2 = .ok (.iconst 4, 1) := by decide +kernel
theorem dX10_relax_3 : decode cX10_relax 3 = .ok (.iadd, 1) := by decide +kernel
theorem dX10_relax_4 : decode cX10_relax 4 = .ok (.aload_n 0, 1) := by decide +kernel
theorem dX10_relax_5 : decode cX10_relax 5 = .ok (.getfield 7, 3) := by decide +kernel
theorem dX10_relax_8 : decode cX10_relax 8 = .ok (.iload_n 1, 1) := by decide +kernel
theorem dX10_relax_9 : decode cX10_relax 9 = .ok (.bipush 16, 2) := by decide +kernel
theorem dX10_relax_11 : decode cX10_relax 11 = .ok (.iadd, 1) := by decide +kernel
theorem dX10_relax_12 : decode cX10_relax 12 = .ok (.iaload, 1) := by decide +kernel
theorem dX10_relax_13 : decode cX10_relax 13 = .ok (.iadd, 1) := by decide +kernel
theorem dX10_relax_14 : decode cX10_relax 14 = .ok (.bipush (-3), 2) := by decide +kernel
theorem dX10_relax_16 : decode cX10_relax 16 = .ok (.iload_n 2, 1) := by decide +kernel
theorem dX10_relax_17 : decode cX10_relax 17 = .ok (.imul, 1) := by decide +kernel
theorem dX10_relax_18 : decode cX10_relax 18 = .ok (.invokevirtual 178, 3) := by decide +kernel
theorem dX10_relax_21 : decode cX10_relax 21 = .ok (.aload_n 0, 1) := by decide +kernel
theorem dX10_relax_22 : decode cX10_relax 22 = .ok (.iload_n 1, 1) := by decide +kernel
theorem dX10_relax_23 : decode cX10_relax 23 = .ok (.iconst 4, 1) := by decide +kernel
theorem dX10_relax_24 : decode cX10_relax 24 = .ok (.iadd, 1) := by decide +kernel
theorem dX10_relax_25 : decode cX10_relax 25 = .ok (.aload_n 0, 1) := by decide +kernel
theorem dX10_relax_26 : decode cX10_relax 26 = .ok (.getfield 7, 3) := by decide +kernel
theorem dX10_relax_29 : decode cX10_relax 29 = .ok (.iload_n 1, 1) := by decide +kernel
theorem dX10_relax_30 : decode cX10_relax 30 = .ok (.bipush 17, 2) := by decide +kernel
theorem dX10_relax_32 : decode cX10_relax 32 = .ok (.iadd, 1) := by decide +kernel
theorem dX10_relax_33 : decode cX10_relax 33 = .ok (.iaload, 1) := by decide +kernel
theorem dX10_relax_34 : decode cX10_relax 34 = .ok (.iadd, 1) := by decide +kernel
theorem dX10_relax_35 : decode cX10_relax 35 = .ok (.bipush (-3), 2) := by decide +kernel
theorem dX10_relax_37 : decode cX10_relax 37 = .ok (.iload_n 2, 1) := by decide +kernel
theorem dX10_relax_38 : decode cX10_relax 38 = .ok (.imul, 1) := by decide +kernel
theorem dX10_relax_39 : decode cX10_relax 39 = .ok (.invokevirtual 178, 3) := by decide +kernel
theorem dX10_relax_42 : decode cX10_relax 42 = .ok (.aload_n 0, 1) := by decide +kernel
theorem dX10_relax_43 : decode cX10_relax 43 = .ok (.getfield 7, 3) := by decide +kernel
theorem dX10_relax_46 : decode cX10_relax 46 = .ok (.iload_n 1, 1) := by decide +kernel
theorem dX10_relax_47 : decode cX10_relax 47 = .ok (.bipush 20, 2) := by decide +kernel
theorem dX10_relax_49 : decode cX10_relax 49 = .ok (.iadd, 1) := by decide +kernel
theorem dX10_relax_50 : decode cX10_relax 50 = .ok (.dup2, 1) := by decide +kernel
theorem dX10_relax_51 : decode cX10_relax 51 = .ok (.iaload, 1) := by decide +kernel
theorem dX10_relax_52 : decode cX10_relax 52 = .ok (.iload_n 2, 1) := by decide +kernel
theorem dX10_relax_53 : decode cX10_relax 53 = .ok (.iadd, 1) := by decide +kernel
theorem dX10_relax_54 : decode cX10_relax 54 = .ok (.iastore, 1) := by decide +kernel
theorem dX10_relax_55 : decode cX10_relax 55 = .ok (.return_, 1) := by decide +kernel
theorem dX10_copy_0 : decode cX10_copy 0 = .ok (.iconst 0, 1) := by decide +kernel
theorem dX10_copy_1 : decode cX10_copy 1 = .ok (.istore_n 3, 1) := by decide +kernel
theorem dX10_copy_2 : decode cX10_copy 2 = .ok (.iload_n 3, 1) := by decide +kernel
theorem dX10_copy_3 : decode cX10_copy 3 = .ok (.bipush 28, 2) := by decide +kernel
theorem dX10_copy_5 : decode cX10_copy 5 = .ok (.if_icmp .ge 25, 3) := by decide +kernel
theorem dX10_copy_8 : decode cX10_copy 8 = .ok (.aload_n 0, 1) := by decide +kernel
theorem dX10_copy_9 : decode cX10_copy 9 = .ok (.getfield 7, 3) := by decide +kernel
theorem dX10_copy_12 : decode cX10_copy 12 = .ok (.iload_n 2, 1) := by decide +kernel
theorem dX10_copy_13 : decode cX10_copy 13 = .ok (.iload_n 3, 1) := by decide +kernel
theorem dX10_copy_14 : decode cX10_copy 14 = .ok (.iadd, 1) := by decide +kernel
theorem dX10_copy_15 : decode cX10_copy 15 = .ok (.aload_n 0, 1) := by decide +kernel
theorem dX10_copy_16 : decode cX10_copy 16 = .ok (.getfield 7, 3) := by decide +kernel
theorem dX10_copy_19 : decode cX10_copy 19 = .ok (.iload_n 1, 1) := by decide +kernel
theorem dX10_copy_20 : decode cX10_copy 20 = .ok (.iload_n 3, 1) := by decide +kernel
theorem dX10_copy_21 : decode cX10_copy 21 = .ok (.iadd, 1) := by decide +kernel
theorem dX10_copy_22 : decode cX10_copy 22 = .ok (.iaload, 1) := by decide +kernel
theorem dX10_copy_23 : decode cX10_copy 23 = .ok (.iastore, 1) := by decide +kernel
theorem dX10_copy_24 : decode cX10_copy 24 = .ok (.iinc 3 1, 3) := by decide +kernel
theorem dX10_copy_27 : decode cX10_copy 27 = .ok (.goto (-25), 3) := by decide +kernel
theorem dX10_copy_30 : decode cX10_copy 30 = .ok (.return_, 1) := by decide +kernel
theorem dX10_remember_0 : decode cX10_remember 0 = .ok (.aload_n 0, 1) := by decide +kernel
theorem dX10_remember_1 : decode cX10_remember 1 = .ok (.getfield 163, 3) := by decide +kernel
theorem dX10_remember_4 : decode cX10_remember 4 = .ok (.bipush 30, 2) := by decide +kernel
theorem dX10_remember_6 : decode cX10_remember 6 = .ok (.if_icmp .ne 47, 3) := by decide +kernel
theorem dX10_remember_9 : decode cX10_remember 9 = .ok (.iconst 1, 1) := by decide +kernel
theorem dX10_remember_10 : decode cX10_remember 10 = .ok (.istore_n 1, 1) := by decide +kernel
theorem dX10_remember_11 : decode cX10_remember 11 = .ok (.iload_n 1, 1) := by decide +kernel
theorem dX10_remember_12 : decode cX10_remember 12 = .ok (.bipush 30, 2) := by decide +kernel
theorem dX10_remember_14 : decode cX10_remember 14 = .ok (.if_icmp .ge 29, 3) := by decide +kernel
theorem dX10_remember_17 : decode cX10_remember 17 = .ok (.aload_n 0, 1) := by decide +kernel
theorem dX10_remember_18 : decode cX10_remember 18 = .ok (.bipush 112, 2) := by decide +kernel
theorem dX10_remember_20 : decode cX10_remember 20 = .ok (.bipush 28, 2) := by decide +kernel
theorem dX10_remember_22 : decode cX10_remember 22 = .ok (.iload_n 1, 1) := by decide +kernel
theorem dX10_remember_23 : decode cX10_remember 23 = .ok (.imul, 1) := by decide +kernel
theorem dX10_remember_24 : decode cX10_remember 24 = .ok (.iadd, 1) := by decide +kernel
theorem dX10_remember_25 : decode cX10_remember 25 = .ok (.bipush 112, 2) := by decide +kernel
theorem dX10_remember_27 : decode cX10_remember 27 = .ok (.bipush 28, 2) := by decide +kernel
theorem dX10_remember_29 : decode cX10_remember 29 = .ok (.iload_n 1, 1) := by decide +kernel
theorem dX10_remember_30 : decode cX10_remember 30 = .ok (.iconst 1, 1) := by decide +kernel
theorem dX10_remember_31 : decode cX10_remember 31 = .ok (.isub, 1) := by decide +kernel
theorem dX10_remember_32 : decode cX10_remember 32 = .ok (.imul, 1) := by decide +kernel
theorem dX10_remember_33 : decode cX10_remember 33 = .ok (.iadd, 1) := by decide +kernel
theorem dX10_remember_34 : decode cX10_remember 34 = .ok (.invokevirtual 191, 3) := by decide +kernel
theorem dX10_remember_37 : decode cX10_remember 37 = .ok (.iinc 1 1, 3) := by decide +kernel
