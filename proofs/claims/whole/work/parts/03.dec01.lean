theorem dX6_findWedge_56 : decode cX6_findWedge 56 = .ok (.iload 4, 2) := by decide +kernel
theorem dX6_findWedge_58 : decode cX6_findWedge 58 = .ok (.bipush 99, 2) := by decide +kernel
theorem dX6_findWedge_60 : decode cX6_findWedge 60 = .ok (.if_icmp .gt 88, 3) := by decide +kernel
theorem dX6_findWedge_63 : decode cX6_findWedge 63 = .ok (.aload_n 0, 1) := by decide +kernel
theorem dX6_findWedge_64 : decode cX6_findWedge 64 = .ok (.getfield 12, 3) := by decide +kernel
theorem dX6_findWedge_67 : decode cX6_findWedge 67 = .ok (.aload_n 1, 1) := by decide +kernel
theorem dX6_findWedge_68 : decode cX6_findWedge 68 = .ok (.invokevirtual 52, 3) := by decide +kernel
theorem dX6_findWedge_71 : decode cX6_findWedge 71 = .ok (.ifCond .ne 77, 3) := by decide +kernel
theorem dX6_findWedge_74 : decode cX6_findWedge 74 = .ok (.aload_n 0, 1) := by decide +kernel
theorem dX6_findWedge_75 : decode cX6_findWedge 75 = .ok (.getfield 18, 3) := by decide +kernel
theorem dX6_findWedge_78 : decode cX6_findWedge 78 = .ok (.aload_n 0, 1) := by decide +kernel
theorem dX6_findWedge_79 : decode cX6_findWedge 79 = .ok (.getfield 12, 3) := by decide +kernel
theorem dX6_findWedge_82 : decode cX6_findWedge 82 = .ok (.invokevirtual 21, 3) := by decide +kernel
theorem dX6_findWedge_85 : decode cX6_findWedge 85 = .ok (.aload_n 0, 1) := by decide +kernel
theorem dX6_findWedge_86 : decode cX6_findWedge 86 = .ok (.getfield 18, 3) := by decide +kernel
theorem dX6_findWedge_89 : decode cX6_findWedge 89 = .ok (.iconst 1, 1) := by decide +kernel
theorem dX6_findWedge_90 : decode cX6_findWedge 90 = .ok (.putfield 133, 3) := by decide +kernel
theorem dX6_findWedge_93 : decode cX6_findWedge 93 = .ok (.iload 4, 2) := by decide +kernel
theorem dX6_findWedge_95 : decode cX6_findWedge 95 = .ok (.aload_n 0, 1) := by decide +kernel
theorem dX6_findWedge_96 : decode cX6_findWedge 96 = .ok (.aload_n 1, 1) := by decide +kernel
theorem dX6_findWedge_97 : decode cX6_findWedge 97 = .ok (.aload_n 0, 1) := by decide +kernel
theorem dX6_findWedge_98 : decode cX6_findWedge 98 = .ok (.getfield 18, 3) := by decide +kernel
theorem dX6_findWedge_101 : decode cX6_findWedge 101 = .ok (.sipush 999, 3) := by decide +kernel
theorem dX6_findWedge_104 : decode cX6_findWedge 104 = .ok (.iload 4, 2) := by decide +kernel
theorem dX6_findWedge_106 : decode cX6_findWedge 106 = .ok (.isub, 1) := by decide +kernel
theorem dX6_findWedge_107 : decode cX6_findWedge 107 = .ok (.invokevirtual 25, 3) := by decide +kernel
theorem dX6_findWedge_110 : decode cX6_findWedge 110 = .ok (.iadd, 1) := by decide +kernel
theorem dX6_findWedge_111 : decode cX6_findWedge 111 = .ok (.iconst 3, 1) := by decide +kernel
theorem dX6_findWedge_112 : decode cX6_findWedge 112 = .ok (.iadd, 1) := by decide +kernel
theorem dX6_findWedge_113 : decode cX6_findWedge 113 = .ok (.istore 5, 2) := by decide +kernel
theorem dX6_findWedge_115 : decode cX6_findWedge 115 = .ok (.iload 5, 2) := by decide +kernel
theorem dX6_findWedge_117 : decode cX6_findWedge 117 = .ok (.aload_n 0, 1) := by decide +kernel
theorem dX6_findWedge_118 : decode cX6_findWedge 118 = .ok (.getfield 96, 3) := by decide +kernel
theorem dX6_findWedge_121 : decode cX6_findWedge 121 = .ok (.if_icmp .ge 12, 3) := by decide +kernel
theorem dX6_findWedge_124 : decode cX6_findWedge 124 = .ok (.aload_n 0, 1) := by decide +kernel
theorem dX6_findWedge_125 : decode cX6_findWedge 125 = .ok (.iload 5, 2) := by decide +kernel
theorem dX6_findWedge_127 : decode cX6_findWedge 127 = .ok (.putfield 96, 3) := by decide +kernel
theorem dX6_findWedge_130 : decode cX6_findWedge 130 = .ok (.iload 4, 2) := by decide +kernel
theorem dX6_findWedge_132 : decode cX6_findWedge 132 = .ok (.istore_n 3, 1) := by decide +kernel
theorem dX6_findWedge_133 : decode cX6_findWedge 133 = .ok (.aload_n 0, 1) := by decide +kernel
theorem dX6_findWedge_134 : decode cX6_findWedge 134 = .ok (.getfield 12, 3) := by decide +kernel
theorem dX6_findWedge_137 : decode cX6_findWedge 137 = .ok (.aload_n 1, 1) := by decide +kernel
theorem dX6_findWedge_138 : decode cX6_findWedge 138 = .ok (.invokevirtual 56, 3) := by decide +kernel
theorem dX6_findWedge_141 : decode cX6_findWedge 141 = .ok (.pop, 1) := by decide +kernel
theorem dX6_findWedge_142 : decode cX6_findWedge 142 = .ok (.iinc 4 1, 3) := by decide +kernel
theorem dX6_findWedge_145 : decode cX6_findWedge 145 = .ok (.goto (-89), 3) := by decide +kernel
theorem dX6_findWedge_148 : decode cX6_findWedge 148 = .ok (.iload_n 3, 1) := by decide +kernel
theorem dX6_findWedge_149 : decode cX6_findWedge 149 = .ok (.ireturn, 1) := by decide +kernel
theorem dX6_findRests_0 : decode cX6_findRests 0 = .ok (.aload_n 0, 1) := by decide +kernel
theorem dX6_findRests_1 : decode cX6_findRests 1 = .ok (.iconst (-1), 1) := by decide +kernel
theorem dX6_findRests_2 : decode cX6_findRests 2 = .ok (.putfield 137, 3) := by decide +kernel
theorem dX6_findRests_5 : decode cX6_findRests 5 = .ok (.iconst 0, 1) := by decide +kernel
theorem dX6_findRests_6 : decode cX6_findRests 6 = .ok (.istore 4, 2) := by decide +kernel
theorem dX6_findRests_8 : decode cX6_findRests 8 = .ok (.iconst 0, 1) := by decide +kernel
theorem dX6_findRests_9 : decode cX6_findRests 9 = .ok (.istore 5, 2) := by decide +kernel
theorem dX6_findRests_11 : decode cX6_findRests 11 = .ok (.iconst 0, 1) := by decide +kernel
theorem dX6_findRests_12 : decode cX6_findRests 12 = .ok (.istore 6, 2) := by decide +kernel
theorem dX6_findRests_14 : decode cX6_findRests 14 = .ok (.iload 6, 2) := by decide +kernel
theorem dX6_findRests_16 : decode cX6_findRests 16 = .ok (.iconst 1, 1) := by decide +kernel
theorem dX6_findRests_17 : decode cX6_findRests 17 = .ok (.iload_n 3, 1) := by decide +kernel
theorem dX6_findRests_18 : decode cX6_findRests 18 = .ok (.ishl, 1) := by decide +kernel
theorem dX6_findRests_19 : decode cX6_findRests 19 = .ok (.if_icmp .ge 66, 3) := by decide +kernel
theorem dX6_findRests_22 : decode cX6_findRests 22 = .ok (.iload 6, 2) := by decide +kernel
theorem dX6_findRests_24 : decode cX6_findRests 24 = .ok (.invokestatic 140, 3) := by decide +kernel
theorem dX6_findRests_27 : decode cX6_findRests 27 = .ok (.istore 7, 2) := by decide +kernel
theorem dX6_findRests_29 : decode cX6_findRests 29 = .ok (.aload_n 0, 1) := by decide +kernel
theorem dX6_findRests_30 : decode cX6_findRests 30 = .ok (.aload_n 1, 1) := by decide +kernel
theorem dX6_findRests_31 : decode cX6_findRests 31 = .ok (.aload_n 2, 1) := by decide +kernel
theorem dX6_findRests_32 : decode cX6_findRests 32 = .ok (.iload 6, 2) := by decide +kernel
theorem dX6_findRests_34 : decode cX6_findRests 34 = .ok (.iload_n 3, 1) := by decide +kernel
theorem dX6_findRests_35 : decode cX6_findRests 35 = .ok (.invokevirtual 146, 3) := by decide +kernel
theorem dX6_findRests_38 : decode cX6_findRests 38 = .ok (.istore 8, 2) := by decide +kernel
theorem dX6_findRests_40 : decode cX6_findRests 40 = .ok (.iload 8, 2) := by decide +kernel
theorem dX6_findRests_42 : decode cX6_findRests 42 = .ok (.aload_n 0, 1) := by decide +kernel
theorem dX6_findRests_43 : decode cX6_findRests 43 = .ok (.getfield 137, 3) := by decide +kernel
theorem dX6_findRests_46 : decode cX6_findRests 46 = .ok (.if_icmp .gt 19, 3) := by decide +kernel
theorem dX6_findRests_49 : decode cX6_findRests 49 = .ok (.iload 8, 2) := by decide +kernel
theorem dX6_findRests_51 : decode cX6_findRests 51 = .ok (.aload_n 0, 1) := by decide +kernel
theorem dX6_findRests_52 : decode cX6_findRests 52 = .ok (.getfield 137, 3) := by decide +kernel
theorem dX6_findRests_55 : decode cX6_findRests 55 = .ok (.if_icmp .ne 24, 3) := by decide +kernel
theorem dX6_findRests_58 : decode cX6_findRests 58 = .ok (.iload 7, 2) := by decide +kernel
theorem dX6_findRests_60 : decode cX6_findRests 60 = .ok (.iload 4, 2) := by decide +kernel
theorem dX6_findRests_62 : decode cX6_findRests 62 = .ok (.if_icmp .ge 17, 3) := by decide +kernel
theorem dX6_findRests_65 : decode cX6_findRests 65 = .ok (.aload_n 0, 1) := by decide +kernel
theorem dX6_findRests_66 : decode cX6_findRests 66 = .ok (.iload 8, 2) := by decide +kernel
theorem dX6_findRests_68 : decode cX6_findRests 68 = .ok (.putfield 137, 3) := by decide +kernel
theorem dX6_findRests_71 : decode cX6_findRests 71 = .ok (.iload 7, 2) := by decide +kernel
theorem dX6_findRests_73 : decode cX6_findRests 73 = .ok (.istore 4, 2) := by decide +kernel
theorem dX6_findRests_75 : decode cX6_findRests 75 = .ok (.iload 6, 2) := by decide +kernel
theorem dX6_findRests_77 : decode cX6_findRests 77 = .ok (.istore 5, 2) := by decide +kernel
theorem dX6_findRests_79 : decode cX6_findRests 79 = .ok (.iinc 6 1, 3) := by decide +kernel
theorem dX6_findRests_82 : decode cX6_findRests 82 = .ok (.goto (-68), 3) := by decide +kernel
theorem dX6_findRests_85 : decode cX6_findRests 85 = .ok (.iload 5, 2) := by decide +kernel
theorem dX6_findRests_87 : decode cX6_findRests 87 = .ok (.iload_n 3, 1) := by decide +kernel
theorem dX6_findRests_88 : decode cX6_findRests 88 = .ok (.invokestatic 149, 3) := by decide +kernel
theorem dX6_findRests_91 : decode cX6_findRests 91 = .ok (.ireturn, 1) := by decide +kernel
theorem dX6_depthBehind_0 : decode cX6_depthBehind 0 = .ok (.aload_n 0, 1) := by decide +kernel
theorem dX6_depthBehind_1 : decode cX6_depthBehind 1 = .ok (.getfield 12, 3) := by decide +kernel
theorem dX6_depthBehind_4 : decode cX6_depthBehind 4 = .ok (.aload_n 2, 1) := by decide +kernel
theorem dX6_depthBehind_5 : decode cX6_depthBehind 5 = .ok (.invokevirtual 21, 3) := by decide +kernel
theorem dX6_depthBehind_8 : decode cX6_depthBehind 8 = .ok (.iload 4, 2) := by decide +kernel
theorem dX6_depthBehind_10 : decode cX6_depthBehind 10 = .ok (.iconst 1, 1) := by decide +kernel
theorem dX6_depthBehind_11 : decode cX6_depthBehind 11 = .ok (.isub, 1) := by decide +kernel
theorem dX6_depthBehind_12 : decode cX6_depthBehind 12 = .ok (.istore 5, 2) := by decide +kernel
theorem dX6_depthBehind_14 : decode cX6_depthBehind 14 = .ok (.iload 5, 2) := by decide +kernel
theorem dX6_depthBehind_16 : decode cX6_depthBehind 16 = .ok (.ifCond .lt 50, 3) := by decide +kernel
theorem dX6_depthBehind_19 : decode cX6_depthBehind 19 = .ok (.aload_n 0, 1) := by decide +kernel
theorem dX6_depthBehind_20 : decode cX6_depthBehind 20 = .ok (.getfield 12, 3) := by decide +kernel
theorem dX6_depthBehind_23 : decode cX6_depthBehind 23 = .ok (.aload_n 1, 1) := by decide +kernel
theorem dX6_depthBehind_24 : decode cX6_depthBehind 24 = .ok (.invokevirtual 52, 3) := by decide +kernel
theorem dX6_depthBehind_27 : decode cX6_depthBehind 27 = .ok (.ifCond .ne 39, 3) := by decide +kernel
theorem dX6_depthBehind_30 : decode cX6_depthBehind 30 = .ok (.iload_n 3, 1) := by decide +kernel
theorem dX6_depthBehind_31 : decode cX6_depthBehind 31 = .ok (.iload 5, 2) := by decide +kernel
theorem dX6_depthBehind_33 : decode cX6_depthBehind 33 = .ok (.ishr, 1) := by decide +kernel
theorem dX6_depthBehind_34 : decode cX6_depthBehind 34 = .ok (.iconst 1, 1) := by decide +kernel
theorem dX6_depthBehind_35 : decode cX6_depthBehind 35 = .ok (.iand, 1) := by decide +kernel
theorem dX6_depthBehind_36 : decode cX6_depthBehind 36 = .ok (.iconst 1, 1) := by decide +kernel
theorem dX6_depthBehind_37 : decode cX6_depthBehind 37 = .ok (.if_icmp .ne 14, 3) := by decide +kernel
theorem dX6_depthBehind_40 : decode cX6_depthBehind 40 = .ok (.aload_n 0, 1) := by decide +kernel
theorem dX6_depthBehind_41 : decode cX6_depthBehind 41 = .ok (.getfield 12, 3) := by decide +kernel
theorem dX6_depthBehind_44 : decode cX6_depthBehind 44 = .ok (.iconst 1, 1) := by decide +kernel
theorem dX6_depthBehind_45 : decode cX6_depthBehind 45 = .ok (.invokevirtual 152, 3) := by decide +kernel
theorem dX6_depthBehind_48 : decode cX6_depthBehind 48 = .ok (.goto 12, 3) := by decide +kernel
theorem dX6_depthBehind_51 : decode cX6_depthBehind 51 = .ok (.aload_n 0, 1) := by decide +kernel
theorem dX6_depthBehind_52 : decode cX6_depthBehind 52 = .ok (.getfield 12, 3) := by decide +kernel
theorem dX6_depthBehind_55 : decode cX6_depthBehind 55 = .ok (.aload_n 1, 1) := by decide +kernel
theorem dX6_depthBehind_56 : decode cX6_depthBehind 56 = .ok (.invokevirtual 56, 3) := by decide +kernel
theorem dX6_depthBehind_59 : decode cX6_depthBehind 59 = .ok (.pop, 1) := by decide +kernel
theorem dX6_depthBehind_60 : decode cX6_depthBehind 60 = .ok (.iinc 5 (-1), 3) := by decide +kernel
theorem dX6_depthBehind_63 : decode cX6_depthBehind 63 = .ok (.goto (-49), 3) := by decide +kernel
theorem dX6_depthBehind_66 : decode cX6_depthBehind 66 = .ok (.aload_n 0, 1) := by decide +kernel
theorem dX6_depthBehind_67 : decode cX6_depthBehind 67 = .ok (.getfield 12, 3) := by decide +kernel
theorem dX6_depthBehind_70 : decode cX6_depthBehind 70 = .ok (.getfield 156, 3) := by decide +kernel
theorem dX6_depthBehind_73 : decode cX6_depthBehind 73 = .ok (.ireturn, 1) := by decide +kernel
theorem dX6_turnedRound_0 : decode cX6_turnedRound 0 = .ok (.iconst 0, 1) := by decide +kernel
theorem dX6_turnedRound_1 : decode cX6_turnedRound 1 = .ok (.istore_n 2, 1) := by decide +kernel
theorem dX6_turnedRound_2 : decode cX6_turnedRound 2 = .ok (.iconst 0, 1) := by decide +kernel
theorem dX6_turnedRound_3 : decode cX6_turnedRound 3 = .ok (.istore_n 3, 1) := by decide +kernel
theorem dX6_turnedRound_4 : decode cX6_turnedRound 4 = .ok (.iload_n 3, 1) := by decide +kernel
theorem dX6_turnedRound_5 : decode cX6_turnedRound 5 = .ok (.iload_n 1, 1) := by decide +kernel
theorem dX6_turnedRound_6 : decode cX6_turnedRound 6 = .ok (.if_icmp .ge 23, 3) := by decide +kernel
theorem dX6_turnedRound_9 : decode cX6_turnedRound 9 = .ok (.iload_n 2, 1) := by decide +kernel
theorem dX6_turnedRound_10 : decode cX6_turnedRound 10 = .ok (.iload_n 0, 1) := by decide +kernel
theorem dX6_turnedRound_11 : decode cX6_turnedRound 11 = .ok (.iload_n 1, 1) := by decide +kernel
theorem dX6_turnedRound_12 : decode cX6_turnedRound 12 = .ok (.iconst 1, 1) := by decide +kernel
theorem dX6_turnedRound_13 : decode cX6_turnedRound 13 = .ok (.isub, 1) := by decide +kernel
theorem dX6_turnedRound_14 : decode cX6_turnedRound 14 = .ok (.iload_n 3, 1) := by decide +kernel
theorem dX6_turnedRound_15 : decode cX6_turnedRound 15 = .ok (.isub, 1) := by decide +kernel
theorem dX6_turnedRound_16 : decode cX6_turnedRound 16 = .ok (.ishr, 1) := by decide +kernel
theorem dX6_turnedRound_17 : decode cX6_turnedRound 17 = .ok (.iconst 1, 1) := by decide +kernel
theorem dX6_turnedRound_18 : decode cX6_turnedRound 18 = .ok (.iand, 1) := by decide +kernel
theorem dX6_turnedRound_19 : decode cX6_turnedRound 19 = .ok (.iload_n 3, 1) := by decide +kernel
theorem dX6_turnedRound_20 : decode cX6_turnedRound 20 = .ok (.ishl, 1) := by decide +kernel
theorem dX6_turnedRound_21 : decode cX6_turnedRound 21 = .ok (.ior, 1) := by decide +kernel
theorem dX6_turnedRound_22 : decode cX6_turnedRound 22 = .ok (.istore_n 2, 1) := by decide +kernel
theorem dX6_turnedRound_23 : decode cX6_turnedRound 23 = .ok (.iinc 3 1, 3) := by decide +kernel
theorem dX6_turnedRound_26 : decode cX6_turnedRound 26 = .ok (.goto (-22), 3) := by decide +kernel
theorem dX6_turnedRound_29 : decode cX6_turnedRound 29 = .ok (.iload_n 2, 1) := by decide +kernel
theorem dX6_turnedRound_30 : decode cX6_turnedRound 30 = .ok (.ireturn, 1) := by decide +kernel
theorem dX6_gainByFile_0 : decode cX6_gainByFile 0 = .ok (.aload_n 0, 1) := by decide +kernel
theorem dX6_gainByFile_1 : decode cX6_gainByFile 1 = .ok (.aload_n 1, 1) := by decide +kernel
theorem dX6_gainByFile_2 : decode cX6_gainByFile 2 = .ok (.aload_n 2, 1) := by decide +kernel
theorem dX6_gainByFile_3 : decode cX6_gainByFile 3 = .ok (.invokevirtual 129, 3) := by decide +kernel
theorem dX6_gainByFile_6 : decode cX6_gainByFile 6 = .ok (.istore_n 3, 1) := by decide +kernel
theorem dX6_gainByFile_7 : decode cX6_gainByFile 7 = .ok (.aload_n 0, 1) := by decide +kernel
theorem dX6_gainByFile_8 : decode cX6_gainByFile 8 = .ok (.getfield 12, 3) := by decide +kernel
theorem dX6_gainByFile_11 : decode cX6_gainByFile 11 = .ok (.aload_n 2, 1) := by decide +kernel
theorem dX6_gainByFile_12 : decode cX6_gainByFile 12 = .ok (.invokevirtual 21, 3) := by decide +kernel
theorem dX6_gainByFile_15 : decode cX6_gainByFile 15 = .ok (.aload_n 0, 1) := by decide +kernel
theorem dX6_gainByFile_16 : decode cX6_gainByFile 16 = .ok (.getfield 12, 3) := by decide +kernel
theorem dX6_gainByFile_19 : decode cX6_gainByFile 19 = .ok (.bipush 9, 2) := by decide +kernel
theorem dX6_gainByFile_21 : decode cX6_gainByFile 21 = .ok (.aload_n 2, 1) := by decide +kernel
theorem dX6_gainByFile_22 : decode cX6_gainByFile 22 = .ok (.getfield 159, 3) := by decide +kernel
theorem dX6_gainByFile_25 : decode cX6_gainByFile 25 = .ok (.iconst 1, 1) := by decide +kernel
theorem dX6_gainByFile_26 : decode cX6_gainByFile 26 = .ok (.iadd, 1) := by decide +kernel
theorem dX6_gainByFile_27 : decode cX6_gainByFile 27 = .ok (.invokestatic 105, 3) := by decide +kernel
theorem dX6_gainByFile_30 : decode cX6_gainByFile 30 = .ok (.putfield 159, 3) := by decide +kernel
theorem dX6_gainByFile_33 : decode cX6_gainByFile 33 = .ok (.iload_n 3, 1) := by decide +kernel
theorem dX6_gainByFile_34 : decode cX6_gainByFile 34 = .ok (.aload_n 0, 1) := by decide +kernel
theorem dX6_gainByFile_35 : decode cX6_gainByFile 35 = .ok (.aload_n 1, 1) := by decide +kernel
theorem dX6_gainByFile_36 : decode cX6_gainByFile 36 = .ok (.aload_n 0, 1) := by decide +kernel
theorem dX6_gainByFile_37 : decode cX6_gainByFile 37 = .ok (.getfield 12, 3) := by decide +kernel
theorem dX6_gainByFile_40 : decode cX6_gainByFile 40 = .ok (.sipush 999, 3) := by decide +kernel
theorem dX6_gainByFile_43 : decode cX6_gainByFile 43 = .ok (.invokevirtual 25, 3) := by decide +kernel
theorem dX6_gainByFile_46 : decode cX6_gainByFile 46 = .ok (.isub, 1) := by decide +kernel
theorem dX6_gainByFile_47 : decode cX6_gainByFile 47 = .ok (.bipush 20, 2) := by decide +kernel
theorem dX6_gainByFile_49 : decode cX6_gainByFile 49 = .ok (.isub, 1) := by decide +kernel
theorem dX6_gainByFile_50 : decode cX6_gainByFile 50 = .ok (.ireturn, 1) := by decide +kernel
theorem dX6_habitsThatFit_0 : decode cX6_habitsThatFit 0 = .ok (.iconst 0, 1) := by decide +kernel
theorem dX6_habitsThatFit_1 : decode cX6_habitsThatFit 1 = .ok (.istore 6, 2) := by decide +kernel
theorem dX6_habitsThatFit_3 : decode cX6_habitsThatFit 3 = .ok (.iconst 0, 1) := by decide +kernel
theorem dX6_habitsThatFit_4 : decode cX6_habitsThatFit 4 = .ok (.istore 7, 2) := by decide +kernel
theorem dX6_habitsThatFit_6 : decode cX6_habitsThatFit 6 = .ok (.iload 7, 2) := by decide +kernel
theorem dX6_habitsThatFit_8 : decode cX6_habitsThatFit 8 = .ok (.bipush 9, 2) := by decide +kernel
theorem dX6_habitsThatFit_10 : decode cX6_habitsThatFit 10 = .ok (.if_icmp .gt 52, 3) := by decide +kernel
theorem dX6_habitsThatFit_13 : decode cX6_habitsThatFit 13 = .ok (.aload_n 0, 1) := by decide +kernel
theorem dX6_habitsThatFit_14 : decode cX6_habitsThatFit 14 = .ok (.aload_n 1, 1) := by decide +kernel
theorem dX6_habitsThatFit_15 : decode cX6_habitsThatFit 15 = .ok (.aload_n 2, 1) := by decide +kernel
theorem dX6_habitsThatFit_16 : decode cX6_habitsThatFit 16 = .ok (.iload_n 3, 1) := by decide +kernel
theorem dX6_habitsThatFit_17 : decode cX6_habitsThatFit 17 = .ok (.iload 4, 2) := by decide +kernel
theorem dX6_habitsThatFit_19 : decode cX6_habitsThatFit 19 = .ok (.invokevirtual 29, 3) := by decide +kernel
theorem dX6_habitsThatFit_22 : decode cX6_habitsThatFit 22 = .ok (.aload_n 0, 1) := by decide +kernel
theorem dX6_habitsThatFit_23 : decode cX6_habitsThatFit 23 = .ok (.getfield 12, 3) := by decide +kernel
theorem dX6_habitsThatFit_26 : decode cX6_habitsThatFit 26 = .ok (.getfield 162, 3) := by decide +kernel
theorem dX6_habitsThatFit_29 : decode cX6_habitsThatFit 29 = .ok (.iload 4, 2) := by decide +kernel
theorem dX6_habitsThatFit_31 : decode cX6_habitsThatFit 31 = .ok (.iload 7, 2) := by decide +kernel
theorem dX6_habitsThatFit_33 : decode cX6_habitsThatFit 33 = .ok (.invokestatic 111, 3) := by decide +kernel
theorem dX6_habitsThatFit_36 : decode cX6_habitsThatFit 36 = .ok (.aload_n 0, 1) := by decide +kernel
theorem dX6_habitsThatFit_37 : decode cX6_habitsThatFit 37 = .ok (.aload_n 1, 1) := by decide +kernel
theorem dX6_habitsThatFit_38 : decode cX6_habitsThatFit 38 = .ok (.aload 5, 2) := by decide +kernel
theorem dX6_habitsThatFit_40 : decode cX6_habitsThatFit 40 = .ok (.invokevirtual 165, 3) := by decide +kernel
theorem dX6_habitsThatFit_43 : decode cX6_habitsThatFit 43 = .ok (.iconst (-1), 1) := by decide +kernel
theorem dX6_habitsThatFit_44 : decode cX6_habitsThatFit 44 = .ok (.if_icmp .ne 12, 3) := by decide +kernel
theorem dX6_habitsThatFit_47 : decode cX6_habitsThatFit 47 = .ok (.iload 6, 2) := by decide +kernel
theorem dX6_habitsThatFit_49 : decode cX6_habitsThatFit 49 = .ok (.iconst 1, 1) := by decide +kernel
theorem dX6_habitsThatFit_50 : decode cX6_habitsThatFit 50 = .ok (.iload 7, 2) := by decide +kernel
theorem dX6_habitsThatFit_52 : decode cX6_habitsThatFit 52 = .ok (.ishl, 1) := by decide +kernel
theorem dX6_habitsThatFit_53 : decode cX6_habitsThatFit 53 = .ok (.ior, 1) := by decide +kernel
theorem dX6_habitsThatFit_54 : decode cX6_habitsThatFit 54 = .ok (.istore 6, 2) := by decide +kernel
theorem dX6_habitsThatFit_56 : decode cX6_habitsThatFit 56 = .ok (.iinc 7 1, 3) := by decide +kernel
theorem dX6_habitsThatFit_59 : decode cX6_habitsThatFit 59 = .ok (.goto (-53), 3) := by decide +kernel
theorem dX6_habitsThatFit_62 : decode cX6_habitsThatFit 62 = .ok (.iload 6, 2) := by decide +kernel
theorem dX6_habitsThatFit_64 : decode cX6_habitsThatFit 64 = .ok (.ireturn, 1) := by decide +kernel
theorem dX6_pairThatFits_0 : decode cX6_pairThatFits 0 = .ok (.iconst 0, 1) := by decide +kernel
theorem dX6_pairThatFits_1 : decode cX6_pairThatFits 1 = .ok (.istore 5, 2) := by decide +kernel
theorem dX6_pairThatFits_3 : decode cX6_pairThatFits 3 = .ok (.iconst 0, 1) := by decide +kernel
theorem dX6_pairThatFits_4 : decode cX6_pairThatFits 4 = .ok (.istore 6, 2) := by decide +kernel
theorem dX6_pairThatFits_6 : decode cX6_pairThatFits 6 = .ok (.iload 6, 2) := by decide +kernel
theorem dX6_pairThatFits_8 : decode cX6_pairThatFits 8 = .ok (.aload_n 1, 1) := by decide +kernel
theorem dX6_pairThatFits_9 : decode cX6_pairThatFits 9 = .ok (.getfield 119, 3) := by decide +kernel
theorem dX6_pairThatFits_12 : decode cX6_pairThatFits 12 = .ok (.if_icmp .ge 67, 3) := by decide +kernel
theorem dX6_pairThatFits_15 : decode cX6_pairThatFits 15 = .ok (.iconst 0, 1) := by decide +kernel
theorem dX6_pairThatFits_16 : decode cX6_pairThatFits 16 = .ok (.istore 7, 2) := by decide +kernel
theorem dX6_pairThatFits_18 : decode cX6_pairThatFits 18 = .ok (.iload 7, 2) := by decide +kernel
theorem dX6_pairThatFits_20 : decode cX6_pairThatFits 20 = .ok (.aload_n 1, 1) := by decide +kernel
theorem dX6_pairThatFits_21 : decode cX6_pairThatFits 21 = .ok (.getfield 119, 3) := by decide +kernel
theorem dX6_pairThatFits_24 : decode cX6_pairThatFits 24 = .ok (.if_icmp .ge 49, 3) := by decide +kernel
theorem dX6_pairThatFits_27 : decode cX6_pairThatFits 27 = .ok (.iload 6, 2) := by decide +kernel
theorem dX6_pairThatFits_29 : decode cX6_pairThatFits 29 = .ok (.iload 7, 2) := by decide +kernel
theorem dX6_pairThatFits_31 : decode cX6_pairThatFits 31 = .ok (.if_icmp .eq 36, 3) := by decide +kernel
theorem dX6_pairThatFits_34 : decode cX6_pairThatFits 34 = .ok (.aload_n 0, 1) := by decide +kernel
theorem dX6_pairThatFits_35 : decode cX6_pairThatFits 35 = .ok (.aload_n 1, 1) := by decide +kernel
theorem dX6_pairThatFits_36 : decode cX6_pairThatFits 36 = .ok (.aload_n 2, 1) := by decide +kernel
theorem dX6_pairThatFits_37 : decode cX6_pairThatFits 37 = .ok (.iload 6, 2) := by decide +kernel
theorem dX6_pairThatFits_39 : decode cX6_pairThatFits 39 = .ok (.iload 7, 2) := by decide +kernel
theorem dX6_pairThatFits_41 : decode cX6_pairThatFits 41 = .ok (.aload_n 3, 1) := by decide +kernel
theorem dX6_pairThatFits_42 : decode cX6_pairThatFits 42 = .ok (.invokevirtual 169, 3) := by decide +kernel
theorem dX6_pairThatFits_45 : decode cX6_pairThatFits 45 = .ok (.ifCond .eq 22, 3) := by decide +kernel
theorem dX6_pairThatFits_48 : decode cX6_pairThatFits 48 = .ok (.iload 5, 2) := by decide +kernel
theorem dX6_pairThatFits_50 : decode cX6_pairThatFits 50 = .ok (.iload 4, 2) := by decide +kernel
theorem dX6_pairThatFits_52 : decode cX6_pairThatFits 52 = .ok (.if_icmp .ne 12, 3) := by decide +kernel
theorem dX6_pairThatFits_55 : decode cX6_pairThatFits 55 = .ok (.bipush 10, 2) := by decide +kernel
theorem dX6_pairThatFits_57 : decode cX6_pairThatFits 57 = .ok (.iload 6, 2) := by decide +kernel
theorem dX6_pairThatFits_59 : decode cX6_pairThatFits 59 = .ok (.imul, 1) := by decide +kernel
theorem dX6_pairThatFits_60 : decode cX6_pairThatFits 60 = .ok (.iload 7, 2) := by decide +kernel
theorem dX6_pairThatFits_62 : decode cX6_pairThatFits 62 = .ok (.iadd, 1) := by decide +kernel
theorem dX6_pairThatFits_63 : decode cX6_pairThatFits 63 = .ok (.ireturn, 1) := by decide +kernel
theorem dX6_pairThatFits_64 : decode cX6_pairThatFits 64 = .ok (.iinc 5 1, 3) := by decide +kernel
theorem dX6_pairThatFits_67 : decode cX6_pairThatFits 67 = .ok (.iinc 7 1, 3) := by decide +kernel
theorem dX6_pairThatFits_70 : decode cX6_pairThatFits 70 = .ok (.goto (-52), 3) := by decide +kernel
theorem dX6_pairThatFits_73 : decode cX6_pairThatFits 73 = .ok (.iinc 6 1, 3) := by decide +kernel
theorem dX6_pairThatFits_76 : decode cX6_pairThatFits 76 = .ok (.goto (-70), 3) := by decide +kernel
theorem dX6_pairThatFits_79 : decode cX6_pairThatFits 79 = .ok (.iload 4, 2) := by decide +kernel
theorem dX6_pairThatFits_81 : decode cX6_pairThatFits 81 = .ok (.iconst (-1), 1) := by decide +kernel
theorem dX6_pairThatFits_82 : decode cX6_pairThatFits 82 = .ok (.if_icmp .ne 8, 3) := by decide +kernel
theorem dX6_pairThatFits_85 : decode cX6_pairThatFits 85 = .ok (.iload 5, 2) := by decide +kernel
theorem dX6_pairThatFits_87 : decode cX6_pairThatFits 87 = .ok (.goto 4, 3) := by decide +kernel
theorem dX6_pairThatFits_90 : decode cX6_pairThatFits 90 = .ok (.iconst (-1), 1) := by decide +kernel
theorem dX6_pairThatFits_91 : decode cX6_pairThatFits 91 = .ok (.ireturn, 1) := by decide +kernel
theorem dX6_fits_0 : decode cX6_fits 0 = .ok (.aload_n 0, 1) := by decide +kernel
theorem dX6_fits_1 : decode cX6_fits 1 = .ok (.aload_n 1, 1) := by decide +kernel
theorem dX6_fits_2 : decode cX6_fits 2 = .ok (.aload_n 2, 1) := by decide +kernel
theorem dX6_fits_3 : decode cX6_fits 3 = .ok (.iload_n 3, 1) := by decide +kernel
theorem dX6_fits_4 : decode cX6_fits 4 = .ok (.iload 4, 2) := by decide +kernel
theorem dX6_fits_6 : decode cX6_fits 6 = .ok (.invokevirtual 29, 3) := by decide +kernel
theorem dX6_fits_9 : decode cX6_fits 9 = .ok (.aload_n 0, 1) := by decide +kernel
theorem dX6_fits_10 : decode cX6_fits 10 = .ok (.aload_n 1, 1) := by decide +kernel
theorem dX6_fits_11 : decode cX6_fits 11 = .ok (.aload 5, 2) := by decide +kernel
theorem dX6_fits_13 : decode cX6_fits 13 = .ok (.invokevirtual 165, 3) := by decide +kernel
theorem dX6_fits_16 : decode cX6_fits 16 = .ok (.iconst (-1), 1) := by decide +kernel
theorem dX6_fits_17 : decode cX6_fits 17 = .ok (.if_icmp .ne 7, 3) := by decide +kernel
theorem dX6_fits_20 : decode cX6_fits 20 = .ok (.iconst 1, 1) := by decide +kernel
theorem dX6_fits_21 : decode cX6_fits 21 = .ok (.goto 4, 3) := by decide +kernel
theorem dX6_fits_24 : decode cX6_fits 24 = .ok (.iconst 0, 1) := by decide +kernel
theorem dX6_fits_25 : decode cX6_fits 25 = .ok (.ireturn, 1) := by decide +kernel
theorem dX6_wrongLine_0 : decode cX6_wrongLine 0 = .ok (.aload_n 0, 1) := by decide +kernel
theorem dX6_wrongLine_1 : decode cX6_wrongLine 1 = .ok (.getfield 12, 3) := by decide +kernel
theorem dX6_wrongLine_4 : decode cX6_wrongLine 4 = .ok (.aload_n 2, 1) := by decide +kernel
theorem dX6_wrongLine_5 : decode cX6_wrongLine 5 = .ok (.invokevirtual 21, 3) := by decide +kernel
theorem dX6_wrongLine_8 : decode cX6_wrongLine 8 = .ok (.aload_n 0, 1) := by decide +kernel
theorem dX6_wrongLine_9 : decode cX6_wrongLine 9 = .ok (.aload_n 1, 1) := by decide +kernel
theorem dX6_wrongLine_10 : decode cX6_wrongLine 10 = .ok (.aload_n 3, 1) := by decide +kernel
theorem dX6_wrongLine_11 : decode cX6_wrongLine 11 = .ok (.invokevirtual 165, 3) := by decide +kernel
theorem dX6_wrongLine_14 : decode cX6_wrongLine 14 = .ok (.ireturn, 1) := by decide +kernel
theorem dX6_firstWrong_0 : decode cX6_firstWrong 0 = .ok (.iconst 0, 1) := by decide +kernel
theorem dX6_firstWrong_1 : decode cX6_firstWrong 1 = .ok (.istore_n 3, 1) := by decide +kernel
theorem dX6_firstWrong_2 : decode cX6_firstWrong 2 = .ok (.iload_n 3, 1) := by decide +kernel
theorem dX6_firstWrong_3 : decode cX6_firstWrong 3 = .ok (.aload_n 2, 1) := by decide +kernel
theorem dX6_firstWrong_4 : decode cX6_firstWrong 4 = .ok (.getfield 173, 3) := by decide +kernel
theorem dX6_firstWrong_7 : decode cX6_firstWrong 7 = .ok (.if_icmp .ge 38, 3) := by decide +kernel
theorem dX6_firstWrong_10 : decode cX6_firstWrong 10 = .ok (.aload_n 0, 1) := by decide +kernel
theorem dX6_firstWrong_11 : decode cX6_firstWrong 11 = .ok (.getfield 12, 3) := by decide +kernel
theorem dX6_firstWrong_14 : decode cX6_firstWrong 14 = .ok (.aload_n 1, 1) := by decide +kernel
theorem dX6_firstWrong_15 : decode cX6_firstWrong 15 = .ok (.invokevirtual 52, 3) := by decide +kernel
theorem dX6_firstWrong_18 : decode cX6_firstWrong 18 = .ok (.ifCond .ne 19, 3) := by decide +kernel
theorem dX6_firstWrong_21 : decode cX6_firstWrong 21 = .ok (.aload_n 0, 1) := by decide +kernel
theorem dX6_firstWrong_22 : decode cX6_firstWrong 22 = .ok (.getfield 12, 3) := by decide +kernel
theorem dX6_firstWrong_25 : decode cX6_firstWrong 25 = .ok (.aload_n 1, 1) := by decide +kernel
theorem dX6_firstWrong_26 : decode cX6_firstWrong 26 = .ok (.invokevirtual 56, 3) := by decide +kernel
theorem dX6_firstWrong_29 : decode cX6_firstWrong 29 = .ok (.aload_n 2, 1) := by decide +kernel
theorem dX6_firstWrong_30 : decode cX6_firstWrong 30 = .ok (.iload_n 3, 1) := by decide +kernel
theorem dX6_firstWrong_31 : decode cX6_firstWrong 31 = .ok (.invokevirtual 178, 3) := by decide +kernel
theorem dX6_firstWrong_34 : decode cX6_firstWrong 34 = .ok (.if_icmp .eq 5, 3) := by decide +kernel
theorem dX6_firstWrong_37 : decode cX6_firstWrong 37 = .ok (.iload_n 3, 1) := by decide +kernel
theorem dX6_firstWrong_38 : decode cX6_firstWrong 38 = .ok (.ireturn, 1) := by decide +kernel
theorem dX6_firstWrong_39 : decode cX6_firstWrong 39 = .ok (.iinc 3 1, 3) := by decide +kernel
theorem dX6_firstWrong_42 : decode cX6_firstWrong 42 = .ok (.goto (-40), 3) := by decide +kernel
theorem dX6_firstWrong_45 : decode cX6_firstWrong 45 = .ok (.iconst (-1), 1) := by decide +kernel
theorem dX6_firstWrong_46 : decode cX6_firstWrong 46 = .ok (.ireturn, 1) := by decide +kernel
theorem dX7_init_0 : decode cX7_init 0 = .ok (.aload_n 0, 1) := by decide +kernel
theorem dX7_init_1 : decode cX7_init 1 = .ok (.invokespecial 3, 3) := by decide +kernel
theorem dX7_init_4 : decode cX7_init 4 = .ok (.aload_n 0, 1) := by decide +kernel
theorem dX7_init_5 : decode cX7_init 5 = .ok (.iconst (-1), 1) := by decide +kernel
theorem dX7_init_6 : decode cX7_init 6 = .ok (.putfield 9, 3) := by decide +kernel
theorem dX7_init_9 : decode cX7_init 9 = .ok (.aload_n 0, 1) := by decide +kernel
theorem dX7_init_10 : decode cX7_init 10 = .ok (.iconst (-1), 1) := by decide +kernel
theorem dX7_init_11 : decode cX7_init 11 = .ok (.putfield 15, 3) := by decide +kernel
theorem dX7_init_14 : decode cX7_init 14 = .ok (.aload_n 0, 1) := by decide +kernel
theorem dX7_init_15 : decode cX7_init 15 = .ok (.iconst (-1), 1) := by decide +kernel
theorem dX7_init_16 : decode cX7_init 16 = .ok (.putfield 18, 3) := by decide +kernel
theorem dX7_init_19 : decode cX7_init 19 = .ok (.aload_n 0, 1) := by decide +kernel
theorem dX7_init_20 : decode cX7_init 20 = .ok (.iconst 5, 1) := by decide +kernel
theorem dX7_init_21 : decode cX7_init 21 = .ok (.putfield 21, 3) := by decide +kernel
theorem dX7_init_24 : decode cX7_init 24 = .ok (.aload_n 0, 1) := by decide +kernel
theorem dX7_init_25 : decode cX7_init 25 = .ok (.iconst 4, 1) := by decide +kernel
theorem dX7_init_26 : decode cX7_init 26 = .ok (.newarray .int, 2) := by decide +kernel
theorem dX7_init_28 : decode cX7_init 28 = .ok (.putfield 24, 3) := by decide +kernel
theorem dX7_init_31 : decode cX7_init 31 = .ok (.aload_n 0, 1) := by decide +kernel
theorem dX7_init_32 : decode cX7_init 32 = .ok (.iconst 4, 1) := by decide +kernel
theorem dX7_init_33 : decode cX7_init 33 = .ok (.newarray .int, 2) := by decide +kernel
theorem dX7_init_35 : decode cX7_init 35 = .ok (.putfield 28, 3) := by decide +kernel
theorem dX7_init_38 : decode cX7_init 38 = .ok (.aload_n 0, 1) := by decide +kernel
theorem dX7_init_39 : decode cX7_init 39 = .ok (.iconst 4, 1) := by decide +kernel
theorem dX7_init_40 : decode cX7_init 40 = .ok (.newarray .int, 2) := by decide +kernel
theorem dX7_init_42 : decode cX7_init 42 = .ok (.putfield 31, 3) := by decide +kernel
theorem dX7_init_45 : decode cX7_init 45 = .ok (.aload_n 0, 1) := by decide +kernel
theorem dX7_init_46 : decode cX7_init 46 = .ok (.iconst 4, 1) := by decide +kernel
theorem dX7_init_47 : decode cX7_init 47 = .ok (.newarray .int, 2) := by decide +kernel
theorem dX7_init_49 : decode cX7_init 49 = .ok (.putfield 34, 3) := by decide +kernel
theorem dX7_init_52 : decode cX7_init 52 = .ok (.return_, 1) := by decide +kernel
theorem dX7_become_0 : decode cX7_become 0 = .ok (.aload_n 0, 1) := by decide +kernel
theorem dX7_become_1 : decode cX7_become 1 = .ok (.aload_n 1, 1) := by decide +kernel
theorem dX7_become_2 : decode cX7_become 2 = .ok (.getfield 9, 3) := by decide +kernel
theorem dX7_become_5 : decode cX7_become 5 = .ok (.putfield 9, 3) := by decide +kernel
theorem dX7_become_8 : decode cX7_become 8 = .ok (.aload_n 0, 1) := by decide +kernel
theorem dX7_become_9 : decode cX7_become 9 = .ok (.aload_n 1, 1) := by decide +kernel
theorem dX7_become_10 : decode cX7_become 10 = .ok (.getfield 15, 3) := by decide +kernel
theorem dX7_become_13 : decode cX7_become 13 = .ok (.putfield 15, 3) := by decide +kernel
theorem dX7_become_16 : decode cX7_become 16 = .ok (.aload_n 0, 1) := by decide +kernel
theorem dX7_become_17 : decode cX7_become 17 = .ok (.aload_n 1, 1) := by decide +kernel
theorem dX7_become_18 : decode cX7_become 18 = .ok (.getfield 18, 3) := by decide +kernel
theorem dX7_become_21 : decode cX7_become 21 = .ok (.putfield 18, 3) := by decide +kernel
theorem dX7_become_24 : decode cX7_become 24 = .ok (.aload_n 0, 1) := by decide +kernel
theorem dX7_become_25 : decode cX7_become 25 = .ok (.aload_n 1, 1) := by decide +kernel
theorem dX7_become_26 : decode cX7_become 26 = .ok (.getfield 37, 3) := by decide +kernel
theorem dX7_become_29 : decode cX7_become 29 = .ok (.putfield 37, 3) := by decide +kernel
theorem dX7_become_32 : decode cX7_become 32 = .ok (.aload_n 0, 1) := by decide +kernel
theorem dX7_become_33 : decode cX7_become 33 = .ok (.aload_n 1, 1) := by decide +kernel
theorem dX7_become_34 : decode cX7_become 34 = .ok (.getfield 40, 3) := by decide +kernel
theorem dX7_become_37 : decode cX7_become 37 = .ok (.putfield 40, 3) := by decide +kernel
theorem dX7_become_40 : decode cX7_become 40 = .ok (.aload_n 0, 1) := by decide +kernel
theorem dX7_become_41 : decode cX7_become 41 = .ok (.aload_n 1, 1) := by decide +kernel
theorem dX7_become_42 : decode cX7_become 42 = .ok (.getfield 43, 3) := by decide +kernel
theorem dX7_become_45 : decode cX7_become 45 = .ok (.putfield 43, 3) := by decide +kernel
theorem dX7_become_48 : decode cX7_become 48 = .ok (.aload_n 0, 1) := by decide +kernel
theorem dX7_become_49 : decode cX7_become 49 = .ok (.aload_n 1, 1) := by decide +kernel
theorem dX7_become_50 : decode cX7_become 50 = .ok (.getfield 46, 3) := by decide +kernel
theorem dX7_become_53 : decode cX7_become 53 = .ok (.putfield 46, 3) := by decide +kernel
theorem dX7_become_56 : decode cX7_become 56 = .ok (.aload_n 0, 1) := by decide +kernel
theorem dX7_become_57 : decode cX7_become 57 = .ok (.aload_n 1, 1) := by decide +kernel
theorem dX7_become_58 : decode cX7_become 58 = .ok (.getfield 21, 3) := by decide +kernel
theorem dX7_become_61 : decode cX7_become 61 = .ok (.putfield 21, 3) := by decide +kernel
theorem dX7_become_64 : decode cX7_become 64 = .ok (.aload_n 0, 1) := by decide +kernel
theorem dX7_become_65 : decode cX7_become 65 = .ok (.aload_n 1, 1) := by decide +kernel
theorem dX7_become_66 : decode cX7_become 66 = .ok (.getfield 49, 3) := by decide +kernel
theorem dX7_become_69 : decode cX7_become 69 = .ok (.putfield 49, 3) := by decide +kernel
theorem dX7_become_72 : decode cX7_become 72 = .ok (.aload_n 1, 1) := by decide +kernel
theorem dX7_become_73 : decode cX7_become 73 = .ok (.getfield 24, 3) := by decide +kernel
theorem dX7_become_76 : decode cX7_become 76 = .ok (.aload_n 0, 1) := by decide +kernel
theorem dX7_become_77 : decode cX7_become 77 = .ok (.getfield 24, 3) := by decide +kernel
theorem dX7_become_80 : decode cX7_become 80 = .ok (.invokestatic 53, 3) := by decide +kernel
theorem dX7_become_83 : decode cX7_become 83 = .ok (.aload_n 1, 1) := by decide +kernel
theorem dX7_become_84 : decode cX7_become 84 = .ok (.getfield 28, 3) := by decide +kernel
theorem dX7_become_87 : decode cX7_become 87 = .ok (.aload_n 0, 1) := by decide +kernel
theorem dX7_become_88 : decode cX7_become 88 = .ok (.getfield 28, 3) := by decide +kernel
theorem dX7_become_91 : decode cX7_become 91 = .ok (.invokestatic 53, 3) := by decide +kernel
theorem dX7_become_94 : decode cX7_become 94 = .ok (.aload_n 1, 1) := by decide +kernel
theorem dX7_become_95 : decode cX7_become 95 = .ok (.getfield 31, 3) := by decide +kernel
theorem dX7_become_98 : decode cX7_become 98 = .ok (.aload_n 0, 1) := by decide +kernel
theorem dX7_become_99 : decode cX7_become 99 = .ok (.getfield 31, 3) := by decide +kernel
theorem dX7_become_102 : decode cX7_become 102 = .ok (.invokestatic 53, 3) := by decide +kernel
theorem dX7_become_105 : decode cX7_become 105 = .ok (.aload_n 1, 1) := by decide +kernel
theorem dX7_become_106 : decode cX7_become 106 = .ok (.getfield 34, 3) := by decide +kernel
theorem dX7_become_109 : decode cX7_become 109 = .ok (.aload_n 0, 1) := by decide +kernel
theorem dX7_become_110 : decode cX7_become 110 = .ok (.getfield 34, 3) := by decide +kernel
theorem dX7_become_113 : decode cX7_become 113 = .ok (.invokestatic 53, 3) := by decide +kernel
theorem dX7_become_116 : decode cX7_become 116 = .ok (.return_, 1) := by decide +kernel
theorem dX7_startYard_0 : decode cX7_startYard 0 = .ok (.aload_n 0, 1) := by decide +kernel
theorem dX7_startYard_1 : decode cX7_startYard 1 = .ok (.iconst (-1), 1) := by decide +kernel
theorem dX7_startYard_2 : decode cX7_startYard 2 = .ok (.iconst (-1), 1) := by decide +kernel
theorem dX7_startYard_3 : decode cX7_startYard 3 = .ok (.invokevirtual 59, 3) := by decide +kernel
theorem dX7_startYard_6 : decode cX7_startYard 6 = .ok (.aload_n 0, 1) := by decide +kernel
theorem dX7_startYard_7 : decode cX7_startYard 7 = .ok (.aload_n 1, 1) := by decide +kernel
theorem dX7_startYard_8 : decode cX7_startYard 8 = .ok (.getfield 63, 3) := by decide +kernel
theorem dX7_startYard_11 : decode cX7_startYard 11 = .ok (.putfield 21, 3) := by decide +kernel
theorem dX7_startYard_14 : decode cX7_startYard 14 = .ok (.aload_n 1, 1) := by decide +kernel
theorem dX7_startYard_15 : decode cX7_startYard 15 = .ok (.getfield 66, 3) := by decide +kernel
theorem dX7_startYard_18 : decode cX7_startYard 18 = .ok (.aload_n 0, 1) := by decide +kernel
theorem dX7_startYard_19 : decode cX7_startYard 19 = .ok (.getfield 24, 3) := by decide +kernel
theorem dX7_startYard_22 : decode cX7_startYard 22 = .ok (.invokestatic 53, 3) := by decide +kernel
theorem dX7_startYard_25 : decode cX7_startYard 25 = .ok (.aload_n 1, 1) := by decide +kernel
theorem dX7_startYard_26 : decode cX7_startYard 26 = .ok (.getfield 69, 3) := by decide +kernel
theorem dX7_startYard_29 : decode cX7_startYard 29 = .ok (.aload_n 0, 1) := by decide +kernel
theorem dX7_startYard_30 : decode cX7_startYard 30 = .ok (.getfield 28, 3) := by decide +kernel
theorem dX7_startYard_33 : decode cX7_startYard 33 = .ok (.invokestatic 53, 3) := by decide +kernel
theorem dX7_startYard_36 : decode cX7_startYard 36 = .ok (.return_, 1) := by decide +kernel
theorem dX7_startLog_0 : decode cX7_startLog 0 = .ok (.aload_n 0, 1) := by decide +kernel
theorem dX7_startLog_1 : decode cX7_startLog 1 = .ok (.iload_n 1, 1) := by decide +kernel
theorem dX7_startLog_2 : decode cX7_startLog 2 = .ok (.putfield 9, 3) := by decide +kernel
theorem dX7_startLog_5 : decode cX7_startLog 5 = .ok (.aload_n 0, 1) := by decide +kernel
theorem dX7_startLog_6 : decode cX7_startLog 6 = .ok (.iload_n 2, 1) := by decide +kernel
theorem dX7_startLog_7 : decode cX7_startLog 7 = .ok (.putfield 15, 3) := by decide +kernel
theorem dX7_startLog_10 : decode cX7_startLog 10 = .ok (.aload_n 0, 1) := by decide +kernel
theorem dX7_startLog_11 : decode cX7_startLog 11 = .ok (.iload_n 1, 1) := by decide +kernel
theorem dX7_startLog_12 : decode cX7_startLog 12 = .ok (.putfield 18, 3) := by decide +kernel
theorem dX7_startLog_15 : decode cX7_startLog 15 = .ok (.aload_n 0, 1) := by decide +kernel
theorem dX7_startLog_16 : decode cX7_startLog 16 = .ok (.iconst 0, 1) := by decide +kernel
theorem dX7_startLog_17 : decode cX7_startLog 17 = .ok (.putfield 37, 3) := by decide +kernel
theorem dX7_startLog_20 : decode cX7_startLog 20 = .ok (.aload_n 0, 1) := by decide +kernel
theorem dX7_startLog_21 : decode cX7_startLog 21 = .ok (.iconst 0, 1) := by decide +kernel
theorem dX7_startLog_22 : decode cX7_startLog 22 = .ok (.putfield 40, 3) := by decide +kernel
theorem dX7_startLog_25 : decode cX7_startLog 25 = .ok (.aload_n 0, 1) := by decide +kernel
theorem dX7_startLog_26 : decode cX7_startLog 26 = .ok (.iconst 0, 1) := by decide +kernel
theorem dX7_startLog_27 : decode cX7_startLog 27 = .ok (.putfield 43, 3) := by decide +kernel
theorem dX7_startLog_30 : decode cX7_startLog 30 = .ok (.aload_n 0, 1) := by decide +kernel
theorem dX7_startLog_31 : decode cX7_startLog 31 = .ok (.iconst 0, 1) := by decide +kernel
theorem dX7_startLog_32 : decode cX7_startLog 32 = .ok (.putfield 46, 3) := by decide +kernel
theorem dX7_startLog_35 : decode cX7_startLog 35 = .ok (.aload_n 0, 1) := by decide +kernel
theorem dX7_startLog_36 : decode cX7_startLog 36 = .ok (.iconst 0, 1) := by decide +kernel
theorem dX7_startLog_37 : decode cX7_startLog 37 = .ok (.putfield 49, 3) := by decide +kernel
theorem dX7_startLog_40 : decode cX7_startLog 40 = .ok (.aload_n 0, 1) := by decide +kernel
theorem dX7_startLog_41 : decode cX7_startLog 41 = .ok (.getfield 31, 3) := by decide +kernel
theorem dX7_startLog_44 : decode cX7_startLog 44 = .ok (.iconst 0, 1) := by decide +kernel
theorem dX7_startLog_45 : decode cX7_startLog 45 = .ok (.invokestatic 72, 3) := by decide +kernel
theorem dX7_startLog_48 : decode cX7_startLog 48 = .ok (.aload_n 0, 1) := by decide +kernel
theorem dX7_startLog_49 : decode cX7_startLog 49 = .ok (.getfield 34, 3) := by decide +kernel
theorem dX7_startLog_52 : decode cX7_startLog 52 = .ok (.iconst 0, 1) := by decide +kernel
theorem dX7_startLog_53 : decode cX7_startLog 53 = .ok (.invokestatic 72, 3) := by decide +kernel
theorem dX7_startLog_56 : decode cX7_startLog 56 = .ok (.return_, 1) := by decide +kernel
theorem dX7_hasPair_0 : decode cX7_hasPair 0 = .ok (.aload_n 0, 1) := by decide +kernel
theorem dX7_hasPair_1 : decode cX7_hasPair 1 = .ok (.getfield 9, 3) := by decide +kernel
theorem dX7_hasPair_4 : decode cX7_hasPair 4 = .ok (.iconst (-1), 1) := by decide +kernel
theorem dX7_hasPair_5 : decode cX7_hasPair 5 = .ok (.if_icmp .eq 7, 3) := by decide +kernel
theorem dX7_hasPair_8 : decode cX7_hasPair 8 = .ok (.iconst 1, 1) := by decide +kernel
theorem dX7_hasPair_9 : decode cX7_hasPair 9 = .ok (.goto 4, 3) := by decide +kernel
theorem dX7_hasPair_12 : decode cX7_hasPair 12 = .ok (.iconst 0, 1) := by decide +kernel
theorem dX7_hasPair_13 : decode cX7_hasPair 13 = .ok (.ireturn, 1) := by decide +kernel
theorem dX7_isThrough_0 : decode cX7_isThrough 0 = .ok (.aload_n 1, 1) := by decide +kernel
theorem dX7_isThrough_1 : decode cX7_isThrough 1 = .ok (.getfield 76, 3) := by decide +kernel
theorem dX7_isThrough_4 : decode cX7_isThrough 4 = .ok (.ifCond .le 18, 3) := by decide +kernel
theorem dX7_isThrough_7 : decode cX7_isThrough 7 = .ok (.aload_n 0, 1) := by decide +kernel
theorem dX7_isThrough_8 : decode cX7_isThrough 8 = .ok (.getfield 37, 3) := by decide +kernel
theorem dX7_isThrough_11 : decode cX7_isThrough 11 = .ok (.aload_n 1, 1) := by decide +kernel
theorem dX7_isThrough_12 : decode cX7_isThrough 12 = .ok (.invokevirtual 79, 3) := by decide +kernel
theorem dX7_isThrough_15 : decode cX7_isThrough 15 = .ok (.if_icmp .lt 7, 3) := by decide +kernel
theorem dX7_isThrough_18 : decode cX7_isThrough 18 = .ok (.iconst 1, 1) := by decide +kernel
theorem dX7_isThrough_19 : decode cX7_isThrough 19 = .ok (.goto 4, 3) := by decide +kernel
theorem dX7_isThrough_22 : decode cX7_isThrough 22 = .ok (.iconst 0, 1) := by decide +kernel
theorem dX7_isThrough_23 : decode cX7_isThrough 23 = .ok (.ireturn, 1) := by decide +kernel
theorem dX7_lean_0 : decode cX7_lean 0 = .ok (.aload_n 1, 1) := by decide +kernel
theorem dX7_lean_1 : decode cX7_lean 1 = .ok (.getfield 83, 3) := by decide +kernel
theorem dX7_lean_4 : decode cX7_lean 4 = .ok (.aload_n 0, 1) := by decide +kernel
theorem dX7_lean_5 : decode cX7_lean 5 = .ok (.getfield 9, 3) := by decide +kernel
theorem dX7_lean_8 : decode cX7_lean 8 = .ok (.invokestatic 86, 3) := by decide +kernel
theorem dX7_lean_11 : decode cX7_lean 11 = .ok (.aload_n 1, 1) := by decide +kernel
theorem dX7_lean_12 : decode cX7_lean 12 = .ok (.getfield 83, 3) := by decide +kernel
theorem dX7_lean_15 : decode cX7_lean 15 = .ok (.aload_n 0, 1) := by decide +kernel
theorem dX7_lean_16 : decode cX7_lean 16 = .ok (.getfield 15, 3) := by decide +kernel
theorem dX7_lean_19 : decode cX7_lean 19 = .ok (.invokestatic 86, 3) := by decide +kernel
theorem dX7_lean_22 : decode cX7_lean 22 = .ok (.isub, 1) := by decide +kernel
theorem dX7_lean_23 : decode cX7_lean 23 = .ok (.ireturn, 1) := by decide +kernel
theorem dX7_changeSides_0 : decode cX7_changeSides 0 = .ok (.aload_n 0, 1) := by decide +kernel
theorem dX7_changeSides_1 : decode cX7_changeSides 1 = .ok (.getfield 9, 3) := by decide +kernel
theorem dX7_changeSides_4 : decode cX7_changeSides 4 = .ok (.istore_n 1, 1) := by decide +kernel
theorem dX7_changeSides_5 : decode cX7_changeSides 5 = .ok (.aload_n 0, 1) := by decide +kernel
theorem dX7_changeSides_6 : decode cX7_changeSides 6 = .ok (.aload_n 0, 1) := by decide +kernel
theorem dX7_changeSides_7 : decode cX7_changeSides 7 = .ok (.getfield 15, 3) := by decide +kernel
theorem dX7_changeSides_10 : decode cX7_changeSides 10 = .ok (.putfield 9, 3) := by decide +kernel
theorem dX7_changeSides_13 : decode cX7_changeSides 13 = .ok (.aload_n 0, 1) := by decide +kernel
theorem dX7_changeSides_14 : decode cX7_changeSides 14 = .ok (.iload_n 1, 1) := by decide +kernel
theorem dX7_changeSides_15 : decode cX7_changeSides 15 = .ok (.putfield 15, 3) := by decide +kernel
theorem dX7_changeSides_18 : decode cX7_changeSides 18 = .ok (.return_, 1) := by decide +kernel
theorem dX7_restFor_0 : decode cX7_restFor 0 = .ok (.aload_n 0, 1) := by decide +kernel
theorem dX7_restFor_1 : decode cX7_restFor 1 = .ok (.aload_n 0, 1) := by decide +kernel
theorem dX7_restFor_2 : decode cX7_restFor 2 = .ok (.getfield 9, 3) := by decide +kernel
theorem dX7_restFor_5 : decode cX7_restFor 5 = .ok (.bipush (-3), 2) := by decide +kernel
theorem dX7_restFor_7 : decode cX7_restFor 7 = .ok (.iload_n 1, 1) := by decide +kernel
theorem dX7_restFor_8 : decode cX7_restFor 8 = .ok (.imul, 1) := by decide +kernel
theorem dX7_restFor_9 : decode cX7_restFor 9 = .ok (.invokevirtual 90, 3) := by decide +kernel
theorem dX7_restFor_12 : decode cX7_restFor 12 = .ok (.aload_n 0, 1) := by decide +kernel
theorem dX7_restFor_13 : decode cX7_restFor 13 = .ok (.aload_n 0, 1) := by decide +kernel
theorem dX7_restFor_14 : decode cX7_restFor 14 = .ok (.getfield 15, 3) := by decide +kernel
theorem dX7_restFor_17 : decode cX7_restFor 17 = .ok (.bipush (-3), 2) := by decide +kernel
theorem dX7_restFor_19 : decode cX7_restFor 19 = .ok (.iload_n 1, 1) := by decide +kernel
theorem dX7_restFor_20 : decode cX7_restFor 20 = .ok (.imul, 1) := by decide +kernel
theorem dX7_restFor_21 : decode cX7_restFor 21 = .ok (.invokevirtual 90, 3) := by decide +kernel
theorem dX7_restFor_24 : decode cX7_restFor 24 = .ok (.aload_n 0, 1) := by decide +kernel
theorem dX7_restFor_25 : decode cX7_restFor 25 = .ok (.dup, 1) := by decide +kernel
theorem dX7_restFor_26 : decode cX7_restFor 26 = .ok (.getfield 40, 3) := by decide +kernel
theorem dX7_restFor_29 : decode cX7_restFor 29 = .ok (.iload_n 1, 1) := by decide +kernel
theorem dX7_restFor_30 : decode cX7_restFor 30 = .ok (.iadd, 1) := by decide +kernel
theorem dX7_restFor_31 : decode cX7_restFor 31 = .ok (.putfield 40, 3) := by decide +kernel
theorem dX7_restFor_34 : decode cX7_restFor 34 = .ok (.return_, 1) := by decide +kernel
theorem dX7_pullOnce_0 : decode cX7_pullOnce 0 = .ok (.aload_n 0, 1) := by decide +kernel
theorem dX7_pullOnce_1 : decode cX7_pullOnce 1 = .ok (.getfield 18, 3) := by decide +kernel
theorem dX7_pullOnce_4 : decode cX7_pullOnce 4 = .ok (.istore_n 2, 1) := by decide +kernel
theorem dX7_pullOnce_5 : decode cX7_pullOnce 5 = .ok (.iload_n 2, 1) := by decide +kernel
theorem dX7_pullOnce_6 : decode cX7_pullOnce 6 = .ok (.aload_n 0, 1) := by decide +kernel
theorem dX7_pullOnce_7 : decode cX7_pullOnce 7 = .ok (.getfield 9, 3) := by decide +kernel
theorem dX7_pullOnce_10 : decode cX7_pullOnce 10 = .ok (.if_icmp .ne 10, 3) := by decide +kernel
theorem dX7_pullOnce_13 : decode cX7_pullOnce 13 = .ok (.aload_n 0, 1) := by decide +kernel
theorem dX7_pullOnce_14 : decode cX7_pullOnce 14 = .ok (.getfield 15, 3) := by decide +kernel
theorem dX7_pullOnce_17 : decode cX7_pullOnce 17 = .ok (.goto 7, 3) := by decide +kernel
theorem dX7_pullOnce_20 : decode cX7_pullOnce 20 = .ok (.aload_n 0, 1) := by decide +kernel
theorem dX7_pullOnce_21 : decode cX7_pullOnce 21 = .ok (.getfield 9, 3) := by decide +kernel
theorem dX7_pullOnce_24 : decode cX7_pullOnce 24 = .ok (.istore_n 3, 1) := by decide +kernel
theorem dX7_pullOnce_25 : decode cX7_pullOnce 25 = .ok (.aload_n 0, 1) := by decide +kernel
theorem dX7_pullOnce_26 : decode cX7_pullOnce 26 = .ok (.getfield 28, 3) := by decide +kernel
theorem dX7_pullOnce_29 : decode cX7_pullOnce 29 = .ok (.iload_n 3, 1) := by decide +kernel
theorem dX7_pullOnce_30 : decode cX7_pullOnce 30 = .ok (.invokestatic 86, 3) := by decide +kernel
theorem dX7_pullOnce_33 : decode cX7_pullOnce 33 = .ok (.istore 4, 2) := by decide +kernel
theorem dX7_pullOnce_35 : decode cX7_pullOnce 35 = .ok (.aload_n 0, 1) := by decide +kernel
theorem dX7_pullOnce_36 : decode cX7_pullOnce 36 = .ok (.aload_n 1, 1) := by decide +kernel
theorem dX7_pullOnce_37 : decode cX7_pullOnce 37 = .ok (.aload_n 0, 1) := by decide +kernel
theorem dX7_pullOnce_38 : decode cX7_pullOnce 38 = .ok (.aload_n 1, 1) := by decide +kernel
theorem dX7_pullOnce_39 : decode cX7_pullOnce 39 = .ok (.iload_n 2, 1) := by decide +kernel
theorem dX7_pullOnce_40 : decode cX7_pullOnce 40 = .ok (.iload 4, 2) := by decide +kernel
theorem dX7_pullOnce_42 : decode cX7_pullOnce 42 = .ok (.invokevirtual 93, 3) := by decide +kernel
theorem dX7_pullOnce_45 : decode cX7_pullOnce 45 = .ok (.invokevirtual 97, 3) := by decide +kernel
theorem dX7_pullOnce_48 : decode cX7_pullOnce 48 = .ok (.istore 5, 2) := by decide +kernel
theorem dX7_pullOnce_50 : decode cX7_pullOnce 50 = .ok (.aload_n 0, 1) := by decide +kernel
theorem dX7_pullOnce_51 : decode cX7_pullOnce 51 = .ok (.aload_n 0, 1) := by decide +kernel
theorem dX7_pullOnce_52 : decode cX7_pullOnce 52 = .ok (.getfield 37, 3) := by decide +kernel
theorem dX7_pullOnce_55 : decode cX7_pullOnce 55 = .ok (.iload 5, 2) := by decide +kernel
theorem dX7_pullOnce_57 : decode cX7_pullOnce 57 = .ok (.iadd, 1) := by decide +kernel
theorem dX7_pullOnce_58 : decode cX7_pullOnce 58 = .ok (.aload_n 1, 1) := by decide +kernel
theorem dX7_pullOnce_59 : decode cX7_pullOnce 59 = .ok (.invokevirtual 79, 3) := by decide +kernel
theorem dX7_pullOnce_62 : decode cX7_pullOnce 62 = .ok (.invokestatic 101, 3) := by decide +kernel
theorem dX7_pullOnce_65 : decode cX7_pullOnce 65 = .ok (.putfield 37, 3) := by decide +kernel
theorem dX7_pullOnce_68 : decode cX7_pullOnce 68 = .ok (.aload_n 0, 1) := by decide +kernel
theorem dX7_pullOnce_69 : decode cX7_pullOnce 69 = .ok (.dup, 1) := by decide +kernel
theorem dX7_pullOnce_70 : decode cX7_pullOnce 70 = .ok (.getfield 46, 3) := by decide +kernel
theorem dX7_pullOnce_73 : decode cX7_pullOnce 73 = .ok (.aload_n 1, 1) := by decide +kernel
theorem dX7_pullOnce_74 : decode cX7_pullOnce 74 = .ok (.getfield 107, 3) := by decide +kernel
theorem dX7_pullOnce_77 : decode cX7_pullOnce 77 = .ok (.iadd, 1) := by decide +kernel
theorem dX7_pullOnce_78 : decode cX7_pullOnce 78 = .ok (.putfield 46, 3) := by decide +kernel
theorem dX7_pullOnce_81 : decode cX7_pullOnce 81 = .ok (.aload_n 1, 1) := by decide +kernel
theorem dX7_pullOnce_82 : decode cX7_pullOnce 82 = .ok (.iload 4, 2) := by decide +kernel
theorem dX7_pullOnce_84 : decode cX7_pullOnce 84 = .ok (.invokestatic 110, 3) := by decide +kernel
theorem dX7_pullOnce_87 : decode cX7_pullOnce 87 = .ok (.ifCond .eq 15, 3) := by decide +kernel
theorem dX7_pullOnce_90 : decode cX7_pullOnce 90 = .ok (.aload_n 0, 1) := by decide +kernel
theorem dX7_pullOnce_91 : decode cX7_pullOnce 91 = .ok (.iload_n 2, 1) := by decide +kernel
theorem dX7_pullOnce_92 : decode cX7_pullOnce 92 = .ok (.iconst 2, 1) := by decide +kernel
theorem dX7_pullOnce_93 : decode cX7_pullOnce 93 = .ok (.invokevirtual 90, 3) := by decide +kernel
theorem dX7_pullOnce_96 : decode cX7_pullOnce 96 = .ok (.aload_n 0, 1) := by decide +kernel
theorem dX7_pullOnce_97 : decode cX7_pullOnce 97 = .ok (.iload_n 3, 1) := by decide +kernel
theorem dX7_pullOnce_98 : decode cX7_pullOnce 98 = .ok (.iconst 2, 1) := by decide +kernel
theorem dX7_pullOnce_99 : decode cX7_pullOnce 99 = .ok (.invokevirtual 90, 3) := by decide +kernel
theorem dX7_pullOnce_102 : decode cX7_pullOnce 102 = .ok (.aload_n 0, 1) := by decide +kernel
theorem dX7_pullOnce_103 : decode cX7_pullOnce 103 = .ok (.iload_n 2, 1) := by decide +kernel
theorem dX7_pullOnce_104 : decode cX7_pullOnce 104 = .ok (.aload_n 1, 1) := by decide +kernel
theorem dX7_pullOnce_105 : decode cX7_pullOnce 105 = .ok (.getfield 114, 3) := by decide +kernel
theorem dX7_pullOnce_108 : decode cX7_pullOnce 108 = .ok (.iload_n 2, 1) := by decide +kernel
theorem dX7_pullOnce_109 : decode cX7_pullOnce 109 = .ok (.invokestatic 86, 3) := by decide +kernel
theorem dX7_pullOnce_112 : decode cX7_pullOnce 112 = .ok (.invokevirtual 90, 3) := by decide +kernel
theorem dX7_pullOnce_115 : decode cX7_pullOnce 115 = .ok (.aload_n 0, 1) := by decide +kernel
theorem dX7_pullOnce_116 : decode cX7_pullOnce 116 = .ok (.iload_n 3, 1) := by decide +kernel
theorem dX7_pullOnce_117 : decode cX7_pullOnce 117 = .ok (.iconst (-1), 1) := by decide +kernel
theorem dX7_pullOnce_118 : decode cX7_pullOnce 118 = .ok (.invokevirtual 90, 3) := by decide +kernel
theorem dX7_pullOnce_121 : decode cX7_pullOnce 121 = .ok (.aload_n 0, 1) := by decide +kernel
theorem dX7_pullOnce_122 : decode cX7_pullOnce 122 = .ok (.iload_n 2, 1) := by decide +kernel
theorem dX7_pullOnce_123 : decode cX7_pullOnce 123 = .ok (.aload_n 1, 1) := by decide +kernel
theorem dX7_pullOnce_124 : decode cX7_pullOnce 124 = .ok (.getfield 117, 3) := by decide +kernel
theorem dX7_pullOnce_127 : decode cX7_pullOnce 127 = .ok (.iload_n 2, 1) := by decide +kernel
theorem dX7_pullOnce_128 : decode cX7_pullOnce 128 = .ok (.invokestatic 86, 3) := by decide +kernel
theorem dX7_pullOnce_131 : decode cX7_pullOnce 131 = .ok (.iload 4, 2) := by decide +kernel
theorem dX7_pullOnce_133 : decode cX7_pullOnce 133 = .ok (.invokevirtual 120, 3) := by decide +kernel
theorem dX7_pullOnce_136 : decode cX7_pullOnce 136 = .ok (.iload 5, 2) := by decide +kernel
theorem dX7_pullOnce_138 : decode cX7_pullOnce 138 = .ok (.ifCond .le 17, 3) := by decide +kernel
theorem dX7_pullOnce_141 : decode cX7_pullOnce 141 = .ok (.aload_n 0, 1) := by decide +kernel
theorem dX7_pullOnce_142 : decode cX7_pullOnce 142 = .ok (.dup, 1) := by decide +kernel
theorem dX7_pullOnce_143 : decode cX7_pullOnce 143 = .ok (.getfield 43, 3) := by decide +kernel
theorem dX7_pullOnce_146 : decode cX7_pullOnce 146 = .ok (.aload_n 0, 1) := by decide +kernel
theorem dX7_pullOnce_147 : decode cX7_pullOnce 147 = .ok (.aload_n 1, 1) := by decide +kernel
theorem dX7_pullOnce_148 : decode cX7_pullOnce 148 = .ok (.invokevirtual 124, 3) := by decide +kernel
theorem dX7_pullOnce_151 : decode cX7_pullOnce 151 = .ok (.iadd, 1) := by decide +kernel
theorem dX7_pullOnce_152 : decode cX7_pullOnce 152 = .ok (.putfield 43, 3) := by decide +kernel
theorem dX7_pullOnce_155 : decode cX7_pullOnce 155 = .ok (.aload_n 0, 1) := by decide +kernel
theorem dX7_pullOnce_156 : decode cX7_pullOnce 156 = .ok (.dup, 1) := by decide +kernel
theorem dX7_pullOnce_157 : decode cX7_pullOnce 157 = .ok (.getfield 40, 3) := by decide +kernel
theorem dX7_pullOnce_160 : decode cX7_pullOnce 160 = .ok (.iconst 1, 1) := by decide +kernel
theorem dX7_pullOnce_161 : decode cX7_pullOnce 161 = .ok (.iadd, 1) := by decide +kernel
theorem dX7_pullOnce_162 : decode cX7_pullOnce 162 = .ok (.putfield 40, 3) := by decide +kernel
theorem dX7_pullOnce_165 : decode cX7_pullOnce 165 = .ok (.aload_n 0, 1) := by decide +kernel
theorem dX7_pullOnce_166 : decode cX7_pullOnce 166 = .ok (.iload_n 3, 1) := by decide +kernel
theorem dX7_pullOnce_167 : decode cX7_pullOnce 167 = .ok (.putfield 18, 3) := by decide +kernel
theorem dX7_pullOnce_170 : decode cX7_pullOnce 170 = .ok (.iload 5, 2) := by decide +kernel
theorem dX7_pullOnce_172 : decode cX7_pullOnce 172 = .ok (.ireturn, 1) := by decide +kernel
theorem dX7_pullOf_0 : decode cX7_pullOf 0 = .ok (.aload_n 1, 1) := by decide +kernel
theorem dX7_pullOf_1 : decode cX7_pullOf 1 = .ok (.getfield 66, 3) := by decide +kernel
theorem dX7_pullOf_4 : decode cX7_pullOf 4 = .ok (.iload_n 2, 1) := by decide +kernel
theorem dX7_pullOf_5 : decode cX7_pullOf 5 = .ok (.invokestatic 86, 3) := by decide +kernel
theorem dX7_pullOf_8 : decode cX7_pullOf 8 = .ok (.aload_n 0, 1) := by decide +kernel
theorem dX7_pullOf_9 : decode cX7_pullOf 9 = .ok (.getfield 24, 3) := by decide +kernel
theorem dX7_pullOf_12 : decode cX7_pullOf 12 = .ok (.iload_n 2, 1) := by decide +kernel
theorem dX7_pullOf_13 : decode cX7_pullOf 13 = .ok (.invokestatic 86, 3) := by decide +kernel
theorem dX7_pullOf_16 : decode cX7_pullOf 16 = .ok (.invokestatic 101, 3) := by decide +kernel
theorem dX7_pullOf_19 : decode cX7_pullOf 19 = .ok (.istore 4, 2) := by decide +kernel
theorem dX7_pullOf_21 : decode cX7_pullOf 21 = .ok (.iconst 0, 1) := by decide +kernel
theorem dX7_pullOf_22 : decode cX7_pullOf 22 = .ok (.iload 4, 2) := by decide +kernel
theorem dX7_pullOf_24 : decode cX7_pullOf 24 = .ok (.aload_n 0, 1) := by decide +kernel
theorem dX7_pullOf_25 : decode cX7_pullOf 25 = .ok (.getfield 34, 3) := by decide +kernel
theorem dX7_pullOf_28 : decode cX7_pullOf 28 = .ok (.iload_n 2, 1) := by decide +kernel
theorem dX7_pullOf_29 : decode cX7_pullOf 29 = .ok (.invokestatic 86, 3) := by decide +kernel
theorem dX7_pullOf_32 : decode cX7_pullOf 32 = .ok (.iadd, 1) := by decide +kernel
theorem dX7_pullOf_33 : decode cX7_pullOf 33 = .ok (.aload_n 0, 1) := by decide +kernel
theorem dX7_pullOf_34 : decode cX7_pullOf 34 = .ok (.getfield 31, 3) := by decide +kernel
theorem dX7_pullOf_37 : decode cX7_pullOf 37 = .ok (.iload_n 2, 1) := by decide +kernel
theorem dX7_pullOf_38 : decode cX7_pullOf 38 = .ok (.invokestatic 86, 3) := by decide +kernel
theorem dX7_pullOf_41 : decode cX7_pullOf 41 = .ok (.bipush 10, 2) := by decide +kernel
theorem dX7_pullOf_43 : decode cX7_pullOf 43 = .ok (.idiv, 1) := by decide +kernel
theorem dX7_pullOf_44 : decode cX7_pullOf 44 = .ok (.isub, 1) := by decide +kernel
theorem dX7_pullOf_45 : decode cX7_pullOf 45 = .ok (.invokestatic 128, 3) := by decide +kernel
theorem dX7_pullOf_48 : decode cX7_pullOf 48 = .ok (.istore 5, 2) := by decide +kernel
theorem dX7_pullOf_50 : decode cX7_pullOf 50 = .ok (.aload_n 1, 1) := by decide +kernel
theorem dX7_pullOf_51 : decode cX7_pullOf 51 = .ok (.iload_n 3, 1) := by decide +kernel
theorem dX7_pullOf_52 : decode cX7_pullOf 52 = .ok (.invokestatic 110, 3) := by decide +kernel
theorem dX7_pullOf_55 : decode cX7_pullOf 55 = .ok (.ifCond .eq 9, 3) := by decide +kernel
theorem dX7_pullOf_58 : decode cX7_pullOf 58 = .ok (.iconst 0, 1) := by decide +kernel
theorem dX7_pullOf_59 : decode cX7_pullOf 59 = .ok (.istore 5, 2) := by decide +kernel
theorem dX7_pullOf_61 : decode cX7_pullOf 61 = .ok (.goto 31, 3) := by decide +kernel
theorem dX7_pullOf_64 : decode cX7_pullOf 64 = .ok (.iload_n 3, 1) := by decide +kernel
theorem dX7_pullOf_65 : decode cX7_pullOf 65 = .ok (.iconst 5, 1) := by decide +kernel
theorem dX7_pullOf_66 : decode cX7_pullOf 66 = .ok (.if_icmp .le 15, 3) := by decide +kernel
theorem dX7_pullOf_69 : decode cX7_pullOf 69 = .ok (.iload 5, 2) := by decide +kernel
theorem dX7_pullOf_71 : decode cX7_pullOf 71 = .ok (.iload 5, 2) := by decide +kernel
theorem dX7_pullOf_73 : decode cX7_pullOf 73 = .ok (.iconst 2, 1) := by decide +kernel
theorem dX7_pullOf_74 : decode cX7_pullOf 74 = .ok (.idiv, 1) := by decide +kernel
theorem dX7_pullOf_75 : decode cX7_pullOf 75 = .ok (.iadd, 1) := by decide +kernel
theorem dX7_pullOf_76 : decode cX7_pullOf 76 = .ok (.istore 5, 2) := by decide +kernel
theorem dX7_pullOf_78 : decode cX7_pullOf 78 = .ok (.goto 14, 3) := by decide +kernel
theorem dX7_pullOf_81 : decode cX7_pullOf 81 = .ok (.iload_n 3, 1) := by decide +kernel
theorem dX7_pullOf_82 : decode cX7_pullOf 82 = .ok (.iconst 5, 1) := by decide +kernel
theorem dX7_pullOf_83 : decode cX7_pullOf 83 = .ok (.if_icmp .ge 9, 3) := by decide +kernel
theorem dX7_pullOf_86 : decode cX7_pullOf 86 = .ok (.iload 5, 2) := by decide +kernel
theorem dX7_pullOf_88 : decode cX7_pullOf 88 = .ok (.iload_n 3, 1) := by decide +kernel
theorem dX7_pullOf_89 : decode cX7_pullOf 89 = .ok (.isub, 1) := by decide +kernel
theorem dX7_pullOf_90 : decode cX7_pullOf 90 = .ok (.istore 5, 2) := by decide +kernel
theorem dX7_pullOf_92 : decode cX7_pullOf 92 = .ok (.iload 5, 2) := by decide +kernel
theorem dX7_pullOf_94 : decode cX7_pullOf 94 = .ok (.aload_n 0, 1) := by decide +kernel
theorem dX7_pullOf_95 : decode cX7_pullOf 95 = .ok (.getfield 46, 3) := by decide +kernel
theorem dX7_pullOf_98 : decode cX7_pullOf 98 = .ok (.bipush 10, 2) := by decide +kernel
theorem dX7_pullOf_100 : decode cX7_pullOf 100 = .ok (.idiv, 1) := by decide +kernel
theorem dX7_pullOf_101 : decode cX7_pullOf 101 = .ok (.isub, 1) := by decide +kernel
theorem dX7_pullOf_102 : decode cX7_pullOf 102 = .ok (.istore 5, 2) := by decide +kernel
theorem dX7_pullOf_104 : decode cX7_pullOf 104 = .ok (.aload_n 0, 1) := by decide +kernel
theorem dX7_pullOf_105 : decode cX7_pullOf 105 = .ok (.getfield 49, 3) := by decide +kernel
theorem dX7_pullOf_108 : decode cX7_pullOf 108 = .ok (.ifCond .ne 23, 3) := by decide +kernel
theorem dX7_pullOf_111 : decode cX7_pullOf 111 = .ok (.aload_n 0, 1) := by decide +kernel
theorem dX7_pullOf_112 : decode cX7_pullOf 112 = .ok (.getfield 37, 3) := by decide +kernel
theorem dX7_pullOf_115 : decode cX7_pullOf 115 = .ok (.bipush 100, 2) := by decide +kernel
theorem dX7_pullOf_117 : decode cX7_pullOf 117 = .ok (.idiv, 1) := by decide +kernel
theorem dX7_pullOf_118 : decode cX7_pullOf 118 = .ok (.aload_n 1, 1) := by decide +kernel
theorem dX7_pullOf_119 : decode cX7_pullOf 119 = .ok (.getfield 131, 3) := by decide +kernel
theorem dX7_pullOf_122 : decode cX7_pullOf 122 = .ok (.if_icmp .lt 9, 3) := by decide +kernel
theorem dX7_pullOf_125 : decode cX7_pullOf 125 = .ok (.iload 5, 2) := by decide +kernel
theorem dX7_pullOf_127 : decode cX7_pullOf 127 = .ok (.iconst 2, 1) := by decide +kernel
theorem dX7_pullOf_128 : decode cX7_pullOf 128 = .ok (.idiv, 1) := by decide +kernel
theorem dX7_pullOf_129 : decode cX7_pullOf 129 = .ok (.istore 5, 2) := by decide +kernel
theorem dX7_pullOf_131 : decode cX7_pullOf 131 = .ok (.iconst 0, 1) := by decide +kernel
theorem dX7_pullOf_132 : decode cX7_pullOf 132 = .ok (.iload 5, 2) := by decide +kernel
theorem dX7_pullOf_134 : decode cX7_pullOf 134 = .ok (.invokestatic 128, 3) := by decide +kernel
theorem dX7_pullOf_137 : decode cX7_pullOf 137 = .ok (.ireturn, 1) := by decide +kernel
theorem dX7_buckles_0 : decode cX7_buckles 0 = .ok (.iload_n 1, 1) := by decide +kernel
theorem dX7_buckles_1 : decode cX7_buckles 1 = .ok (.iconst 5, 1) := by decide +kernel
theorem dX7_buckles_2 : decode cX7_buckles 2 = .ok (.if_icmp .le 17, 3) := by decide +kernel
theorem dX7_buckles_5 : decode cX7_buckles 5 = .ok (.iload_n 1, 1) := by decide +kernel
theorem dX7_buckles_6 : decode cX7_buckles 6 = .ok (.iconst 5, 1) := by decide +kernel
theorem dX7_buckles_7 : decode cX7_buckles 7 = .ok (.isub, 1) := by decide +kernel
theorem dX7_buckles_8 : decode cX7_buckles 8 = .ok (.aload_n 0, 1) := by decide +kernel
theorem dX7_buckles_9 : decode cX7_buckles 9 = .ok (.getfield 134, 3) := by decide +kernel
theorem dX7_buckles_12 : decode cX7_buckles 12 = .ok (.if_icmp .le 7, 3) := by decide +kernel
theorem dX7_buckles_15 : decode cX7_buckles 15 = .ok (.iconst 1, 1) := by decide +kernel
theorem dX7_buckles_16 : decode cX7_buckles 16 = .ok (.goto 4, 3) := by decide +kernel
theorem dX7_buckles_19 : decode cX7_buckles 19 = .ok (.iconst 0, 1) := by decide +kernel
theorem dX7_buckles_20 : decode cX7_buckles 20 = .ok (.ireturn, 1) := by decide +kernel
theorem dX7_cutBy_0 : decode cX7_cutBy 0 = .ok (.aload_n 1, 1) := by decide +kernel
theorem dX7_cutBy_1 : decode cX7_cutBy 1 = .ok (.getfield 137, 3) := by decide +kernel
theorem dX7_cutBy_4 : decode cX7_cutBy 4 = .ok (.aload_n 0, 1) := by decide +kernel
theorem dX7_cutBy_5 : decode cX7_cutBy 5 = .ok (.getfield 37, 3) := by decide +kernel
theorem dX7_cutBy_8 : decode cX7_cutBy 8 = .ok (.bipush 100, 2) := by decide +kernel
theorem dX7_cutBy_10 : decode cX7_cutBy 10 = .ok (.idiv, 1) := by decide +kernel
theorem dX7_cutBy_11 : decode cX7_cutBy 11 = .ok (.invokestatic 86, 3) := by decide +kernel
theorem dX7_cutBy_14 : decode cX7_cutBy 14 = .ok (.istore_n 3, 1) := by decide +kernel
theorem dX7_cutBy_15 : decode cX7_cutBy 15 = .ok (.iload_n 3, 1) := by decide +kernel
theorem dX7_cutBy_16 : decode cX7_cutBy 16 = .ok (.ifCond .le 14, 3) := by decide +kernel
theorem dX7_cutBy_19 : decode cX7_cutBy 19 = .ok (.iload_n 2, 1) := by decide +kernel
theorem dX7_cutBy_20 : decode cX7_cutBy 20 = .ok (.aload_n 0, 1) := by decide +kernel
theorem dX7_cutBy_21 : decode cX7_cutBy 21 = .ok (.getfield 21, 3) := by decide +kernel
theorem dX7_cutBy_24 : decode cX7_cutBy 24 = .ok (.imul, 1) := by decide +kernel
theorem dX7_cutBy_25 : decode cX7_cutBy 25 = .ok (.iload_n 3, 1) := by decide +kernel
theorem dX7_cutBy_26 : decode cX7_cutBy 26 = .ok (.idiv, 1) := by decide +kernel
theorem dX7_cutBy_27 : decode cX7_cutBy 27 = .ok (.goto 4, 3) := by decide +kernel
theorem dX7_cutBy_30 : decode cX7_cutBy 30 = .ok (.iconst 0, 1) := by decide +kernel
theorem dX7_cutBy_31 : decode cX7_cutBy 31 = .ok (.ireturn, 1) := by decide +kernel
theorem dX7_tire_0 : decode cX7_tire 0 = .ok (.aload_n 0, 1) := by decide +kernel
theorem dX7_tire_1 : decode cX7_tire 1 = .ok (.getfield 31, 3) := by decide +kernel
theorem dX7_tire_4 : decode cX7_tire 4 = .ok (.iload_n 1, 1) := by decide +kernel
theorem dX7_tire_5 : decode cX7_tire 5 = .ok (.sipush 999, 3) := by decide +kernel
theorem dX7_tire_8 : decode cX7_tire 8 = .ok (.iconst 0, 1) := by decide +kernel
theorem dX7_tire_9 : decode cX7_tire 9 = .ok (.aload_n 0, 1) := by decide +kernel
theorem dX7_tire_10 : decode cX7_tire 10 = .ok (.getfield 31, 3) := by decide +kernel
theorem dX7_tire_13 : decode cX7_tire 13 = .ok (.iload_n 1, 1) := by decide +kernel
theorem dX7_tire_14 : decode cX7_tire 14 = .ok (.invokestatic 86, 3) := by decide +kernel
theorem dX7_tire_17 : decode cX7_tire 17 = .ok (.iload_n 2, 1) := by decide +kernel
theorem dX7_tire_18 : decode cX7_tire 18 = .ok (.iadd, 1) := by decide +kernel
theorem dX7_tire_19 : decode cX7_tire 19 = .ok (.invokestatic 128, 3) := by decide +kernel
theorem dX7_tire_22 : decode cX7_tire 22 = .ok (.invokestatic 101, 3) := by decide +kernel
theorem dX7_tire_25 : decode cX7_tire 25 = .ok (.invokestatic 140, 3) := by decide +kernel
theorem dX7_tire_28 : decode cX7_tire 28 = .ok (.return_, 1) := by decide +kernel
theorem dX7_feel_0 : decode cX7_feel 0 = .ok (.aload_n 0, 1) := by decide +kernel
theorem dX7_feel_1 : decode cX7_feel 1 = .ok (.getfield 34, 3) := by decide +kernel
theorem dX7_feel_4 : decode cX7_feel 4 = .ok (.iload_n 1, 1) := by decide +kernel
theorem dX7_feel_5 : decode cX7_feel 5 = .ok (.invokestatic 86, 3) := by decide +kernel
theorem dX7_feel_8 : decode cX7_feel 8 = .ok (.istore 4, 2) := by decide +kernel
theorem dX7_feel_10 : decode cX7_feel 10 = .ok (.iload_n 3, 1) := by decide +kernel
theorem dX7_feel_11 : decode cX7_feel 11 = .ok (.iconst 1, 1) := by decide +kernel
theorem dX7_feel_12 : decode cX7_feel 12 = .ok (.if_icmp .lt 35, 3) := by decide +kernel
theorem dX7_feel_15 : decode cX7_feel 15 = .ok (.iload_n 3, 1) := by decide +kernel
theorem dX7_feel_16 : decode cX7_feel 16 = .ok (.iconst 5, 1) := by decide +kernel
theorem dX7_feel_17 : decode cX7_feel 17 = .ok (.if_icmp .ge 30, 3) := by decide +kernel
theorem dX7_feel_20 : decode cX7_feel 20 = .ok (.iload 4, 2) := by decide +kernel
theorem dX7_feel_22 : decode cX7_feel 22 = .ok (.iload_n 2, 1) := by decide +kernel
theorem dX7_feel_23 : decode cX7_feel 23 = .ok (.iconst 1, 1) := by decide +kernel
theorem dX7_feel_24 : decode cX7_feel 24 = .ok (.if_icmp .ne 7, 3) := by decide +kernel
theorem dX7_feel_27 : decode cX7_feel 27 = .ok (.iconst 1, 1) := by decide +kernel
theorem dX7_feel_28 : decode cX7_feel 28 = .ok (.goto 13, 3) := by decide +kernel
theorem dX7_feel_31 : decode cX7_feel 31 = .ok (.iload_n 2, 1) := by decide +kernel
theorem dX7_feel_32 : decode cX7_feel 32 = .ok (.iconst 2, 1) := by decide +kernel
theorem dX7_feel_33 : decode cX7_feel 33 = .ok (.if_icmp .ne 7, 3) := by decide +kernel
theorem dX7_feel_36 : decode cX7_feel 36 = .ok (.iconst (-1), 1) := by decide +kernel
theorem dX7_feel_37 : decode cX7_feel 37 = .ok (.goto 4, 3) := by decide +kernel
theorem dX7_feel_40 : decode cX7_feel 40 = .ok (.iconst 0, 1) := by decide +kernel
theorem dX7_feel_41 : decode cX7_feel 41 = .ok (.iadd, 1) := by decide +kernel
theorem dX7_feel_42 : decode cX7_feel 42 = .ok (.istore 4, 2) := by decide +kernel
theorem dX7_feel_44 : decode cX7_feel 44 = .ok (.goto 23, 3) := by decide +kernel
theorem dX7_feel_47 : decode cX7_feel 47 = .ok (.iload 4, 2) := by decide +kernel
theorem dX7_feel_49 : decode cX7_feel 49 = .ok (.ifCond .eq 18, 3) := by decide +kernel
theorem dX7_feel_52 : decode cX7_feel 52 = .ok (.iload 4, 2) := by decide +kernel
theorem dX7_feel_54 : decode cX7_feel 54 = .ok (.iload 4, 2) := by decide +kernel
theorem dX7_feel_56 : decode cX7_feel 56 = .ok (.ifCond .le 7, 3) := by decide +kernel
theorem dX7_feel_59 : decode cX7_feel 59 = .ok (.iconst (-1), 1) := by decide +kernel
theorem dX7_feel_60 : decode cX7_feel 60 = .ok (.goto 4, 3) := by decide +kernel
theorem dX7_feel_63 : decode cX7_feel 63 = .ok (.iconst 1, 1) := by decide +kernel
theorem dX7_feel_64 : decode cX7_feel 64 = .ok (.iadd, 1) := by decide +kernel
theorem dX7_feel_65 : decode cX7_feel 65 = .ok (.istore 4, 2) := by decide +kernel
theorem dX7_feel_67 : decode cX7_feel 67 = .ok (.aload_n 0, 1) := by decide +kernel
theorem dX7_feel_68 : decode cX7_feel 68 = .ok (.getfield 34, 3) := by decide +kernel
theorem dX7_feel_71 : decode cX7_feel 71 = .ok (.iload_n 1, 1) := by decide +kernel
theorem dX7_feel_72 : decode cX7_feel 72 = .ok (.bipush 9, 2) := by decide +kernel
theorem dX7_feel_74 : decode cX7_feel 74 = .ok (.bipush (-9), 2) := by decide +kernel
theorem dX7_feel_76 : decode cX7_feel 76 = .ok (.iload 4, 2) := by decide +kernel
theorem dX7_feel_78 : decode cX7_feel 78 = .ok (.invokestatic 128, 3) := by decide +kernel
theorem dX7_feel_81 : decode cX7_feel 81 = .ok (.invokestatic 101, 3) := by decide +kernel
theorem dX7_feel_84 : decode cX7_feel 84 = .ok (.invokestatic 140, 3) := by decide +kernel
theorem dX7_feel_87 : decode cX7_feel 87 = .ok (.return_, 1) := by decide +kernel
theorem dX7_hasQuarrel_0 : decode cX7_hasQuarrel 0 = .ok (.aload_n 0, 1) := by decide +kernel
theorem dX7_hasQuarrel_1 : decode cX7_hasQuarrel 1 = .ok (.getfield 34, 3) := by decide +kernel
theorem dX7_hasQuarrel_4 : decode cX7_hasQuarrel 4 = .ok (.aload_n 0, 1) := by decide +kernel
theorem dX7_hasQuarrel_5 : decode cX7_hasQuarrel 5 = .ok (.getfield 9, 3) := by decide +kernel
theorem dX7_hasQuarrel_8 : decode cX7_hasQuarrel 8 = .ok (.invokestatic 86, 3) := by decide +kernel
theorem dX7_hasQuarrel_11 : decode cX7_hasQuarrel 11 = .ok (.invokestatic 144, 3) := by decide +kernel
theorem dX7_hasQuarrel_14 : decode cX7_hasQuarrel 14 = .ok (.bipush 9, 2) := by decide +kernel
theorem dX7_hasQuarrel_16 : decode cX7_hasQuarrel 16 = .ok (.if_icmp .ge 22, 3) := by decide +kernel
theorem dX7_hasQuarrel_19 : decode cX7_hasQuarrel 19 = .ok (.aload_n 0, 1) := by decide +kernel
theorem dX7_hasQuarrel_20 : decode cX7_hasQuarrel 20 = .ok (.getfield 34, 3) := by decide +kernel
theorem dX7_hasQuarrel_23 : decode cX7_hasQuarrel 23 = .ok (.aload_n 0, 1) := by decide +kernel
theorem dX7_hasQuarrel_24 : decode cX7_hasQuarrel 24 = .ok (.getfield 15, 3) := by decide +kernel
theorem dX7_hasQuarrel_27 : decode cX7_hasQuarrel 27 = .ok (.invokestatic 86, 3) := by decide +kernel
theorem dX7_hasQuarrel_30 : decode cX7_hasQuarrel 30 = .ok (.invokestatic 144, 3) := by decide +kernel
theorem dX7_hasQuarrel_33 : decode cX7_hasQuarrel 33 = .ok (.bipush 9, 2) := by decide +kernel
theorem dX7_hasQuarrel_35 : decode cX7_hasQuarrel 35 = .ok (.if_icmp .lt 7, 3) := by decide +kernel
theorem dX7_hasQuarrel_38 : decode cX7_hasQuarrel 38 = .ok (.iconst 1, 1) := by decide +kernel
theorem dX7_hasQuarrel_39 : decode cX7_hasQuarrel 39 = .ok (.goto 4, 3) := by decide +kernel
theorem dX7_hasQuarrel_42 : decode cX7_hasQuarrel 42 = .ok (.iconst 0, 1) := by decide +kernel
theorem dX7_hasQuarrel_43 : decode cX7_hasQuarrel 43 = .ok (.ireturn, 1) := by decide +kernel
theorem dX8_init_0 : decode cX8_init 0 = .ok (.aload_n 0, 1) := by decide +kernel
theorem dX8_init_1 : decode cX8_init 1 = .ok (.invokespecial 3, 3) := by decide +kernel
theorem dX8_init_4 : decode cX8_init 4 = .ok (.aload_n 0, 1) := by decide +kernel
theorem dX8_init_5 : decode cX8_init 5 = .ok (.iconst 5, 1) := by decide +kernel
theorem dX8_init_6 : decode cX8_init 6 = .ok (.putfield 9, 3) := by decide +kernel
theorem dX8_init_9 : decode cX8_init 9 = .ok (.aload_n 0, 1) := by decide +kernel
theorem dX8_init_10 : decode cX8_init 10 = .ok (.iconst 2, 1) := by decide +kernel
theorem dX8_init_11 : decode cX8_init 11 = .ok (.putfield 15, 3) := by decide +kernel
theorem dX8_init_14 : decode cX8_init 14 = .ok (.aload_n 0, 1) := by decide +kernel
theorem dX8_init_15 : decode cX8_init 15 = .ok (.iconst 0, 1) := by decide +kernel
theorem dX8_init_16 : decode cX8_init 16 = .ok (.putfield 18, 3) := by decide +kernel
theorem dX8_init_19 : decode cX8_init 19 = .ok (.aload_n 0, 1) := by decide +kernel
theorem dX8_init_20 : decode cX8_init 20 = .ok (.bipush 12, 2) := by decide +kernel
theorem dX8_init_22 : decode cX8_init 22 = .ok (.putfield 21, 3) := by decide +kernel
theorem dX8_init_25 : decode cX8_init 25 = .ok (.aload_n 0, 1) := by decide +kernel
theorem dX8_init_26 : decode cX8_init 26 = .ok (.bipush 12, 2) := by decide +kernel
theorem dX8_init_28 : decode cX8_init 28 = .ok (.newarray .int, 2) := by decide +kernel
theorem dX8_init_30 : decode cX8_init 30 = .ok (.putfield 24, 3) := by decide +kernel
theorem dX8_init_33 : decode cX8_init 33 = .ok (.aload_n 0, 1) := by decide +kernel
theorem dX8_init_34 : decode cX8_init 34 = .ok (.iconst 4, 1) := by decide +kernel
theorem dX8_init_35 : decode cX8_init 35 = .ok (.newarray .int, 2) := by decide +kernel
theorem dX8_init_37 : decode cX8_init 37 = .ok (.putfield 28, 3) := by decide +kernel
theorem dX8_init_40 : decode cX8_init 40 = .ok (.aload_n 0, 1) := by decide +kernel
theorem dX8_init_41 : decode cX8_init 41 = .ok (.iconst 4, 1) := by decide +kernel
theorem dX8_init_42 : decode cX8_init 42 = .ok (.newarray .int, 2) := by decide +kernel
theorem dX8_init_44 : decode cX8_init 44 = .ok (.putfield 31, 3) := by decide +kernel
theorem dX8_init_47 : decode cX8_init 47 = .ok (.aload_n 0, 1) := by decide +kernel
theorem dX8_init_48 : decode cX8_init 48 = .ok (.iconst 4, 1) := by decide +kernel
theorem dX8_init_49 : decode cX8_init 49 = .ok (.newarray .int, 2) := by decide +kernel
theorem dX8_init_51 : decode cX8_init 51 = .ok (.putfield 34, 3) := by decide +kernel
theorem dX8_init_54 : decode cX8_init 54 = .ok (.aload_n 0, 1) := by decide +kernel
theorem dX8_init_55 : decode cX8_init 55 = .ok (.iconst 4, 1) := by decide +kernel
theorem dX8_init_56 : decode cX8_init 56 = .ok (.newarray .int, 2) := by decide +kernel
theorem dX8_init_58 : decode cX8_init 58 = .ok (.putfield 37, 3) := by decide +kernel
theorem dX8_init_61 : decode cX8_init 61 = .ok (.aload_n 0, 1) := by decide +kernel
theorem dX8_init_62 : decode cX8_init 62 = .ok (.iconst 4, 1) := by decide +kernel
theorem dX8_init_63 : decode cX8_init 63 = .ok (.newarray .int, 2) := by decide +kernel
theorem dX8_init_65 : decode cX8_init 65 = .ok (.putfield 40, 3) := by decide +kernel
theorem dX8_init_68 : decode cX8_init 68 = .ok (.return_, 1) := by decide +kernel
theorem dX8_clear_0 : decode cX8_clear 0 = .ok (.aload_n 0, 1) := by decide +kernel
theorem dX8_clear_1 : decode cX8_clear 1 = .ok (.iconst 0, 1) := by decide +kernel
theorem dX8_clear_2 : decode cX8_clear 2 = .ok (.putfield 43, 3) := by decide +kernel
theorem dX8_clear_5 : decode cX8_clear 5 = .ok (.aload_n 0, 1) := by decide +kernel
theorem dX8_clear_6 : decode cX8_clear 6 = .ok (.iconst 0, 1) := by decide +kernel
theorem dX8_clear_7 : decode cX8_clear 7 = .ok (.putfield 46, 3) := by decide +kernel
theorem dX8_clear_10 : decode cX8_clear 10 = .ok (.aload_n 0, 1) := by decide +kernel
theorem dX8_clear_11 : decode cX8_clear 11 = .ok (.iconst 5, 1) := by decide +kernel
theorem dX8_clear_12 : decode cX8_clear 12 = .ok (.putfield 9, 3) := by decide +kernel
theorem dX8_clear_15 : decode cX8_clear 15 = .ok (.aload_n 0, 1) := by decide +kernel
theorem dX8_clear_16 : decode cX8_clear 16 = .ok (.iconst 2, 1) := by decide +kernel
theorem dX8_clear_17 : decode cX8_clear 17 = .ok (.putfield 15, 3) := by decide +kernel
theorem dX8_clear_20 : decode cX8_clear 20 = .ok (.aload_n 0, 1) := by decide +kernel
theorem dX8_clear_21 : decode cX8_clear 21 = .ok (.iconst 0, 1) := by decide +kernel
theorem dX8_clear_22 : decode cX8_clear 22 = .ok (.putfield 18, 3) := by decide +kernel
theorem dX8_clear_25 : decode cX8_clear 25 = .ok (.aload_n 0, 1) := by decide +kernel
theorem dX8_clear_26 : decode cX8_clear 26 = .ok (.bipush 12, 2) := by decide +kernel
theorem dX8_clear_28 : decode cX8_clear 28 = .ok (.putfield 21, 3) := by decide +kernel
theorem dX8_clear_31 : decode cX8_clear 31 = .ok (.return_, 1) := by decide +kernel
theorem dX8_become_0 : decode cX8_become 0 = .ok (.aload_n 0, 1) := by decide +kernel
theorem dX8_become_1 : decode cX8_become 1 = .ok (.aload_n 1, 1) := by decide +kernel
theorem dX8_become_2 : decode cX8_become 2 = .ok (.getfield 43, 3) := by decide +kernel
theorem dX8_become_5 : decode cX8_become 5 = .ok (.putfield 43, 3) := by decide +kernel
theorem dX8_become_8 : decode cX8_become 8 = .ok (.aload_n 0, 1) := by decide +kernel
theorem dX8_become_9 : decode cX8_become 9 = .ok (.aload_n 1, 1) := by decide +kernel
theorem dX8_become_10 : decode cX8_become 10 = .ok (.getfield 46, 3) := by decide +kernel
theorem dX8_become_13 : decode cX8_become 13 = .ok (.putfield 46, 3) := by decide +kernel
theorem dX8_become_16 : decode cX8_become 16 = .ok (.aload_n 0, 1) := by decide +kernel
theorem dX8_become_17 : decode cX8_become 17 = .ok (.aload_n 1, 1) := by decide +kernel
theorem dX8_become_18 : decode cX8_become 18 = .ok (.getfield 9, 3) := by decide +kernel
theorem dX8_become_21 : decode cX8_become 21 = .ok (.putfield 9, 3) := by decide +kernel
theorem dX8_become_24 : decode cX8_become 24 = .ok (.aload_n 0, 1) := by decide +kernel
theorem dX8_become_25 : decode cX8_become 25 = .ok (.aload_n 1, 1) := by decide +kernel
theorem dX8_become_26 : decode cX8_become 26 = .ok (.getfield 15, 3) := by decide +kernel
theorem dX8_become_29 : decode cX8_become 29 = .ok (.putfield 15, 3) := by decide +kernel
theorem dX8_become_32 : decode cX8_become 32 = .ok (.aload_n 0, 1) := by decide +kernel
theorem dX8_become_33 : decode cX8_become 33 = .ok (.aload_n 1, 1) := by decide +kernel
theorem dX8_become_34 : decode cX8_become 34 = .ok (.getfield 18, 3) := by decide +kernel
theorem dX8_become_37 : decode cX8_become 37 = .ok (.putfield 18, 3) := by decide +kernel
theorem dX8_become_40 : decode cX8_become 40 = .ok (.aload_n 0, 1) := by decide +kernel
theorem dX8_become_41 : decode cX8_become 41 = .ok (.aload_n 1, 1) := by decide +kernel
theorem dX8_become_42 : decode cX8_become 42 = .ok (.getfield 21, 3) := by decide +kernel
theorem dX8_become_45 : decode cX8_become 45 = .ok (.putfield 21, 3) := by decide +kernel
theorem dX8_become_48 : decode cX8_become 48 = .ok (.aload_n 1, 1) := by decide +kernel
theorem dX8_become_49 : decode cX8_become 49 = .ok (.getfield 24, 3) := by decide +kernel
theorem dX8_become_52 : decode cX8_become 52 = .ok (.aload_n 0, 1) := by decide +kernel
theorem dX8_become_53 : decode cX8_become 53 = .ok (.getfield 24, 3) := by decide +kernel
theorem dX8_become_56 : decode cX8_become 56 = .ok (.invokestatic 49, 3) := by decide +kernel
theorem dX8_become_59 : decode cX8_become 59 = .ok (.aload_n 1, 1) := by decide +kernel
theorem dX8_become_60 : decode cX8_become 60 = .ok (.getfield 28, 3) := by decide +kernel
theorem dX8_become_63 : decode cX8_become 63 = .ok (.aload_n 0, 1) := by decide +kernel
theorem dX8_become_64 : decode cX8_become 64 = .ok (.getfield 28, 3) := by decide +kernel
theorem dX8_become_67 : decode cX8_become 67 = .ok (.invokestatic 49, 3) := by decide +kernel
theorem dX8_become_70 : decode cX8_become 70 = .ok (.aload_n 1, 1) := by decide +kernel
theorem dX8_become_71 : decode cX8_become 71 = .ok (.getfield 31, 3) := by decide +kernel
theorem dX8_become_74 : decode cX8_become 74 = .ok (.aload_n 0, 1) := by decide +kernel
theorem dX8_become_75 : decode cX8_become 75 = .ok (.getfield 31, 3) := by decide +kernel
theorem dX8_become_78 : decode cX8_become 78 = .ok (.invokestatic 49, 3) := by decide +kernel
theorem dX8_become_81 : decode cX8_become 81 = .ok (.aload_n 1, 1) := by decide +kernel
theorem dX8_become_82 : decode cX8_become 82 = .ok (.getfield 34, 3) := by decide +kernel
theorem dX8_become_85 : decode cX8_become 85 = .ok (.aload_n 0, 1) := by decide +kernel
theorem dX8_become_86 : decode cX8_become 86 = .ok (.getfield 34, 3) := by decide +kernel
theorem dX8_become_89 : decode cX8_become 89 = .ok (.invokestatic 49, 3) := by decide +kernel
theorem dX8_become_92 : decode cX8_become 92 = .ok (.aload_n 1, 1) := by decide +kernel
theorem dX8_become_93 : decode cX8_become 93 = .ok (.getfield 37, 3) := by decide +kernel
theorem dX8_become_96 : decode cX8_become 96 = .ok (.aload_n 0, 1) := by decide +kernel
theorem dX8_become_97 : decode cX8_become 97 = .ok (.getfield 37, 3) := by decide +kernel
theorem dX8_become_100 : decode cX8_become 100 = .ok (.invokestatic 49, 3) := by decide +kernel
theorem dX8_become_103 : decode cX8_become 103 = .ok (.aload_n 1, 1) := by decide +kernel
theorem dX8_become_104 : decode cX8_become 104 = .ok (.getfield 40, 3) := by decide +kernel
theorem dX8_become_107 : decode cX8_become 107 = .ok (.aload_n 0, 1) := by decide +kernel
theorem dX8_become_108 : decode cX8_become 108 = .ok (.getfield 40, 3) := by decide +kernel
theorem dX8_become_111 : decode cX8_become 111 = .ok (.invokestatic 49, 3) := by decide +kernel
theorem dX8_become_114 : decode cX8_become 114 = .ok (.return_, 1) := by decide +kernel
theorem dX8_hasPerson_0 : decode cX8_hasPerson 0 = .ok (.iload_n 1, 1) := by decide +kernel
theorem dX8_hasPerson_1 : decode cX8_hasPerson 1 = .ok (.ifCond .lt 15, 3) := by decide +kernel
theorem dX8_hasPerson_4 : decode cX8_hasPerson 4 = .ok (.iload_n 1, 1) := by decide +kernel
theorem dX8_hasPerson_5 : decode cX8_hasPerson 5 = .ok (.aload_n 0, 1) := by decide +kernel
theorem dX8_hasPerson_6 : decode cX8_hasPerson 6 = .ok (.getfield 46, 3) := by decide +kernel
theorem dX8_hasPerson_9 : decode cX8_hasPerson 9 = .ok (.if_icmp .ge 7, 3) := by decide +kernel
theorem dX8_hasPerson_12 : decode cX8_hasPerson 12 = .ok (.iconst 1, 1) := by decide +kernel
theorem dX8_hasPerson_13 : decode cX8_hasPerson 13 = .ok (.goto 4, 3) := by decide +kernel
theorem dX8_hasPerson_16 : decode cX8_hasPerson 16 = .ok (.iconst 0, 1) := by decide +kernel
theorem dX8_hasPerson_17 : decode cX8_hasPerson 17 = .ok (.ireturn, 1) := by decide +kernel
theorem dX8_hasTwo_0 : decode cX8_hasTwo 0 = .ok (.aload_n 0, 1) := by decide +kernel
theorem dX8_hasTwo_1 : decode cX8_hasTwo 1 = .ok (.iload_n 1, 1) := by decide +kernel
theorem dX8_hasTwo_2 : decode cX8_hasTwo 2 = .ok (.invokevirtual 55, 3) := by decide +kernel
theorem dX8_hasTwo_5 : decode cX8_hasTwo 5 = .ok (.ifCond .eq 20, 3) := by decide +kernel
theorem dX8_hasTwo_8 : decode cX8_hasTwo 8 = .ok (.aload_n 0, 1) := by decide +kernel
theorem dX8_hasTwo_9 : decode cX8_hasTwo 9 = .ok (.iload_n 2, 1) := by decide +kernel
theorem dX8_hasTwo_10 : decode cX8_hasTwo 10 = .ok (.invokevirtual 55, 3) := by decide +kernel
theorem dX8_hasTwo_13 : decode cX8_hasTwo 13 = .ok (.ifCond .eq 12, 3) := by decide +kernel
theorem dX8_hasTwo_16 : decode cX8_hasTwo 16 = .ok (.iload_n 1, 1) := by decide +kernel
theorem dX8_hasTwo_17 : decode cX8_hasTwo 17 = .ok (.iload_n 2, 1) := by decide +kernel
theorem dX8_hasTwo_18 : decode cX8_hasTwo 18 = .ok (.if_icmp .eq 7, 3) := by decide +kernel
theorem dX8_hasTwo_21 : decode cX8_hasTwo 21 = .ok (.iconst 1, 1) := by decide +kernel
theorem dX8_hasTwo_22 : decode cX8_hasTwo 22 = .ok (.goto 4, 3) := by decide +kernel
theorem dX8_hasTwo_25 : decode cX8_hasTwo 25 = .ok (.iconst 0, 1) := by decide +kernel
theorem dX8_hasTwo_26 : decode cX8_hasTwo 26 = .ok (.ireturn, 1) := by decide +kernel
theorem dX8_bottom_0 : decode cX8_bottom 0 = .ok (.aload_n 0, 1) := by decide +kernel
theorem dX8_bottom_1 : decode cX8_bottom 1 = .ok (.getfield 43, 3) := by decide +kernel
theorem dX8_bottom_4 : decode cX8_bottom 4 = .ok (.bipush 100, 2) := by decide +kernel
theorem dX8_bottom_6 : decode cX8_bottom 6 = .ok (.imul, 1) := by decide +kernel
theorem dX8_bottom_7 : decode cX8_bottom 7 = .ok (.ireturn, 1) := by decide +kernel
theorem dX9_init_0 : decode cX9_init 0 = .ok (.aload_n 0, 1) := by decide +kernel
theorem dX9_init_1 : decode cX9_init 1 = .ok (.invokespecial 1, 3) := by decide +kernel
theorem dX9_init_4 : decode cX9_init 4 = .ok (.aload_n 0, 1) := by decide +kernel
theorem dX9_init_5 : decode cX9_init 5 = .ok (.new 7, 3) := by decide +kernel
theorem dX9_init_8 : decode cX9_init 8 = .ok (.dup, 1) := by decide +kernel
theorem dX9_init_9 : decode cX9_init 9 = .ok (.invokespecial 9, 3) := by decide +kernel
theorem dX9_init_12 : decode cX9_init 12 = .ok (.putfield 10, 3) := by decide +kernel
theorem dX9_init_15 : decode cX9_init 15 = .ok (.aload_n 0, 1) := by decide +kernel
theorem dX9_init_16 : decode cX9_init 16 = .ok (.new 16, 3) := by decide +kernel
theorem dX9_init_19 : decode cX9_init 19 = .ok (.dup, 1) := by decide +kernel
theorem dX9_init_20 : decode cX9_init 20 = .ok (.invokespecial 18, 3) := by decide +kernel
theorem dX9_init_23 : decode cX9_init 23 = .ok (.putfield 19, 3) := by decide +kernel
theorem dX9_init_26 : decode cX9_init 26 = .ok (.aload_n 0, 1) := by decide +kernel
theorem dX9_init_27 : decode cX9_init 27 = .ok (.new 23, 3) := by decide +kernel
theorem dX9_init_30 : decode cX9_init 30 = .ok (.dup, 1) := by decide +kernel
theorem dX9_init_31 : decode cX9_init 31 = .ok (.invokespecial 25, 3) := by decide +kernel
theorem dX9_init_34 : decode cX9_init 34 = .ok (.putfield 26, 3) := by decide +kernel
theorem dX9_init_37 : decode cX9_init 37 = .ok (.aload_n 0, 1) := by decide +kernel
theorem dX9_init_38 : decode cX9_init 38 = .ok (.new 30, 3) := by decide +kernel
theorem dX9_init_41 : decode cX9_init 41 = .ok (.dup, 1) := by decide +kernel
theorem dX9_init_42 : decode cX9_init 42 = .ok (.invokespecial 32, 3) := by decide +kernel
theorem dX9_init_45 : decode cX9_init 45 = .ok (.putfield 33, 3) := by decide +kernel
theorem dX9_init_48 : decode cX9_init 48 = .ok (.aload_n 0, 1) := by decide +kernel
theorem dX9_init_49 : decode cX9_init 49 = .ok (.new 37, 3) := by decide +kernel
theorem dX9_init_52 : decode cX9_init 52 = .ok (.dup, 1) := by decide +kernel
theorem dX9_init_53 : decode cX9_init 53 = .ok (.invokespecial 39, 3) := by decide +kernel
theorem dX9_init_56 : decode cX9_init 56 = .ok (.putfield 40, 3) := by decide +kernel
theorem dX9_init_59 : decode cX9_init 59 = .ok (.aload_n 0, 1) := by decide +kernel
theorem dX9_init_60 : decode cX9_init 60 = .ok (.new 44, 3) := by decide +kernel
theorem dX9_init_63 : decode cX9_init 63 = .ok (.dup, 1) := by decide +kernel
theorem dX9_init_64 : decode cX9_init 64 = .ok (.invokespecial 46, 3) := by decide +kernel
theorem dX9_init_67 : decode cX9_init 67 = .ok (.putfield 47, 3) := by decide +kernel
theorem dX9_init_70 : decode cX9_init 70 = .ok (.aload_n 0, 1) := by decide +kernel
theorem dX9_init_71 : decode cX9_init 71 = .ok (.new 51, 3) := by decide +kernel
theorem dX9_init_74 : decode cX9_init 74 = .ok (.dup, 1) := by decide +kernel
theorem dX9_init_75 : decode cX9_init 75 = .ok (.bipush 8, 2) := by decide +kernel
theorem dX9_init_77 : decode cX9_init 77 = .ok (.invokespecial 53, 3) := by decide +kernel
theorem dX9_init_80 : decode cX9_init 80 = .ok (.putfield 56, 3) := by decide +kernel
theorem dX9_init_83 : decode cX9_init 83 = .ok (.aload_n 0, 1) := by decide +kernel
theorem dX9_init_84 : decode cX9_init 84 = .ok (.new 51, 3) := by decide +kernel
theorem dX9_init_87 : decode cX9_init 87 = .ok (.dup, 1) := by decide +kernel
theorem dX9_init_88 : decode cX9_init 88 = .ok (.bipush 20, 2) := by decide +kernel
theorem dX9_init_90 : decode cX9_init 90 = .ok (.invokespecial 53, 3) := by decide +kernel
theorem dX9_init_93 : decode cX9_init 93 = .ok (.putfield 60, 3) := by decide +kernel
theorem dX9_init_96 : decode cX9_init 96 = .ok (.aload_n 0, 1) := by decide +kernel
theorem dX9_init_97 : decode cX9_init 97 = .ok (.new 63, 3) := by decide +kernel
theorem dX9_init_100 : decode cX9_init 100 = .ok (.dup, 1) := by decide +kernel
theorem dX9_init_101 : decode cX9_init 101 = .ok (.invokespecial 65, 3) := by decide +kernel
theorem dX9_init_104 : decode cX9_init 104 = .ok (.putfield 66, 3) := by decide +kernel
theorem dX9_init_107 : decode cX9_init 107 = .ok (.aload_n 0, 1) := by decide +kernel
theorem dX9_init_108 : decode cX9_init 108 = .ok (.new 63, 3) := by decide +kernel
theorem dX9_init_111 : decode cX9_init 111 = .ok (.dup, 1) := by decide +kernel
theorem dX9_init_112 : decode cX9_init 112 = .ok (.invokespecial 65, 3) := by decide +kernel
theorem dX9_init_115 : decode cX9_init 115 = .ok (.putfield 70, 3) := by decide +kernel
theorem dX9_init_118 : decode cX9_init 118 = .ok (.return_, 1) := by decide +kernel
theorem dX9_feed_0 : decode cX9_feed 0 = .ok (.iload_n 1, 1) := by decide +kernel
theorem dX9_feed_1 : decode cX9_feed 1 = .ok (.ifCond .lt 10, 3) := by decide +kernel
theorem dX9_feed_4 : decode cX9_feed 4 = .ok (.iload_n 1, 1) := by decide +kernel
theorem dX9_feed_5 : decode cX9_feed 5 = .ok (.sipush 255, 3) := by decide +kernel
theorem dX9_feed_8 : decode cX9_feed 8 = .ok (.if_icmp .le 6, 3) := by decide +kernel
theorem dX9_feed_11 : decode cX9_feed 11 = .ok (.ldc 73, 2) := by decide +kernel
theorem dX9_feed_13 : decode cX9_feed 13 = .ok (.ireturn, 1) := by decide +kernel
theorem dX9_feed_14 : decode cX9_feed 14 = .ok (.aload_n 0, 1) := by decide +kernel
theorem dX9_feed_15 : decode cX9_feed 15 = .ok (.getfield 19, 3) := by decide +kernel
theorem dX9_feed_18 : decode cX9_feed 18 = .ok (.getfield 74, 3) := by decide +kernel
theorem dX9_feed_21 : decode cX9_feed 21 = .ok (.iload_n 1, 1) := by decide +kernel
theorem dX9_feed_22 : decode cX9_feed 22 = .ok (.invokevirtual 77, 3) := by decide +kernel
theorem dX9_feed_25 : decode cX9_feed 25 = .ok (.ifCond .eq 16, 3) := by decide +kernel
theorem dX9_feed_28 : decode cX9_feed 28 = .ok (.aload_n 0, 1) := by decide +kernel
theorem dX9_feed_29 : decode cX9_feed 29 = .ok (.getfield 19, 3) := by decide +kernel
theorem dX9_feed_32 : decode cX9_feed 32 = .ok (.getfield 74, 3) := by decide +kernel
theorem dX9_feed_35 : decode cX9_feed 35 = .ok (.getfield 81, 3) := by decide +kernel
theorem dX9_feed_38 : decode cX9_feed 38 = .ok (.goto 5, 3) := by decide +kernel
theorem dX9_feed_41 : decode cX9_feed 41 = .ok (.ldc 85, 2) := by decide +kernel
theorem dX9_feed_43 : decode cX9_feed 43 = .ok (.ireturn, 1) := by decide +kernel
theorem dX9_yard_0 : decode cX9_yard 0 = .ok (.aload_n 0, 1) := by decide +kernel
theorem dX9_yard_1 : decode cX9_yard 1 = .ok (.getfield 19, 3) := by decide +kernel
theorem dX9_yard_4 : decode cX9_yard 4 = .ok (.invokevirtual 86, 3) := by decide +kernel
theorem dX9_yard_7 : decode cX9_yard 7 = .ok (.aload_n 0, 1) := by decide +kernel
theorem dX9_yard_8 : decode cX9_yard 8 = .ok (.getfield 19, 3) := by decide +kernel
theorem dX9_yard_11 : decode cX9_yard 11 = .ok (.getfield 89, 3) := by decide +kernel
theorem dX9_yard_14 : decode cX9_yard 14 = .ok (.ifCond .eq 14, 3) := by decide +kernel
theorem dX9_yard_17 : decode cX9_yard 17 = .ok (.bipush (-10), 2) := by decide +kernel
theorem dX9_yard_19 : decode cX9_yard 19 = .ok (.aload_n 0, 1) := by decide +kernel
theorem dX9_yard_20 : decode cX9_yard 20 = .ok (.getfield 19, 3) := by decide +kernel
theorem dX9_yard_23 : decode cX9_yard 23 = .ok (.getfield 89, 3) := by decide +kernel
theorem dX9_yard_26 : decode cX9_yard 26 = .ok (.isub, 1) := by decide +kernel
theorem dX9_yard_27 : decode cX9_yard 27 = .ok (.ireturn, 1) := by decide +kernel
theorem dX9_yard_28 : decode cX9_yard 28 = .ok (.aload_n 0, 1) := by decide +kernel
theorem dX9_yard_29 : decode cX9_yard 29 = .ok (.getfield 10, 3) := by decide +kernel
theorem dX9_yard_32 : decode cX9_yard 32 = .ok (.aload_n 0, 1) := by decide +kernel
theorem dX9_yard_33 : decode cX9_yard 33 = .ok (.getfield 19, 3) := by decide +kernel
theorem dX9_yard_36 : decode cX9_yard 36 = .ok (.getfield 92, 3) := by decide +kernel
theorem dX9_yard_39 : decode cX9_yard 39 = .ok (.invokevirtual 95, 3) := by decide +kernel
theorem dX9_yard_42 : decode cX9_yard 42 = .ok (.aload_n 0, 1) := by decide +kernel
theorem dX9_yard_43 : decode cX9_yard 43 = .ok (.getfield 26, 3) := by decide +kernel
theorem dX9_yard_46 : decode cX9_yard 46 = .ok (.aload_n 0, 1) := by decide +kernel
theorem dX9_yard_47 : decode cX9_yard 47 = .ok (.getfield 10, 3) := by decide +kernel
theorem dX9_yard_50 : decode cX9_yard 50 = .ok (.invokevirtual 99, 3) := by decide +kernel
theorem dX9_yard_53 : decode cX9_yard 53 = .ok (.aload_n 0, 1) := by decide +kernel
theorem dX9_yard_54 : decode cX9_yard 54 = .ok (.getfield 56, 3) := by decide +kernel
theorem dX9_yard_57 : decode cX9_yard 57 = .ok (.invokevirtual 102, 3) := by decide +kernel
theorem dX9_yard_60 : decode cX9_yard 60 = .ok (.aload_n 0, 1) := by decide +kernel
theorem dX9_yard_61 : decode cX9_yard 61 = .ok (.getfield 60, 3) := by decide +kernel
theorem dX9_yard_64 : decode cX9_yard 64 = .ok (.invokevirtual 102, 3) := by decide +kernel
theorem dX9_yard_67 : decode cX9_yard 67 = .ok (.aload_n 0, 1) := by decide +kernel
theorem dX9_yard_68 : decode cX9_yard 68 = .ok (.getfield 33, 3) := by decide +kernel
theorem dX9_yard_71 : decode cX9_yard 71 = .ok (.invokevirtual 105, 3) := by decide +kernel
theorem dX9_yard_74 : decode cX9_yard 74 = .ok (.aload_n 0, 1) := by decide +kernel
theorem dX9_yard_75 : decode cX9_yard 75 = .ok (.getfield 66, 3) := by decide +kernel
theorem dX9_yard_78 : decode cX9_yard 78 = .ok (.iconst 0, 1) := by decide +kernel
theorem dX9_yard_79 : decode cX9_yard 79 = .ok (.putfield 106, 3) := by decide +kernel
theorem dX9_yard_82 : decode cX9_yard 82 = .ok (.aload_n 0, 1) := by decide +kernel
theorem dX9_yard_83 : decode cX9_yard 83 = .ok (.getfield 70, 3) := by decide +kernel
theorem dX9_yard_86 : decode cX9_yard 86 = .ok (.iconst 0, 1) := by decide +kernel
theorem dX9_yard_87 : decode cX9_yard 87 = .ok (.putfield 106, 3) := by decide +kernel
theorem dX9_yard_90 : decode cX9_yard 90 = .ok (.aload_n 0, 1) := by decide +kernel
theorem dX9_yard_91 : decode cX9_yard 91 = .ok (.getfield 10, 3) := by decide +kernel
theorem dX9_yard_94 : decode cX9_yard 94 = .ok (.getfield 110, 3) := by decide +kernel
theorem dX9_yard_97 : decode cX9_yard 97 = .ok (.ireturn, 1) := by decide +kernel
theorem dX9_fault_0 : decode cX9_fault 0 = .ok (.aload_n 0, 1) := by decide +kernel
theorem dX9_fault_1 : decode cX9_fault 1 = .ok (.getfield 19, 3) := by decide +kernel
theorem dX9_fault_4 : decode cX9_fault 4 = .ok (.getfield 113, 3) := by decide +kernel
theorem dX9_fault_7 : decode cX9_fault 7 = .ok (.ireturn, 1) := by decide +kernel
theorem dX9_told_0 : decode cX9_told 0 = .ok (.iload_n 1, 1) := by decide +kernel
theorem dX9_told_1 : decode cX9_told 1 = .ok (.tableswitch 266 0 18 #[91, 99, 107, 118, 126, 134, 142, 150, 158, 166, 174, 190, 198, 206, 214, 222, 242, 250, 258], 91) := by decide +kernel
theorem dX9_told_92 : decode cX9_told 92 = .ok (.aload_n 0, 1) := by decide +kernel
theorem dX9_told_93 : decode cX9_told 93 = .ok (.getfield 10, 3) := by decide +kernel
theorem dX9_told_96 : decode cX9_told 96 = .ok (.getfield 110, 3) := by decide +kernel
theorem dX9_told_99 : decode cX9_told 99 = .ok (.ireturn, 1) := by decide +kernel
theorem dX9_told_100 : decode cX9_told 100 = .ok (.aload_n 0, 1) := by decide +kernel
theorem dX9_told_101 : decode cX9_told 101 = .ok (.getfield 10, 3) := by decide +kernel
theorem dX9_told_104 : decode cX9_told 104 = .ok (.getfield 116, 3) := by decide +kernel
theorem dX9_told_107 : decode cX9_told 107 = .ok (.ireturn, 1) := by decide +kernel
theorem dX9_told_108 : decode cX9_told 108 = .ok (.aload_n 0, 1) := by decide +kernel
theorem dX9_told_109 : decode cX9_told 109 = .ok (.getfield 19, 3) := by decide +kernel
theorem dX9_told_112 : decode cX9_told 112 = .ok (.getfield 74, 3) := by decide +kernel
theorem dX9_told_115 : decode cX9_told 115 = .ok (.getfield 81, 3) := by decide +kernel
theorem dX9_told_118 : decode cX9_told 118 = .ok (.ireturn, 1) := by decide +kernel
theorem dX9_told_119 : decode cX9_told 119 = .ok (.aload_n 0, 1) := by decide +kernel
theorem dX9_told_120 : decode cX9_told 120 = .ok (.getfield 26, 3) := by decide +kernel
theorem dX9_told_123 : decode cX9_told 123 = .ok (.getfield 119, 3) := by decide +kernel
theorem dX9_told_126 : decode cX9_told 126 = .ok (.ireturn, 1) := by decide +kernel
theorem dX9_told_127 : decode cX9_told 127 = .ok (.aload_n 0, 1) := by decide +kernel
theorem dX9_told_128 : decode cX9_told 128 = .ok (.getfield 26, 3) := by decide +kernel
theorem dX9_told_131 : decode cX9_told 131 = .ok (.getfield 122, 3) := by decide +kernel
theorem dX9_told_134 : decode cX9_told 134 = .ok (.ireturn, 1) := by decide +kernel
theorem dX9_told_135 : decode cX9_told 135 = .ok (.aload_n 0, 1) := by decide +kernel
theorem dX9_told_136 : decode cX9_told 136 = .ok (.getfield 26, 3) := by decide +kernel
theorem dX9_told_139 : decode cX9_told 139 = .ok (.getfield 125, 3) := by decide +kernel
theorem dX9_told_142 : decode cX9_told 142 = .ok (.ireturn, 1) := by decide +kernel
theorem dX9_told_143 : decode cX9_told 143 = .ok (.aload_n 0, 1) := by decide +kernel
theorem dX9_told_144 : decode cX9_told 144 = .ok (.getfield 26, 3) := by decide +kernel
theorem dX9_told_147 : decode cX9_told 147 = .ok (.getfield 128, 3) := by decide +kernel
theorem dX9_told_150 : decode cX9_told 150 = .ok (.ireturn, 1) := by decide +kernel
theorem dX9_told_151 : decode cX9_told 151 = .ok (.aload_n 0, 1) := by decide +kernel
theorem dX9_told_152 : decode cX9_told 152 = .ok (.getfield 26, 3) := by decide +kernel
theorem dX9_told_155 : decode cX9_told 155 = .ok (.getfield 131, 3) := by decide +kernel
theorem dX9_told_158 : decode cX9_told 158 = .ok (.ireturn, 1) := by decide +kernel
theorem dX9_told_159 : decode cX9_told 159 = .ok (.aload_n 0, 1) := by decide +kernel
theorem dX9_told_160 : decode cX9_told 160 = .ok (.getfield 26, 3) := by decide +kernel
theorem dX9_told_163 : decode cX9_told 163 = .ok (.getfield 134, 3) := by decide +kernel
theorem dX9_told_166 : decode cX9_told 166 = .ok (.ireturn, 1) := by decide +kernel
theorem dX9_told_167 : decode cX9_told 167 = .ok (.aload_n 0, 1) := by decide +kernel
theorem dX9_told_168 : decode cX9_told 168 = .ok (.getfield 26, 3) := by decide +kernel
theorem dX9_told_171 : decode cX9_told 171 = .ok (.getfield 137, 3) := by decide +kernel
theorem dX9_told_174 : decode cX9_told 174 = .ok (.ireturn, 1) := by decide +kernel
theorem dX9_told_175 : decode cX9_told 175 = .ok (.aload_n 0, 1) := by decide +kernel
theorem dX9_told_176 : decode cX9_told 176 = .ok (.getfield 26, 3) := by decide +kernel
theorem dX9_told_179 : decode cX9_told 179 = .ok (.getfield 140, 3) := by decide +kernel
theorem dX9_told_182 : decode cX9_told 182 = .ok (.ifCond .eq 7, 3) := by decide +kernel
theorem dX9_told_185 : decode cX9_told 185 = .ok (.iconst 1, 1) := by decide +kernel
theorem dX9_told_186 : decode cX9_told 186 = .ok (.goto 4, 3) := by decide +kernel
theorem dX9_told_189 : decode cX9_told 189 = .ok (.iconst 0, 1) := by decide +kernel
theorem dX9_told_190 : decode cX9_told 190 = .ok (.ireturn, 1) := by decide +kernel
theorem dX9_told_191 : decode cX9_told 191 = .ok (.aload_n 0, 1) := by decide +kernel
theorem dX9_told_192 : decode cX9_told 192 = .ok (.getfield 26, 3) := by decide +kernel
theorem dX9_told_195 : decode cX9_told 195 = .ok (.getfield 143, 3) := by decide +kernel
theorem dX9_told_198 : decode cX9_told 198 = .ok (.ireturn, 1) := by decide +kernel
theorem dX9_told_199 : decode cX9_told 199 = .ok (.aload_n 0, 1) := by decide +kernel
theorem dX9_told_200 : decode cX9_told 200 = .ok (.getfield 10, 3) := by decide +kernel
theorem dX9_told_203 : decode cX9_told 203 = .ok (.getfield 146, 3) := by decide +kernel
theorem dX9_told_206 : decode cX9_told 206 = .ok (.ireturn, 1) := by decide +kernel
theorem dX9_told_207 : decode cX9_told 207 = .ok (.aload_n 0, 1) := by decide +kernel
theorem dX9_told_208 : decode cX9_told 208 = .ok (.getfield 10, 3) := by decide +kernel
theorem dX9_told_211 : decode cX9_told 211 = .ok (.getfield 149, 3) := by decide +kernel
theorem dX9_told_214 : decode cX9_told 214 = .ok (.ireturn, 1) := by decide +kernel
theorem dX9_told_215 : decode cX9_told 215 = .ok (.aload_n 0, 1) := by decide +kernel
theorem dX9_told_216 : decode cX9_told 216 = .ok (.getfield 10, 3) := by decide +kernel
theorem dX9_told_219 : decode cX9_told 219 = .ok (.getfield 152, 3) := by decide +kernel
theorem dX9_told_222 : decode cX9_told 222 = .ok (.ireturn, 1) := by decide +kernel
theorem dX9_told_223 : decode cX9_told 223 = .ok (.aload_n 0, 1) := by decide +kernel
theorem dX9_told_224 : decode cX9_told 224 = .ok (.getfield 26, 3) := by decide +kernel
theorem dX9_told_227 : decode cX9_told 227 = .ok (.aload_n 0, 1) := by decide +kernel
theorem dX9_told_228 : decode cX9_told 228 = .ok (.getfield 10, 3) := by decide +kernel
theorem dX9_told_231 : decode cX9_told 231 = .ok (.invokevirtual 155, 3) := by decide +kernel
theorem dX9_told_234 : decode cX9_told 234 = .ok (.ifCond .eq 7, 3) := by decide +kernel
theorem dX9_told_237 : decode cX9_told 237 = .ok (.iconst 1, 1) := by decide +kernel
theorem dX9_told_238 : decode cX9_told 238 = .ok (.goto 4, 3) := by decide +kernel
theorem dX9_told_241 : decode cX9_told 241 = .ok (.iconst 0, 1) := by decide +kernel
theorem dX9_told_242 : decode cX9_told 242 = .ok (.ireturn, 1) := by decide +kernel
theorem dX9_told_243 : decode cX9_told 243 = .ok (.aload_n 0, 1) := by decide +kernel
theorem dX9_told_244 : decode cX9_told 244 = .ok (.getfield 56, 3) := by decide +kernel
theorem dX9_told_247 : decode cX9_told 247 = .ok (.getfield 81, 3) := by decide +kernel
theorem dX9_told_250 : decode cX9_told 250 = .ok (.ireturn, 1) := by decide +kernel
theorem dX9_told_251 : decode cX9_told 251 = .ok (.aload_n 0, 1) := by decide +kernel
theorem dX9_told_252 : decode cX9_told 252 = .ok (.getfield 60, 3) := by decide +kernel
theorem dX9_told_255 : decode cX9_told 255 = .ok (.getfield 81, 3) := by decide +kernel
theorem dX9_told_258 : decode cX9_told 258 = .ok (.ireturn, 1) := by decide +kernel
theorem dX9_told_259 : decode cX9_told 259 = .ok (.aload_n 0, 1) := by decide +kernel
theorem dX9_told_260 : decode cX9_told 260 = .ok (.getfield 33, 3) := by decide +kernel
theorem dX9_told_263 : decode cX9_told 263 = .ok (.getfield 159, 3) := by decide +kernel
theorem dX9_told_266 : decode cX9_told 266 = .ok (.ireturn, 1) := by decide +kernel
theorem dX9_told_267 : decode cX9_told 267 = .ok (.ldc 73, 2) := by decide +kernel
theorem dX9_told_269 : decode cX9_told 269 = .ok (.ireturn, 1) := by decide +kernel
theorem dX9_wood_0 : decode cX9_wood 0 = .ok (.iload_n 1, 1) := by decide +kernel
theorem dX9_wood_1 : decode cX9_wood 1 = .ok (.ifCond .lt 14, 3) := by decide +kernel
theorem dX9_wood_4 : decode cX9_wood 4 = .ok (.iload_n 1, 1) := by decide +kernel
theorem dX9_wood_5 : decode cX9_wood 5 = .ok (.aload_n 0, 1) := by decide +kernel
theorem dX9_wood_6 : decode cX9_wood 6 = .ok (.getfield 10, 3) := by decide +kernel
theorem dX9_wood_9 : decode cX9_wood 9 = .ok (.getfield 110, 3) := by decide +kernel
theorem dX9_wood_12 : decode cX9_wood 12 = .ok (.if_icmp .lt 8, 3) := by decide +kernel
theorem dX9_wood_15 : decode cX9_wood 15 = .ok (.ldc 160, 2) := by decide +kernel
theorem dX9_wood_17 : decode cX9_wood 17 = .ok (.goto 14, 3) := by decide +kernel
theorem dX9_wood_20 : decode cX9_wood 20 = .ok (.aload_n 0, 1) := by decide +kernel
theorem dX9_wood_21 : decode cX9_wood 21 = .ok (.getfield 10, 3) := by decide +kernel
theorem dX9_wood_24 : decode cX9_wood 24 = .ok (.getfield 161, 3) := by decide +kernel
theorem dX9_wood_27 : decode cX9_wood 27 = .ok (.iload_n 1, 1) := by decide +kernel
theorem dX9_wood_28 : decode cX9_wood 28 = .ok (.invokestatic 165, 3) := by decide +kernel
theorem dX9_wood_31 : decode cX9_wood 31 = .ok (.ireturn, 1) := by decide +kernel
theorem dX9_person_0 : decode cX9_person 0 = .ok (.aload_n 0, 1) := by decide +kernel
theorem dX9_person_1 : decode cX9_person 1 = .ok (.getfield 10, 3) := by decide +kernel
theorem dX9_person_4 : decode cX9_person 4 = .ok (.iload_n 1, 1) := by decide +kernel
theorem dX9_person_5 : decode cX9_person 5 = .ok (.invokevirtual 171, 3) := by decide +kernel
theorem dX9_person_8 : decode cX9_person 8 = .ok (.ifCond .ne 6, 3) := by decide +kernel
theorem dX9_person_11 : decode cX9_person 11 = .ok (.ldc 160, 2) := by decide +kernel
theorem dX9_person_13 : decode cX9_person 13 = .ok (.ireturn, 1) := by decide +kernel
theorem dX9_person_14 : decode cX9_person 14 = .ok (.iload_n 2, 1) := by decide +kernel
theorem dX9_person_15 : decode cX9_person 15 = .ok (.tableswitch 141 0 7 #[45, 57, 69, 81, 93, 105, 117, 129], 45) := by decide +kernel
theorem dX9_person_60 : decode cX9_person 60 = .ok (.aload_n 0, 1) := by decide +kernel
theorem dX9_person_61 : decode cX9_person 61 = .ok (.getfield 10, 3) := by decide +kernel
theorem dX9_person_64 : decode cX9_person 64 = .ok (.getfield 174, 3) := by decide +kernel
theorem dX9_person_67 : decode cX9_person 67 = .ok (.iload_n 1, 1) := by decide +kernel
theorem dX9_person_68 : decode cX9_person 68 = .ok (.invokestatic 165, 3) := by decide +kernel
theorem dX9_person_71 : decode cX9_person 71 = .ok (.ireturn, 1) := by decide +kernel
theorem dX9_person_72 : decode cX9_person 72 = .ok (.aload_n 0, 1) := by decide +kernel
theorem dX9_person_73 : decode cX9_person 73 = .ok (.getfield 10, 3) := by decide +kernel
theorem dX9_person_76 : decode cX9_person 76 = .ok (.getfield 177, 3) := by decide +kernel
theorem dX9_person_79 : decode cX9_person 79 = .ok (.iload_n 1, 1) := by decide +kernel
theorem dX9_person_80 : decode cX9_person 80 = .ok (.invokestatic 165, 3) := by decide +kernel
theorem dX9_person_83 : decode cX9_person 83 = .ok (.ireturn, 1) := by decide +kernel
