theorem dX0_init_0 : decode cX0_init 0 = .ok (.aload_n 0, 1) := by decide +kernel
theorem dX0_init_1 : decode cX0_init 1 = .ok (.invokespecial 3, 3) := by decide +kernel
theorem dX0_init_4 : decode cX0_init 4 = .ok (.aload_n 0, 1) := by decide +kernel
theorem dX0_init_5 : decode cX0_init 5 = .ok (.bipush 122, 2) := by decide +kernel
theorem dX0_init_7 : decode cX0_init 7 = .ok (.newarray .int, 2) := by decide +kernel
theorem dX0_init_9 : decode cX0_init 9 = .ok (.putfield 11, 3) := by decide +kernel
theorem dX0_init_12 : decode cX0_init 12 = .ok (.aload_n 0, 1) := by decide +kernel
theorem dX0_init_13 : decode cX0_init 13 = .ok (.bipush 122, 2) := by decide +kernel
theorem dX0_init_15 : decode cX0_init 15 = .ok (.newarray .int, 2) := by decide +kernel
theorem dX0_init_17 : decode cX0_init 17 = .ok (.putfield 15, 3) := by decide +kernel
theorem dX0_init_20 : decode cX0_init 20 = .ok (.return_, 1) := by decide +kernel
theorem dX0_weigh_0 : decode cX0_weigh 0 = .ok (.aload_n 0, 1) := by decide +kernel
theorem dX0_weigh_1 : decode cX0_weigh 1 = .ok (.iload_n 1, 1) := by decide +kernel
theorem dX0_weigh_2 : decode cX0_weigh 2 = .ok (.putfield 18, 3) := by decide +kernel
theorem dX0_weigh_5 : decode cX0_weigh 5 = .ok (.aload_n 0, 1) := by decide +kernel
theorem dX0_weigh_6 : decode cX0_weigh 6 = .ok (.iload_n 2, 1) := by decide +kernel
theorem dX0_weigh_7 : decode cX0_weigh 7 = .ok (.putfield 22, 3) := by decide +kernel
theorem dX0_weigh_10 : decode cX0_weigh 10 = .ok (.aload_n 0, 1) := by decide +kernel
theorem dX0_weigh_11 : decode cX0_weigh 11 = .ok (.iload 4, 2) := by decide +kernel
theorem dX0_weigh_13 : decode cX0_weigh 13 = .ok (.putfield 25, 3) := by decide +kernel
theorem dX0_weigh_16 : decode cX0_weigh 16 = .ok (.aload_n 0, 1) := by decide +kernel
theorem dX0_weigh_17 : decode cX0_weigh 17 = .ok (.iconst (-1), 1) := by decide +kernel
theorem dX0_weigh_18 : decode cX0_weigh 18 = .ok (.putfield 28, 3) := by decide +kernel
theorem dX0_weigh_21 : decode cX0_weigh 21 = .ok (.aload_n 0, 1) := by decide +kernel
theorem dX0_weigh_22 : decode cX0_weigh 22 = .ok (.getfield 11, 3) := by decide +kernel
theorem dX0_weigh_25 : decode cX0_weigh 25 = .ok (.iconst 0, 1) := by decide +kernel
theorem dX0_weigh_26 : decode cX0_weigh 26 = .ok (.invokestatic 31, 3) := by decide +kernel
theorem dX0_weigh_29 : decode cX0_weigh 29 = .ok (.iload_n 3, 1) := by decide +kernel
theorem dX0_weigh_30 : decode cX0_weigh 30 = .ok (.bipush 30, 2) := by decide +kernel
theorem dX0_weigh_32 : decode cX0_weigh 32 = .ok (.invokestatic 37, 3) := by decide +kernel
theorem dX0_weigh_35 : decode cX0_weigh 35 = .ok (.iconst 1, 1) := by decide +kernel
theorem dX0_weigh_36 : decode cX0_weigh 36 = .ok (.isub, 1) := by decide +kernel
theorem dX0_weigh_37 : decode cX0_weigh 37 = .ok (.istore 5, 2) := by decide +kernel
theorem dX0_weigh_39 : decode cX0_weigh 39 = .ok (.iload 5, 2) := by decide +kernel
theorem dX0_weigh_41 : decode cX0_weigh 41 = .ok (.ifCond .lt 68, 3) := by decide +kernel
theorem dX0_weigh_44 : decode cX0_weigh 44 = .ok (.aload_n 0, 1) := by decide +kernel
theorem dX0_weigh_45 : decode cX0_weigh 45 = .ok (.invokevirtual 43, 3) := by decide +kernel
theorem dX0_weigh_48 : decode cX0_weigh 48 = .ok (.iload 5, 2) := by decide +kernel
theorem dX0_weigh_50 : decode cX0_weigh 50 = .ok (.ineg, 1) := by decide +kernel
theorem dX0_weigh_51 : decode cX0_weigh 51 = .ok (.istore 6, 2) := by decide +kernel
theorem dX0_weigh_53 : decode cX0_weigh 53 = .ok (.iload 6, 2) := by decide +kernel
theorem dX0_weigh_55 : decode cX0_weigh 55 = .ok (.iload 5, 2) := by decide +kernel
theorem dX0_weigh_57 : decode cX0_weigh 57 = .ok (.if_icmp .gt 23, 3) := by decide +kernel
theorem dX0_weigh_60 : decode cX0_weigh 60 = .ok (.aload_n 0, 1) := by decide +kernel
theorem dX0_weigh_61 : decode cX0_weigh 61 = .ok (.iload 6, 2) := by decide +kernel
theorem dX0_weigh_63 : decode cX0_weigh 63 = .ok (.iconst 1, 1) := by decide +kernel
theorem dX0_weigh_64 : decode cX0_weigh 64 = .ok (.invokevirtual 46, 3) := by decide +kernel
theorem dX0_weigh_67 : decode cX0_weigh 67 = .ok (.aload_n 0, 1) := by decide +kernel
theorem dX0_weigh_68 : decode cX0_weigh 68 = .ok (.iload 6, 2) := by decide +kernel
theorem dX0_weigh_70 : decode cX0_weigh 70 = .ok (.iconst (-1), 1) := by decide +kernel
theorem dX0_weigh_71 : decode cX0_weigh 71 = .ok (.invokevirtual 46, 3) := by decide +kernel
theorem dX0_weigh_74 : decode cX0_weigh 74 = .ok (.iinc 6 1, 3) := by decide +kernel
theorem dX0_weigh_77 : decode cX0_weigh 77 = .ok (.goto (-24), 3) := by decide +kernel
theorem dX0_weigh_80 : decode cX0_weigh 80 = .ok (.aload_n 0, 1) := by decide +kernel
theorem dX0_weigh_81 : decode cX0_weigh 81 = .ok (.iload 5, 2) := by decide +kernel
theorem dX0_weigh_83 : decode cX0_weigh 83 = .ok (.iconst 1, 1) := by decide +kernel
theorem dX0_weigh_84 : decode cX0_weigh 84 = .ok (.invokevirtual 50, 3) := by decide +kernel
theorem dX0_weigh_87 : decode cX0_weigh 87 = .ok (.aload_n 0, 1) := by decide +kernel
theorem dX0_weigh_88 : decode cX0_weigh 88 = .ok (.iload 5, 2) := by decide +kernel
theorem dX0_weigh_90 : decode cX0_weigh 90 = .ok (.iconst 1, 1) := by decide +kernel
theorem dX0_weigh_91 : decode cX0_weigh 91 = .ok (.invokevirtual 53, 3) := by decide +kernel
theorem dX0_weigh_94 : decode cX0_weigh 94 = .ok (.if_icmp .ge 9, 3) := by decide +kernel
theorem dX0_weigh_97 : decode cX0_weigh 97 = .ok (.aload_n 0, 1) := by decide +kernel
theorem dX0_weigh_98 : decode cX0_weigh 98 = .ok (.iload 5, 2) := by decide +kernel
theorem dX0_weigh_100 : decode cX0_weigh 100 = .ok (.putfield 28, 3) := by decide +kernel
theorem dX0_weigh_103 : decode cX0_weigh 103 = .ok (.iinc 5 (-1), 3) := by decide +kernel
theorem dX0_weigh_106 : decode cX0_weigh 106 = .ok (.goto (-67), 3) := by decide +kernel
theorem dX0_weigh_109 : decode cX0_weigh 109 = .ok (.aload_n 0, 1) := by decide +kernel
theorem dX0_weigh_110 : decode cX0_weigh 110 = .ok (.aload_n 0, 1) := by decide +kernel
theorem dX0_weigh_111 : decode cX0_weigh 111 = .ok (.getfield 11, 3) := by decide +kernel
theorem dX0_weigh_114 : decode cX0_weigh 114 = .ok (.iconst 0, 1) := by decide +kernel
theorem dX0_weigh_115 : decode cX0_weigh 115 = .ok (.iconst 1, 1) := by decide +kernel
theorem dX0_weigh_116 : decode cX0_weigh 116 = .ok (.invokestatic 56, 3) := by decide +kernel
theorem dX0_weigh_119 : decode cX0_weigh 119 = .ok (.invokestatic 59, 3) := by decide +kernel
theorem dX0_weigh_122 : decode cX0_weigh 122 = .ok (.putfield 63, 3) := by decide +kernel
theorem dX0_weigh_125 : decode cX0_weigh 125 = .ok (.aload_n 0, 1) := by decide +kernel
theorem dX0_weigh_126 : decode cX0_weigh 126 = .ok (.getfield 63, 3) := by decide +kernel
theorem dX0_weigh_129 : decode cX0_weigh 129 = .ok (.sipush 1000, 3) := by decide +kernel
theorem dX0_weigh_132 : decode cX0_weigh 132 = .ok (.if_icmp .lt 13, 3) := by decide +kernel
theorem dX0_weigh_135 : decode cX0_weigh 135 = .ok (.aload_n 0, 1) := by decide +kernel
theorem dX0_weigh_136 : decode cX0_weigh 136 = .ok (.iconst (-1), 1) := by decide +kernel
theorem dX0_weigh_137 : decode cX0_weigh 137 = .ok (.putfield 63, 3) := by decide +kernel
theorem dX0_weigh_140 : decode cX0_weigh 140 = .ok (.aload_n 0, 1) := by decide +kernel
theorem dX0_weigh_141 : decode cX0_weigh 141 = .ok (.iconst (-1), 1) := by decide +kernel
theorem dX0_weigh_142 : decode cX0_weigh 142 = .ok (.putfield 28, 3) := by decide +kernel
theorem dX0_weigh_145 : decode cX0_weigh 145 = .ok (.return_, 1) := by decide +kernel
theorem dX0_stepBack_0 : decode cX0_stepBack 0 = .ok (.aload_n 0, 1) := by decide +kernel
theorem dX0_stepBack_1 : decode cX0_stepBack 1 = .ok (.getfield 15, 3) := by decide +kernel
theorem dX0_stepBack_4 : decode cX0_stepBack 4 = .ok (.astore_n 1, 1) := by decide +kernel
theorem dX0_stepBack_5 : decode cX0_stepBack 5 = .ok (.aload_n 0, 1) := by decide +kernel
theorem dX0_stepBack_6 : decode cX0_stepBack 6 = .ok (.aload_n 0, 1) := by decide +kernel
theorem dX0_stepBack_7 : decode cX0_stepBack 7 = .ok (.getfield 11, 3) := by decide +kernel
theorem dX0_stepBack_10 : decode cX0_stepBack 10 = .ok (.putfield 15, 3) := by decide +kernel
theorem dX0_stepBack_13 : decode cX0_stepBack 13 = .ok (.aload_n 0, 1) := by decide +kernel
theorem dX0_stepBack_14 : decode cX0_stepBack 14 = .ok (.aload_n 1, 1) := by decide +kernel
theorem dX0_stepBack_15 : decode cX0_stepBack 15 = .ok (.putfield 11, 3) := by decide +kernel
theorem dX0_stepBack_18 : decode cX0_stepBack 18 = .ok (.return_, 1) := by decide +kernel
theorem dX0_weighAhead_0 : decode cX0_weighAhead 0 = .ok (.aload_n 0, 1) := by decide +kernel
theorem dX0_weighAhead_1 : decode cX0_weighAhead 1 = .ok (.iload_n 1, 1) := by decide +kernel
theorem dX0_weighAhead_2 : decode cX0_weighAhead 2 = .ok (.iload_n 2, 1) := by decide +kernel
theorem dX0_weighAhead_3 : decode cX0_weighAhead 3 = .ok (.invokevirtual 53, 3) := by decide +kernel
theorem dX0_weighAhead_6 : decode cX0_weighAhead 6 = .ok (.aload_n 0, 1) := by decide +kernel
theorem dX0_weighAhead_7 : decode cX0_weighAhead 7 = .ok (.iload_n 1, 1) := by decide +kernel
theorem dX0_weighAhead_8 : decode cX0_weighAhead 8 = .ok (.iload_n 2, 1) := by decide +kernel
theorem dX0_weighAhead_9 : decode cX0_weighAhead 9 = .ok (.invokevirtual 50, 3) := by decide +kernel
theorem dX0_weighAhead_12 : decode cX0_weighAhead 12 = .ok (.invokestatic 37, 3) := by decide +kernel
theorem dX0_weighAhead_15 : decode cX0_weighAhead 15 = .ok (.istore_n 3, 1) := by decide +kernel
theorem dX0_weighAhead_16 : decode cX0_weighAhead 16 = .ok (.aload_n 0, 1) := by decide +kernel
theorem dX0_weighAhead_17 : decode cX0_weighAhead 17 = .ok (.getfield 11, 3) := by decide +kernel
theorem dX0_weighAhead_20 : decode cX0_weighAhead 20 = .ok (.iload_n 1, 1) := by decide +kernel
theorem dX0_weighAhead_21 : decode cX0_weighAhead 21 = .ok (.iload_n 2, 1) := by decide +kernel
theorem dX0_weighAhead_22 : decode cX0_weighAhead 22 = .ok (.invokestatic 56, 3) := by decide +kernel
theorem dX0_weighAhead_25 : decode cX0_weighAhead 25 = .ok (.sipush 1000, 3) := by decide +kernel
theorem dX0_weighAhead_28 : decode cX0_weighAhead 28 = .ok (.iload_n 3, 1) := by decide +kernel
theorem dX0_weighAhead_29 : decode cX0_weighAhead 29 = .ok (.invokestatic 37, 3) := by decide +kernel
theorem dX0_weighAhead_32 : decode cX0_weighAhead 32 = .ok (.invokestatic 66, 3) := by decide +kernel
theorem dX0_weighAhead_35 : decode cX0_weighAhead 35 = .ok (.return_, 1) := by decide +kernel
theorem dX0_costOfStay_0 : decode cX0_costOfStay 0 = .ok (.aload_n 0, 1) := by decide +kernel
theorem dX0_costOfStay_1 : decode cX0_costOfStay 1 = .ok (.iload_n 1, 1) := by decide +kernel
theorem dX0_costOfStay_2 : decode cX0_costOfStay 2 = .ok (.iload_n 2, 1) := by decide +kernel
theorem dX0_costOfStay_3 : decode cX0_costOfStay 3 = .ok (.iadd, 1) := by decide +kernel
theorem dX0_costOfStay_4 : decode cX0_costOfStay 4 = .ok (.iload_n 2, 1) := by decide +kernel
theorem dX0_costOfStay_5 : decode cX0_costOfStay 5 = .ok (.invokevirtual 70, 3) := by decide +kernel
theorem dX0_costOfStay_8 : decode cX0_costOfStay 8 = .ok (.ireturn, 1) := by decide +kernel
theorem dX0_costOfChange_0 : decode cX0_costOfChange 0 = .ok (.aload_n 0, 1) := by decide +kernel
theorem dX0_costOfChange_1 : decode cX0_costOfChange 1 = .ok (.iload_n 1, 1) := by decide +kernel
theorem dX0_costOfChange_2 : decode cX0_costOfChange 2 = .ok (.iload_n 2, 1) := by decide +kernel
theorem dX0_costOfChange_3 : decode cX0_costOfChange 3 = .ok (.isub, 1) := by decide +kernel
theorem dX0_costOfChange_4 : decode cX0_costOfChange 4 = .ok (.iload_n 2, 1) := by decide +kernel
theorem dX0_costOfChange_5 : decode cX0_costOfChange 5 = .ok (.ineg, 1) := by decide +kernel
theorem dX0_costOfChange_6 : decode cX0_costOfChange 6 = .ok (.invokevirtual 70, 3) := by decide +kernel
theorem dX0_costOfChange_9 : decode cX0_costOfChange 9 = .ok (.iconst 1, 1) := by decide +kernel
theorem dX0_costOfChange_10 : decode cX0_costOfChange 10 = .ok (.iadd, 1) := by decide +kernel
theorem dX0_costOfChange_11 : decode cX0_costOfChange 11 = .ok (.ireturn, 1) := by decide +kernel
theorem dX0_costBehind_0 : decode cX0_costBehind 0 = .ok (.aload_n 0, 1) := by decide +kernel
theorem dX0_costBehind_1 : decode cX0_costBehind 1 = .ok (.getfield 18, 3) := by decide +kernel
theorem dX0_costBehind_4 : decode cX0_costBehind 4 = .ok (.iload_n 1, 1) := by decide +kernel
theorem dX0_costBehind_5 : decode cX0_costBehind 5 = .ok (.aload_n 0, 1) := by decide +kernel
theorem dX0_costBehind_6 : decode cX0_costBehind 6 = .ok (.getfield 22, 3) := by decide +kernel
theorem dX0_costBehind_9 : decode cX0_costBehind 9 = .ok (.imul, 1) := by decide +kernel
theorem dX0_costBehind_10 : decode cX0_costBehind 10 = .ok (.iadd, 1) := by decide +kernel
theorem dX0_costBehind_11 : decode cX0_costBehind 11 = .ok (.invokestatic 73, 3) := by decide +kernel
theorem dX0_costBehind_14 : decode cX0_costBehind 14 = .ok (.aload_n 0, 1) := by decide +kernel
theorem dX0_costBehind_15 : decode cX0_costBehind 15 = .ok (.getfield 25, 3) := by decide +kernel
theorem dX0_costBehind_18 : decode cX0_costBehind 18 = .ok (.if_icmp .le 9, 3) := by decide +kernel
theorem dX0_costBehind_21 : decode cX0_costBehind 21 = .ok (.sipush 1000, 3) := by decide +kernel
theorem dX0_costBehind_24 : decode cX0_costBehind 24 = .ok (.goto 15, 3) := by decide +kernel
theorem dX0_costBehind_27 : decode cX0_costBehind 27 = .ok (.aload_n 0, 1) := by decide +kernel
theorem dX0_costBehind_28 : decode cX0_costBehind 28 = .ok (.getfield 15, 3) := by decide +kernel
theorem dX0_costBehind_31 : decode cX0_costBehind 31 = .ok (.iload_n 1, 1) := by decide +kernel
theorem dX0_costBehind_32 : decode cX0_costBehind 32 = .ok (.iload_n 2, 1) := by decide +kernel
theorem dX0_costBehind_33 : decode cX0_costBehind 33 = .ok (.invokestatic 56, 3) := by decide +kernel
theorem dX0_costBehind_36 : decode cX0_costBehind 36 = .ok (.invokestatic 59, 3) := by decide +kernel
theorem dX0_costBehind_39 : decode cX0_costBehind 39 = .ok (.ireturn, 1) := by decide +kernel
theorem dX0_place_0 : decode cX0_place 0 = .ok (.bipush 30, 2) := by decide +kernel
theorem dX0_place_2 : decode cX0_place 2 = .ok (.iload_n 0, 1) := by decide +kernel
theorem dX0_place_3 : decode cX0_place 3 = .ok (.iadd, 1) := by decide +kernel
theorem dX0_place_4 : decode cX0_place 4 = .ok (.iload_n 1, 1) := by decide +kernel
theorem dX0_place_5 : decode cX0_place 5 = .ok (.ifCond .ge 8, 3) := by decide +kernel
theorem dX0_place_8 : decode cX0_place 8 = .ok (.bipush 61, 2) := by decide +kernel
theorem dX0_place_10 : decode cX0_place 10 = .ok (.goto 4, 3) := by decide +kernel
theorem dX0_place_13 : decode cX0_place 13 = .ok (.iconst 0, 1) := by decide +kernel
theorem dX0_place_14 : decode cX0_place 14 = .ok (.iadd, 1) := by decide +kernel
theorem dX0_place_15 : decode cX0_place 15 = .ok (.ireturn, 1) := by decide +kernel
theorem dX1_init_0 : decode cX1_init 0 = .ok (.aload_n 0, 1) := by decide +kernel
theorem dX1_init_1 : decode cX1_init 1 = .ok (.invokespecial 1, 3) := by decide +kernel
theorem dX1_init_4 : decode cX1_init 4 = .ok (.aload_n 0, 1) := by decide +kernel
theorem dX1_init_5 : decode cX1_init 5 = .ok (.new 7, 3) := by decide +kernel
theorem dX1_init_8 : decode cX1_init 8 = .ok (.dup, 1) := by decide +kernel
theorem dX1_init_9 : decode cX1_init 9 = .ok (.invokespecial 9, 3) := by decide +kernel
theorem dX1_init_12 : decode cX1_init 12 = .ok (.putfield 10, 3) := by decide +kernel
theorem dX1_init_15 : decode cX1_init 15 = .ok (.return_, 1) := by decide +kernel
theorem dX2_init_0 : decode cX2_init 0 = .ok (.aload_n 0, 1) := by decide +kernel
theorem dX2_init_1 : decode cX2_init 1 = .ok (.invokespecial 3, 3) := by decide +kernel
theorem dX2_init_4 : decode cX2_init 4 = .ok (.aload_n 0, 1) := by decide +kernel
theorem dX2_init_5 : decode cX2_init 5 = .ok (.bipush 30, 2) := by decide +kernel
theorem dX2_init_7 : decode cX2_init 7 = .ok (.anewarray 9, 3) := by decide +kernel
theorem dX2_init_10 : decode cX2_init 10 = .ok (.putfield 11, 3) := by decide +kernel
theorem dX2_init_13 : decode cX2_init 13 = .ok (.iconst 0, 1) := by decide +kernel
theorem dX2_init_14 : decode cX2_init 14 = .ok (.istore_n 1, 1) := by decide +kernel
theorem dX2_init_15 : decode cX2_init 15 = .ok (.iload_n 1, 1) := by decide +kernel
theorem dX2_init_16 : decode cX2_init 16 = .ok (.aload_n 0, 1) := by decide +kernel
theorem dX2_init_17 : decode cX2_init 17 = .ok (.getfield 11, 3) := by decide +kernel
theorem dX2_init_20 : decode cX2_init 20 = .ok (.arraylength, 1) := by decide +kernel
theorem dX2_init_21 : decode cX2_init 21 = .ok (.if_icmp .ge 22, 3) := by decide +kernel
theorem dX2_init_24 : decode cX2_init 24 = .ok (.aload_n 0, 1) := by decide +kernel
theorem dX2_init_25 : decode cX2_init 25 = .ok (.getfield 11, 3) := by decide +kernel
theorem dX2_init_28 : decode cX2_init 28 = .ok (.iload_n 1, 1) := by decide +kernel
theorem dX2_init_29 : decode cX2_init 29 = .ok (.new 9, 3) := by decide +kernel
theorem dX2_init_32 : decode cX2_init 32 = .ok (.dup, 1) := by decide +kernel
theorem dX2_init_33 : decode cX2_init 33 = .ok (.invokespecial 17, 3) := by decide +kernel
theorem dX2_init_36 : decode cX2_init 36 = .ok (.aastore, 1) := by decide +kernel
theorem dX2_init_37 : decode cX2_init 37 = .ok (.iinc 1 1, 3) := by decide +kernel
theorem dX2_init_40 : decode cX2_init 40 = .ok (.goto (-25), 3) := by decide +kernel
theorem dX2_init_43 : decode cX2_init 43 = .ok (.return_, 1) := by decide +kernel
theorem dX2_clear_0 : decode cX2_clear 0 = .ok (.aload_n 0, 1) := by decide +kernel
theorem dX2_clear_1 : decode cX2_clear 1 = .ok (.iconst 0, 1) := by decide +kernel
theorem dX2_clear_2 : decode cX2_clear 2 = .ok (.putfield 18, 3) := by decide +kernel
theorem dX2_clear_5 : decode cX2_clear 5 = .ok (.return_, 1) := by decide +kernel
theorem dX2_remember_0 : decode cX2_remember 0 = .ok (.aload_n 0, 1) := by decide +kernel
theorem dX2_remember_1 : decode cX2_remember 1 = .ok (.aload_n 0, 1) := by decide +kernel
theorem dX2_remember_2 : decode cX2_remember 2 = .ok (.getfield 22, 3) := by decide +kernel
theorem dX2_remember_5 : decode cX2_remember 5 = .ok (.invokevirtual 25, 3) := by decide +kernel
theorem dX2_remember_8 : decode cX2_remember 8 = .ok (.astore_n 2, 1) := by decide +kernel
theorem dX2_remember_9 : decode cX2_remember 9 = .ok (.aload_n 2, 1) := by decide +kernel
theorem dX2_remember_10 : decode cX2_remember 10 = .ok (.ifnull 36, 3) := by decide +kernel
theorem dX2_remember_13 : decode cX2_remember 13 = .ok (.aload_n 2, 1) := by decide +kernel
theorem dX2_remember_14 : decode cX2_remember 14 = .ok (.aload_n 1, 1) := by decide +kernel
theorem dX2_remember_15 : decode cX2_remember 15 = .ok (.invokevirtual 29, 3) := by decide +kernel
theorem dX2_remember_18 : decode cX2_remember 18 = .ok (.aload_n 0, 1) := by decide +kernel
theorem dX2_remember_19 : decode cX2_remember 19 = .ok (.aload_n 0, 1) := by decide +kernel
theorem dX2_remember_20 : decode cX2_remember 20 = .ok (.getfield 22, 3) := by decide +kernel
theorem dX2_remember_23 : decode cX2_remember 23 = .ok (.iconst 1, 1) := by decide +kernel
theorem dX2_remember_24 : decode cX2_remember 24 = .ok (.iadd, 1) := by decide +kernel
theorem dX2_remember_25 : decode cX2_remember 25 = .ok (.bipush 30, 2) := by decide +kernel
theorem dX2_remember_27 : decode cX2_remember 27 = .ok (.irem, 1) := by decide +kernel
theorem dX2_remember_28 : decode cX2_remember 28 = .ok (.putfield 22, 3) := by decide +kernel
theorem dX2_remember_31 : decode cX2_remember 31 = .ok (.aload_n 0, 1) := by decide +kernel
theorem dX2_remember_32 : decode cX2_remember 32 = .ok (.bipush 30, 2) := by decide +kernel
theorem dX2_remember_34 : decode cX2_remember 34 = .ok (.aload_n 0, 1) := by decide +kernel
theorem dX2_remember_35 : decode cX2_remember 35 = .ok (.getfield 18, 3) := by decide +kernel
theorem dX2_remember_38 : decode cX2_remember 38 = .ok (.iconst 1, 1) := by decide +kernel
theorem dX2_remember_39 : decode cX2_remember 39 = .ok (.iadd, 1) := by decide +kernel
theorem dX2_remember_40 : decode cX2_remember 40 = .ok (.invokestatic 33, 3) := by decide +kernel
theorem dX2_remember_43 : decode cX2_remember 43 = .ok (.putfield 18, 3) := by decide +kernel
theorem dX2_remember_46 : decode cX2_remember 46 = .ok (.return_, 1) := by decide +kernel
theorem dX2_bringBack_0 : decode cX2_bringBack 0 = .ok (.aload_n 0, 1) := by decide +kernel
theorem dX2_bringBack_1 : decode cX2_bringBack 1 = .ok (.getfield 22, 3) := by decide +kernel
theorem dX2_bringBack_4 : decode cX2_bringBack 4 = .ok (.iload_n 1, 1) := by decide +kernel
theorem dX2_bringBack_5 : decode cX2_bringBack 5 = .ok (.isub, 1) := by decide +kernel
theorem dX2_bringBack_6 : decode cX2_bringBack 6 = .ok (.bipush 30, 2) := by decide +kernel
theorem dX2_bringBack_8 : decode cX2_bringBack 8 = .ok (.iadd, 1) := by decide +kernel
theorem dX2_bringBack_9 : decode cX2_bringBack 9 = .ok (.bipush 30, 2) := by decide +kernel
theorem dX2_bringBack_11 : decode cX2_bringBack 11 = .ok (.irem, 1) := by decide +kernel
theorem dX2_bringBack_12 : decode cX2_bringBack 12 = .ok (.istore_n 3, 1) := by decide +kernel
theorem dX2_bringBack_13 : decode cX2_bringBack 13 = .ok (.aload_n 0, 1) := by decide +kernel
theorem dX2_bringBack_14 : decode cX2_bringBack 14 = .ok (.iload_n 3, 1) := by decide +kernel
theorem dX2_bringBack_15 : decode cX2_bringBack 15 = .ok (.invokevirtual 25, 3) := by decide +kernel
theorem dX2_bringBack_18 : decode cX2_bringBack 18 = .ok (.astore 4, 2) := by decide +kernel
theorem dX2_bringBack_20 : decode cX2_bringBack 20 = .ok (.aload 4, 2) := by decide +kernel
theorem dX2_bringBack_22 : decode cX2_bringBack 22 = .ok (.ifnull 24, 3) := by decide +kernel
theorem dX2_bringBack_25 : decode cX2_bringBack 25 = .ok (.aload_n 2, 1) := by decide +kernel
theorem dX2_bringBack_26 : decode cX2_bringBack 26 = .ok (.aload 4, 2) := by decide +kernel
theorem dX2_bringBack_28 : decode cX2_bringBack 28 = .ok (.invokevirtual 29, 3) := by decide +kernel
theorem dX2_bringBack_31 : decode cX2_bringBack 31 = .ok (.aload_n 0, 1) := by decide +kernel
theorem dX2_bringBack_32 : decode cX2_bringBack 32 = .ok (.iload_n 3, 1) := by decide +kernel
theorem dX2_bringBack_33 : decode cX2_bringBack 33 = .ok (.putfield 22, 3) := by decide +kernel
theorem dX2_bringBack_36 : decode cX2_bringBack 36 = .ok (.aload_n 0, 1) := by decide +kernel
theorem dX2_bringBack_37 : decode cX2_bringBack 37 = .ok (.dup, 1) := by decide +kernel
theorem dX2_bringBack_38 : decode cX2_bringBack 38 = .ok (.getfield 18, 3) := by decide +kernel
theorem dX2_bringBack_41 : decode cX2_bringBack 41 = .ok (.iload_n 1, 1) := by decide +kernel
theorem dX2_bringBack_42 : decode cX2_bringBack 42 = .ok (.isub, 1) := by decide +kernel
theorem dX2_bringBack_43 : decode cX2_bringBack 43 = .ok (.putfield 18, 3) := by decide +kernel
theorem dX2_bringBack_46 : decode cX2_bringBack 46 = .ok (.return_, 1) := by decide +kernel
theorem dX2_placeAt_0 : decode cX2_placeAt 0 = .ok (.iload_n 1, 1) := by decide +kernel
theorem dX2_placeAt_1 : decode cX2_placeAt 1 = .ok (.ifCond .lt 21, 3) := by decide +kernel
theorem dX2_placeAt_4 : decode cX2_placeAt 4 = .ok (.iload_n 1, 1) := by decide +kernel
theorem dX2_placeAt_5 : decode cX2_placeAt 5 = .ok (.aload_n 0, 1) := by decide +kernel
theorem dX2_placeAt_6 : decode cX2_placeAt 6 = .ok (.getfield 11, 3) := by decide +kernel
theorem dX2_placeAt_9 : decode cX2_placeAt 9 = .ok (.arraylength, 1) := by decide +kernel
theorem dX2_placeAt_10 : decode cX2_placeAt 10 = .ok (.if_icmp .ge 12, 3) := by decide +kernel
theorem dX2_placeAt_13 : decode cX2_placeAt 13 = .ok (.aload_n 0, 1) := by decide +kernel
theorem dX2_placeAt_14 : decode cX2_placeAt 14 = .ok (.getfield 11, 3) := by decide +kernel
theorem dX2_placeAt_17 : decode cX2_placeAt 17 = .ok (.iload_n 1, 1) := by decide +kernel
theorem dX2_placeAt_18 : decode cX2_placeAt 18 = .ok (.aaload, 1) := by decide +kernel
theorem dX2_placeAt_19 : decode cX2_placeAt 19 = .ok (.goto 4, 3) := by decide +kernel
theorem dX2_placeAt_22 : decode cX2_placeAt 22 = .ok (.aconst_null, 1) := by decide +kernel
theorem dX2_placeAt_23 : decode cX2_placeAt 23 = .ok (.areturn, 1) := by decide +kernel
theorem dX3_init_0 : decode cX3_init 0 = .ok (.aload_n 0, 1) := by decide +kernel
theorem dX3_init_1 : decode cX3_init 1 = .ok (.invokespecial 3, 3) := by decide +kernel
theorem dX3_init_4 : decode cX3_init 4 = .ok (.aload_n 0, 1) := by decide +kernel
theorem dX3_init_5 : decode cX3_init 5 = .ok (.new 9, 3) := by decide +kernel
theorem dX3_init_8 : decode cX3_init 8 = .ok (.dup, 1) := by decide +kernel
theorem dX3_init_9 : decode cX3_init 9 = .ok (.sipush 250, 3) := by decide +kernel
theorem dX3_init_12 : decode cX3_init 12 = .ok (.invokespecial 11, 3) := by decide +kernel
theorem dX3_init_15 : decode cX3_init 15 = .ok (.putfield 14, 3) := by decide +kernel
theorem dX3_init_18 : decode cX3_init 18 = .ok (.aload_n 0, 1) := by decide +kernel
theorem dX3_init_19 : decode cX3_init 19 = .ok (.new 20, 3) := by decide +kernel
theorem dX3_init_22 : decode cX3_init 22 = .ok (.dup, 1) := by decide +kernel
theorem dX3_init_23 : decode cX3_init 23 = .ok (.invokespecial 22, 3) := by decide +kernel
theorem dX3_init_26 : decode cX3_init 26 = .ok (.putfield 23, 3) := by decide +kernel
theorem dX3_init_29 : decode cX3_init 29 = .ok (.aload_n 0, 1) := by decide +kernel
theorem dX3_init_30 : decode cX3_init 30 = .ok (.iconst (-1), 1) := by decide +kernel
theorem dX3_init_31 : decode cX3_init 31 = .ok (.putfield 27, 3) := by decide +kernel
theorem dX3_init_34 : decode cX3_init 34 = .ok (.return_, 1) := by decide +kernel
theorem dX3_readText_0 : decode cX3_readText 0 = .ok (.aload_n 0, 1) := by decide +kernel
theorem dX3_readText_1 : decode cX3_readText 1 = .ok (.getfield 23, 3) := by decide +kernel
theorem dX3_readText_4 : decode cX3_readText 4 = .ok (.invokevirtual 31, 3) := by decide +kernel
theorem dX3_readText_7 : decode cX3_readText 7 = .ok (.aload_n 0, 1) := by decide +kernel
theorem dX3_readText_8 : decode cX3_readText 8 = .ok (.iconst 0, 1) := by decide +kernel
theorem dX3_readText_9 : decode cX3_readText 9 = .ok (.putfield 34, 3) := by decide +kernel
theorem dX3_readText_12 : decode cX3_readText 12 = .ok (.aload_n 0, 1) := by decide +kernel
theorem dX3_readText_13 : decode cX3_readText 13 = .ok (.iconst (-1), 1) := by decide +kernel
theorem dX3_readText_14 : decode cX3_readText 14 = .ok (.putfield 27, 3) := by decide +kernel
theorem dX3_readText_17 : decode cX3_readText 17 = .ok (.aload_n 0, 1) := by decide +kernel
theorem dX3_readText_18 : decode cX3_readText 18 = .ok (.iconst 0, 1) := by decide +kernel
theorem dX3_readText_19 : decode cX3_readText 19 = .ok (.putfield 37, 3) := by decide +kernel
theorem dX3_readText_22 : decode cX3_readText 22 = .ok (.aload_n 0, 1) := by decide +kernel
theorem dX3_readText_23 : decode cX3_readText 23 = .ok (.iconst 0, 1) := by decide +kernel
theorem dX3_readText_24 : decode cX3_readText 24 = .ok (.putfield 40, 3) := by decide +kernel
theorem dX3_readText_27 : decode cX3_readText 27 = .ok (.aload_n 0, 1) := by decide +kernel
theorem dX3_readText_28 : decode cX3_readText 28 = .ok (.iconst 0, 1) := by decide +kernel
theorem dX3_readText_29 : decode cX3_readText 29 = .ok (.putfield 44, 3) := by decide +kernel
theorem dX3_readText_32 : decode cX3_readText 32 = .ok (.iconst 0, 1) := by decide +kernel
theorem dX3_readText_33 : decode cX3_readText 33 = .ok (.istore_n 1, 1) := by decide +kernel
theorem dX3_readText_34 : decode cX3_readText 34 = .ok (.iload_n 1, 1) := by decide +kernel
theorem dX3_readText_35 : decode cX3_readText 35 = .ok (.sipush 250, 3) := by decide +kernel
theorem dX3_readText_38 : decode cX3_readText 38 = .ok (.if_icmp .gt 41, 3) := by decide +kernel
theorem dX3_readText_41 : decode cX3_readText 41 = .ok (.aload_n 0, 1) := by decide +kernel
theorem dX3_readText_42 : decode cX3_readText 42 = .ok (.getfield 34, 3) := by decide +kernel
theorem dX3_readText_45 : decode cX3_readText 45 = .ok (.ifCond .ne 34, 3) := by decide +kernel
theorem dX3_readText_48 : decode cX3_readText 48 = .ok (.aload_n 0, 1) := by decide +kernel
theorem dX3_readText_49 : decode cX3_readText 49 = .ok (.invokevirtual 47, 3) := by decide +kernel
theorem dX3_readText_52 : decode cX3_readText 52 = .ok (.aload_n 0, 1) := by decide +kernel
theorem dX3_readText_53 : decode cX3_readText 53 = .ok (.getfield 37, 3) := by decide +kernel
theorem dX3_readText_56 : decode cX3_readText 56 = .ok (.aload_n 0, 1) := by decide +kernel
theorem dX3_readText_57 : decode cX3_readText 57 = .ok (.getfield 14, 3) := by decide +kernel
theorem dX3_readText_60 : decode cX3_readText 60 = .ok (.getfield 50, 3) := by decide +kernel
theorem dX3_readText_63 : decode cX3_readText 63 = .ok (.if_icmp .lt 6, 3) := by decide +kernel
theorem dX3_readText_66 : decode cX3_readText 66 = .ok (.goto 13, 3) := by decide +kernel
theorem dX3_readText_69 : decode cX3_readText 69 = .ok (.aload_n 0, 1) := by decide +kernel
theorem dX3_readText_70 : decode cX3_readText 70 = .ok (.invokevirtual 53, 3) := by decide +kernel
theorem dX3_readText_73 : decode cX3_readText 73 = .ok (.iinc 1 1, 3) := by decide +kernel
theorem dX3_readText_76 : decode cX3_readText 76 = .ok (.goto (-42), 3) := by decide +kernel
theorem dX3_readText_79 : decode cX3_readText 79 = .ok (.aload_n 0, 1) := by decide +kernel
theorem dX3_readText_80 : decode cX3_readText 80 = .ok (.getfield 14, 3) := by decide +kernel
theorem dX3_readText_83 : decode cX3_readText 83 = .ok (.invokevirtual 56, 3) := by decide +kernel
theorem dX3_readText_86 : decode cX3_readText 86 = .ok (.return_, 1) := by decide +kernel
theorem dX3_readClause_0 : decode cX3_readClause 0 = .ok (.aload_n 0, 1) := by decide +kernel
theorem dX3_readClause_1 : decode cX3_readClause 1 = .ok (.getfield 14, 3) := by decide +kernel
theorem dX3_readClause_4 : decode cX3_readClause 4 = .ok (.aload_n 0, 1) := by decide +kernel
theorem dX3_readClause_5 : decode cX3_readClause 5 = .ok (.getfield 37, 3) := by decide +kernel
theorem dX3_readClause_8 : decode cX3_readClause 8 = .ok (.invokevirtual 57, 3) := by decide +kernel
theorem dX3_readClause_11 : decode cX3_readClause 11 = .ok (.istore_n 1, 1) := by decide +kernel
theorem dX3_readClause_12 : decode cX3_readClause 12 = .ok (.aload_n 0, 1) := by decide +kernel
theorem dX3_readClause_13 : decode cX3_readClause 13 = .ok (.iload_n 1, 1) := by decide +kernel
theorem dX3_readClause_14 : decode cX3_readClause 14 = .ok (.invokevirtual 61, 3) := by decide +kernel
theorem dX3_readClause_17 : decode cX3_readClause 17 = .ok (.istore_n 2, 1) := by decide +kernel
theorem dX3_readClause_18 : decode cX3_readClause 18 = .ok (.iload_n 2, 1) := by decide +kernel
theorem dX3_readClause_19 : decode cX3_readClause 19 = .ok (.ifCond .eq 13, 3) := by decide +kernel
theorem dX3_readClause_22 : decode cX3_readClause 22 = .ok (.aload_n 0, 1) := by decide +kernel
theorem dX3_readClause_23 : decode cX3_readClause 23 = .ok (.iload_n 2, 1) := by decide +kernel
theorem dX3_readClause_24 : decode cX3_readClause 24 = .ok (.aload_n 0, 1) := by decide +kernel
theorem dX3_readClause_25 : decode cX3_readClause 25 = .ok (.getfield 37, 3) := by decide +kernel
theorem dX3_readClause_28 : decode cX3_readClause 28 = .ok (.invokevirtual 64, 3) := by decide +kernel
theorem dX3_readClause_31 : decode cX3_readClause 31 = .ok (.return_, 1) := by decide +kernel
theorem dX3_readClause_32 : decode cX3_readClause 32 = .ok (.aload_n 0, 1) := by decide +kernel
theorem dX3_readClause_33 : decode cX3_readClause 33 = .ok (.dup, 1) := by decide +kernel
theorem dX3_readClause_34 : decode cX3_readClause 34 = .ok (.getfield 37, 3) := by decide +kernel
theorem dX3_readClause_37 : decode cX3_readClause 37 = .ok (.iconst 1, 1) := by decide +kernel
theorem dX3_readClause_38 : decode cX3_readClause 38 = .ok (.iadd, 1) := by decide +kernel
theorem dX3_readClause_39 : decode cX3_readClause 39 = .ok (.putfield 37, 3) := by decide +kernel
theorem dX3_readClause_42 : decode cX3_readClause 42 = .ok (.iload_n 1, 1) := by decide +kernel
theorem dX3_readClause_43 : decode cX3_readClause 43 = .ok (.lookupswitch 54 #[(108, 33), (112, 40), (115, 47)], 33) := by decide +kernel
theorem dX3_readClause_76 : decode cX3_readClause 76 = .ok (.aload_n 0, 1) := by decide +kernel
theorem dX3_readClause_77 : decode cX3_readClause 77 = .ok (.invokevirtual 68, 3) := by decide +kernel
theorem dX3_readClause_80 : decode cX3_readClause 80 = .ok (.goto 40, 3) := by decide +kernel
theorem dX3_readClause_83 : decode cX3_readClause 83 = .ok (.aload_n 0, 1) := by decide +kernel
theorem dX3_readClause_84 : decode cX3_readClause 84 = .ok (.invokevirtual 71, 3) := by decide +kernel
theorem dX3_readClause_87 : decode cX3_readClause 87 = .ok (.goto 33, 3) := by decide +kernel
theorem dX3_readClause_90 : decode cX3_readClause 90 = .ok (.aload_n 0, 1) := by decide +kernel
theorem dX3_readClause_91 : decode cX3_readClause 91 = .ok (.invokevirtual 74, 3) := by decide +kernel
theorem dX3_readClause_94 : decode cX3_readClause 94 = .ok (.goto 26, 3) := by decide +kernel
theorem dX3_readClause_97 : decode cX3_readClause 97 = .ok (.aload_n 0, 1) := by decide +kernel
theorem dX3_readClause_98 : decode cX3_readClause 98 = .ok (.getfield 23, 3) := by decide +kernel
theorem dX3_readClause_101 : decode cX3_readClause 101 = .ok (.aload_n 0, 1) := by decide +kernel
theorem dX3_readClause_102 : decode cX3_readClause 102 = .ok (.iconst 0, 1) := by decide +kernel
theorem dX3_readClause_103 : decode cX3_readClause 103 = .ok (.bipush 12, 2) := by decide +kernel
theorem dX3_readClause_105 : decode cX3_readClause 105 = .ok (.invokevirtual 77, 3) := by decide +kernel
theorem dX3_readClause_108 : decode cX3_readClause 108 = .ok (.putfield 81, 3) := by decide +kernel
theorem dX3_readClause_111 : decode cX3_readClause 111 = .ok (.aload_n 0, 1) := by decide +kernel
theorem dX3_readClause_112 : decode cX3_readClause 112 = .ok (.iconst 1, 1) := by decide +kernel
theorem dX3_readClause_113 : decode cX3_readClause 113 = .ok (.putfield 44, 3) := by decide +kernel
theorem dX3_readClause_116 : decode cX3_readClause 116 = .ok (.aload_n 0, 1) := by decide +kernel
theorem dX3_readClause_117 : decode cX3_readClause 117 = .ok (.invokevirtual 84, 3) := by decide +kernel
theorem dX3_readClause_120 : decode cX3_readClause 120 = .ok (.return_, 1) := by decide +kernel
theorem dX3_faultOfWord_0 : decode cX3_faultOfWord 0 = .ok (.iload_n 1, 1) := by decide +kernel
theorem dX3_faultOfWord_1 : decode cX3_faultOfWord 1 = .ok (.bipush 108, 2) := by decide +kernel
theorem dX3_faultOfWord_3 : decode cX3_faultOfWord 3 = .ok (.if_icmp .eq 31, 3) := by decide +kernel
theorem dX3_faultOfWord_6 : decode cX3_faultOfWord 6 = .ok (.aload_n 0, 1) := by decide +kernel
theorem dX3_faultOfWord_7 : decode cX3_faultOfWord 7 = .ok (.getfield 23, 3) := by decide +kernel
theorem dX3_faultOfWord_10 : decode cX3_faultOfWord 10 = .ok (.getfield 87, 3) := by decide +kernel
theorem dX3_faultOfWord_13 : decode cX3_faultOfWord 13 = .ok (.ifCond .le 25, 3) := by decide +kernel
theorem dX3_faultOfWord_16 : decode cX3_faultOfWord 16 = .ok (.iload_n 1, 1) := by decide +kernel
theorem dX3_faultOfWord_17 : decode cX3_faultOfWord 17 = .ok (.bipush 112, 2) := by decide +kernel
theorem dX3_faultOfWord_19 : decode cX3_faultOfWord 19 = .ok (.if_icmp .eq 15, 3) := by decide +kernel
theorem dX3_faultOfWord_22 : decode cX3_faultOfWord 22 = .ok (.iload_n 1, 1) := by decide +kernel
theorem dX3_faultOfWord_23 : decode cX3_faultOfWord 23 = .ok (.bipush 115, 2) := by decide +kernel
theorem dX3_faultOfWord_25 : decode cX3_faultOfWord 25 = .ok (.if_icmp .eq 9, 3) := by decide +kernel
theorem dX3_faultOfWord_28 : decode cX3_faultOfWord 28 = .ok (.iload_n 1, 1) := by decide +kernel
theorem dX3_faultOfWord_29 : decode cX3_faultOfWord 29 = .ok (.bipush 99, 2) := by decide +kernel
theorem dX3_faultOfWord_31 : decode cX3_faultOfWord 31 = .ok (.if_icmp .ne 7, 3) := by decide +kernel
theorem dX3_faultOfWord_34 : decode cX3_faultOfWord 34 = .ok (.iconst 1, 1) := by decide +kernel
theorem dX3_faultOfWord_35 : decode cX3_faultOfWord 35 = .ok (.goto 4, 3) := by decide +kernel
theorem dX3_faultOfWord_38 : decode cX3_faultOfWord 38 = .ok (.iconst 0, 1) := by decide +kernel
theorem dX3_faultOfWord_39 : decode cX3_faultOfWord 39 = .ok (.istore_n 2, 1) := by decide +kernel
theorem dX3_faultOfWord_40 : decode cX3_faultOfWord 40 = .ok (.iload_n 2, 1) := by decide +kernel
theorem dX3_faultOfWord_41 : decode cX3_faultOfWord 41 = .ok (.ifCond .ne 5, 3) := by decide +kernel
theorem dX3_faultOfWord_44 : decode cX3_faultOfWord 44 = .ok (.iconst 1, 1) := by decide +kernel
theorem dX3_faultOfWord_45 : decode cX3_faultOfWord 45 = .ok (.ireturn, 1) := by decide +kernel
theorem dX3_faultOfWord_46 : decode cX3_faultOfWord 46 = .ok (.iload_n 1, 1) := by decide +kernel
theorem dX3_faultOfWord_47 : decode cX3_faultOfWord 47 = .ok (.bipush 108, 2) := by decide +kernel
theorem dX3_faultOfWord_49 : decode cX3_faultOfWord 49 = .ok (.if_icmp .ne 13, 3) := by decide +kernel
theorem dX3_faultOfWord_52 : decode cX3_faultOfWord 52 = .ok (.aload_n 0, 1) := by decide +kernel
theorem dX3_faultOfWord_53 : decode cX3_faultOfWord 53 = .ok (.getfield 23, 3) := by decide +kernel
theorem dX3_faultOfWord_56 : decode cX3_faultOfWord 56 = .ok (.getfield 87, 3) := by decide +kernel
theorem dX3_faultOfWord_59 : decode cX3_faultOfWord 59 = .ok (.ifCond .gt 46, 3) := by decide +kernel
theorem dX3_faultOfWord_62 : decode cX3_faultOfWord 62 = .ok (.iload_n 1, 1) := by decide +kernel
theorem dX3_faultOfWord_63 : decode cX3_faultOfWord 63 = .ok (.bipush 112, 2) := by decide +kernel
theorem dX3_faultOfWord_65 : decode cX3_faultOfWord 65 = .ok (.if_icmp .ne 14, 3) := by decide +kernel
theorem dX3_faultOfWord_68 : decode cX3_faultOfWord 68 = .ok (.aload_n 0, 1) := by decide +kernel
theorem dX3_faultOfWord_69 : decode cX3_faultOfWord 69 = .ok (.getfield 23, 3) := by decide +kernel
theorem dX3_faultOfWord_72 : decode cX3_faultOfWord 72 = .ok (.getfield 90, 3) := by decide +kernel
theorem dX3_faultOfWord_75 : decode cX3_faultOfWord 75 = .ok (.iconst 4, 1) := by decide +kernel
theorem dX3_faultOfWord_76 : decode cX3_faultOfWord 76 = .ok (.if_icmp .ge 29, 3) := by decide +kernel
theorem dX3_faultOfWord_79 : decode cX3_faultOfWord 79 = .ok (.iload_n 1, 1) := by decide +kernel
theorem dX3_faultOfWord_80 : decode cX3_faultOfWord 80 = .ok (.bipush 115, 2) := by decide +kernel
theorem dX3_faultOfWord_82 : decode cX3_faultOfWord 82 = .ok (.if_icmp .ne 10, 3) := by decide +kernel
theorem dX3_faultOfWord_85 : decode cX3_faultOfWord 85 = .ok (.aload_n 0, 1) := by decide +kernel
theorem dX3_faultOfWord_86 : decode cX3_faultOfWord 86 = .ok (.getfield 40, 3) := by decide +kernel
theorem dX3_faultOfWord_89 : decode cX3_faultOfWord 89 = .ok (.ifCond .ne 16, 3) := by decide +kernel
theorem dX3_faultOfWord_92 : decode cX3_faultOfWord 92 = .ok (.iload_n 1, 1) := by decide +kernel
theorem dX3_faultOfWord_93 : decode cX3_faultOfWord 93 = .ok (.bipush 99, 2) := by decide +kernel
theorem dX3_faultOfWord_95 : decode cX3_faultOfWord 95 = .ok (.if_icmp .ne 14, 3) := by decide +kernel
theorem dX3_faultOfWord_98 : decode cX3_faultOfWord 98 = .ok (.aload_n 0, 1) := by decide +kernel
theorem dX3_faultOfWord_99 : decode cX3_faultOfWord 99 = .ok (.getfield 44, 3) := by decide +kernel
theorem dX3_faultOfWord_102 : decode cX3_faultOfWord 102 = .ok (.ifCond .eq 7, 3) := by decide +kernel
theorem dX3_faultOfWord_105 : decode cX3_faultOfWord 105 = .ok (.iconst 1, 1) := by decide +kernel
theorem dX3_faultOfWord_106 : decode cX3_faultOfWord 106 = .ok (.goto 4, 3) := by decide +kernel
theorem dX3_faultOfWord_109 : decode cX3_faultOfWord 109 = .ok (.iconst 0, 1) := by decide +kernel
theorem dX3_faultOfWord_110 : decode cX3_faultOfWord 110 = .ok (.istore_n 3, 1) := by decide +kernel
theorem dX3_faultOfWord_111 : decode cX3_faultOfWord 111 = .ok (.iload_n 3, 1) := by decide +kernel
theorem dX3_faultOfWord_112 : decode cX3_faultOfWord 112 = .ok (.ifCond .eq 7, 3) := by decide +kernel
theorem dX3_faultOfWord_115 : decode cX3_faultOfWord 115 = .ok (.iconst 3, 1) := by decide +kernel
theorem dX3_faultOfWord_116 : decode cX3_faultOfWord 116 = .ok (.goto 4, 3) := by decide +kernel
theorem dX3_faultOfWord_119 : decode cX3_faultOfWord 119 = .ok (.iconst 0, 1) := by decide +kernel
theorem dX3_faultOfWord_120 : decode cX3_faultOfWord 120 = .ok (.ireturn, 1) := by decide +kernel
theorem dX3_readLayers_0 : decode cX3_readLayers 0 = .ok (.iconst 0, 1) := by decide +kernel
theorem dX3_readLayers_1 : decode cX3_readLayers 1 = .ok (.istore_n 1, 1) := by decide +kernel
theorem dX3_readLayers_2 : decode cX3_readLayers 2 = .ok (.iload_n 1, 1) := by decide +kernel
theorem dX3_readLayers_3 : decode cX3_readLayers 3 = .ok (.bipush 12, 2) := by decide +kernel
theorem dX3_readLayers_5 : decode cX3_readLayers 5 = .ok (.if_icmp .ge 78, 3) := by decide +kernel
theorem dX3_readLayers_8 : decode cX3_readLayers 8 = .ok (.aload_n 0, 1) := by decide +kernel
theorem dX3_readLayers_9 : decode cX3_readLayers 9 = .ok (.getfield 23, 3) := by decide +kernel
theorem dX3_readLayers_12 : decode cX3_readLayers 12 = .ok (.getfield 93, 3) := by decide +kernel
theorem dX3_readLayers_15 : decode cX3_readLayers 15 = .ok (.iload_n 1, 1) := by decide +kernel
theorem dX3_readLayers_16 : decode cX3_readLayers 16 = .ok (.aload_n 0, 1) := by decide +kernel
theorem dX3_readLayers_17 : decode cX3_readLayers 17 = .ok (.iconst 1, 1) := by decide +kernel
theorem dX3_readLayers_18 : decode cX3_readLayers 18 = .ok (.bipush 9, 2) := by decide +kernel
theorem dX3_readLayers_20 : decode cX3_readLayers 20 = .ok (.invokevirtual 77, 3) := by decide +kernel
theorem dX3_readLayers_23 : decode cX3_readLayers 23 = .ok (.invokestatic 97, 3) := by decide +kernel
theorem dX3_readLayers_26 : decode cX3_readLayers 26 = .ok (.aload_n 0, 1) := by decide +kernel
theorem dX3_readLayers_27 : decode cX3_readLayers 27 = .ok (.getfield 23, 3) := by decide +kernel
theorem dX3_readLayers_30 : decode cX3_readLayers 30 = .ok (.iload_n 1, 1) := by decide +kernel
theorem dX3_readLayers_31 : decode cX3_readLayers 31 = .ok (.iconst 1, 1) := by decide +kernel
theorem dX3_readLayers_32 : decode cX3_readLayers 32 = .ok (.iadd, 1) := by decide +kernel
theorem dX3_readLayers_33 : decode cX3_readLayers 33 = .ok (.putfield 87, 3) := by decide +kernel
theorem dX3_readLayers_36 : decode cX3_readLayers 36 = .ok (.aload_n 0, 1) := by decide +kernel
theorem dX3_readLayers_37 : decode cX3_readLayers 37 = .ok (.invokevirtual 47, 3) := by decide +kernel
theorem dX3_readLayers_40 : decode cX3_readLayers 40 = .ok (.iload_n 1, 1) := by decide +kernel
theorem dX3_readLayers_41 : decode cX3_readLayers 41 = .ok (.iconst 1, 1) := by decide +kernel
theorem dX3_readLayers_42 : decode cX3_readLayers 42 = .ok (.iadd, 1) := by decide +kernel
theorem dX3_readLayers_43 : decode cX3_readLayers 43 = .ok (.bipush 12, 2) := by decide +kernel
theorem dX3_readLayers_45 : decode cX3_readLayers 45 = .ok (.if_icmp .eq 38, 3) := by decide +kernel
theorem dX3_readLayers_48 : decode cX3_readLayers 48 = .ok (.aload_n 0, 1) := by decide +kernel
theorem dX3_readLayers_49 : decode cX3_readLayers 49 = .ok (.getfield 14, 3) := by decide +kernel
theorem dX3_readLayers_52 : decode cX3_readLayers 52 = .ok (.aload_n 0, 1) := by decide +kernel
theorem dX3_readLayers_53 : decode cX3_readLayers 53 = .ok (.getfield 37, 3) := by decide +kernel
theorem dX3_readLayers_56 : decode cX3_readLayers 56 = .ok (.invokevirtual 57, 3) := by decide +kernel
theorem dX3_readLayers_59 : decode cX3_readLayers 59 = .ok (.bipush 44, 2) := by decide +kernel
theorem dX3_readLayers_61 : decode cX3_readLayers 61 = .ok (.if_icmp .eq 6, 3) := by decide +kernel
theorem dX3_readLayers_64 : decode cX3_readLayers 64 = .ok (.goto 19, 3) := by decide +kernel
theorem dX3_readLayers_67 : decode cX3_readLayers 67 = .ok (.aload_n 0, 1) := by decide +kernel
theorem dX3_readLayers_68 : decode cX3_readLayers 68 = .ok (.dup, 1) := by decide +kernel
theorem dX3_readLayers_69 : decode cX3_readLayers 69 = .ok (.getfield 37, 3) := by decide +kernel
theorem dX3_readLayers_72 : decode cX3_readLayers 72 = .ok (.iconst 1, 1) := by decide +kernel
theorem dX3_readLayers_73 : decode cX3_readLayers 73 = .ok (.iadd, 1) := by decide +kernel
theorem dX3_readLayers_74 : decode cX3_readLayers 74 = .ok (.putfield 37, 3) := by decide +kernel
theorem dX3_readLayers_77 : decode cX3_readLayers 77 = .ok (.iinc 1 1, 3) := by decide +kernel
theorem dX3_readLayers_80 : decode cX3_readLayers 80 = .ok (.goto (-78), 3) := by decide +kernel
theorem dX3_readLayers_83 : decode cX3_readLayers 83 = .ok (.aload_n 0, 1) := by decide +kernel
theorem dX3_readLayers_84 : decode cX3_readLayers 84 = .ok (.invokevirtual 84, 3) := by decide +kernel
theorem dX3_readLayers_87 : decode cX3_readLayers 87 = .ok (.return_, 1) := by decide +kernel
theorem dX3_readPerson_0 : decode cX3_readPerson 0 = .ok (.aload_n 0, 1) := by decide +kernel
theorem dX3_readPerson_1 : decode cX3_readPerson 1 = .ok (.getfield 23, 3) := by decide +kernel
theorem dX3_readPerson_4 : decode cX3_readPerson 4 = .ok (.getfield 90, 3) := by decide +kernel
theorem dX3_readPerson_7 : decode cX3_readPerson 7 = .ok (.istore_n 1, 1) := by decide +kernel
theorem dX3_readPerson_8 : decode cX3_readPerson 8 = .ok (.aload_n 0, 1) := by decide +kernel
theorem dX3_readPerson_9 : decode cX3_readPerson 9 = .ok (.getfield 23, 3) := by decide +kernel
theorem dX3_readPerson_12 : decode cX3_readPerson 12 = .ok (.getfield 103, 3) := by decide +kernel
theorem dX3_readPerson_15 : decode cX3_readPerson 15 = .ok (.iload_n 1, 1) := by decide +kernel
theorem dX3_readPerson_16 : decode cX3_readPerson 16 = .ok (.aload_n 0, 1) := by decide +kernel
theorem dX3_readPerson_17 : decode cX3_readPerson 17 = .ok (.iconst 1, 1) := by decide +kernel
theorem dX3_readPerson_18 : decode cX3_readPerson 18 = .ok (.bipush 20, 2) := by decide +kernel
theorem dX3_readPerson_20 : decode cX3_readPerson 20 = .ok (.invokevirtual 77, 3) := by decide +kernel
theorem dX3_readPerson_23 : decode cX3_readPerson 23 = .ok (.invokestatic 97, 3) := by decide +kernel
theorem dX3_readPerson_26 : decode cX3_readPerson 26 = .ok (.aload_n 0, 1) := by decide +kernel
theorem dX3_readPerson_27 : decode cX3_readPerson 27 = .ok (.getfield 23, 3) := by decide +kernel
theorem dX3_readPerson_30 : decode cX3_readPerson 30 = .ok (.getfield 106, 3) := by decide +kernel
theorem dX3_readPerson_33 : decode cX3_readPerson 33 = .ok (.iload_n 1, 1) := by decide +kernel
theorem dX3_readPerson_34 : decode cX3_readPerson 34 = .ok (.aload_n 0, 1) := by decide +kernel
theorem dX3_readPerson_35 : decode cX3_readPerson 35 = .ok (.iconst 0, 1) := by decide +kernel
theorem dX3_readPerson_36 : decode cX3_readPerson 36 = .ok (.bipush 9, 2) := by decide +kernel
theorem dX3_readPerson_38 : decode cX3_readPerson 38 = .ok (.invokevirtual 77, 3) := by decide +kernel
theorem dX3_readPerson_41 : decode cX3_readPerson 41 = .ok (.invokestatic 97, 3) := by decide +kernel
theorem dX3_readPerson_44 : decode cX3_readPerson 44 = .ok (.aload_n 0, 1) := by decide +kernel
theorem dX3_readPerson_45 : decode cX3_readPerson 45 = .ok (.getfield 23, 3) := by decide +kernel
theorem dX3_readPerson_48 : decode cX3_readPerson 48 = .ok (.getfield 109, 3) := by decide +kernel
theorem dX3_readPerson_51 : decode cX3_readPerson 51 = .ok (.iload_n 1, 1) := by decide +kernel
theorem dX3_readPerson_52 : decode cX3_readPerson 52 = .ok (.aload_n 0, 1) := by decide +kernel
theorem dX3_readPerson_53 : decode cX3_readPerson 53 = .ok (.iconst 0, 1) := by decide +kernel
theorem dX3_readPerson_54 : decode cX3_readPerson 54 = .ok (.iconst 5, 1) := by decide +kernel
theorem dX3_readPerson_55 : decode cX3_readPerson 55 = .ok (.invokevirtual 77, 3) := by decide +kernel
theorem dX3_readPerson_58 : decode cX3_readPerson 58 = .ok (.invokestatic 97, 3) := by decide +kernel
theorem dX3_readPerson_61 : decode cX3_readPerson 61 = .ok (.aload_n 0, 1) := by decide +kernel
theorem dX3_readPerson_62 : decode cX3_readPerson 62 = .ok (.getfield 23, 3) := by decide +kernel
theorem dX3_readPerson_65 : decode cX3_readPerson 65 = .ok (.getfield 112, 3) := by decide +kernel
theorem dX3_readPerson_68 : decode cX3_readPerson 68 = .ok (.iload_n 1, 1) := by decide +kernel
theorem dX3_readPerson_69 : decode cX3_readPerson 69 = .ok (.aload_n 0, 1) := by decide +kernel
theorem dX3_readPerson_70 : decode cX3_readPerson 70 = .ok (.iconst 0, 1) := by decide +kernel
theorem dX3_readPerson_71 : decode cX3_readPerson 71 = .ok (.bipush 9, 2) := by decide +kernel
theorem dX3_readPerson_73 : decode cX3_readPerson 73 = .ok (.invokevirtual 77, 3) := by decide +kernel
theorem dX3_readPerson_76 : decode cX3_readPerson 76 = .ok (.invokestatic 97, 3) := by decide +kernel
theorem dX3_readPerson_79 : decode cX3_readPerson 79 = .ok (.aload_n 0, 1) := by decide +kernel
theorem dX3_readPerson_80 : decode cX3_readPerson 80 = .ok (.getfield 23, 3) := by decide +kernel
theorem dX3_readPerson_83 : decode cX3_readPerson 83 = .ok (.getfield 115, 3) := by decide +kernel
theorem dX3_readPerson_86 : decode cX3_readPerson 86 = .ok (.iload_n 1, 1) := by decide +kernel
theorem dX3_readPerson_87 : decode cX3_readPerson 87 = .ok (.aload_n 0, 1) := by decide +kernel
theorem dX3_readPerson_88 : decode cX3_readPerson 88 = .ok (.iconst 0, 1) := by decide +kernel
theorem dX3_readPerson_89 : decode cX3_readPerson 89 = .ok (.iconst 2, 1) := by decide +kernel
theorem dX3_readPerson_90 : decode cX3_readPerson 90 = .ok (.invokevirtual 77, 3) := by decide +kernel
theorem dX3_readPerson_93 : decode cX3_readPerson 93 = .ok (.invokestatic 97, 3) := by decide +kernel
theorem dX3_readPerson_96 : decode cX3_readPerson 96 = .ok (.aload_n 0, 1) := by decide +kernel
theorem dX3_readPerson_97 : decode cX3_readPerson 97 = .ok (.getfield 23, 3) := by decide +kernel
theorem dX3_readPerson_100 : decode cX3_readPerson 100 = .ok (.iload_n 1, 1) := by decide +kernel
theorem dX3_readPerson_101 : decode cX3_readPerson 101 = .ok (.iconst 1, 1) := by decide +kernel
theorem dX3_readPerson_102 : decode cX3_readPerson 102 = .ok (.iadd, 1) := by decide +kernel
theorem dX3_readPerson_103 : decode cX3_readPerson 103 = .ok (.putfield 90, 3) := by decide +kernel
theorem dX3_readPerson_106 : decode cX3_readPerson 106 = .ok (.aload_n 0, 1) := by decide +kernel
theorem dX3_readPerson_107 : decode cX3_readPerson 107 = .ok (.invokevirtual 84, 3) := by decide +kernel
theorem dX3_readPerson_110 : decode cX3_readPerson 110 = .ok (.return_, 1) := by decide +kernel
theorem dX3_readSaw_0 : decode cX3_readSaw 0 = .ok (.aload_n 0, 1) := by decide +kernel
theorem dX3_readSaw_1 : decode cX3_readSaw 1 = .ok (.getfield 23, 3) := by decide +kernel
theorem dX3_readSaw_4 : decode cX3_readSaw 4 = .ok (.aload_n 0, 1) := by decide +kernel
theorem dX3_readSaw_5 : decode cX3_readSaw 5 = .ok (.iconst 1, 1) := by decide +kernel
theorem dX3_readSaw_6 : decode cX3_readSaw 6 = .ok (.bipush 9, 2) := by decide +kernel
theorem dX3_readSaw_8 : decode cX3_readSaw 8 = .ok (.invokevirtual 77, 3) := by decide +kernel
theorem dX3_readSaw_11 : decode cX3_readSaw 11 = .ok (.putfield 118, 3) := by decide +kernel
theorem dX3_readSaw_14 : decode cX3_readSaw 14 = .ok (.aload_n 0, 1) := by decide +kernel
theorem dX3_readSaw_15 : decode cX3_readSaw 15 = .ok (.getfield 23, 3) := by decide +kernel
theorem dX3_readSaw_18 : decode cX3_readSaw 18 = .ok (.aload_n 0, 1) := by decide +kernel
theorem dX3_readSaw_19 : decode cX3_readSaw 19 = .ok (.iconst 0, 1) := by decide +kernel
theorem dX3_readSaw_20 : decode cX3_readSaw 20 = .ok (.bipush 9, 2) := by decide +kernel
theorem dX3_readSaw_22 : decode cX3_readSaw 22 = .ok (.invokevirtual 77, 3) := by decide +kernel
theorem dX3_readSaw_25 : decode cX3_readSaw 25 = .ok (.putfield 121, 3) := by decide +kernel
theorem dX3_readSaw_28 : decode cX3_readSaw 28 = .ok (.aload_n 0, 1) := by decide +kernel
theorem dX3_readSaw_29 : decode cX3_readSaw 29 = .ok (.getfield 23, 3) := by decide +kernel
theorem dX3_readSaw_32 : decode cX3_readSaw 32 = .ok (.aload_n 0, 1) := by decide +kernel
theorem dX3_readSaw_33 : decode cX3_readSaw 33 = .ok (.iconst 0, 1) := by decide +kernel
theorem dX3_readSaw_34 : decode cX3_readSaw 34 = .ok (.bipush 9, 2) := by decide +kernel
theorem dX3_readSaw_36 : decode cX3_readSaw 36 = .ok (.invokevirtual 77, 3) := by decide +kernel
theorem dX3_readSaw_39 : decode cX3_readSaw 39 = .ok (.putfield 124, 3) := by decide +kernel
theorem dX3_readSaw_42 : decode cX3_readSaw 42 = .ok (.aload_n 0, 1) := by decide +kernel
theorem dX3_readSaw_43 : decode cX3_readSaw 43 = .ok (.iconst 1, 1) := by decide +kernel
theorem dX3_readSaw_44 : decode cX3_readSaw 44 = .ok (.putfield 40, 3) := by decide +kernel
theorem dX3_readSaw_47 : decode cX3_readSaw 47 = .ok (.aload_n 0, 1) := by decide +kernel
theorem dX3_readSaw_48 : decode cX3_readSaw 48 = .ok (.invokevirtual 84, 3) := by decide +kernel
theorem dX3_readSaw_51 : decode cX3_readSaw 51 = .ok (.return_, 1) := by decide +kernel
theorem dX3_readEnd_0 : decode cX3_readEnd 0 = .ok (.aload_n 0, 1) := by decide +kernel
theorem dX3_readEnd_1 : decode cX3_readEnd 1 = .ok (.invokevirtual 47, 3) := by decide +kernel
theorem dX3_readEnd_4 : decode cX3_readEnd 4 = .ok (.aload_n 0, 1) := by decide +kernel
theorem dX3_readEnd_5 : decode cX3_readEnd 5 = .ok (.getfield 14, 3) := by decide +kernel
theorem dX3_readEnd_8 : decode cX3_readEnd 8 = .ok (.aload_n 0, 1) := by decide +kernel
theorem dX3_readEnd_9 : decode cX3_readEnd 9 = .ok (.getfield 37, 3) := by decide +kernel
theorem dX3_readEnd_12 : decode cX3_readEnd 12 = .ok (.invokevirtual 57, 3) := by decide +kernel
theorem dX3_readEnd_15 : decode cX3_readEnd 15 = .ok (.bipush 59, 2) := by decide +kernel
theorem dX3_readEnd_17 : decode cX3_readEnd 17 = .ok (.if_icmp .ne 16, 3) := by decide +kernel
theorem dX3_readEnd_20 : decode cX3_readEnd 20 = .ok (.aload_n 0, 1) := by decide +kernel
theorem dX3_readEnd_21 : decode cX3_readEnd 21 = .ok (.dup, 1) := by decide +kernel
theorem dX3_readEnd_22 : decode cX3_readEnd 22 = .ok (.getfield 37, 3) := by decide +kernel
theorem dX3_readEnd_25 : decode cX3_readEnd 25 = .ok (.iconst 1, 1) := by decide +kernel
theorem dX3_readEnd_26 : decode cX3_readEnd 26 = .ok (.iadd, 1) := by decide +kernel
theorem dX3_readEnd_27 : decode cX3_readEnd 27 = .ok (.putfield 37, 3) := by decide +kernel
theorem dX3_readEnd_30 : decode cX3_readEnd 30 = .ok (.goto 12, 3) := by decide +kernel
theorem dX3_readEnd_33 : decode cX3_readEnd 33 = .ok (.aload_n 0, 1) := by decide +kernel
theorem dX3_readEnd_34 : decode cX3_readEnd 34 = .ok (.iconst 1, 1) := by decide +kernel
theorem dX3_readEnd_35 : decode cX3_readEnd 35 = .ok (.aload_n 0, 1) := by decide +kernel
theorem dX3_readEnd_36 : decode cX3_readEnd 36 = .ok (.getfield 37, 3) := by decide +kernel
theorem dX3_readEnd_39 : decode cX3_readEnd 39 = .ok (.invokevirtual 64, 3) := by decide +kernel
theorem dX3_readEnd_42 : decode cX3_readEnd 42 = .ok (.return_, 1) := by decide +kernel
theorem dX3_readNumber_0 : decode cX3_readNumber 0 = .ok (.aload_n 0, 1) := by decide +kernel
theorem dX3_readNumber_1 : decode cX3_readNumber 1 = .ok (.invokevirtual 47, 3) := by decide +kernel
theorem dX3_readNumber_4 : decode cX3_readNumber 4 = .ok (.aload_n 0, 1) := by decide +kernel
theorem dX3_readNumber_5 : decode cX3_readNumber 5 = .ok (.getfield 37, 3) := by decide +kernel
theorem dX3_readNumber_8 : decode cX3_readNumber 8 = .ok (.istore_n 3, 1) := by decide +kernel
theorem dX3_readNumber_9 : decode cX3_readNumber 9 = .ok (.iconst 0, 1) := by decide +kernel
theorem dX3_readNumber_10 : decode cX3_readNumber 10 = .ok (.istore 4, 2) := by decide +kernel
theorem dX3_readNumber_12 : decode cX3_readNumber 12 = .ok (.iconst 0, 1) := by decide +kernel
theorem dX3_readNumber_13 : decode cX3_readNumber 13 = .ok (.istore 5, 2) := by decide +kernel
theorem dX3_readNumber_15 : decode cX3_readNumber 15 = .ok (.iload 5, 2) := by decide +kernel
theorem dX3_readNumber_17 : decode cX3_readNumber 17 = .ok (.sipush 250, 3) := by decide +kernel
theorem dX3_readNumber_20 : decode cX3_readNumber 20 = .ok (.if_icmp .ge 69, 3) := by decide +kernel
theorem dX3_readNumber_23 : decode cX3_readNumber 23 = .ok (.aload_n 0, 1) := by decide +kernel
theorem dX3_readNumber_24 : decode cX3_readNumber 24 = .ok (.getfield 14, 3) := by decide +kernel
theorem dX3_readNumber_27 : decode cX3_readNumber 27 = .ok (.aload_n 0, 1) := by decide +kernel
theorem dX3_readNumber_28 : decode cX3_readNumber 28 = .ok (.getfield 37, 3) := by decide +kernel
theorem dX3_readNumber_31 : decode cX3_readNumber 31 = .ok (.invokevirtual 57, 3) := by decide +kernel
theorem dX3_readNumber_34 : decode cX3_readNumber 34 = .ok (.invokestatic 127, 3) := by decide +kernel
theorem dX3_readNumber_37 : decode cX3_readNumber 37 = .ok (.ifCond .eq 52, 3) := by decide +kernel
theorem dX3_readNumber_40 : decode cX3_readNumber 40 = .ok (.iload 5, 2) := by decide +kernel
theorem dX3_readNumber_42 : decode cX3_readNumber 42 = .ok (.iconst 3, 1) := by decide +kernel
theorem dX3_readNumber_43 : decode cX3_readNumber 43 = .ok (.if_icmp .ge 26, 3) := by decide +kernel
theorem dX3_readNumber_46 : decode cX3_readNumber 46 = .ok (.iload 4, 2) := by decide +kernel
theorem dX3_readNumber_48 : decode cX3_readNumber 48 = .ok (.bipush 10, 2) := by decide +kernel
theorem dX3_readNumber_50 : decode cX3_readNumber 50 = .ok (.imul, 1) := by decide +kernel
theorem dX3_readNumber_51 : decode cX3_readNumber 51 = .ok (.aload_n 0, 1) := by decide +kernel
theorem dX3_readNumber_52 : decode cX3_readNumber 52 = .ok (.getfield 14, 3) := by decide +kernel
theorem dX3_readNumber_55 : decode cX3_readNumber 55 = .ok (.aload_n 0, 1) := by decide +kernel
theorem dX3_readNumber_56 : decode cX3_readNumber 56 = .ok (.getfield 37, 3) := by decide +kernel
theorem dX3_readNumber_59 : decode cX3_readNumber 59 = .ok (.invokevirtual 57, 3) := by decide +kernel
theorem dX3_readNumber_62 : decode cX3_readNumber 62 = .ok (.iadd, 1) := by decide +kernel
theorem dX3_readNumber_63 : decode cX3_readNumber 63 = .ok (.bipush 48, 2) := by decide +kernel
theorem dX3_readNumber_65 : decode cX3_readNumber 65 = .ok (.isub, 1) := by decide +kernel
theorem dX3_readNumber_66 : decode cX3_readNumber 66 = .ok (.goto 5, 3) := by decide +kernel
theorem dX3_readNumber_69 : decode cX3_readNumber 69 = .ok (.iload 4, 2) := by decide +kernel
theorem dX3_readNumber_71 : decode cX3_readNumber 71 = .ok (.istore 4, 2) := by decide +kernel
theorem dX3_readNumber_73 : decode cX3_readNumber 73 = .ok (.aload_n 0, 1) := by decide +kernel
theorem dX3_readNumber_74 : decode cX3_readNumber 74 = .ok (.dup, 1) := by decide +kernel
theorem dX3_readNumber_75 : decode cX3_readNumber 75 = .ok (.getfield 37, 3) := by decide +kernel
theorem dX3_readNumber_78 : decode cX3_readNumber 78 = .ok (.iconst 1, 1) := by decide +kernel
theorem dX3_readNumber_79 : decode cX3_readNumber 79 = .ok (.iadd, 1) := by decide +kernel
theorem dX3_readNumber_80 : decode cX3_readNumber 80 = .ok (.putfield 37, 3) := by decide +kernel
theorem dX3_readNumber_83 : decode cX3_readNumber 83 = .ok (.iinc 5 1, 3) := by decide +kernel
theorem dX3_readNumber_86 : decode cX3_readNumber 86 = .ok (.goto (-71), 3) := by decide +kernel
theorem dX3_readNumber_89 : decode cX3_readNumber 89 = .ok (.aload_n 0, 1) := by decide +kernel
theorem dX3_readNumber_90 : decode cX3_readNumber 90 = .ok (.getfield 37, 3) := by decide +kernel
theorem dX3_readNumber_93 : decode cX3_readNumber 93 = .ok (.iload_n 3, 1) := by decide +kernel
theorem dX3_readNumber_94 : decode cX3_readNumber 94 = .ok (.if_icmp .ne 12, 3) := by decide +kernel
theorem dX3_readNumber_97 : decode cX3_readNumber 97 = .ok (.aload_n 0, 1) := by decide +kernel
theorem dX3_readNumber_98 : decode cX3_readNumber 98 = .ok (.iconst 1, 1) := by decide +kernel
theorem dX3_readNumber_99 : decode cX3_readNumber 99 = .ok (.iload_n 3, 1) := by decide +kernel
theorem dX3_readNumber_100 : decode cX3_readNumber 100 = .ok (.invokevirtual 64, 3) := by decide +kernel
theorem dX3_readNumber_103 : decode cX3_readNumber 103 = .ok (.goto 31, 3) := by decide +kernel
theorem dX3_readNumber_106 : decode cX3_readNumber 106 = .ok (.aload_n 0, 1) := by decide +kernel
theorem dX3_readNumber_107 : decode cX3_readNumber 107 = .ok (.getfield 37, 3) := by decide +kernel
theorem dX3_readNumber_110 : decode cX3_readNumber 110 = .ok (.iload_n 3, 1) := by decide +kernel
theorem dX3_readNumber_111 : decode cX3_readNumber 111 = .ok (.isub, 1) := by decide +kernel
theorem dX3_readNumber_112 : decode cX3_readNumber 112 = .ok (.iconst 3, 1) := by decide +kernel
theorem dX3_readNumber_113 : decode cX3_readNumber 113 = .ok (.if_icmp .gt 15, 3) := by decide +kernel
theorem dX3_readNumber_116 : decode cX3_readNumber 116 = .ok (.iload 4, 2) := by decide +kernel
theorem dX3_readNumber_118 : decode cX3_readNumber 118 = .ok (.iload_n 1, 1) := by decide +kernel
theorem dX3_readNumber_119 : decode cX3_readNumber 119 = .ok (.if_icmp .lt 9, 3) := by decide +kernel
theorem dX3_readNumber_122 : decode cX3_readNumber 122 = .ok (.iload 4, 2) := by decide +kernel
theorem dX3_readNumber_124 : decode cX3_readNumber 124 = .ok (.iload_n 2, 1) := by decide +kernel
theorem dX3_readNumber_125 : decode cX3_readNumber 125 = .ok (.if_icmp .le 9, 3) := by decide +kernel
theorem dX3_readNumber_128 : decode cX3_readNumber 128 = .ok (.aload_n 0, 1) := by decide +kernel
theorem dX3_readNumber_129 : decode cX3_readNumber 129 = .ok (.iconst 2, 1) := by decide +kernel
theorem dX3_readNumber_130 : decode cX3_readNumber 130 = .ok (.iload_n 3, 1) := by decide +kernel
theorem dX3_readNumber_131 : decode cX3_readNumber 131 = .ok (.invokevirtual 64, 3) := by decide +kernel
theorem dX3_readNumber_134 : decode cX3_readNumber 134 = .ok (.iload 4, 2) := by decide +kernel
theorem dX3_readNumber_136 : decode cX3_readNumber 136 = .ok (.ireturn, 1) := by decide +kernel
theorem dX3_skipBlanks_0 : decode cX3_skipBlanks 0 = .ok (.iconst 0, 1) := by decide +kernel
theorem dX3_skipBlanks_1 : decode cX3_skipBlanks 1 = .ok (.istore_n 1, 1) := by decide +kernel
theorem dX3_skipBlanks_2 : decode cX3_skipBlanks 2 = .ok (.iload_n 1, 1) := by decide +kernel
theorem dX3_skipBlanks_3 : decode cX3_skipBlanks 3 = .ok (.sipush 250, 3) := by decide +kernel
theorem dX3_skipBlanks_6 : decode cX3_skipBlanks 6 = .ok (.if_icmp .ge 35, 3) := by decide +kernel
theorem dX3_skipBlanks_9 : decode cX3_skipBlanks 9 = .ok (.aload_n 0, 1) := by decide +kernel
theorem dX3_skipBlanks_10 : decode cX3_skipBlanks 10 = .ok (.getfield 14, 3) := by decide +kernel
theorem dX3_skipBlanks_13 : decode cX3_skipBlanks 13 = .ok (.aload_n 0, 1) := by decide +kernel
theorem dX3_skipBlanks_14 : decode cX3_skipBlanks 14 = .ok (.getfield 37, 3) := by decide +kernel
theorem dX3_skipBlanks_17 : decode cX3_skipBlanks 17 = .ok (.invokevirtual 57, 3) := by decide +kernel
theorem dX3_skipBlanks_20 : decode cX3_skipBlanks 20 = .ok (.bipush 32, 2) := by decide +kernel
theorem dX3_skipBlanks_22 : decode cX3_skipBlanks 22 = .ok (.if_icmp .ne 19, 3) := by decide +kernel
theorem dX3_skipBlanks_25 : decode cX3_skipBlanks 25 = .ok (.aload_n 0, 1) := by decide +kernel
theorem dX3_skipBlanks_26 : decode cX3_skipBlanks 26 = .ok (.dup, 1) := by decide +kernel
theorem dX3_skipBlanks_27 : decode cX3_skipBlanks 27 = .ok (.getfield 37, 3) := by decide +kernel
theorem dX3_skipBlanks_30 : decode cX3_skipBlanks 30 = .ok (.iconst 1, 1) := by decide +kernel
theorem dX3_skipBlanks_31 : decode cX3_skipBlanks 31 = .ok (.iadd, 1) := by decide +kernel
theorem dX3_skipBlanks_32 : decode cX3_skipBlanks 32 = .ok (.putfield 37, 3) := by decide +kernel
theorem dX3_skipBlanks_35 : decode cX3_skipBlanks 35 = .ok (.iinc 1 1, 3) := by decide +kernel
theorem dX3_skipBlanks_38 : decode cX3_skipBlanks 38 = .ok (.goto (-36), 3) := by decide +kernel
theorem dX3_skipBlanks_41 : decode cX3_skipBlanks 41 = .ok (.return_, 1) := by decide +kernel
theorem dX3_isFigure_0 : decode cX3_isFigure 0 = .ok (.iload_n 0, 1) := by decide +kernel
theorem dX3_isFigure_1 : decode cX3_isFigure 1 = .ok (.bipush 48, 2) := by decide +kernel
theorem dX3_isFigure_3 : decode cX3_isFigure 3 = .ok (.if_icmp .lt 13, 3) := by decide +kernel
theorem dX3_isFigure_6 : decode cX3_isFigure 6 = .ok (.iload_n 0, 1) := by decide +kernel
theorem dX3_isFigure_7 : decode cX3_isFigure 7 = .ok (.bipush 57, 2) := by decide +kernel
theorem dX3_isFigure_9 : decode cX3_isFigure 9 = .ok (.if_icmp .gt 7, 3) := by decide +kernel
theorem dX3_isFigure_12 : decode cX3_isFigure 12 = .ok (.iconst 1, 1) := by decide +kernel
theorem dX3_isFigure_13 : decode cX3_isFigure 13 = .ok (.goto 4, 3) := by decide +kernel
theorem dX3_isFigure_16 : decode cX3_isFigure 16 = .ok (.iconst 0, 1) := by decide +kernel
theorem dX3_isFigure_17 : decode cX3_isFigure 17 = .ok (.ireturn, 1) := by decide +kernel
theorem dX3_markFault_0 : decode cX3_markFault 0 = .ok (.aload_n 0, 1) := by decide +kernel
theorem dX3_markFault_1 : decode cX3_markFault 1 = .ok (.getfield 34, 3) := by decide +kernel
theorem dX3_markFault_4 : decode cX3_markFault 4 = .ok (.ifCond .ne 13, 3) := by decide +kernel
theorem dX3_markFault_7 : decode cX3_markFault 7 = .ok (.aload_n 0, 1) := by decide +kernel
theorem dX3_markFault_8 : decode cX3_markFault 8 = .ok (.iload_n 1, 1) := by decide +kernel
theorem dX3_markFault_9 : decode cX3_markFault 9 = .ok (.putfield 34, 3) := by decide +kernel
theorem dX3_markFault_12 : decode cX3_markFault 12 = .ok (.aload_n 0, 1) := by decide +kernel
theorem dX3_markFault_13 : decode cX3_markFault 13 = .ok (.iload_n 2, 1) := by decide +kernel
theorem dX3_markFault_14 : decode cX3_markFault 14 = .ok (.putfield 27, 3) := by decide +kernel
theorem dX3_markFault_17 : decode cX3_markFault 17 = .ok (.return_, 1) := by decide +kernel
theorem dX4_at_0 : decode cX4_at 0 = .ok (.iload_n 1, 1) := by decide +kernel
theorem dX4_at_1 : decode cX4_at 1 = .ok (.ifCond .lt 15, 3) := by decide +kernel
theorem dX4_at_4 : decode cX4_at 4 = .ok (.iload_n 1, 1) := by decide +kernel
theorem dX4_at_5 : decode cX4_at 5 = .ok (.aload_n 0, 1) := by decide +kernel
theorem dX4_at_6 : decode cX4_at 6 = .ok (.arraylength, 1) := by decide +kernel
theorem dX4_at_7 : decode cX4_at 7 = .ok (.if_icmp .ge 9, 3) := by decide +kernel
theorem dX4_at_10 : decode cX4_at 10 = .ok (.aload_n 0, 1) := by decide +kernel
theorem dX4_at_11 : decode cX4_at 11 = .ok (.iload_n 1, 1) := by decide +kernel
theorem dX4_at_12 : decode cX4_at 12 = .ok (.iaload, 1) := by decide +kernel
theorem dX4_at_13 : decode cX4_at 13 = .ok (.goto 4, 3) := by decide +kernel
theorem dX4_at_16 : decode cX4_at 16 = .ok (.iconst 0, 1) := by decide +kernel
theorem dX4_at_17 : decode cX4_at 17 = .ok (.ireturn, 1) := by decide +kernel
theorem dX4_put_0 : decode cX4_put 0 = .ok (.iload_n 1, 1) := by decide +kernel
theorem dX4_put_1 : decode cX4_put 1 = .ok (.ifCond .lt 13, 3) := by decide +kernel
theorem dX4_put_4 : decode cX4_put 4 = .ok (.iload_n 1, 1) := by decide +kernel
theorem dX4_put_5 : decode cX4_put 5 = .ok (.aload_n 0, 1) := by decide +kernel
theorem dX4_put_6 : decode cX4_put 6 = .ok (.arraylength, 1) := by decide +kernel
theorem dX4_put_7 : decode cX4_put 7 = .ok (.if_icmp .ge 7, 3) := by decide +kernel
theorem dX4_put_10 : decode cX4_put 10 = .ok (.aload_n 0, 1) := by decide +kernel
theorem dX4_put_11 : decode cX4_put 11 = .ok (.iload_n 1, 1) := by decide +kernel
theorem dX4_put_12 : decode cX4_put 12 = .ok (.iload_n 2, 1) := by decide +kernel
theorem dX4_put_13 : decode cX4_put 13 = .ok (.iastore, 1) := by decide +kernel
theorem dX4_put_14 : decode cX4_put 14 = .ok (.return_, 1) := by decide +kernel
theorem dX4_copy_0 : decode cX4_copy 0 = .ok (.iconst 0, 1) := by decide +kernel
theorem dX4_copy_1 : decode cX4_copy 1 = .ok (.istore_n 2, 1) := by decide +kernel
theorem dX4_copy_2 : decode cX4_copy 2 = .ok (.iload_n 2, 1) := by decide +kernel
theorem dX4_copy_3 : decode cX4_copy 3 = .ok (.aload_n 0, 1) := by decide +kernel
theorem dX4_copy_4 : decode cX4_copy 4 = .ok (.arraylength, 1) := by decide +kernel
theorem dX4_copy_5 : decode cX4_copy 5 = .ok (.if_icmp .ge 21, 3) := by decide +kernel
theorem dX4_copy_8 : decode cX4_copy 8 = .ok (.iload_n 2, 1) := by decide +kernel
theorem dX4_copy_9 : decode cX4_copy 9 = .ok (.aload_n 1, 1) := by decide +kernel
theorem dX4_copy_10 : decode cX4_copy 10 = .ok (.arraylength, 1) := by decide +kernel
theorem dX4_copy_11 : decode cX4_copy 11 = .ok (.if_icmp .ge 15, 3) := by decide +kernel
theorem dX4_copy_14 : decode cX4_copy 14 = .ok (.aload_n 1, 1) := by decide +kernel
theorem dX4_copy_15 : decode cX4_copy 15 = .ok (.iload_n 2, 1) := by decide +kernel
theorem dX4_copy_16 : decode cX4_copy 16 = .ok (.aload_n 0, 1) := by decide +kernel
theorem dX4_copy_17 : decode cX4_copy 17 = .ok (.iload_n 2, 1) := by decide +kernel
theorem dX4_copy_18 : decode cX4_copy 18 = .ok (.iaload, 1) := by decide +kernel
theorem dX4_copy_19 : decode cX4_copy 19 = .ok (.iastore, 1) := by decide +kernel
theorem dX4_copy_20 : decode cX4_copy 20 = .ok (.iinc 2 1, 3) := by decide +kernel
theorem dX4_copy_23 : decode cX4_copy 23 = .ok (.goto (-21), 3) := by decide +kernel
theorem dX4_copy_26 : decode cX4_copy 26 = .ok (.return_, 1) := by decide +kernel
theorem dX4_fill_0 : decode cX4_fill 0 = .ok (.iconst 0, 1) := by decide +kernel
theorem dX4_fill_1 : decode cX4_fill 1 = .ok (.istore_n 2, 1) := by decide +kernel
theorem dX4_fill_2 : decode cX4_fill 2 = .ok (.iload_n 2, 1) := by decide +kernel
theorem dX4_fill_3 : decode cX4_fill 3 = .ok (.aload_n 0, 1) := by decide +kernel
theorem dX4_fill_4 : decode cX4_fill 4 = .ok (.arraylength, 1) := by decide +kernel
theorem dX4_fill_5 : decode cX4_fill 5 = .ok (.if_icmp .ge 13, 3) := by decide +kernel
theorem dX4_fill_8 : decode cX4_fill 8 = .ok (.aload_n 0, 1) := by decide +kernel
theorem dX4_fill_9 : decode cX4_fill 9 = .ok (.iload_n 2, 1) := by decide +kernel
theorem dX4_fill_10 : decode cX4_fill 10 = .ok (.iload_n 1, 1) := by decide +kernel
theorem dX4_fill_11 : decode cX4_fill 11 = .ok (.iastore, 1) := by decide +kernel
theorem dX4_fill_12 : decode cX4_fill 12 = .ok (.iinc 2 1, 3) := by decide +kernel
theorem dX4_fill_15 : decode cX4_fill 15 = .ok (.goto (-13), 3) := by decide +kernel
theorem dX4_fill_18 : decode cX4_fill 18 = .ok (.return_, 1) := by decide +kernel
theorem dX5_init_0 : decode cX5_init 0 = .ok (.aload_n 0, 1) := by decide +kernel
theorem dX5_init_1 : decode cX5_init 1 = .ok (.invokespecial 3, 3) := by decide +kernel
theorem dX5_init_4 : decode cX5_init 4 = .ok (.aload_n 0, 1) := by decide +kernel
theorem dX5_init_5 : decode cX5_init 5 = .ok (.iconst 0, 1) := by decide +kernel
theorem dX5_init_6 : decode cX5_init 6 = .ok (.iload_n 1, 1) := by decide +kernel
theorem dX5_init_7 : decode cX5_init 7 = .ok (.invokestatic 9, 3) := by decide +kernel
theorem dX5_init_10 : decode cX5_init 10 = .ok (.newarray .int, 2) := by decide +kernel
theorem dX5_init_12 : decode cX5_init 12 = .ok (.putfield 15, 3) := by decide +kernel
theorem dX5_init_15 : decode cX5_init 15 = .ok (.return_, 1) := by decide +kernel
theorem dX5_add_0 : decode cX5_add 0 = .ok (.aload_n 0, 1) := by decide +kernel
theorem dX5_add_1 : decode cX5_add 1 = .ok (.getfield 21, 3) := by decide +kernel
theorem dX5_add_4 : decode cX5_add 4 = .ok (.aload_n 0, 1) := by decide +kernel
theorem dX5_add_5 : decode cX5_add 5 = .ok (.getfield 15, 3) := by decide +kernel
theorem dX5_add_8 : decode cX5_add 8 = .ok (.arraylength, 1) := by decide +kernel
theorem dX5_add_9 : decode cX5_add 9 = .ok (.if_icmp .lt 5, 3) := by decide +kernel
theorem dX5_add_12 : decode cX5_add 12 = .ok (.iconst 0, 1) := by decide +kernel
theorem dX5_add_13 : decode cX5_add 13 = .ok (.ireturn, 1) := by decide +kernel
theorem dX5_add_14 : decode cX5_add 14 = .ok (.aload_n 0, 1) := by decide +kernel
theorem dX5_add_15 : decode cX5_add 15 = .ok (.getfield 15, 3) := by decide +kernel
theorem dX5_add_18 : decode cX5_add 18 = .ok (.aload_n 0, 1) := by decide +kernel
theorem dX5_add_19 : decode cX5_add 19 = .ok (.getfield 21, 3) := by decide +kernel
theorem dX5_add_22 : decode cX5_add 22 = .ok (.iload_n 1, 1) := by decide +kernel
theorem dX5_add_23 : decode cX5_add 23 = .ok (.invokestatic 25, 3) := by decide +kernel
theorem dX5_add_26 : decode cX5_add 26 = .ok (.aload_n 0, 1) := by decide +kernel
theorem dX5_add_27 : decode cX5_add 27 = .ok (.dup, 1) := by decide +kernel
theorem dX5_add_28 : decode cX5_add 28 = .ok (.getfield 21, 3) := by decide +kernel
theorem dX5_add_31 : decode cX5_add 31 = .ok (.iconst 1, 1) := by decide +kernel
theorem dX5_add_32 : decode cX5_add 32 = .ok (.iadd, 1) := by decide +kernel
theorem dX5_add_33 : decode cX5_add 33 = .ok (.putfield 21, 3) := by decide +kernel
theorem dX5_add_36 : decode cX5_add 36 = .ok (.iconst 1, 1) := by decide +kernel
theorem dX5_add_37 : decode cX5_add 37 = .ok (.ireturn, 1) := by decide +kernel
theorem dX5_mark_0 : decode cX5_mark 0 = .ok (.iload_n 1, 1) := by decide +kernel
theorem dX5_mark_1 : decode cX5_mark 1 = .ok (.ifCond .lt 29, 3) := by decide +kernel
theorem dX5_mark_4 : decode cX5_mark 4 = .ok (.iload_n 1, 1) := by decide +kernel
theorem dX5_mark_5 : decode cX5_mark 5 = .ok (.aload_n 0, 1) := by decide +kernel
theorem dX5_mark_6 : decode cX5_mark 6 = .ok (.getfield 21, 3) := by decide +kernel
theorem dX5_mark_9 : decode cX5_mark 9 = .ok (.if_icmp .ge 21, 3) := by decide +kernel
theorem dX5_mark_12 : decode cX5_mark 12 = .ok (.iload_n 1, 1) := by decide +kernel
theorem dX5_mark_13 : decode cX5_mark 13 = .ok (.aload_n 0, 1) := by decide +kernel
theorem dX5_mark_14 : decode cX5_mark 14 = .ok (.getfield 15, 3) := by decide +kernel
theorem dX5_mark_17 : decode cX5_mark 17 = .ok (.arraylength, 1) := by decide +kernel
theorem dX5_mark_18 : decode cX5_mark 18 = .ok (.if_icmp .ge 12, 3) := by decide +kernel
theorem dX5_mark_21 : decode cX5_mark 21 = .ok (.aload_n 0, 1) := by decide +kernel
theorem dX5_mark_22 : decode cX5_mark 22 = .ok (.getfield 15, 3) := by decide +kernel
theorem dX5_mark_25 : decode cX5_mark 25 = .ok (.iload_n 1, 1) := by decide +kernel
theorem dX5_mark_26 : decode cX5_mark 26 = .ok (.iaload, 1) := by decide +kernel
theorem dX5_mark_27 : decode cX5_mark 27 = .ok (.goto 4, 3) := by decide +kernel
theorem dX5_mark_30 : decode cX5_mark 30 = .ok (.iconst (-1), 1) := by decide +kernel
theorem dX5_mark_31 : decode cX5_mark 31 = .ok (.ireturn, 1) := by decide +kernel
theorem dX5_clear_0 : decode cX5_clear 0 = .ok (.aload_n 0, 1) := by decide +kernel
theorem dX5_clear_1 : decode cX5_clear 1 = .ok (.iconst 0, 1) := by decide +kernel
theorem dX5_clear_2 : decode cX5_clear 2 = .ok (.putfield 21, 3) := by decide +kernel
theorem dX5_clear_5 : decode cX5_clear 5 = .ok (.return_, 1) := by decide +kernel
theorem dX6_init_0 : decode cX6_init 0 = .ok (.aload_n 0, 1) := by decide +kernel
theorem dX6_init_1 : decode cX6_init 1 = .ok (.invokespecial 3, 3) := by decide +kernel
theorem dX6_init_4 : decode cX6_init 4 = .ok (.aload_n 0, 1) := by decide +kernel
theorem dX6_init_5 : decode cX6_init 5 = .ok (.new 9, 3) := by decide +kernel
theorem dX6_init_8 : decode cX6_init 8 = .ok (.dup, 1) := by decide +kernel
theorem dX6_init_9 : decode cX6_init 9 = .ok (.invokespecial 11, 3) := by decide +kernel
theorem dX6_init_12 : decode cX6_init 12 = .ok (.putfield 12, 3) := by decide +kernel
theorem dX6_init_15 : decode cX6_init 15 = .ok (.aload_n 0, 1) := by decide +kernel
theorem dX6_init_16 : decode cX6_init 16 = .ok (.new 9, 3) := by decide +kernel
theorem dX6_init_19 : decode cX6_init 19 = .ok (.dup, 1) := by decide +kernel
theorem dX6_init_20 : decode cX6_init 20 = .ok (.invokespecial 11, 3) := by decide +kernel
theorem dX6_init_23 : decode cX6_init 23 = .ok (.putfield 18, 3) := by decide +kernel
theorem dX6_init_26 : decode cX6_init 26 = .ok (.return_, 1) := by decide +kernel
theorem dX6_strokesFrom_0 : decode cX6_strokesFrom 0 = .ok (.aload_n 0, 1) := by decide +kernel
theorem dX6_strokesFrom_1 : decode cX6_strokesFrom 1 = .ok (.getfield 12, 3) := by decide +kernel
theorem dX6_strokesFrom_4 : decode cX6_strokesFrom 4 = .ok (.aload_n 2, 1) := by decide +kernel
theorem dX6_strokesFrom_5 : decode cX6_strokesFrom 5 = .ok (.invokevirtual 21, 3) := by decide +kernel
theorem dX6_strokesFrom_8 : decode cX6_strokesFrom 8 = .ok (.aload_n 0, 1) := by decide +kernel
theorem dX6_strokesFrom_9 : decode cX6_strokesFrom 9 = .ok (.aload_n 1, 1) := by decide +kernel
theorem dX6_strokesFrom_10 : decode cX6_strokesFrom 10 = .ok (.aload_n 0, 1) := by decide +kernel
theorem dX6_strokesFrom_11 : decode cX6_strokesFrom 11 = .ok (.getfield 12, 3) := by decide +kernel
theorem dX6_strokesFrom_14 : decode cX6_strokesFrom 14 = .ok (.sipush 999, 3) := by decide +kernel
theorem dX6_strokesFrom_17 : decode cX6_strokesFrom 17 = .ok (.invokevirtual 25, 3) := by decide +kernel
theorem dX6_strokesFrom_20 : decode cX6_strokesFrom 20 = .ok (.ireturn, 1) := by decide +kernel
theorem dX6_strokesFresh_0 : decode cX6_strokesFresh 0 = .ok (.aload_n 0, 1) := by decide +kernel
theorem dX6_strokesFresh_1 : decode cX6_strokesFresh 1 = .ok (.aload_n 1, 1) := by decide +kernel
theorem dX6_strokesFresh_2 : decode cX6_strokesFresh 2 = .ok (.aload_n 2, 1) := by decide +kernel
theorem dX6_strokesFresh_3 : decode cX6_strokesFresh 3 = .ok (.iload_n 3, 1) := by decide +kernel
theorem dX6_strokesFresh_4 : decode cX6_strokesFresh 4 = .ok (.iload 4, 2) := by decide +kernel
theorem dX6_strokesFresh_6 : decode cX6_strokesFresh 6 = .ok (.invokevirtual 29, 3) := by decide +kernel
theorem dX6_strokesFresh_9 : decode cX6_strokesFresh 9 = .ok (.aload_n 0, 1) := by decide +kernel
theorem dX6_strokesFresh_10 : decode cX6_strokesFresh 10 = .ok (.aload_n 1, 1) := by decide +kernel
theorem dX6_strokesFresh_11 : decode cX6_strokesFresh 11 = .ok (.aload_n 0, 1) := by decide +kernel
theorem dX6_strokesFresh_12 : decode cX6_strokesFresh 12 = .ok (.getfield 12, 3) := by decide +kernel
theorem dX6_strokesFresh_15 : decode cX6_strokesFresh 15 = .ok (.sipush 999, 3) := by decide +kernel
theorem dX6_strokesFresh_18 : decode cX6_strokesFresh 18 = .ok (.invokevirtual 25, 3) := by decide +kernel
theorem dX6_strokesFresh_21 : decode cX6_strokesFresh 21 = .ok (.ireturn, 1) := by decide +kernel
theorem dX6_begin_0 : decode cX6_begin 0 = .ok (.aload_n 0, 1) := by decide +kernel
theorem dX6_begin_1 : decode cX6_begin 1 = .ok (.getfield 12, 3) := by decide +kernel
theorem dX6_begin_4 : decode cX6_begin 4 = .ok (.aload_n 2, 1) := by decide +kernel
theorem dX6_begin_5 : decode cX6_begin 5 = .ok (.invokevirtual 21, 3) := by decide +kernel
theorem dX6_begin_8 : decode cX6_begin 8 = .ok (.aload_n 0, 1) := by decide +kernel
theorem dX6_begin_9 : decode cX6_begin 9 = .ok (.getfield 12, 3) := by decide +kernel
theorem dX6_begin_12 : decode cX6_begin 12 = .ok (.iload_n 3, 1) := by decide +kernel
theorem dX6_begin_13 : decode cX6_begin 13 = .ok (.iload 4, 2) := by decide +kernel
theorem dX6_begin_15 : decode cX6_begin 15 = .ok (.invokevirtual 33, 3) := by decide +kernel
theorem dX6_begin_18 : decode cX6_begin 18 = .ok (.aload_n 1, 1) := by decide +kernel
theorem dX6_begin_19 : decode cX6_begin 19 = .ok (.getfield 37, 3) := by decide +kernel
theorem dX6_begin_22 : decode cX6_begin 22 = .ok (.aload_n 0, 1) := by decide +kernel
theorem dX6_begin_23 : decode cX6_begin 23 = .ok (.getfield 12, 3) := by decide +kernel
theorem dX6_begin_26 : decode cX6_begin 26 = .ok (.getfield 43, 3) := by decide +kernel
theorem dX6_begin_29 : decode cX6_begin 29 = .ok (.invokestatic 46, 3) := by decide +kernel
theorem dX6_begin_32 : decode cX6_begin 32 = .ok (.return_, 1) := by decide +kernel
theorem dX6_strokesThrough_0 : decode cX6_strokesThrough 0 = .ok (.iconst 0, 1) := by decide +kernel
theorem dX6_strokesThrough_1 : decode cX6_strokesThrough 1 = .ok (.istore 4, 2) := by decide +kernel
theorem dX6_strokesThrough_3 : decode cX6_strokesThrough 3 = .ok (.iconst 0, 1) := by decide +kernel
theorem dX6_strokesThrough_4 : decode cX6_strokesThrough 4 = .ok (.istore 5, 2) := by decide +kernel
theorem dX6_strokesThrough_6 : decode cX6_strokesThrough 6 = .ok (.iload 4, 2) := by decide +kernel
theorem dX6_strokesThrough_8 : decode cX6_strokesThrough 8 = .ok (.iload_n 3, 1) := by decide +kernel
theorem dX6_strokesThrough_9 : decode cX6_strokesThrough 9 = .ok (.if_icmp .ge 67, 3) := by decide +kernel
theorem dX6_strokesThrough_12 : decode cX6_strokesThrough 12 = .ok (.aload_n 2, 1) := by decide +kernel
theorem dX6_strokesThrough_13 : decode cX6_strokesThrough 13 = .ok (.aload_n 1, 1) := by decide +kernel
theorem dX6_strokesThrough_14 : decode cX6_strokesThrough 14 = .ok (.invokevirtual 52, 3) := by decide +kernel
theorem dX6_strokesThrough_17 : decode cX6_strokesThrough 17 = .ok (.ifCond .ne 59, 3) := by decide +kernel
theorem dX6_strokesThrough_20 : decode cX6_strokesThrough 20 = .ok (.aload_n 2, 1) := by decide +kernel
theorem dX6_strokesThrough_21 : decode cX6_strokesThrough 21 = .ok (.aload_n 1, 1) := by decide +kernel
theorem dX6_strokesThrough_22 : decode cX6_strokesThrough 22 = .ok (.invokevirtual 56, 3) := by decide +kernel
theorem dX6_strokesThrough_25 : decode cX6_strokesThrough 25 = .ok (.ifCond .le 7, 3) := by decide +kernel
theorem dX6_strokesThrough_28 : decode cX6_strokesThrough 28 = .ok (.iconst 0, 1) := by decide +kernel
theorem dX6_strokesThrough_29 : decode cX6_strokesThrough 29 = .ok (.goto 7, 3) := by decide +kernel
theorem dX6_strokesThrough_32 : decode cX6_strokesThrough 32 = .ok (.iload 5, 2) := by decide +kernel
theorem dX6_strokesThrough_34 : decode cX6_strokesThrough 34 = .ok (.iconst 1, 1) := by decide +kernel
theorem dX6_strokesThrough_35 : decode cX6_strokesThrough 35 = .ok (.iadd, 1) := by decide +kernel
theorem dX6_strokesThrough_36 : decode cX6_strokesThrough 36 = .ok (.istore 5, 2) := by decide +kernel
theorem dX6_strokesThrough_38 : decode cX6_strokesThrough 38 = .ok (.iinc 4 1, 3) := by decide +kernel
theorem dX6_strokesThrough_41 : decode cX6_strokesThrough 41 = .ok (.iload 5, 2) := by decide +kernel
theorem dX6_strokesThrough_43 : decode cX6_strokesThrough 43 = .ok (.iconst 3, 1) := by decide +kernel
theorem dX6_strokesThrough_44 : decode cX6_strokesThrough 44 = .ok (.if_icmp .ne 18, 3) := by decide +kernel
theorem dX6_strokesThrough_47 : decode cX6_strokesThrough 47 = .ok (.aload_n 0, 1) := by decide +kernel
theorem dX6_strokesThrough_48 : decode cX6_strokesThrough 48 = .ok (.aload_n 2, 1) := by decide +kernel
theorem dX6_strokesThrough_49 : decode cX6_strokesThrough 49 = .ok (.invokevirtual 60, 3) := by decide +kernel
theorem dX6_strokesThrough_52 : decode cX6_strokesThrough 52 = .ok (.ifCond .eq 7, 3) := by decide +kernel
theorem dX6_strokesThrough_55 : decode cX6_strokesThrough 55 = .ok (.sipush 1000, 3) := by decide +kernel
theorem dX6_strokesThrough_58 : decode cX6_strokesThrough 58 = .ok (.ireturn, 1) := by decide +kernel
theorem dX6_strokesThrough_59 : decode cX6_strokesThrough 59 = .ok (.iconst 1, 1) := by decide +kernel
theorem dX6_strokesThrough_60 : decode cX6_strokesThrough 60 = .ok (.istore 5, 2) := by decide +kernel
theorem dX6_strokesThrough_62 : decode cX6_strokesThrough 62 = .ok (.iload 5, 2) := by decide +kernel
theorem dX6_strokesThrough_64 : decode cX6_strokesThrough 64 = .ok (.iconst 1, 1) := by decide +kernel
theorem dX6_strokesThrough_65 : decode cX6_strokesThrough 65 = .ok (.if_icmp .ne (-59), 3) := by decide +kernel
theorem dX6_strokesThrough_68 : decode cX6_strokesThrough 68 = .ok (.aload_n 0, 1) := by decide +kernel
theorem dX6_strokesThrough_69 : decode cX6_strokesThrough 69 = .ok (.aload_n 2, 1) := by decide +kernel
theorem dX6_strokesThrough_70 : decode cX6_strokesThrough 70 = .ok (.invokevirtual 64, 3) := by decide +kernel
theorem dX6_strokesThrough_73 : decode cX6_strokesThrough 73 = .ok (.goto (-67), 3) := by decide +kernel
theorem dX6_strokesThrough_76 : decode cX6_strokesThrough 76 = .ok (.aload_n 2, 1) := by decide +kernel
theorem dX6_strokesThrough_77 : decode cX6_strokesThrough 77 = .ok (.aload_n 1, 1) := by decide +kernel
theorem dX6_strokesThrough_78 : decode cX6_strokesThrough 78 = .ok (.invokevirtual 52, 3) := by decide +kernel
theorem dX6_strokesThrough_81 : decode cX6_strokesThrough 81 = .ok (.ifCond .eq 8, 3) := by decide +kernel
theorem dX6_strokesThrough_84 : decode cX6_strokesThrough 84 = .ok (.iload 4, 2) := by decide +kernel
theorem dX6_strokesThrough_86 : decode cX6_strokesThrough 86 = .ok (.goto 6, 3) := by decide +kernel
theorem dX6_strokesThrough_89 : decode cX6_strokesThrough 89 = .ok (.sipush 1000, 3) := by decide +kernel
theorem dX6_strokesThrough_92 : decode cX6_strokesThrough 92 = .ok (.ireturn, 1) := by decide +kernel
theorem dX6_rememberPair_0 : decode cX6_rememberPair 0 = .ok (.aload_n 0, 1) := by decide +kernel
theorem dX6_rememberPair_1 : decode cX6_rememberPair 1 = .ok (.aload_n 1, 1) := by decide +kernel
theorem dX6_rememberPair_2 : decode cX6_rememberPair 2 = .ok (.getfield 67, 3) := by decide +kernel
theorem dX6_rememberPair_5 : decode cX6_rememberPair 5 = .ok (.aload_n 1, 1) := by decide +kernel
theorem dX6_rememberPair_6 : decode cX6_rememberPair 6 = .ok (.getfield 70, 3) := by decide +kernel
theorem dX6_rememberPair_9 : decode cX6_rememberPair 9 = .ok (.invokestatic 74, 3) := by decide +kernel
theorem dX6_rememberPair_12 : decode cX6_rememberPair 12 = .ok (.putfield 78, 3) := by decide +kernel
theorem dX6_rememberPair_15 : decode cX6_rememberPair 15 = .ok (.aload_n 0, 1) := by decide +kernel
theorem dX6_rememberPair_16 : decode cX6_rememberPair 16 = .ok (.aload_n 1, 1) := by decide +kernel
theorem dX6_rememberPair_17 : decode cX6_rememberPair 17 = .ok (.getfield 67, 3) := by decide +kernel
theorem dX6_rememberPair_20 : decode cX6_rememberPair 20 = .ok (.aload_n 1, 1) := by decide +kernel
theorem dX6_rememberPair_21 : decode cX6_rememberPair 21 = .ok (.getfield 81, 3) := by decide +kernel
theorem dX6_rememberPair_24 : decode cX6_rememberPair 24 = .ok (.invokestatic 74, 3) := by decide +kernel
theorem dX6_rememberPair_27 : decode cX6_rememberPair 27 = .ok (.putfield 84, 3) := by decide +kernel
theorem dX6_rememberPair_30 : decode cX6_rememberPair 30 = .ok (.aload_n 0, 1) := by decide +kernel
theorem dX6_rememberPair_31 : decode cX6_rememberPair 31 = .ok (.aload_n 1, 1) := by decide +kernel
theorem dX6_rememberPair_32 : decode cX6_rememberPair 32 = .ok (.getfield 87, 3) := by decide +kernel
theorem dX6_rememberPair_35 : decode cX6_rememberPair 35 = .ok (.aload_n 1, 1) := by decide +kernel
theorem dX6_rememberPair_36 : decode cX6_rememberPair 36 = .ok (.getfield 70, 3) := by decide +kernel
theorem dX6_rememberPair_39 : decode cX6_rememberPair 39 = .ok (.invokestatic 74, 3) := by decide +kernel
theorem dX6_rememberPair_42 : decode cX6_rememberPair 42 = .ok (.putfield 90, 3) := by decide +kernel
theorem dX6_rememberPair_45 : decode cX6_rememberPair 45 = .ok (.aload_n 0, 1) := by decide +kernel
theorem dX6_rememberPair_46 : decode cX6_rememberPair 46 = .ok (.aload_n 1, 1) := by decide +kernel
theorem dX6_rememberPair_47 : decode cX6_rememberPair 47 = .ok (.getfield 87, 3) := by decide +kernel
theorem dX6_rememberPair_50 : decode cX6_rememberPair 50 = .ok (.aload_n 1, 1) := by decide +kernel
theorem dX6_rememberPair_51 : decode cX6_rememberPair 51 = .ok (.getfield 81, 3) := by decide +kernel
theorem dX6_rememberPair_54 : decode cX6_rememberPair 54 = .ok (.invokestatic 74, 3) := by decide +kernel
theorem dX6_rememberPair_57 : decode cX6_rememberPair 57 = .ok (.putfield 93, 3) := by decide +kernel
theorem dX6_rememberPair_60 : decode cX6_rememberPair 60 = .ok (.return_, 1) := by decide +kernel
theorem dX6_isNoFresher_0 : decode cX6_isNoFresher 0 = .ok (.aload_n 1, 1) := by decide +kernel
theorem dX6_isNoFresher_1 : decode cX6_isNoFresher 1 = .ok (.getfield 67, 3) := by decide +kernel
theorem dX6_isNoFresher_4 : decode cX6_isNoFresher 4 = .ok (.aload_n 1, 1) := by decide +kernel
theorem dX6_isNoFresher_5 : decode cX6_isNoFresher 5 = .ok (.getfield 70, 3) := by decide +kernel
theorem dX6_isNoFresher_8 : decode cX6_isNoFresher 8 = .ok (.invokestatic 74, 3) := by decide +kernel
theorem dX6_isNoFresher_11 : decode cX6_isNoFresher 11 = .ok (.aload_n 0, 1) := by decide +kernel
theorem dX6_isNoFresher_12 : decode cX6_isNoFresher 12 = .ok (.getfield 78, 3) := by decide +kernel
theorem dX6_isNoFresher_15 : decode cX6_isNoFresher 15 = .ok (.if_icmp .lt 61, 3) := by decide +kernel
theorem dX6_isNoFresher_18 : decode cX6_isNoFresher 18 = .ok (.aload_n 1, 1) := by decide +kernel
theorem dX6_isNoFresher_19 : decode cX6_isNoFresher 19 = .ok (.getfield 67, 3) := by decide +kernel
theorem dX6_isNoFresher_22 : decode cX6_isNoFresher 22 = .ok (.aload_n 1, 1) := by decide +kernel
theorem dX6_isNoFresher_23 : decode cX6_isNoFresher 23 = .ok (.getfield 81, 3) := by decide +kernel
theorem dX6_isNoFresher_26 : decode cX6_isNoFresher 26 = .ok (.invokestatic 74, 3) := by decide +kernel
theorem dX6_isNoFresher_29 : decode cX6_isNoFresher 29 = .ok (.aload_n 0, 1) := by decide +kernel
theorem dX6_isNoFresher_30 : decode cX6_isNoFresher 30 = .ok (.getfield 84, 3) := by decide +kernel
theorem dX6_isNoFresher_33 : decode cX6_isNoFresher 33 = .ok (.if_icmp .lt 43, 3) := by decide +kernel
theorem dX6_isNoFresher_36 : decode cX6_isNoFresher 36 = .ok (.aload_n 1, 1) := by decide +kernel
theorem dX6_isNoFresher_37 : decode cX6_isNoFresher 37 = .ok (.getfield 87, 3) := by decide +kernel
theorem dX6_isNoFresher_40 : decode cX6_isNoFresher 40 = .ok (.aload_n 1, 1) := by decide +kernel
theorem dX6_isNoFresher_41 : decode cX6_isNoFresher 41 = .ok (.getfield 70, 3) := by decide +kernel
theorem dX6_isNoFresher_44 : decode cX6_isNoFresher 44 = .ok (.invokestatic 74, 3) := by decide +kernel
theorem dX6_isNoFresher_47 : decode cX6_isNoFresher 47 = .ok (.aload_n 0, 1) := by decide +kernel
theorem dX6_isNoFresher_48 : decode cX6_isNoFresher 48 = .ok (.getfield 90, 3) := by decide +kernel
theorem dX6_isNoFresher_51 : decode cX6_isNoFresher 51 = .ok (.if_icmp .ne 25, 3) := by decide +kernel
theorem dX6_isNoFresher_54 : decode cX6_isNoFresher 54 = .ok (.aload_n 1, 1) := by decide +kernel
theorem dX6_isNoFresher_55 : decode cX6_isNoFresher 55 = .ok (.getfield 87, 3) := by decide +kernel
theorem dX6_isNoFresher_58 : decode cX6_isNoFresher 58 = .ok (.aload_n 1, 1) := by decide +kernel
theorem dX6_isNoFresher_59 : decode cX6_isNoFresher 59 = .ok (.getfield 81, 3) := by decide +kernel
theorem dX6_isNoFresher_62 : decode cX6_isNoFresher 62 = .ok (.invokestatic 74, 3) := by decide +kernel
theorem dX6_isNoFresher_65 : decode cX6_isNoFresher 65 = .ok (.aload_n 0, 1) := by decide +kernel
theorem dX6_isNoFresher_66 : decode cX6_isNoFresher 66 = .ok (.getfield 93, 3) := by decide +kernel
theorem dX6_isNoFresher_69 : decode cX6_isNoFresher 69 = .ok (.if_icmp .ne 7, 3) := by decide +kernel
theorem dX6_isNoFresher_72 : decode cX6_isNoFresher 72 = .ok (.iconst 1, 1) := by decide +kernel
theorem dX6_isNoFresher_73 : decode cX6_isNoFresher 73 = .ok (.goto 4, 3) := by decide +kernel
theorem dX6_isNoFresher_76 : decode cX6_isNoFresher 76 = .ok (.iconst 0, 1) := by decide +kernel
theorem dX6_isNoFresher_77 : decode cX6_isNoFresher 77 = .ok (.ireturn, 1) := by decide +kernel
theorem dX6_findWishes_0 : decode cX6_findWishes 0 = .ok (.aload_n 0, 1) := by decide +kernel
theorem dX6_findWishes_1 : decode cX6_findWishes 1 = .ok (.sipush 1000, 3) := by decide +kernel
theorem dX6_findWishes_4 : decode cX6_findWishes 4 = .ok (.putfield 96, 3) := by decide +kernel
theorem dX6_findWishes_7 : decode cX6_findWishes 7 = .ok (.aload_n 0, 1) := by decide +kernel
theorem dX6_findWishes_8 : decode cX6_findWishes 8 = .ok (.iconst (-1), 1) := by decide +kernel
theorem dX6_findWishes_9 : decode cX6_findWishes 9 = .ok (.putfield 99, 3) := by decide +kernel
theorem dX6_findWishes_12 : decode cX6_findWishes 12 = .ok (.aload_n 0, 1) := by decide +kernel
theorem dX6_findWishes_13 : decode cX6_findWishes 13 = .ok (.iconst (-1), 1) := by decide +kernel
theorem dX6_findWishes_14 : decode cX6_findWishes 14 = .ok (.putfield 102, 3) := by decide +kernel
theorem dX6_findWishes_17 : decode cX6_findWishes 17 = .ok (.bipush 20, 2) := by decide +kernel
theorem dX6_findWishes_19 : decode cX6_findWishes 19 = .ok (.aload_n 1, 1) := by decide +kernel
theorem dX6_findWishes_20 : decode cX6_findWishes 20 = .ok (.getfield 37, 3) := by decide +kernel
theorem dX6_findWishes_23 : decode cX6_findWishes 23 = .ok (.iload_n 3, 1) := by decide +kernel
theorem dX6_findWishes_24 : decode cX6_findWishes 24 = .ok (.invokestatic 74, 3) := by decide +kernel
theorem dX6_findWishes_27 : decode cX6_findWishes 27 = .ok (.invokestatic 105, 3) := by decide +kernel
theorem dX6_findWishes_30 : decode cX6_findWishes 30 = .ok (.istore 5, 2) := by decide +kernel
theorem dX6_findWishes_32 : decode cX6_findWishes 32 = .ok (.bipush 20, 2) := by decide +kernel
theorem dX6_findWishes_34 : decode cX6_findWishes 34 = .ok (.aload_n 1, 1) := by decide +kernel
theorem dX6_findWishes_35 : decode cX6_findWishes 35 = .ok (.getfield 37, 3) := by decide +kernel
theorem dX6_findWishes_38 : decode cX6_findWishes 38 = .ok (.iload 4, 2) := by decide +kernel
theorem dX6_findWishes_40 : decode cX6_findWishes 40 = .ok (.invokestatic 74, 3) := by decide +kernel
theorem dX6_findWishes_43 : decode cX6_findWishes 43 = .ok (.invokestatic 105, 3) := by decide +kernel
theorem dX6_findWishes_46 : decode cX6_findWishes 46 = .ok (.istore 6, 2) := by decide +kernel
theorem dX6_findWishes_48 : decode cX6_findWishes 48 = .ok (.iconst 1, 1) := by decide +kernel
theorem dX6_findWishes_49 : decode cX6_findWishes 49 = .ok (.istore 7, 2) := by decide +kernel
theorem dX6_findWishes_51 : decode cX6_findWishes 51 = .ok (.iload 7, 2) := by decide +kernel
theorem dX6_findWishes_53 : decode cX6_findWishes 53 = .ok (.iload 5, 2) := by decide +kernel
theorem dX6_findWishes_55 : decode cX6_findWishes 55 = .ok (.if_icmp .gt 105, 3) := by decide +kernel
theorem dX6_findWishes_58 : decode cX6_findWishes 58 = .ok (.iconst 1, 1) := by decide +kernel
theorem dX6_findWishes_59 : decode cX6_findWishes 59 = .ok (.istore 8, 2) := by decide +kernel
theorem dX6_findWishes_61 : decode cX6_findWishes 61 = .ok (.iload 8, 2) := by decide +kernel
theorem dX6_findWishes_63 : decode cX6_findWishes 63 = .ok (.iload 6, 2) := by decide +kernel
theorem dX6_findWishes_65 : decode cX6_findWishes 65 = .ok (.if_icmp .gt 89, 3) := by decide +kernel
theorem dX6_findWishes_68 : decode cX6_findWishes 68 = .ok (.aload_n 0, 1) := by decide +kernel
theorem dX6_findWishes_69 : decode cX6_findWishes 69 = .ok (.aload_n 1, 1) := by decide +kernel
theorem dX6_findWishes_70 : decode cX6_findWishes 70 = .ok (.aload_n 2, 1) := by decide +kernel
theorem dX6_findWishes_71 : decode cX6_findWishes 71 = .ok (.iload_n 3, 1) := by decide +kernel
theorem dX6_findWishes_72 : decode cX6_findWishes 72 = .ok (.iload 4, 2) := by decide +kernel
theorem dX6_findWishes_74 : decode cX6_findWishes 74 = .ok (.invokevirtual 29, 3) := by decide +kernel
theorem dX6_findWishes_77 : decode cX6_findWishes 77 = .ok (.aload_n 0, 1) := by decide +kernel
theorem dX6_findWishes_78 : decode cX6_findWishes 78 = .ok (.getfield 12, 3) := by decide +kernel
theorem dX6_findWishes_81 : decode cX6_findWishes 81 = .ok (.getfield 43, 3) := by decide +kernel
theorem dX6_findWishes_84 : decode cX6_findWishes 84 = .ok (.iload_n 3, 1) := by decide +kernel
theorem dX6_findWishes_85 : decode cX6_findWishes 85 = .ok (.iload 7, 2) := by decide +kernel
theorem dX6_findWishes_87 : decode cX6_findWishes 87 = .ok (.invokestatic 111, 3) := by decide +kernel
theorem dX6_findWishes_90 : decode cX6_findWishes 90 = .ok (.aload_n 0, 1) := by decide +kernel
theorem dX6_findWishes_91 : decode cX6_findWishes 91 = .ok (.getfield 12, 3) := by decide +kernel
theorem dX6_findWishes_94 : decode cX6_findWishes 94 = .ok (.getfield 43, 3) := by decide +kernel
theorem dX6_findWishes_97 : decode cX6_findWishes 97 = .ok (.iload 4, 2) := by decide +kernel
theorem dX6_findWishes_99 : decode cX6_findWishes 99 = .ok (.iload 8, 2) := by decide +kernel
theorem dX6_findWishes_101 : decode cX6_findWishes 101 = .ok (.invokestatic 111, 3) := by decide +kernel
theorem dX6_findWishes_104 : decode cX6_findWishes 104 = .ok (.aload_n 0, 1) := by decide +kernel
theorem dX6_findWishes_105 : decode cX6_findWishes 105 = .ok (.aload_n 1, 1) := by decide +kernel
theorem dX6_findWishes_106 : decode cX6_findWishes 106 = .ok (.aload_n 0, 1) := by decide +kernel
theorem dX6_findWishes_107 : decode cX6_findWishes 107 = .ok (.getfield 12, 3) := by decide +kernel
theorem dX6_findWishes_110 : decode cX6_findWishes 110 = .ok (.aload_n 0, 1) := by decide +kernel
theorem dX6_findWishes_111 : decode cX6_findWishes 111 = .ok (.getfield 96, 3) := by decide +kernel
theorem dX6_findWishes_114 : decode cX6_findWishes 114 = .ok (.iconst 1, 1) := by decide +kernel
theorem dX6_findWishes_115 : decode cX6_findWishes 115 = .ok (.isub, 1) := by decide +kernel
theorem dX6_findWishes_116 : decode cX6_findWishes 116 = .ok (.invokevirtual 25, 3) := by decide +kernel
theorem dX6_findWishes_119 : decode cX6_findWishes 119 = .ok (.istore 9, 2) := by decide +kernel
theorem dX6_findWishes_121 : decode cX6_findWishes 121 = .ok (.iload 9, 2) := by decide +kernel
theorem dX6_findWishes_123 : decode cX6_findWishes 123 = .ok (.aload_n 0, 1) := by decide +kernel
theorem dX6_findWishes_124 : decode cX6_findWishes 124 = .ok (.getfield 96, 3) := by decide +kernel
theorem dX6_findWishes_127 : decode cX6_findWishes 127 = .ok (.if_icmp .ge 21, 3) := by decide +kernel
theorem dX6_findWishes_130 : decode cX6_findWishes 130 = .ok (.aload_n 0, 1) := by decide +kernel
theorem dX6_findWishes_131 : decode cX6_findWishes 131 = .ok (.iload 9, 2) := by decide +kernel
theorem dX6_findWishes_133 : decode cX6_findWishes 133 = .ok (.putfield 96, 3) := by decide +kernel
theorem dX6_findWishes_136 : decode cX6_findWishes 136 = .ok (.aload_n 0, 1) := by decide +kernel
theorem dX6_findWishes_137 : decode cX6_findWishes 137 = .ok (.iload 7, 2) := by decide +kernel
theorem dX6_findWishes_139 : decode cX6_findWishes 139 = .ok (.putfield 99, 3) := by decide +kernel
theorem dX6_findWishes_142 : decode cX6_findWishes 142 = .ok (.aload_n 0, 1) := by decide +kernel
theorem dX6_findWishes_143 : decode cX6_findWishes 143 = .ok (.iload 8, 2) := by decide +kernel
theorem dX6_findWishes_145 : decode cX6_findWishes 145 = .ok (.putfield 102, 3) := by decide +kernel
theorem dX6_findWishes_148 : decode cX6_findWishes 148 = .ok (.iinc 8 1, 3) := by decide +kernel
theorem dX6_findWishes_151 : decode cX6_findWishes 151 = .ok (.goto (-90), 3) := by decide +kernel
theorem dX6_findWishes_154 : decode cX6_findWishes 154 = .ok (.iinc 7 1, 3) := by decide +kernel
theorem dX6_findWishes_157 : decode cX6_findWishes 157 = .ok (.goto (-106), 3) := by decide +kernel
theorem dX6_findWishes_160 : decode cX6_findWishes 160 = .ok (.return_, 1) := by decide +kernel
theorem dX6_quarrelStroke_0 : decode cX6_quarrelStroke 0 = .ok (.aload_n 0, 1) := by decide +kernel
theorem dX6_quarrelStroke_1 : decode cX6_quarrelStroke 1 = .ok (.aload_n 1, 1) := by decide +kernel
theorem dX6_quarrelStroke_2 : decode cX6_quarrelStroke 2 = .ok (.aload_n 2, 1) := by decide +kernel
theorem dX6_quarrelStroke_3 : decode cX6_quarrelStroke 3 = .ok (.iload_n 3, 1) := by decide +kernel
theorem dX6_quarrelStroke_4 : decode cX6_quarrelStroke 4 = .ok (.iload 4, 2) := by decide +kernel
theorem dX6_quarrelStroke_6 : decode cX6_quarrelStroke 6 = .ok (.invokevirtual 29, 3) := by decide +kernel
theorem dX6_quarrelStroke_9 : decode cX6_quarrelStroke 9 = .ok (.iconst 1, 1) := by decide +kernel
theorem dX6_quarrelStroke_10 : decode cX6_quarrelStroke 10 = .ok (.istore 5, 2) := by decide +kernel
theorem dX6_quarrelStroke_12 : decode cX6_quarrelStroke 12 = .ok (.iload 5, 2) := by decide +kernel
theorem dX6_quarrelStroke_14 : decode cX6_quarrelStroke 14 = .ok (.bipush 99, 2) := by decide +kernel
theorem dX6_quarrelStroke_16 : decode cX6_quarrelStroke 16 = .ok (.if_icmp .gt 42, 3) := by decide +kernel
theorem dX6_quarrelStroke_19 : decode cX6_quarrelStroke 19 = .ok (.aload_n 0, 1) := by decide +kernel
theorem dX6_quarrelStroke_20 : decode cX6_quarrelStroke 20 = .ok (.getfield 12, 3) := by decide +kernel
theorem dX6_quarrelStroke_23 : decode cX6_quarrelStroke 23 = .ok (.aload_n 1, 1) := by decide +kernel
theorem dX6_quarrelStroke_24 : decode cX6_quarrelStroke 24 = .ok (.invokevirtual 52, 3) := by decide +kernel
theorem dX6_quarrelStroke_27 : decode cX6_quarrelStroke 27 = .ok (.ifCond .ne 31, 3) := by decide +kernel
theorem dX6_quarrelStroke_30 : decode cX6_quarrelStroke 30 = .ok (.aload_n 0, 1) := by decide +kernel
theorem dX6_quarrelStroke_31 : decode cX6_quarrelStroke 31 = .ok (.getfield 12, 3) := by decide +kernel
theorem dX6_quarrelStroke_34 : decode cX6_quarrelStroke 34 = .ok (.aload_n 1, 1) := by decide +kernel
theorem dX6_quarrelStroke_35 : decode cX6_quarrelStroke 35 = .ok (.invokevirtual 56, 3) := by decide +kernel
theorem dX6_quarrelStroke_38 : decode cX6_quarrelStroke 38 = .ok (.pop, 1) := by decide +kernel
theorem dX6_quarrelStroke_39 : decode cX6_quarrelStroke 39 = .ok (.aload_n 0, 1) := by decide +kernel
theorem dX6_quarrelStroke_40 : decode cX6_quarrelStroke 40 = .ok (.getfield 12, 3) := by decide +kernel
theorem dX6_quarrelStroke_43 : decode cX6_quarrelStroke 43 = .ok (.invokevirtual 115, 3) := by decide +kernel
theorem dX6_quarrelStroke_46 : decode cX6_quarrelStroke 46 = .ok (.ifCond .eq 6, 3) := by decide +kernel
theorem dX6_quarrelStroke_49 : decode cX6_quarrelStroke 49 = .ok (.iload 5, 2) := by decide +kernel
theorem dX6_quarrelStroke_51 : decode cX6_quarrelStroke 51 = .ok (.ireturn, 1) := by decide +kernel
theorem dX6_quarrelStroke_52 : decode cX6_quarrelStroke 52 = .ok (.iinc 5 1, 3) := by decide +kernel
theorem dX6_quarrelStroke_55 : decode cX6_quarrelStroke 55 = .ok (.goto (-43), 3) := by decide +kernel
theorem dX6_quarrelStroke_58 : decode cX6_quarrelStroke 58 = .ok (.iconst (-1), 1) := by decide +kernel
theorem dX6_quarrelStroke_59 : decode cX6_quarrelStroke 59 = .ok (.ireturn, 1) := by decide +kernel
theorem dX6_findMate_0 : decode cX6_findMate 0 = .ok (.iconst (-1), 1) := by decide +kernel
theorem dX6_findMate_1 : decode cX6_findMate 1 = .ok (.istore_n 3, 1) := by decide +kernel
theorem dX6_findMate_2 : decode cX6_findMate 2 = .ok (.aload_n 1, 1) := by decide +kernel
theorem dX6_findMate_3 : decode cX6_findMate 3 = .ok (.getfield 119, 3) := by decide +kernel
theorem dX6_findMate_6 : decode cX6_findMate 6 = .ok (.iconst 4, 1) := by decide +kernel
theorem dX6_findMate_7 : decode cX6_findMate 7 = .ok (.if_icmp .ge 5, 3) := by decide +kernel
theorem dX6_findMate_10 : decode cX6_findMate 10 = .ok (.iload_n 3, 1) := by decide +kernel
theorem dX6_findMate_11 : decode cX6_findMate 11 = .ok (.ireturn, 1) := by decide +kernel
theorem dX6_findMate_12 : decode cX6_findMate 12 = .ok (.aload_n 0, 1) := by decide +kernel
theorem dX6_findMate_13 : decode cX6_findMate 13 = .ok (.sipush 1000, 3) := by decide +kernel
theorem dX6_findMate_16 : decode cX6_findMate 16 = .ok (.putfield 96, 3) := by decide +kernel
theorem dX6_findMate_19 : decode cX6_findMate 19 = .ok (.iconst 0, 1) := by decide +kernel
theorem dX6_findMate_20 : decode cX6_findMate 20 = .ok (.istore 4, 2) := by decide +kernel
theorem dX6_findMate_22 : decode cX6_findMate 22 = .ok (.iconst 1, 1) := by decide +kernel
theorem dX6_findMate_23 : decode cX6_findMate 23 = .ok (.istore 5, 2) := by decide +kernel
theorem dX6_findMate_25 : decode cX6_findMate 25 = .ok (.iload 5, 2) := by decide +kernel
theorem dX6_findMate_27 : decode cX6_findMate 27 = .ok (.iconst 4, 1) := by decide +kernel
theorem dX6_findMate_28 : decode cX6_findMate 28 = .ok (.if_icmp .ge 131, 3) := by decide +kernel
theorem dX6_findMate_31 : decode cX6_findMate 31 = .ok (.iload 5, 2) := by decide +kernel
theorem dX6_findMate_33 : decode cX6_findMate 33 = .ok (.iconst 1, 1) := by decide +kernel
theorem dX6_findMate_34 : decode cX6_findMate 34 = .ok (.if_icmp .ne 7, 3) := by decide +kernel
theorem dX6_findMate_37 : decode cX6_findMate 37 = .ok (.iconst 2, 1) := by decide +kernel
theorem dX6_findMate_38 : decode cX6_findMate 38 = .ok (.goto 4, 3) := by decide +kernel
theorem dX6_findMate_41 : decode cX6_findMate 41 = .ok (.iconst 1, 1) := by decide +kernel
theorem dX6_findMate_42 : decode cX6_findMate 42 = .ok (.istore 6, 2) := by decide +kernel
theorem dX6_findMate_44 : decode cX6_findMate 44 = .ok (.iload 5, 2) := by decide +kernel
theorem dX6_findMate_46 : decode cX6_findMate 46 = .ok (.iconst 3, 1) := by decide +kernel
theorem dX6_findMate_47 : decode cX6_findMate 47 = .ok (.if_icmp .ne 7, 3) := by decide +kernel
theorem dX6_findMate_50 : decode cX6_findMate 50 = .ok (.iconst 2, 1) := by decide +kernel
theorem dX6_findMate_51 : decode cX6_findMate 51 = .ok (.goto 4, 3) := by decide +kernel
theorem dX6_findMate_54 : decode cX6_findMate 54 = .ok (.iconst 3, 1) := by decide +kernel
theorem dX6_findMate_55 : decode cX6_findMate 55 = .ok (.istore 7, 2) := by decide +kernel
theorem dX6_findMate_57 : decode cX6_findMate 57 = .ok (.aload_n 0, 1) := by decide +kernel
theorem dX6_findMate_58 : decode cX6_findMate 58 = .ok (.aload_n 1, 1) := by decide +kernel
theorem dX6_findMate_59 : decode cX6_findMate 59 = .ok (.aload_n 2, 1) := by decide +kernel
theorem dX6_findMate_60 : decode cX6_findMate 60 = .ok (.iconst 0, 1) := by decide +kernel
theorem dX6_findMate_61 : decode cX6_findMate 61 = .ok (.iload 5, 2) := by decide +kernel
theorem dX6_findMate_63 : decode cX6_findMate 63 = .ok (.invokevirtual 122, 3) := by decide +kernel
theorem dX6_findMate_66 : decode cX6_findMate 66 = .ok (.istore 8, 2) := by decide +kernel
theorem dX6_findMate_68 : decode cX6_findMate 68 = .ok (.aload_n 0, 1) := by decide +kernel
theorem dX6_findMate_69 : decode cX6_findMate 69 = .ok (.aload_n 1, 1) := by decide +kernel
theorem dX6_findMate_70 : decode cX6_findMate 70 = .ok (.aload_n 2, 1) := by decide +kernel
theorem dX6_findMate_71 : decode cX6_findMate 71 = .ok (.iload 6, 2) := by decide +kernel
theorem dX6_findMate_73 : decode cX6_findMate 73 = .ok (.iload 7, 2) := by decide +kernel
theorem dX6_findMate_75 : decode cX6_findMate 75 = .ok (.invokevirtual 122, 3) := by decide +kernel
theorem dX6_findMate_78 : decode cX6_findMate 78 = .ok (.istore 9, 2) := by decide +kernel
theorem dX6_findMate_80 : decode cX6_findMate 80 = .ok (.iload 8, 2) := by decide +kernel
theorem dX6_findMate_82 : decode cX6_findMate 82 = .ok (.iload 9, 2) := by decide +kernel
theorem dX6_findMate_84 : decode cX6_findMate 84 = .ok (.invokestatic 126, 3) := by decide +kernel
theorem dX6_findMate_87 : decode cX6_findMate 87 = .ok (.istore 10, 2) := by decide +kernel
theorem dX6_findMate_89 : decode cX6_findMate 89 = .ok (.iload 10, 2) := by decide +kernel
theorem dX6_findMate_91 : decode cX6_findMate 91 = .ok (.aload_n 0, 1) := by decide +kernel
theorem dX6_findMate_92 : decode cX6_findMate 92 = .ok (.getfield 96, 3) := by decide +kernel
theorem dX6_findMate_95 : decode cX6_findMate 95 = .ok (.if_icmp .ne 25, 3) := by decide +kernel
theorem dX6_findMate_98 : decode cX6_findMate 98 = .ok (.iload 10, 2) := by decide +kernel
theorem dX6_findMate_100 : decode cX6_findMate 100 = .ok (.sipush 1000, 3) := by decide +kernel
theorem dX6_findMate_103 : decode cX6_findMate 103 = .ok (.if_icmp .ge 17, 3) := by decide +kernel
theorem dX6_findMate_106 : decode cX6_findMate 106 = .ok (.iload 8, 2) := by decide +kernel
theorem dX6_findMate_108 : decode cX6_findMate 108 = .ok (.iload 9, 2) := by decide +kernel
theorem dX6_findMate_110 : decode cX6_findMate 110 = .ok (.iadd, 1) := by decide +kernel
theorem dX6_findMate_111 : decode cX6_findMate 111 = .ok (.iload 4, 2) := by decide +kernel
theorem dX6_findMate_113 : decode cX6_findMate 113 = .ok (.if_icmp .ge 7, 3) := by decide +kernel
theorem dX6_findMate_116 : decode cX6_findMate 116 = .ok (.iconst 1, 1) := by decide +kernel
theorem dX6_findMate_117 : decode cX6_findMate 117 = .ok (.goto 4, 3) := by decide +kernel
theorem dX6_findMate_120 : decode cX6_findMate 120 = .ok (.iconst 0, 1) := by decide +kernel
theorem dX6_findMate_121 : decode cX6_findMate 121 = .ok (.istore 11, 2) := by decide +kernel
theorem dX6_findMate_123 : decode cX6_findMate 123 = .ok (.iload 10, 2) := by decide +kernel
theorem dX6_findMate_125 : decode cX6_findMate 125 = .ok (.aload_n 0, 1) := by decide +kernel
theorem dX6_findMate_126 : decode cX6_findMate 126 = .ok (.getfield 96, 3) := by decide +kernel
theorem dX6_findMate_129 : decode cX6_findMate 129 = .ok (.if_icmp .lt 8, 3) := by decide +kernel
theorem dX6_findMate_132 : decode cX6_findMate 132 = .ok (.iload 11, 2) := by decide +kernel
theorem dX6_findMate_134 : decode cX6_findMate 134 = .ok (.ifCond .eq 19, 3) := by decide +kernel
theorem dX6_findMate_137 : decode cX6_findMate 137 = .ok (.iload 5, 2) := by decide +kernel
theorem dX6_findMate_139 : decode cX6_findMate 139 = .ok (.istore_n 3, 1) := by decide +kernel
theorem dX6_findMate_140 : decode cX6_findMate 140 = .ok (.aload_n 0, 1) := by decide +kernel
theorem dX6_findMate_141 : decode cX6_findMate 141 = .ok (.iload 10, 2) := by decide +kernel
theorem dX6_findMate_143 : decode cX6_findMate 143 = .ok (.putfield 96, 3) := by decide +kernel
theorem dX6_findMate_146 : decode cX6_findMate 146 = .ok (.iload 8, 2) := by decide +kernel
theorem dX6_findMate_148 : decode cX6_findMate 148 = .ok (.iload 9, 2) := by decide +kernel
theorem dX6_findMate_150 : decode cX6_findMate 150 = .ok (.iadd, 1) := by decide +kernel
theorem dX6_findMate_151 : decode cX6_findMate 151 = .ok (.istore 4, 2) := by decide +kernel
theorem dX6_findMate_153 : decode cX6_findMate 153 = .ok (.iinc 5 1, 3) := by decide +kernel
theorem dX6_findMate_156 : decode cX6_findMate 156 = .ok (.goto (-131), 3) := by decide +kernel
theorem dX6_findMate_159 : decode cX6_findMate 159 = .ok (.iload_n 3, 1) := by decide +kernel
theorem dX6_findMate_160 : decode cX6_findMate 160 = .ok (.ireturn, 1) := by decide +kernel
theorem dX6_findWedge_0 : decode cX6_findWedge 0 = .ok (.aload_n 0, 1) := by decide +kernel
theorem dX6_findWedge_1 : decode cX6_findWedge 1 = .ok (.aload_n 0, 1) := by decide +kernel
theorem dX6_findWedge_2 : decode cX6_findWedge 2 = .ok (.aload_n 1, 1) := by decide +kernel
theorem dX6_findWedge_3 : decode cX6_findWedge 3 = .ok (.aload_n 2, 1) := by decide +kernel
theorem dX6_findWedge_4 : decode cX6_findWedge 4 = .ok (.invokevirtual 129, 3) := by decide +kernel
theorem dX6_findWedge_7 : decode cX6_findWedge 7 = .ok (.putfield 96, 3) := by decide +kernel
theorem dX6_findWedge_10 : decode cX6_findWedge 10 = .ok (.iconst (-1), 1) := by decide +kernel
theorem dX6_findWedge_11 : decode cX6_findWedge 11 = .ok (.istore_n 3, 1) := by decide +kernel
theorem dX6_findWedge_12 : decode cX6_findWedge 12 = .ok (.aload_n 2, 1) := by decide +kernel
theorem dX6_findWedge_13 : decode cX6_findWedge 13 = .ok (.getfield 133, 3) := by decide +kernel
theorem dX6_findWedge_16 : decode cX6_findWedge 16 = .ok (.ifCond .eq 5, 3) := by decide +kernel
theorem dX6_findWedge_19 : decode cX6_findWedge 19 = .ok (.iload_n 3, 1) := by decide +kernel
theorem dX6_findWedge_20 : decode cX6_findWedge 20 = .ok (.ireturn, 1) := by decide +kernel
theorem dX6_findWedge_21 : decode cX6_findWedge 21 = .ok (.aload_n 0, 1) := by decide +kernel
theorem dX6_findWedge_22 : decode cX6_findWedge 22 = .ok (.aload_n 0, 1) := by decide +kernel
theorem dX6_findWedge_23 : decode cX6_findWedge 23 = .ok (.getfield 96, 3) := by decide +kernel
theorem dX6_findWedge_26 : decode cX6_findWedge 26 = .ok (.sipush 1000, 3) := by decide +kernel
theorem dX6_findWedge_29 : decode cX6_findWedge 29 = .ok (.if_icmp .ne 9, 3) := by decide +kernel
theorem dX6_findWedge_32 : decode cX6_findWedge 32 = .ok (.sipush 1003, 3) := by decide +kernel
theorem dX6_findWedge_35 : decode cX6_findWedge 35 = .ok (.goto 7, 3) := by decide +kernel
theorem dX6_findWedge_38 : decode cX6_findWedge 38 = .ok (.aload_n 0, 1) := by decide +kernel
theorem dX6_findWedge_39 : decode cX6_findWedge 39 = .ok (.getfield 96, 3) := by decide +kernel
theorem dX6_findWedge_42 : decode cX6_findWedge 42 = .ok (.putfield 96, 3) := by decide +kernel
theorem dX6_findWedge_45 : decode cX6_findWedge 45 = .ok (.aload_n 0, 1) := by decide +kernel
theorem dX6_findWedge_46 : decode cX6_findWedge 46 = .ok (.getfield 12, 3) := by decide +kernel
theorem dX6_findWedge_49 : decode cX6_findWedge 49 = .ok (.aload_n 2, 1) := by decide +kernel
theorem dX6_findWedge_50 : decode cX6_findWedge 50 = .ok (.invokevirtual 21, 3) := by decide +kernel
theorem dX6_findWedge_53 : decode cX6_findWedge 53 = .ok (.iconst 0, 1) := by decide +kernel
theorem dX6_findWedge_54 : decode cX6_findWedge 54 = .ok (.istore 4, 2) := by decide +kernel
